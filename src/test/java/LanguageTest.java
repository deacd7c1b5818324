import java.io.IOException;
import java.lang.reflect.Constructor;
import java.lang.reflect.Field;
import java.lang.reflect.Method;
import java.lang.reflect.Modifier;
import java.nio.file.Files;
import java.nio.file.Path;
import java.util.ArrayList;
import java.util.List;
import java.util.Set;
import java.util.TreeSet;
import java.util.regex.Matcher;
import java.util.regex.Pattern;

/** Looks whether BentTale.java keeps to the rules of LANGUAGE.md, as far as its text and its classes tell. */
public final class LanguageTest {
    private static final Path SOURCE = Path.of("src", "main", "java", "BentTale.java");
    private static final Set<String> FACE = Set.of("public static final int NONE = -1;", "public BentTale();",
        "public boolean door(int a, int b);", "public boolean person(int p, int room);",
        "public int thing(int place, boolean weapon);", "public int hidden(int set, boolean weapon);",
        "public boolean believe(int p, boolean person, int i, int place);", "public boolean price(int kind, int n);",
        "public int feed(int a, int b, int c, int d, int e);", "public int wish(int p, int weight, int n);",
        "public int law(int n);", "public boolean begin();", "public int believes(int p, boolean person, int i);",
        "public int holds(int p, int k);", "public int plan(int p, int k, int what);", "public int wanted(int p);",
        "public int turn(int kind, int x, int y);", "public int settle(int x, int room);",
        "public int shift(int p, int room);", "public int keeps(int i);", "public int broken(int i);",
        "public int kept(int turns);", "public int loses();", "public int answer(int turns, int what);",
        "public int otherwise(int t);", "public int needless(int p);",
        "public int made(int sort, int seed, int turns, int what);", "public int surprise(int t);",
        "public int did(int t, int p, int what);", "public int check(int t, int n);", "public int where(int p);",
        "public int lies(int x);", "public int count(int what);");
    private static int wrong;

    public static void main(String[] args) throws IOException {
        String text = Files.readString(SOURCE);
        String code = withoutComments(text);
        signs(text);
        face(code);
        words(code);
        library(code);
        lengths(code);
        members();
        System.out.println(wrong == 0 ? "the language is kept to" : wrong + " rules are not kept to");
        if (wrong != 0) {
            System.exit(1);
        }
    }

    private static void rule(boolean kept, String what) {
        if (!kept) {
            wrong++;
            System.out.println("not kept to: " + what);
        }
    }

    private static String withoutComments(String text) {
        return text.replaceAll("(?s)/\\*.*?\\*/", "").replaceAll("//[^\n]*", "");
    }

    private static void signs(String text) {
        rule(text.chars().allMatch(c -> c == '\n' || c >= 32 && c < 127), "signs are plain ones");
        rule(text.lines().allMatch(line -> line.length() <= 120), "lines are short");
    }

    private static void face(String code) {
        Set<String> found = new TreeSet<>();
        Matcher m = Pattern.compile("(?m)^ *(public (?!final class)[^{;]*?) ?[{;]").matcher(code);
        while (m.find()) {
            found.add(m.group(1) + ";");
        }
        rule(found.equals(FACE), "rule 1: the face is the document's");
    }

    private static void words(String code) {
        String[] banned = {"throw", "throws", "try", "catch", "finally", "synchronized", "assert", "import", "package",
            "volatile", "transient", "native", "yield", "var", "protected", "Object", "Random", "Thread", "Exception",
            "float", "double", "goto"};
        for (String word : banned) {
            rule(!Pattern.compile("\\b" + word + "\\b").matcher(code).find(), "a word that can't stand: " + word);
        }
        rule(!code.contains("->") && !code.contains("::"), "rules 2, 6: no lambda, no arrow, no method reference");
        rule(!code.contains("\""), "no texts are joined by +: there are none");
        rule(!Pattern.compile("\\bstatic (?!final\\b)[\\w\\[\\]]+ \\w+ ?(=|;)").matcher(code).find(), "rule 5");
        rule(!Pattern.compile("\\bstatic \\{").matcher(code).find(), "rule 5: no initialiser block");
    }

    private static void library(String code) {
        Set<String> allowed = Set.of("System.arraycopy", "Math.max", "Math.min", "Integer.bitCount");
        Matcher m = Pattern.compile("\\b(System|Math|Integer|Long|Arrays|String|Character)\\.(\\w+)").matcher(code);
        while (m.find()) {
            rule(allowed.contains(m.group()), "rule 4: " + m.group());
        }
    }

    private static void lengths(String code) {
        String[] lines = code.split("\n");
        String name = null;
        int from = 0;
        for (int i = 0; i < lines.length; i++) {
            boolean opens = lines[i].matches(" {4}( {4})?(public|private)[^=;]*\\) \\{");
            if (opens) {
                name = lines[i];
                from = i;
            } else if (name != null && lines[i].matches(" {4}( {4})?\\}")) {
                rule(i - from < 60, "rule 11: long is " + name);
                name = null;
            }
        }
    }

    private static void members() {
        List<Class<?>> classes = new ArrayList<>(List.of(BentTale.class.getDeclaredClasses()));
        Set<String> faces = new TreeSet<>();
        for (Method m : BentTale.class.getDeclaredMethods()) {
            if (Modifier.isPublic(m.getModifiers())) {
                faces.add(m.getName());
            }
        }
        for (Class<?> c : classes) {
            rule(Modifier.isStatic(c.getModifiers()) && Modifier.isPrivate(c.getModifiers()), "rule 2: " + c);
        }
        classes.add(BentTale.class);
        rule(classes.size() <= 12, "rule 11: classes");
        for (Class<?> c : classes) {
            int fields = 0;
            for (Field f : c.getDeclaredFields()) {
                boolean constant = Modifier.isStatic(f.getModifiers());
                fields += constant ? 0 : 1;
                rule(!constant || Modifier.isFinal(f.getModifiers()), "rule 5: " + f);
                rule(Modifier.isPrivate(f.getModifiers()) || f.getName().equals("NONE"), "rule 1: " + f);
            }
            rule(fields <= 20, "rule 11: fields of " + c);
            for (Method m : c.getDeclaredMethods()) {
                boolean shown = c == BentTale.class && Modifier.isPublic(m.getModifiers());
                rule(shown || Modifier.isPrivate(m.getModifiers()), "rule 1: " + m);
                rule(shown || !faces.contains(m.getName()), "rule 1, names: " + m);
                rule(m.getParameterCount() <= 7, "rule 11: " + m);
            }
            for (Constructor<?> k : c.getDeclaredConstructors()) {
                rule(k.getParameterCount() <= 7, "rule 11: " + k);
            }
        }
    }
}
