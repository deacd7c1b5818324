/** What tests by hand have in common: telling texts to a tale, and comparing what it answers with what is due. */
abstract class ByHand {
    static final int NONE = BentTale.NONE;
    private static int wrong;

    static void is(String what, int got, int due) {
        if (got != due) {
            wrong++;
            System.out.println(what + " answered " + got + ", due is " + due);
        }
    }

    static void yes(String what, boolean got) {
        is(what, got ? 1 : 0, 1);
    }

    static void no(String what, boolean got) {
        is(what, got ? 1 : 0, 0);
    }

    static void end(String right) {
        System.out.println(wrong == 0 ? right : wrong + " answers are wrong");
        if (wrong != 0) {
            System.exit(1);
        }
    }

    static void feed(BentTale tale, String text) {
        int[] words = new int[(text.length() + 19) / 20 * 5];
        for (int i = 0; i < text.length(); i++) {
            words[i / 4] |= text.charAt(i) << 24 - i % 4 * 8;
        }
        feed(tale, words);
    }

    /** Feeds numbers, with zeroes behind them up to a full feed. */
    static void feed(BentTale tale, int... numbers) {
        int[] fed = java.util.Arrays.copyOf(numbers, (numbers.length + 4) / 5 * 5);
        for (int i = 0; i < fed.length; i += 5) {
            tale.feed(fed[i], fed[i + 1], fed[i + 2], fed[i + 3], fed[i + 4]);
        }
    }

    static int wish(BentTale tale, int p, int weight, String text) {
        feed(tale, text);
        return tale.wish(p, weight, text.length());
    }

    static int law(BentTale tale, String text) {
        feed(tale, text);
        return tale.law(text.length());
    }

    /** Rooms in a row, 0 to 6, the stranger in room 0 and folk out of its way in 4, 5 and 6. */
    static BentTale row() {
        BentTale tale = new BentTale();
        for (int r = 0; r < 6; r++) {
            tale.door(r, r + 1);
        }
        for (int p = 1; p < 4; p++) {
            tale.person(p, 3 + p);
        }
        return tale;
    }

    static int pause(BentTale tale) {
        return tale.turn(0, NONE, NONE);
    }
}
