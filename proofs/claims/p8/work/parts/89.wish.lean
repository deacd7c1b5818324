section
/-! by hand: the reference takes a wish -/
section
set_option maxRecDepth 100000
variable {ro : Nat → Nat × (Nat → Int32)} {L : aLa} {Kp : pmS → Prop} {σ0 σ σ' σs σ4 : pmS} {ρ ρ' : Nat → Int} {cl : pmL} {cs vs : List Value} {Q : Option Value → pmS → Prop} {n n2 W p k : Nat}
def kW153 : Nat := 769969366670449833589646636354247840420054063595222508801488797046307370998084217188693983782354120296972766559913066079826553271816898162308267985389054145590098343839181654485272288788720536304689041490022572976582150353818272764246198960129288860583516439801557878004175110380297667400176956809446857298489229877436151764223160052536943878605157310945237687065562294510881463006389409512950245391914840965077101369464424491448192991232701759494077657661885464981078752903683383748856486297600
def kW0 : Nat := 111931117813787124203367434084558218253810550296949445072125910326753274245221974016
def kWt : Nat := 948568795032094272909893509191171341133987714380927500611236528192824358010355712
def kWt97 : Nat := 97773887831168232836780525251333059100959246170821905879554132958261253460074186309675426512044967656758446547290548073628768669437066433308986410843054494678107726201800845014002830322377210959325592570161596568454876235405494954189993518746576363248700500292261317841800014016545735542879613563104362831554187920944273239901353657465008746489543785516855579309912672318842090540493893271485745446592360757469107008969881063737683143179825433089713707177041432242229992344546894781763513483264
def kW96 : Nat := 48886943915584116418390262625666529550479623085410952939777066479130626730037093154837713256022483828379223273645274036814384334718533216654493205421527247339053863100900422507001415161188605479662796285080798284227438117702747477094996759373288181624350250146130658920900007008272867771439806781552181415777093960472136619950676828732504373244771892758427789654956336159421045270246946635742872723296180378734553030200543015821705116643158120959186286594663525657364690554009350978702751563776
def kW99 : Nat := 391095551324672931347122101005332236403836984683287623518216531833045013840296745238701706048179870627033786189162192294515074677748265733235945643372217978712430904807203380056011321289508843837302370280646386273819504941621979816759974074986305452994802001169045271367200056066182942171518454252417451326216751683777092959605414629860034985958175142067422317239650689275368362161975573085942981786369443029876424241604344126573640933145264967673490292757308205258917524432074807829622012510208
def kW98 : Nat := 195547775662336465673561050502666118201918492341643811759108265916522506920148372619350853024089935313516893094581096147257537338874132866617972821686108989356215452403601690028005660644754421918651185140323193136909752470810989908379987037493152726497401000584522635683600028033091471085759227126208725663108375841888546479802707314930017492979087571033711158619825344637684181080987786542971490893184721514938212120802172063286820466572632483836745146378654102629458762216037403914811006255104
def kP53 : bL := [some (.inr [87]), some (.inl (false, 2, .ofNat 0)), some (.inl (false, 3, .ofNat 0)), some (.inl (false, 4, .ofNat 0)), none, none, none]
def kL153 (row : Nat) (x : Option bV) : bL := [some (.inr [87]), some (.inl (false, 2, .ofNat 0)), some (.inl (false, 3, .ofNat 0)), some (.inl (false, 4, .ofNat 0)), none, some (.inl (false, 0, .ofNat row)), x]
def kEa (i : aI) : aE := kBe [i, kT32, kT32]
def kEc : aE := kBe [(.ofNat 1, .ofNat 3), kT32, kT32, (.ofNat 0, .ofNat 3)]
def kF1 : aE := kBe [(.ofNat 1, .ofNat 3), (.ofNat 1, .ofNat 9), (.ofNat 1, .ofNat 40), (.ofNat 0, .ofNat 2)]
def kF1r : aE := kBe [(.ofNat 1, .ofNat 3), (.ofNat 1, .ofNat 9), (.ofNat 1, .ofNat 40), (.ofNat 0, .ofNat 2), kT32]
def kGw (p k : Nat) : aE := kBe [(.ofNat p, .ofNat p), (.ofNat 1, .ofNat 9), (.ofNat 1, .ofNat 40), (.ofNat k, .ofNat k), (.ofNat 0, .ofNat 40)]
def kGx (p k : Nat) (i : aI) : aE := kBe [(.ofNat p, .ofNat p), (.ofNat 1, .ofNat 9), (.ofNat 1, .ofNat 40), (.ofNat k, .ofNat k), (.ofNat 0, .ofNat 40), i]
def kGt (p k : Nat) : aE := kBe [(.ofNat p, .ofNat p), (.ofNat 1, .ofNat 9), (.ofNat 1, .ofNat 40), (.ofNat k, .ofNat k), (.ofNat 1, .ofNat 40), (.ofNat 0, .ofNat 39), (.ofNat 0, .ofNat 2047)]
def kW (pc : Nat) (pl : bL) (st : List bV) (E : aE) (C : aC) (H : bH) (W : Nat) : bNq := bPc 7 153 pc pl st E C H W
def kB60w : bNq := kW 60 kP53 [.inr [87]] kF1 [] (kHv [(10, (0, .ofNat 0)), (11, (4, .ofNat 0)), (14, (0, .ofNat 0)), (15, (0, .ofNat 0))]) kW0
def kI7 : Option bV := some (.inl (false, 7, .ofNat 0))
def kB110 (p k : Nat) : bNq := kW 110 (kL153 (3 * p + k) none) [.inl (false, 6, .ofNat 0), .inl (false, 0, .ofNat (3 * p + k)), .inr [98]] (kGw p k) [] [] kWt97
def kB114 (p k : Nat) : bNq := kW 114 (kL153 (3 * p + k) (some (.inl (false, 0, .ofNat 0)))) [] (kGw p k) [] [] 0
def kB149 (p k : Nat) : bNq := kW 149 (kL153 (3 * p + k) none) [] (kGx p k (.ofNat 0, .ofNat 40)) [] [] 0
def kB142 (p k : Nat) : bNq := kW 142 (kL153 (3 * p + k) kI7) [.inl (false, 8, .ofNat 0), .inl (false, 7, .ofNat (60 * (3 * p + k))), .inr [99]] (kGt p k) [] [] 0
def kB114n (p k : Nat) : bNq := kW 114 (kL153 (3 * p + k) (some (.inl (false, 7, .ofNat 1)))) [] (kGx p k (.ofNat 0, .ofNat 39)) [] [] 0
theorem kS153a : bSeg (bCc []) (bFi 5 [(some (.inl (false, 0, .negSucc 0)), kEa (.negSucc 2147483647, .ofNat 0), [])] 0) [] (kW 0 kP53 [] (kEa (.negSucc 2147483647, .ofNat 0)) [] [] 0) [] = true ∧ bSeg (bCc []) (bFi 5 [(some (.inl (false, 0, .negSucc 0)), kEa (.ofNat 4, .ofNat 2147483647), [])] 0) [] (kW 0 kP53 [] (kEa (.ofNat 4, .ofNat 2147483647)) [] [] 0) [] = true ∧ bSeg (bCc []) (bFi 6 [(some (.inl (false, 0, .negSucc 0)), kEc, [])] 0) [kB60w] (kW 0 kP53 [] kEc [] [] 0) [(96, (2, .ofNat 0), (5, .ofNat 0))] = true ∧ bSeg (bCc []) (bFi 6 [(some (.inl (false, 6, .ofNat 0)), kF1r, [])] kWt) [] (kW 63 kP53 [.inl (false, 0, .ofNat 0)] kF1 [] [] 0) [] = true := by decide +kernel
theorem kS153b : (kC46.all fun q => kSg [kB110 q.1 q.2] (kW 63 kP53 [.inl (false, 0, .ofNat 1)] (kGw q.1 q.2) [] ((96, [(q.1, .inl (5, .ofNat 0))]) :: kHv [(15, (6, .ofNat 0))]) 0) && (kSg [kB114 q.1 q.2] (kW 111 (kL153 (3 * q.1 + q.2) none) [] (kGw q.1 q.2) [] [] 0) && (kSg [kB149 q.1 q.2] (kW 114 (kL153 (3 * q.1 + q.2) kI7) [] (kGx q.1 q.2 (.ofNat 0, .ofNat 40)) [(6, 7, .ofNat 0)] (kHv [(15, (6, .ofNat 0))]) 0) && (bSeg (bCc []) bNo [kB142 q.1 q.2] (kW 114 (kL153 (3 * q.1 + q.2) kI7) [] (kGt q.1 q.2) [(7, 6, .negSucc 0)] (kHv [(15, (6, .ofNat 0))]) 0) [(95, (7, .ofNat 0), (8, .ofNat 0))] && (kSg [kB114n q.1 q.2] (kW 143 (kL153 (3 * q.1 + q.2) kI7) [] (kGx q.1 q.2 (.ofNat 0, .ofNat 39)) [] [] 0) && bSeg (bCc []) (bFi 7 [(some (.inl (false, 5, .ofNat 0)), kGw q.1 q.2, [])] kW96) [] (kW 149 (kL153 (3 * q.1 + q.2) none) [] (kGw q.1 q.2) [] [(96, [(q.1, .inl (5, .ofNat 0))])] 0) []))))) = true := by decide +kernel
theorem kM153 : (bMk bSp 153).1 = 12 ∧ (bMk bSp 153).2.2.1 = 1 := by decide +kernel
def kQw (σs : pmS) : Option Value → pmS → Prop := fun v σ' => ∃ x : Int32, v = some (.int x) ∧ kOk σ' ∧ kP σ' ∧ kSm kW153 σ' σs
theorem kL153_ok {row : Nat} {a b : Option bV} (h : bLok n ρ (kL153 row a) cl) (hn : 4 < n2) (h0 : ρ 0 = ρ' 0) (h2 : ρ 2 = ρ' 2) (h3 : ρ 3 = ρ' 3) (h4 : ρ 4 = ρ' 4) (hb : kRe n ρ n2 ρ' a b) : bLok n2 ρ' (kL153 row b) cl := by
  refine bLok_re h rfl fun j y hy => ?_
  match j, hy with
  | 0, hy => cases hy; exact ⟨_, rfl, fun v hv => by rw [bVok_one hv]; exact List.mem_singleton.mpr rfl⟩
  | 1, hy => cases hy; exact ⟨_, rfl, bVok_re (by show 2 < n2; omega) (by show ρ 2 + 0 = ρ' 2 + 0; rw [h2])⟩
  | 2, hy => cases hy; exact ⟨_, rfl, bVok_re (by show 3 < n2; omega) (by show ρ 3 + 0 = ρ' 3 + 0; rw [h3])⟩
  | 3, hy => cases hy; exact ⟨_, rfl, bVok_re (by show 4 < n2; omega) (by show ρ 4 + 0 = ρ' 4 + 0; rw [h4])⟩
  | 4, hy => cases hy
  | 5, hy => cases hy; exact ⟨_, rfl, bVok_re (by show 0 < n2; omega) (by show ρ 0 + (row : Int) = ρ' 0 + (row : Int); rw [h0])⟩
  | 6, hy =>
    obtain ⟨x, h1, h2⟩ := hb y (Option.some.inj hy)
    exact ⟨x, by rw [h1]; rfl, h2⟩
  | j + 7, hy => cases hy
theorem kP53_ok (h : bLok n ρ kP53 cl) (hn : 4 < n2) (h2 : ρ 2 = ρ' 2) (h3 : ρ 3 = ρ' 3) (h4 : ρ 4 = ρ' 4) : bLok n2 ρ' kP53 cl := by
  refine bLok_re h rfl fun j y hy => ?_
  match j, hy with
  | 0, hy => cases hy; exact ⟨_, rfl, fun v hv => by rw [bVok_one hv]; exact List.mem_singleton.mpr rfl⟩
  | 1, hy => cases hy; exact ⟨_, rfl, bVok_re (by show 2 < n2; omega) (by show ρ 2 + 0 = ρ' 2 + 0; rw [h2])⟩
  | 2, hy => cases hy; exact ⟨_, rfl, bVok_re (by show 3 < n2; omega) (by show ρ 3 + 0 = ρ' 3 + 0; rw [h3])⟩
  | 3, hy => cases hy; exact ⟨_, rfl, bVok_re (by show 4 < n2; omega) (by show ρ 4 + 0 = ρ' 4 + 0; rw [h4])⟩
  | 4, hy => cases hy
  | 5, hy => cases hy
  | 6, hy => cases hy
  | j + 7, hy => cases hy
theorem kS153_at {p k : Nat} (hpk : (p, k) ∈ kC46) : kSg [kB110 p k] (kW 63 kP53 [.inl (false, 0, .ofNat 1)] (kGw p k) [] ((96, [(p, .inl (5, .ofNat 0))]) :: kHv [(15, (6, .ofNat 0))]) 0) = true ∧ kSg [kB114 p k] (kW 111 (kL153 (3 * p + k) none) [] (kGw p k) [] [] 0) = true ∧ kSg [kB149 p k] (kW 114 (kL153 (3 * p + k) kI7) [] (kGx p k (.ofNat 0, .ofNat 40)) [(6, 7, .ofNat 0)] (kHv [(15, (6, .ofNat 0))]) 0) = true ∧ bSeg (bCc []) bNo [kB142 p k] (kW 114 (kL153 (3 * p + k) kI7) [] (kGt p k) [(7, 6, .negSucc 0)] (kHv [(15, (6, .ofNat 0))]) 0) [(95, (7, .ofNat 0), (8, .ofNat 0))] = true ∧ kSg [kB114n p k] (kW 143 (kL153 (3 * p + k) kI7) [] (kGx p k (.ofNat 0, .ofNat 39)) [] [] 0) = true ∧ bSeg (bCc []) (bFi 7 [(some (.inl (false, 5, .ofNat 0)), kGw p k, [])] kW96) [] (kW 149 (kL153 (3 * p + k) none) [] (kGw p k) [] [(96, [(p, .inl (5, .ofNat 0))])] 0) [] = true := by
  have hk := List.all_eq_true.mp kS153b _ hpk
  simp only [Bool.and_eq_true] at hk
  exact hk
theorem kOneB {B : bNq} (hB : B.2.2.2.2.2.1 = []) : ∀ B' ∈ [B], B'.2.2.2.2.2.1 = [] := fun B' hB' => by rw [List.mem_singleton.mp hB']; exact hB
/-- the codes are put down -/
theorem kCopy (h : bHyp ro L kP) (hL : 0 ≤ L.1 ∧ L.1 ≤ 3072) {p k c : Nat} {wt nn : Int} (hpk : (p, k) ∈ kC46) (hrow : 3 * p + k < 12) (hc : c ≤ 40) (hwt : 1 ≤ wt ∧ wt ≤ 9) (hnn : 1 ≤ nn ∧ nn ≤ 40) (h15 : kI σ4 87 15 = c) (hQ : ∀ (σ' : pmS) (cl' : pmL), kOk σ' → kSm kW99 σ' σ4 → (∀ j : Nat, kI σ' 99 j = if 60 * (3 * p + k) ≤ j ∧ j < 60 * (3 * p + k) + c then kI σ4 95 (j - 60 * (3 * p + k)) else kI σ4 99 j) → bLok 7 (kRv L [(p : Int), wt, nn, k, c]) (kL153 (3 * p + k) none) cl' → pmWp ro 7 12 153 1 149 cl' [] σ' Q) : ∀ (t i : Nat) (σ : pmS) (cl : pmL), i + t = c → kOk σ → kSm kW99 σ σ4 → (∀ j : Nat, kI σ 99 j = if 60 * (3 * p + k) ≤ j ∧ j < 60 * (3 * p + k) + i then kI σ4 95 (j - 60 * (3 * p + k)) else kI σ4 99 j) → bLok 8 (kRv L [(p : Int), wt, nn, k, c, i]) (kL153 (3 * p + k) kI7) cl → pmWp ro 7 12 153 1 114 cl [] σ Q := by
  obtain ⟨_, _, k3, k4, k5, _⟩ := kS153_at hpk
  have hmt : ∀ {n : Nat} {ρ : Nat → Int} {σ : pmS} {l : List (Nat × aF)} {R : bS}, kOk σ → (l.all fun q => !(bLo 87 q.1)) = true → kHs n ρ σ l → bSk n ρ R (bZ σ) → bMok n ρ (fun _ => True) σ (kHv l, R, 0) σ := fun hok hb hs hR => ⟨hok.1, kHv_ok hok hb hs, hR, fun p k _ => ⟨rfl, rfl⟩, fun _ => trivial⟩
  intro t
  induction t with
  | zero =>
    intro i σ cl hit hok hsm hrowc hl
    have hic : i = c := by omega
    subst hic
    have c15 : kI σ 87 15 = i := (hsm.i (by decide +kernel)).trans h15
    have hE : aEok L (kRv L [(p : Int), wt, nn, k, i, i]) (kGx p k (.ofNat 0, .ofNat 40)) := kEnv hL ⟨⟨Int.le_refl _, Int.le_refl _⟩, hwt, hnn, ⟨Int.le_refl _, Int.le_refl _⟩, ⟨by show (0 : Int) ≤ (i : Int); omega, by show (i : Int) ≤ 40; omega⟩, ⟨by show (0 : Int) ≤ (i : Int); omega, by show (i : Int) ≤ 40; omega⟩, trivial⟩
    have hgo := bSeg_ok (Kp := fun _ => True) (σ := σ) (σ0 := σ) (ρ := kRv L [(p : Int), wt, nn, k, i, i]) (E := kGx p k (.ofNat 0, .ofNat 40)) (cl := cl) (cs := []) (Q := Q) (kTrue h) bCn_ok k3 (kOneB rfl) ⟨hE, fun q hq => ?_, fun q hq => absurd hq List.not_mem_nil⟩ (hmt hok (by decide +kernel) ⟨⟨(show 6 < 8 by decide), by show kI σ 87 15 = (i : Int) + 0; omega⟩, trivial⟩ kNoR) hl trivial bNo_ok ?_
    · rw [kM153.1, kM153.2] at hgo
      exact hgo
    · rw [List.mem_singleton] at hq
      subst hq
      refine ⟨(show 6 < 8 by decide), (show 7 < 8 by decide), ?_⟩
      show (i : Int) - (i : Int) ≤ 0
      omega
    intro B hB ρ1 cl1 cs1 σ1 hA
    rw [List.mem_singleton] at hB
    subst hB
    have := bSok_n (show bSok 8 ρ1 [] cs1 from hA.2.2)
    subst this
    have s1 : kSm 0 σ1 σ := hA.sm
    have e : ∀ v, v < 8 → ρ1 v = kRv L [(p : Int), wt, nn, k, i, i] v := fun v hv => hA.ext v hv
    show pmWp ro 7 (bMk bSp 153).1 153 (bMk bSp 153).2.2.1 149 cl1 [] σ1 Q
    rw [kM153.1, kM153.2]
    exact hQ σ1 cl1 (hA.ok rfl) (kSm.tr (kSm.le s1 (by decide +kernel)) hsm) (fun j => by rw [s1.i (Nat.zero_testBit _)]; exact hrowc j) (kL153_ok (show bLok 8 ρ1 (kL153 (3 * p + k) none) cl1 from hA.2.1) (by decide) (e 0 (by decide)) (e 2 (by decide)) (e 3 (by decide)) (e 4 (by decide)) kRe_n)
  | succ t ih =>
    intro i σ cl hit hok hsm hrowc hl
    have c15 : kI σ 87 15 = c := (hsm.i (by decide +kernel)).trans h15
    have hv := hok.2 95 i
    rw [show bGe 95 i = kV99 from bGu_ok kV95_eq i, kI_z rfl] at hv
    have hvb : 0 ≤ kI σ 95 i ∧ kI σ 95 i ≤ 2047 := by
      obtain ⟨iv, hiv, g1, g2⟩ := hv
      have hall : (kV99.all fun i => decide (0 ≤ i.1 ∧ i.2 ≤ 2047)) = true := by decide +kernel
      have := List.all_eq_true.mp hall iv hiv
      simp only [decide_eq_true_eq] at this
      omega
    have hE : aEok L (kRv L [(p : Int), wt, nn, k, c, i, kI σ 95 i]) (kGt p k) := kEnv hL ⟨⟨Int.le_refl _, Int.le_refl _⟩, hwt, hnn, ⟨Int.le_refl _, Int.le_refl _⟩, ⟨by show (1 : Int) ≤ (c : Int); omega, by show (c : Int) ≤ 40; omega⟩, ⟨by show (0 : Int) ≤ (i : Int); omega, by show (i : Int) ≤ 39; omega⟩, hvb, trivial⟩
    have hl9 : bLok 9 (kRv L [(p : Int), wt, nn, k, c, i, kI σ 95 i]) (kL153 (3 * p + k) kI7) cl := kL153_ok hl (by decide) rfl rfl rfl rfl (kRe_i (by decide) rfl)
    have hgo := bSeg_ok (Kp := fun _ => True) (σ := σ) (σ0 := σ) (ρ := kRv L [(p : Int), wt, nn, k, c, i, kI σ 95 i]) (E := kGt p k) (cl := cl) (cs := []) (Q := Q) (kTrue h) bCn_ok k4 (kOneB rfl) ⟨hE, fun q hq => ?_, fun q hq => absurd hq List.not_mem_nil⟩ (hmt hok (by decide +kernel) ⟨⟨(show 6 < 9 by decide), by show kI σ 87 15 = (c : Int) + 0; omega⟩, trivial⟩ (kOneR (c := .ofNat 0) (show 7 < 9 by decide) (show 8 < 9 by decide) rfl (by
      show kI σ 95 ((i : Int) + 0).toNat = kI σ 95 i
      rw [show ((i : Int) + 0).toNat = i by omega]))) hl9 trivial bNo_ok ?_
    · rw [kM153.1, kM153.2] at hgo
      exact hgo
    · rw [List.mem_singleton] at hq
      subst hq
      refine ⟨(show 7 < 9 by decide), (show 6 < 9 by decide), ?_⟩
      show (i : Int) - (c : Int) ≤ -1
      omega
    intro B hB ρ1 cl1 cs1 σ1 hA
    rw [List.mem_singleton] at hB
    subst hB
    obtain ⟨v1, r1, rfl, hv1, hs1⟩ := bSok_c (show bSok 9 ρ1 [.inl (false, 8, .ofNat 0), .inl (false, 7, .ofNat (60 * (3 * p + k))), .inr [99]] cs1 from hA.2.2)
    obtain ⟨v2, r2, rfl, hv2, hs2⟩ := bSok_c hs1
    obtain ⟨v3, r3, rfl, hv3, hs3⟩ := bSok_c hs2
    obtain ⟨x, rfl, hx⟩ := bVok_int hv1
    obtain ⟨ix, rfl, hix⟩ := bVok_int hv2
    have := bVok_one hv3
    subst this
    have := bSok_n hs3
    subst this
    have e : ∀ v, v < 9 → ρ1 v = kRv L [(p : Int), wt, nn, k, c, i, kI σ 95 i] v := fun v hv => hA.ext v hv
    have e7 : ρ1 7 = (i : Int) := e 7 (by decide)
    have e8 : ρ1 8 = kI σ 95 i := e 8 (by decide)
    have hx : x.toInt = ρ1 8 + 0 := hx.2
    have hix : ix.toInt = ρ1 7 + ((60 * (3 * p + k) : Nat) : Int) := hix.2
    have s1 : kSm 0 σ1 σ := hA.sm
    have hok1 := hA.ok rfl
    obtain ⟨hin, hni⟩ := kNat (i := ix) (n := 720) (by omega) (by omega)
    have hnx : ix.toNatClampNeg = 60 * (3 * p + k) + i := by omega
    show pmWp ro 7 (bMk bSp 153).1 153 (bMk bSp 153).2.2.1 142 cl1 _ σ1 Q
    rw [kM153.1, kM153.2]
    refine pmWp_ias (n := 720) (rs := []) rfl (by rw [hok1.1]; rfl) hin ?_
    rw [hnx]
    generalize hσ2 : (σ1.1, pmUp σ1.2.1 99 (60 * (3 * p + k) + i) x, σ1.2.2) = σ2
    have hok2 : kOk σ2 := by
      rw [← hσ2]
      refine kOk_upi hok1 rfl ?_
      rw [show bGe 99 (60 * (3 * p + k) + i) = kV99 from bGu_ok kV99_eq _, show x.toInt = kI σ 95 i by omega]
      exact hv
    have s2 : kSm kW99 σ2 σ1 := by
      rw [← hσ2]
      refine kSm.upi ?_
      rw [bRg_sing (by decide +kernel) _ 0]
      decide +kernel
    have row2 : ∀ j : Nat, kI σ2 99 j = if j = 60 * (3 * p + k) + i then x.toInt else kI σ 99 j := fun j => by
      rw [← hσ2]
      show (if 99 = 99 ∧ j = 60 * (3 * p + k) + i then x else σ1.2.1 99 j).toInt = _
      by_cases cj : j = 60 * (3 * p + k) + i
      · rw [if_pos ⟨rfl, cj⟩, if_pos cj]
      · rw [if_neg (fun e => cj e.2), if_neg cj]
        exact s1.i (Nat.zero_testBit _)
    have hE2 : aEok L (kRv L [(p : Int), wt, nn, k, c, i]) (kGx p k (.ofNat 0, .ofNat 39)) := kEnv hL ⟨⟨Int.le_refl _, Int.le_refl _⟩, hwt, hnn, ⟨Int.le_refl _, Int.le_refl _⟩, ⟨by show (0 : Int) ≤ (c : Int); omega, by show (c : Int) ≤ 40; omega⟩, ⟨by show (0 : Int) ≤ (i : Int); omega, by show (i : Int) ≤ 39; omega⟩, trivial⟩
    have hl2 : bLok 8 (kRv L [(p : Int), wt, nn, k, c, i]) (kL153 (3 * p + k) kI7) cl1 := kL153_ok (show bLok 9 ρ1 (kL153 (3 * p + k) kI7) cl1 from hA.2.1) (by decide) (e 0 (by decide)) (e 2 (by decide)) (e 3 (by decide)) (e 4 (by decide)) (kRe_i (by decide) (by show ρ1 7 + 0 = (i : Int) + 0; omega))
    have hgo := bSeg_ok (Kp := fun _ => True) (σ := σ2) (σ0 := σ2) (ρ := kRv L [(p : Int), wt, nn, k, c, i]) (E := kGx p k (.ofNat 0, .ofNat 39)) (cl := cl1) (cs := []) (Q := Q) (kTrue h) bCn_ok k5 (kOneB rfl) (aXok0 hE2) (kOk_mok hok2 trivial) hl2 trivial bNo_ok ?_
    · rw [kM153.1, kM153.2] at hgo
      exact hgo
    intro B hB ρ3 cl3 cs3 σ3 hA3
    rw [List.mem_singleton] at hB
    subst hB
    have := bSok_n (show bSok 8 ρ3 [] cs3 from hA3.2.2)
    subst this
    have s3 : kSm 0 σ3 σ2 := hA3.sm
    have e3 : ∀ v, v < 8 → ρ3 v = kRv L [(p : Int), wt, nn, k, c, i] v := fun v hv => hA3.ext v hv
    have e37 : ρ3 7 = (i : Int) := e3 7 (by decide)
    show pmWp ro 7 (bMk bSp 153).1 153 (bMk bSp 153).2.2.1 114 cl3 [] σ3 Q
    rw [kM153.1, kM153.2]
    refine ih (i + 1) σ3 cl3 (by omega) (hA3.ok rfl) (kSm.tr (kSm.le s3 (by decide +kernel)) (kSm.tr s2 (kSm.tr (kSm.le s1 (by decide +kernel)) hsm))) (fun j => ?_) ?_
    · rw [s3.i (Nat.zero_testBit _), row2]
      by_cases cj : j = 60 * (3 * p + k) + i
      · rw [if_pos cj, if_pos ⟨by omega, by omega⟩, show j - 60 * (3 * p + k) = i by omega, hx, e8, Int.add_zero]
        exact hsm.r (by decide +kernel) (by decide +kernel) i
      · rw [if_neg cj, hrowc j]
        by_cases cj2 : 60 * (3 * p + k) ≤ j ∧ j < 60 * (3 * p + k) + i
        · rw [if_pos cj2, if_pos ⟨by omega, by omega⟩]
        · rw [if_neg cj2, if_neg (by omega)]
    · exact kL153_ok (show bLok 8 ρ3 (kL153 (3 * p + k) (some (.inl (false, 7, .ofNat 1)))) cl3 from hA3.2.1) (by decide) (e3 0 (by decide)) (e3 2 (by decide)) (e3 3 (by decide)) (e3 4 (by decide)) (kRe_i (by decide) (by show ρ3 7 + 1 = ((i + 1 : Nat) : Int) + 0; omega))
/-- behind the reading -/
theorem kTake (h : bHyp ro L kP) (hL : 0 ≤ L.1 ∧ L.1 ≤ 3072) {p k : Nat} {wt nn : Int} {x : Int32} (hpk : (p, k) ∈ kC46) (hp : 1 ≤ p ∧ p ≤ 3) (hk : k ≤ 2) (hx : x.toInt = 1) (hwt : 1 ≤ wt ∧ wt ≤ 9) (hnn : 1 ≤ nn ∧ nn ≤ 40) (hI : kIv 1 σ) (h96 : kI σ 96 p = k) (hsm : kSm kW153 σ σs) (hl : bLok 7 (kRv L [(p : Int), wt, nn, k, kI σ 87 15]) kP53 cl) : pmWp ro 7 12 153 1 63 cl [.int x] σ (kQw σs) := by
  obtain ⟨k1, k2, _, _, _, k6⟩ := kS153_at hpk
  obtain ⟨hok, hP, b1, b2, b3, b4, b5, b6⟩ := id hI
  obtain ⟨c, hc⟩ : ∃ c : Nat, kI σ 87 15 = c := ⟨(kI σ 87 15).toNat, by omega⟩
  rw [hc] at hl
  have hE : aEok L (kRv L [(p : Int), wt, nn, k, c]) (kGw p k) := kEnv hL ⟨⟨Int.le_refl _, Int.le_refl _⟩, hwt, hnn, ⟨Int.le_refl _, Int.le_refl _⟩, ⟨by show (0 : Int) ≤ (c : Int); omega, by show (c : Int) ≤ 40; omega⟩, trivial⟩
  have hM : bMok 7 (kRv L [(p : Int), wt, nn, k, c]) kP σ ((96, [(p, .inl (5, .ofNat 0))]) :: kHv [(15, (6, .ofNat 0))], [], 0) σ := ⟨hok.1, bHok_c (kHv_ok hok (by decide +kernel) ⟨⟨(show 6 < 7 by decide), by show kI σ 87 15 = (c : Int) + 0; omega⟩, trivial⟩) rfl (show 5 < 7 by decide) (by
    rw [kI_z rfl, h96]
    exact (Int.add_zero _).symm), fun q hq => absurd hq List.not_mem_nil, fun p k _ => ⟨rfl, rfl⟩, fun _ => hP⟩
  have hgo := bSeg_ok (Kp := kP) (σ := σ) (σ0 := σ) (ρ := kRv L [(p : Int), wt, nn, k, c]) (E := kGw p k) (cl := cl) (cs := [.int x]) (Q := kQw σs) h bCn_ok k1 (kOneB rfl) (aXok0 hE) hM hl ⟨⟨(show 0 < 7 by decide), by show x.toInt = 0 + 1; omega⟩, trivial⟩ bNo_ok ?_
  · rw [kM153.1, kM153.2] at hgo
    exact hgo
  intro B hB ρ1 cl1 cs1 σ1 hA
  rw [List.mem_singleton] at hB
  subst hB
  obtain ⟨v1, r1, rfl, hv1, hs1⟩ := bSok_c (show bSok 7 ρ1 [.inl (false, 6, .ofNat 0), .inl (false, 0, .ofNat (3 * p + k)), .inr [98]] cs1 from hA.2.2)
  obtain ⟨v2, r2, rfl, hv2, hs2⟩ := bSok_c hs1
  obtain ⟨v3, r3, rfl, hv3, hs3⟩ := bSok_c hs2
  obtain ⟨y, rfl, hy⟩ := bVok_int hv1
  obtain ⟨ix, rfl, hix⟩ := bVok_int hv2
  have := bVok_one hv3
  subst this
  have := bSok_n hs3
  subst this
  have e : ∀ v, v < 7 → ρ1 v = kRv L [(p : Int), wt, nn, k, c] v := fun v hv => hA.ext v hv
  have e0 : ρ1 0 = 0 := e 0 (by decide)
  have e6 : ρ1 6 = (c : Int) := e 6 (by decide)
  have hy : y.toInt = ρ1 6 + 0 := hy.2
  have hix : ix.toInt = ρ1 0 + ((3 * p + k : Nat) : Int) := hix.2
  have s1 : kSm kWt97 σ1 σ := hA.sm
  have hok1 := hA.ok rfl
  have hP1 := hA.kp (show bFg kWt97 = true by decide +kernel)
  obtain ⟨hin, hni⟩ := kNat (i := ix) (n := 12) (by omega) (by omega)
  have hnx : ix.toNatClampNeg = 3 * p + k := by omega
  show pmWp ro 7 (bMk bSp 153).1 153 (bMk bSp 153).2.2.1 110 cl1 _ σ1 (kQw σs)
  rw [kM153.1, kM153.2]
  refine pmWp_ias (n := 12) (rs := []) rfl (by rw [hok1.1]; rfl) hin ?_
  rw [hnx]
  generalize hσ2 : (σ1.1, pmUp σ1.2.1 98 (3 * p + k) y, σ1.2.2) = σ2
  have hg98 : ∀ j, bGe 98 j = [(0, 60)] := fun j => bGu_ok (by decide +kernel) j
  have hok2 : kOk σ2 := by
    rw [← hσ2]
    refine kOk_upi hok1 rfl ?_
    rw [hg98]
    exact ⟨_, List.mem_singleton.mpr rfl, by show (0 : Int) ≤ y.toInt; omega, by show y.toInt ≤ (60 : Int); omega⟩
  have s2 : kSm kW98 σ2 σ1 := by
    rw [← hσ2]
    refine kSm.upi ?_
    rw [bRg_sing (by decide +kernel) _ 0]
    decide +kernel
  have row98 : ∀ j : Nat, kI σ2 98 j = if j = 3 * p + k then (c : Int) else kI σ1 98 j := fun j => by
    rw [← hσ2]
    show (if 98 = 98 ∧ j = 3 * p + k then y else σ1.2.1 98 j).toInt = _
    by_cases cj : j = 3 * p + k
    · rw [if_pos ⟨rfl, cj⟩, if_pos cj]
      omega
    · rw [if_neg (fun e => cj e.2), if_neg cj]
      rfl
  have hl2 : bLok 7 (kRv L [(p : Int), wt, nn, k, c]) (kL153 (3 * p + k) none) cl1 := kL153_ok (show bLok 7 ρ1 (kL153 (3 * p + k) none) cl1 from hA.2.1) (by decide) (e 0 (by decide)) (e 2 (by decide)) (e 3 (by decide)) (e 4 (by decide)) kRe_n
  have hgo := bSeg_ok (Kp := fun _ => True) (σ := σ2) (σ0 := σ2) (ρ := kRv L [(p : Int), wt, nn, k, c]) (E := kGw p k) (cl := cl1) (cs := []) (Q := kQw σs) (kTrue h) bCn_ok k2 (kOneB rfl) (aXok0 hE) (kOk_mok hok2 trivial) hl2 trivial bNo_ok ?_
  · rw [kM153.1, kM153.2] at hgo
    exact hgo
  intro B hB ρ3 cl3 cs3 σ3 hA3
  rw [List.mem_singleton] at hB
  subst hB
  have := bSok_n (show bSok 7 ρ3 [] cs3 from hA3.2.2)
  subst this
  have s3 : kSm 0 σ3 σ2 := hA3.sm
  have e3 : ∀ v, v < 7 → ρ3 v = kRv L [(p : Int), wt, nn, k, c] v := fun v hv => hA3.ext v hv
  have e30 : ρ3 0 = 0 := e3 0 (by decide)
  have d15 : kI σ3 87 15 = c := (s3.i (Nat.zero_testBit _)).trans ((s2.i (by decide +kernel)).trans ((s1.i (by decide +kernel)).trans hc))
  show pmWp ro 7 (bMk bSp 153).1 153 (bMk bSp 153).2.2.1 114 cl3 [] σ3 (kQw σs)
  rw [kM153.1, kM153.2]
  refine kCopy h hL hpk (by omega) (by omega) hwt hnn d15 ?_ c 0 σ3 cl3 (by omega) (hA3.ok rfl) kSm.rf (fun j => by rw [if_neg (by omega)]) (kL153_ok (show bLok 7 ρ3 (kL153 (3 * p + k) (some (.inl (false, 0, .ofNat 0)))) cl3 from hA3.2.1) (by decide) (e3 0 (by decide)) (e3 2 (by decide)) (e3 3 (by decide)) (e3 4 (by decide)) (kRe_i (by decide) (by show ρ3 0 + 0 = ((0 : Nat) : Int) + 0; rw [e30]; rfl)))
  intro σ5 cl5 hok5 s5 row5 hl5
  -- all is in order again
  have r95 : ∀ j, kI σ3 95 j = kI σ 95 j := fun j => (s3.i (Nat.zero_testBit _)).trans ((s2.r (by decide +kernel) (by decide +kernel) j).trans (s1.r (by decide +kernel) (by decide +kernel) j))
  have r99 : ∀ j, kI σ3 99 j = kI σ1 99 j := fun j => (s3.i (Nat.zero_testBit _)).trans (s2.r (by decide +kernel) (by decide +kernel) j)
  have t98 : ∀ j, kI σ5 98 j = if j = 3 * p + k then (c : Int) else kI σ1 98 j := fun j => (s5.r (by decide +kernel) (by decide +kernel) j).trans ((s3.i (Nat.zero_testBit _)).trans (row98 j))
  have t96 : kI σ5 96 p = k := (s5.r (by decide +kernel) (by decide +kernel) p).trans ((s3.i (Nat.zero_testBit _)).trans ((s2.r (by decide +kernel) (by decide +kernel) p).trans ((s1.r (by decide +kernel) (by decide +kernel) p).trans h96)))
  have rw1 : ∀ q, bSing q = true → kW99.testBit (bRg q 0) = false → kW98.testBit (bRg q 0) = false → σ5.2.1 q = σ1.2.1 q := fun q hs h1 h2 => by
    funext j
    rw [(s5 q j (by rw [bRg_sing hs j 0]; exact h1)).1, (s3 q j (Nat.zero_testBit _)).1, (s2 q j (by rw [bRg_sing hs j 0]; exact h2)).1]
  have hP5 : kP σ5 := by
    obtain ⟨g1, g2, g3⟩ := hP1
    refine ⟨?_, fun w hw => ?_, ?_⟩
    · have e1 : kI σ5 87 41 = kI σ1 87 41 := (s5.i (by decide +kernel)).trans ((s3.i (Nat.zero_testBit _)).trans (s2.i (by decide +kernel)))
      have e2 : σ5.2.2 114 = σ1.2.2 114 := by
        funext j
        rw [(s5 114 j (by rw [bRg_sing (by decide +kernel) j 0]; decide +kernel)).2, (s3 114 j (Nat.zero_testBit _)).2, (s2 114 j (by rw [bRg_sing (by decide +kernel) j 0]; decide +kernel)).2]
      unfold kMemo at g1 ⊢
      rw [e1, e2]
      exact g1
    · by_cases cw : w = 3 * p + k
      · rw [t98, if_pos cw]
        have hD : kD (fun i => kI σ5 99 (60 * w + i)) c = kD (kSaid σ) c := kD_cg fun j hj => by
          show kI σ5 99 (60 * w + j) = kI σ 95 j
          rw [row5, cw, if_pos ⟨by omega, by omega⟩, r95, show 60 * (3 * p + k) + j - 60 * (3 * p + k) = j by omega]
        rw [show ((c : Int)).toNat = c from rfl, hD]
        rw [hc, show ((c : Int)).toNat = c from rfl] at b6
        rw [b6]
        exact fun e => by cases e
      · rw [t98, if_neg cw]
        have h60 := kOk_at (k := w) hok1 (by exact rfl) (hg98 w)
        have hD : kD (fun i => kI σ5 99 (60 * w + i)) (kI σ1 98 w).toNat = kD (fun i => kI σ1 99 (60 * w + i)) (kI σ1 98 w).toNat := kD_cg fun j hj => by
          show kI σ5 99 (60 * w + j) = kI σ1 99 (60 * w + j)
          rw [row5, if_neg (by omega), r99]
        rw [hD]
        exact g2 w hw
    · unfold kToks kI at g3 ⊢
      rw [rw1 9 (by decide +kernel) (by decide +kernel) (by decide +kernel), rw1 8 (by decide +kernel) (by decide +kernel) (by decide +kernel)]
      exact g3
  have hend : bFinOk L 7 (kRv L [(p : Int), wt, nn, k, c]) kP σ5 (bFi 7 [(some (.inl (false, 5, .ofNat 0)), kGw p k, [])] kW96) (kQw σs) := bFin_mono (bFi_int (by decide) rfl (show 5 < 7 by decide)) fun v σ' hh => by
    obtain ⟨z, rfl, g1, g2, g3, g4, g5⟩ := hh
    exact ⟨z, rfl, g3, g4 (by decide +kernel), kSm.tr (kSm.le g5 (by decide +kernel)) (kSm.tr (kSm.le s5 (by decide +kernel)) (kSm.tr (kSm.le s3 (by decide +kernel)) (kSm.tr (kSm.le s2 (by decide +kernel)) (kSm.tr (kSm.le s1 (by decide +kernel)) hsm))))⟩
  have hgo := bSeg_ok (Kp := kP) (σ := σ5) (σ0 := σ5) (ρ := kRv L [(p : Int), wt, nn, k, c]) (E := kGw p k) (cl := cl5) (cs := []) (Q := kQw σs) h bCn_ok k6 (fun B hB => absurd hB List.not_mem_nil) (aXok0 hE) ⟨hok5.1, bHok_c (kOk_hok hok5) rfl (show 5 < 7 by decide) (by
    rw [kI_z rfl, t96]
    exact (Int.add_zero _).symm), fun q hq => absurd hq List.not_mem_nil, fun p k _ => ⟨rfl, rfl⟩, fun _ => hP5⟩ hl5 trivial hend (fun B hB => absurd hB List.not_mem_nil)
  rw [kM153.1, kM153.2] at hgo
  exact hgo
theorem kWish2 (h : bHyp ro L kP) : bCok ro L kP bC153 := by
  intro ρ vs σ hE hM hs
  have hE : aEok L ρ (kBe [kT32, kT32, kT32]) := hE
  have hM : bMok 5 ρ kP σ ([], [], 0) σ := hM
  have hs : bSok 5 ρ [.inr [87], .inl (false, 2, .ofNat 0), .inl (false, 3, .ofNat 0), .inl (false, 4, .ofNat 0)] vs := hs
  have hok := kOk_of hM
  have hP : kP σ := hM.2.2.2.2 (show bFg 0 = true by decide +kernel)
  have hL : 0 ≤ L.1 ∧ L.1 ≤ 3072 := by
    obtain ⟨_, Ln, xs, _, e2, e3⟩ := h
    rw [e2]
    exact ⟨by show (0 : Int) ≤ (Ln : Int); omega, by show (Ln : Int) ≤ 3072; omega⟩
  obtain ⟨a1, a2, a3, a4⟩ := kS153a
  suffices hg : pmCs ro 8 153 vs σ (kQw σ) by
    refine pmCs_mono hg ?_
    rintro v σ' ⟨x, rfl, x3, x4, x5⟩
    have y1 := Int32.le_toInt x
    have y2 := Int32.toInt_lt x
    refine ⟨_, List.mem_singleton.mpr rfl, fun v => if v = 5 then x.toInt else ρ v, fun v hv => if_neg (by have hv : v < 5 := hv; omega), by decide, ⟨⟨hE.1.1, hE.1.2.1, by decide⟩, fun v j hj => ?_⟩, ⟨(by decide : 5 < 6), (Int.add_zero _).symm⟩, x3.1, fun p k => x3.2 p k, fun q hq => absurd hq List.not_mem_nil, x5, fun _ => x4⟩
    match v, hj with
    | 0, hj => cases hj; exact hE.2 0 _ rfl
    | 1, hj => cases hj; exact hE.2 1 _ rfl
    | 2, hj => cases hj; exact hE.2 2 _ rfl
    | 3, hj => cases hj; exact hE.2 3 _ rfl
    | 4, hj => cases hj; exact hE.2 4 _ rfl
    | 5, hj => cases hj; exact ⟨by show (-2147483648 : Int) ≤ x.toInt; omega, by show x.toInt ≤ (2147483647 : Int); omega⟩
    | v + 6, hj => cases hj
  have c2 : (-2147483648 : Int) ≤ ρ 2 ∧ ρ 2 ≤ (2147483647 : Int) := hE.2 2 _ rfl
  have c3 : (-2147483648 : Int) ≤ ρ 3 ∧ ρ 3 ≤ (2147483647 : Int) := hE.2 3 _ rfl
  have c4 : (-2147483648 : Int) ≤ ρ 4 ∧ ρ 4 ≤ (2147483647 : Int) := hE.2 4 _ rfl
  have hno : ∀ {n : Nat} {E : aE} {ρ : Nat → Int}, 2 ≤ n → E.length = n → bFinOk L n ρ kP σ (bFi n [(some (.inl (false, 0, .negSucc 0)), E, [])] 0) (kQw σ) := fun hn hE => bFin_mono (bFi_int hn hE (by show 0 < _; omega)) fun v σ' hh => by
    obtain ⟨x, rfl, g1, g2, g3, g4, g5⟩ := hh
    exact ⟨x, rfl, g3, g4 (by decide +kernel), kSm.le g5 (by decide +kernel)⟩
  refine bEc_ok (pl := kP53) (by decide +kernel) hs fun cl hl => ?_
  by_cases p0 : ρ 2 ≤ 0
  · exact bSeg_ok (Q := kQw σ) (ρ := ρ) (E := kEa (.negSucc 2147483647, .ofNat 0)) h bCn_ok a1 (fun B hB => absurd hB List.not_mem_nil) (aXok0 ⟨⟨hE.1.1, hE.1.2.1, by decide⟩, fun v j hj => by
      match v, hj with
      | 0, hj => cases hj; exact hE.2 0 _ rfl
      | 1, hj => cases hj; exact hE.2 1 _ rfl
      | 2, hj => cases hj; exact ⟨by show (-2147483648 : Int) ≤ ρ 2; omega, by show ρ 2 ≤ (0 : Int); omega⟩
      | 3, hj => cases hj; exact hE.2 3 _ rfl
      | 4, hj => cases hj; exact hE.2 4 _ rfl
      | v + 5, hj => cases hj⟩) hM hl trivial (hno (by decide) rfl) (fun B hB => absurd hB List.not_mem_nil)
  · by_cases p4 : 4 ≤ ρ 2
    · exact bSeg_ok (Q := kQw σ) (ρ := ρ) (E := kEa (.ofNat 4, .ofNat 2147483647)) h bCn_ok a2 (fun B hB => absurd hB List.not_mem_nil) (aXok0 ⟨⟨hE.1.1, hE.1.2.1, by decide⟩, fun v j hj => by
        match v, hj with
        | 0, hj => cases hj; exact hE.2 0 _ rfl
        | 1, hj => cases hj; exact hE.2 1 _ rfl
        | 2, hj => cases hj; exact ⟨by show (4 : Int) ≤ ρ 2; omega, by show ρ 2 ≤ (2147483647 : Int); omega⟩
        | 3, hj => cases hj; exact hE.2 3 _ rfl
        | 4, hj => cases hj; exact hE.2 4 _ rfl
        | v + 5, hj => cases hj⟩) hM hl trivial (hno (by decide) rfl) (fun B hB => absurd hB List.not_mem_nil)
    · obtain ⟨p, hp⟩ : ∃ p : Nat, ρ 2 = p := ⟨(ρ 2).toNat, by omega⟩
      have hkb := kOk_at (k := p) hok (by exact rfl) (show bGe 96 p = [(0, 3)] from bGu_ok (by decide +kernel) p)
      have hE6 : aEok L (kRv L [ρ 2, ρ 3, ρ 4, kI σ 96 p]) kEc := kEnv hL ⟨⟨by show (1 : Int) ≤ ρ 2; omega, by show ρ 2 ≤ (3 : Int); omega⟩, c3, c4, hkb, trivial⟩
      have hl6 : bLok 6 (kRv L [ρ 2, ρ 3, ρ 4, kI σ 96 p]) kP53 cl := kP53_ok hl (by decide) rfl rfl rfl
      refine bSeg_ok (Q := kQw σ) (ρ := kRv L [ρ 2, ρ 3, ρ 4, kI σ 96 p]) (E := kEc) h bCn_ok a3 (kOneB rfl) (aXok0 hE6) ⟨hok.1, kOk_hok hok, kOneR (c := .ofNat 0) (by decide) (by decide) rfl (by
        show kI σ 96 (ρ 2 + 0).toNat = kI σ 96 p
        rw [show (ρ 2 + 0).toNat = p by omega]), fun p k _ => ⟨rfl, rfl⟩, fun _ => hP⟩ hl6 trivial (hno (by decide) rfl) ?_
      intro B hB ρ1 cl1 cs1 σ1 hA
      rw [List.mem_singleton] at hB
      subst hB
      obtain ⟨v1, r1, rfl, hv1, hs1⟩ := bSok_c (show bSok 6 ρ1 [.inr [87]] cs1 from hA.2.2)
      have := bVok_one hv1
      subst this
      have := bSok_n hs1
      subst this
      have e : ∀ v, v < 6 → ρ1 v = kRv L [ρ 2, ρ 3, ρ 4, kI σ 96 p] v := fun v hv => hA.ext v hv
      have e0 : ρ1 0 = 0 := e 0 (by decide)
      have e2 : ρ1 2 = (p : Int) := (e 2 (by decide)).trans hp
      have e5 : ρ1 5 = kI σ 96 p := e 5 (by decide)
      have hE1 : aEok L ρ1 kF1 := hA.env
      have g3 : (1 : Int) ≤ ρ1 3 ∧ ρ1 3 ≤ (9 : Int) := hE1.2 3 _ rfl
      have g4 : (1 : Int) ≤ ρ1 4 ∧ ρ1 4 ≤ (40 : Int) := hE1.2 4 _ rfl
      have g5 : (0 : Int) ≤ ρ1 5 ∧ ρ1 5 ≤ (2 : Int) := hE1.2 5 _ rfl
      have s1 : kSm kW0 σ1 σ := hA.sm
      have hok1 : kOk σ1 := kOk_m (E := kF1) hE1 (by decide +kernel) hA.1.2.1
      have hP1 := hA.kp (show bFg kW0 = true by decide +kernel)
      have l10 : kI σ1 87 10 = ρ1 0 + 0 := kCell (f := (0, .ofNat 0)) hA (by decide +kernel) rfl
      have l11 : kI σ1 87 11 = ρ1 4 + 0 := kCell (f := (4, .ofNat 0)) hA (by decide +kernel) rfl
      have l14 : kI σ1 87 14 = ρ1 0 + 0 := kCell (f := (0, .ofNat 0)) hA (by decide +kernel) rfl
      have l15 : kI σ1 87 15 = ρ1 0 + 0 := kCell (f := (0, .ofNat 0)) hA (by decide +kernel) rfl
      have hI1 : kIv 0 σ1 := by
        refine ⟨hok1, hP1, by omega, by omega, by omega, by omega, by omega, ?_⟩
        rw [l15, l14, e0]
        rfl
      obtain ⟨k, hk⟩ : ∃ k : Nat, kI σ 96 p = k := ⟨(kI σ 96 p).toNat, by omega⟩
      have hl1 : bLok 6 ρ1 kP53 cl1 := hA.2.1
      show pmWp ro 7 (bMk bSp 153).1 153 (bMk bSp 153).2.2.1 60 cl1 _ σ1 (kQw σ)
      rw [kM153.1, kM153.2]
      refine pmWp_iv (k := 229) (mm := 155) (nn := 0) (oo := 12) (p := 87) (rest := []) (as := []) (u := (0, true)) (a := 0) (b := 0) (c := true) rfl rfl rfl rfl rfl (by rw [hok1.1]; rfl) (by decide) ?_
      refine pmCs_mono (pmCs_deep (kReads h hL hI1) (by decide)) ?_
      rintro v σ2 ⟨x, rfl, hok2, hP2, s2, hx⟩
      have sm2 : kSm kW153 σ2 σ := kSm.tr (kSm.le s2 (by decide +kernel)) (kSm.le s1 (by decide +kernel))
      rcases hx with hx | ⟨hx, hI2⟩
      · have hend : bFinOk L 6 ρ1 kP σ2 (bFi 6 [(some (.inl (false, 6, .ofNat 0)), kF1r, [])] kWt) (kQw σ) := bFin_mono (bFi_ok (E0 := kF1) (by decide) rfl (Nat.le_refl _) aExt.rf) fun v σ' hh => by
          obtain ⟨al, hal, ρ', b1, b2, b3, b4, b5⟩ := hh
          rw [List.mem_singleton] at hal
          subst hal
          cases v with
          | none => exact b4.elim
          | some v =>
            obtain ⟨z, rfl, hz⟩ := bVok_int b4
            exact ⟨z, rfl, ⟨b5.1, fun p k => b5.2.1 p k⟩, b5.2.2.2.2 (show bFg kWt = true by decide +kernel), kSm.tr (kSm.le b5.2.2.2.1 (by decide +kernel)) sm2⟩
        have hgo := bSeg_ok (Kp := kP) (σ := σ2) (σ0 := σ2) (ρ := ρ1) (E := kF1) (cl := cl1) (cs := [.int x]) (Q := kQw σ) h bCn_ok a4 (fun B hB => absurd hB List.not_mem_nil) (aXok0 hE1) (kOk_mok hok2 hP2) hl1 ⟨⟨(show 0 < 6 by decide), by show x.toInt = ρ1 0 + 0; omega⟩, trivial⟩ hend (fun B hB => absurd hB List.not_mem_nil)
        rw [kM153.1, kM153.2] at hgo
        exact hgo
      · have hpk : (p, k) ∈ kC46 := by
          have : (p = 1 ∨ p = 2 ∨ p = 3) ∧ (k = 0 ∨ k = 1 ∨ k = 2) := by omega
          obtain ⟨rfl | rfl | rfl, rfl | rfl | rfl⟩ := this <;> decide
        have t96 : kI σ2 96 p = k := (s2.r (by decide +kernel) (by decide +kernel) p).trans ((s1.r (by decide +kernel) (by decide +kernel) p).trans hk)
        exact kTake (σs := σ) (wt := ρ1 3) (nn := ρ1 4) h hL hpk (by omega) (by omega) hx g3 g4 hI2 t96 sm2 (kP53_ok hl1 (by decide) e2 rfl rfl)
end
end
section
/-! THE THIRD MAKE: exact runs, told in Int, instruction by instruction (printed by mkx.py) -/
section
abbrev xA : Type := Nat → Int → Int
abbrev xB : Type := Nat → Int → Int64
/-- the shapes, once all is made -/
def xZ : List pmZ := [(11, 13, [some 1, some 3, some 7, some 13, some 21, some 26, some 31, some 33, some 34, some 43, some 45, some 79, none]), (6, 5, [some 2, none, none, none, none]), (50, 400, []), (5, 6, [some 4, some 5, some 6, none, none, none]), (50, 62, []), (50, 7, []), (50, 49, []), (9, 5, [some 8, some 9, some 10, some 11, some 12]), (50, 480, []), (50, 12, []), (50, 12, []), (50, 12, []), (50, 4, []), (2, 8, [some 14, some 15, some 16, some 17, some 18, some 19, some 20, none]), (50, 24, []), (50, 24, []), (50, 24, []), (50, 24, []), (50, 24, []), (50, 24, []), (50, 6, []), (10, 13, [some 22, some 23, some 24, some 25, none, none, none, none, none, none, none, none, none]), (51, 4, []), (50, 24, []), (50, 6, []), (50, 3, []), (10, 13, [some 27, some 28, some 29, some 30, none, none, none, none, none, none, none, none, none]), (51, 4, []), (50, 24, []), (50, 6, []), (50, 3, []), (8, 3, [some 1, some 32, none]), (50, 40, []), (1, 5, [some 1, some 13, none, none, none]), (3, 15, [some 3, some 7, some 35, some 36, some 37, some 38, some 39, some 40, some 41, some 42, none, none, none, none, none]), (51, 512, []), (51, 512, []), (50, 40, []), (50, 40, []), (50, 4, []), (50, 4, []), (50, 5, []), (50, 5, []), (4, 4, [some 3, some 13, some 34, some 44]), (50, 4, []), (7, 5, [some 3, some 43, some 46, some 62, some 78]), (54, 3, [some 47, some 52, some 57]), (10, 13, [some 48, some 49, some 50, some 51, none, none, none, none, none, none, none, none, none]), (51, 4, []), (50, 24, []), (50, 6, []), (50, 3, []), (10, 13, [some 53, some 54, some 55, some 56, none, none, none, none, none, none, none, none, none]), (51, 4, []), (50, 24, []), (50, 6, []), (50, 3, []), (10, 13, [some 58, some 59, some 60, some 61, none, none, none, none, none, none, none, none, none]), (51, 4, []), (50, 24, []), (50, 6, []), (50, 3, []), (54, 3, [some 63, some 68, some 73]), (10, 13, [some 64, some 65, some 66, some 67, none, none, none, none, none, none, none, none, none]), (51, 4, []), (50, 24, []), (50, 6, []), (50, 3, []), (10, 13, [some 69, some 70, some 71, some 72, none, none, none, none, none, none, none, none, none]), (51, 4, []), (50, 24, []), (50, 6, []), (50, 3, []), (10, 13, [some 74, some 75, some 76, some 77, none, none, none, none, none, none, none, none, none]), (51, 4, []), (50, 24, []), (50, 6, []), (50, 3, []), (50, 3, []), (0, 7, [some 3, some 43, some 45, some 80, some 85, some 86, none]), (10, 13, [some 81, some 82, some 83, some 84, none, none, none, none, none, none, none, none, none]), (51, 4, []), (50, 24, []), (50, 6, []), (50, 3, []), (50, 244, []), (50, 61, []), (12, 54, [some 88, some 89, none, none, none, some 90, some 91, some 92, some 93, none, none, none, none, none, none, none, some 94, some 95, some 96, some 97, some 98, some 99, none, some 100, some 101, some 102, some 103, some 104, some 105, some 106, some 107, some 108, some 109, none, none, some 110, some 111, some 112, some 113, some 114, some 115, none, none, none, some 116, some 117, some 118, some 119, some 120, some 121, some 122, some 123, some 124, some 125]), (50, 120, []), (50, 1200, []), (52, 49, []), (52, 5, []), (50, 7, []), (53, 400, []), (50, 60, []), (50, 60, []), (50, 4, []), (50, 12, []), (50, 12, []), (50, 720, []), (50, 6, []), (50, 24, []), (50, 48, []), (50, 48, []), (50, 48, []), (50, 48, []), (50, 24, []), (52, 48, []), (50, 50, []), (52, 60, []), (50, 4, []), (50, 4, []), (50, 5, []), (50, 5, []), (51, 4096, []), (50, 4096, []), (50, 4, []), (50, 4, []), (50, 4, []), (52, 4, []), (50, 244, []), (50, 244, []), (50, 244, []), (50, 61, []), (52, 244, []), (50, 7, [])]
def xV (z : Int) : Value := .int (Int32.ofInt z)
def xS (a : xA) (b : xB) : pmS := (xZ, fun p k => Int32.ofInt (a p (k : Int)), fun p k => b p (k : Int))
def xR (z : Int) : Prop := -2147483648 ≤ z ∧ z ≤ 2147483647
def xU {β : Type} (f : Nat → Int → β) (p : Nat) (k : Int) (v : β) : Nat → Int → β := fun q j => if q = p ∧ j = k then v else f q j
theorem xz0 : xZ[0]? = some (11, 13, [some 1, some 3, some 7, some 13, some 21, some 26, some 31, some 33, some 34, some 43, some 45, some 79, none]) := rfl
theorem xz1 : xZ[1]? = some (6, 5, [some 2, none, none, none, none]) := rfl
theorem xz2 : xZ[2]? = some (50, 400, []) := rfl
theorem xz3 : xZ[3]? = some (5, 6, [some 4, some 5, some 6, none, none, none]) := rfl
theorem xz4 : xZ[4]? = some (50, 62, []) := rfl
theorem xz5 : xZ[5]? = some (50, 7, []) := rfl
theorem xz6 : xZ[6]? = some (50, 49, []) := rfl
theorem xz7 : xZ[7]? = some (9, 5, [some 8, some 9, some 10, some 11, some 12]) := rfl
theorem xz8 : xZ[8]? = some (50, 480, []) := rfl
theorem xz9 : xZ[9]? = some (50, 12, []) := rfl
theorem xz10 : xZ[10]? = some (50, 12, []) := rfl
theorem xz11 : xZ[11]? = some (50, 12, []) := rfl
theorem xz12 : xZ[12]? = some (50, 4, []) := rfl
theorem xz13 : xZ[13]? = some (2, 8, [some 14, some 15, some 16, some 17, some 18, some 19, some 20, none]) := rfl
theorem xz14 : xZ[14]? = some (50, 24, []) := rfl
theorem xz15 : xZ[15]? = some (50, 24, []) := rfl
theorem xz16 : xZ[16]? = some (50, 24, []) := rfl
theorem xz17 : xZ[17]? = some (50, 24, []) := rfl
theorem xz18 : xZ[18]? = some (50, 24, []) := rfl
theorem xz19 : xZ[19]? = some (50, 24, []) := rfl
theorem xz20 : xZ[20]? = some (50, 6, []) := rfl
theorem xz21 : xZ[21]? = some (10, 13, [some 22, some 23, some 24, some 25, none, none, none, none, none, none, none, none, none]) := rfl
theorem xz22 : xZ[22]? = some (51, 4, []) := rfl
theorem xz23 : xZ[23]? = some (50, 24, []) := rfl
theorem xz24 : xZ[24]? = some (50, 6, []) := rfl
theorem xz25 : xZ[25]? = some (50, 3, []) := rfl
theorem xz26 : xZ[26]? = some (10, 13, [some 27, some 28, some 29, some 30, none, none, none, none, none, none, none, none, none]) := rfl
theorem xz27 : xZ[27]? = some (51, 4, []) := rfl
theorem xz28 : xZ[28]? = some (50, 24, []) := rfl
theorem xz29 : xZ[29]? = some (50, 6, []) := rfl
theorem xz30 : xZ[30]? = some (50, 3, []) := rfl
theorem xz31 : xZ[31]? = some (8, 3, [some 1, some 32, none]) := rfl
theorem xz32 : xZ[32]? = some (50, 40, []) := rfl
theorem xz33 : xZ[33]? = some (1, 5, [some 1, some 13, none, none, none]) := rfl
theorem xz34 : xZ[34]? = some (3, 15, [some 3, some 7, some 35, some 36, some 37, some 38, some 39, some 40, some 41, some 42, none, none, none, none, none]) := rfl
theorem xz35 : xZ[35]? = some (51, 512, []) := rfl
theorem xz36 : xZ[36]? = some (51, 512, []) := rfl
theorem xz37 : xZ[37]? = some (50, 40, []) := rfl
theorem xz38 : xZ[38]? = some (50, 40, []) := rfl
theorem xz39 : xZ[39]? = some (50, 4, []) := rfl
theorem xz40 : xZ[40]? = some (50, 4, []) := rfl
theorem xz41 : xZ[41]? = some (50, 5, []) := rfl
theorem xz42 : xZ[42]? = some (50, 5, []) := rfl
theorem xz43 : xZ[43]? = some (4, 4, [some 3, some 13, some 34, some 44]) := rfl
theorem xz44 : xZ[44]? = some (50, 4, []) := rfl
theorem xz45 : xZ[45]? = some (7, 5, [some 3, some 43, some 46, some 62, some 78]) := rfl
theorem xz46 : xZ[46]? = some (54, 3, [some 47, some 52, some 57]) := rfl
theorem xz47 : xZ[47]? = some (10, 13, [some 48, some 49, some 50, some 51, none, none, none, none, none, none, none, none, none]) := rfl
theorem xz48 : xZ[48]? = some (51, 4, []) := rfl
theorem xz49 : xZ[49]? = some (50, 24, []) := rfl
theorem xz50 : xZ[50]? = some (50, 6, []) := rfl
theorem xz51 : xZ[51]? = some (50, 3, []) := rfl
theorem xz52 : xZ[52]? = some (10, 13, [some 53, some 54, some 55, some 56, none, none, none, none, none, none, none, none, none]) := rfl
theorem xz53 : xZ[53]? = some (51, 4, []) := rfl
theorem xz54 : xZ[54]? = some (50, 24, []) := rfl
theorem xz55 : xZ[55]? = some (50, 6, []) := rfl
theorem xz56 : xZ[56]? = some (50, 3, []) := rfl
theorem xz57 : xZ[57]? = some (10, 13, [some 58, some 59, some 60, some 61, none, none, none, none, none, none, none, none, none]) := rfl
theorem xz58 : xZ[58]? = some (51, 4, []) := rfl
theorem xz59 : xZ[59]? = some (50, 24, []) := rfl
theorem xz60 : xZ[60]? = some (50, 6, []) := rfl
theorem xz61 : xZ[61]? = some (50, 3, []) := rfl
theorem xz62 : xZ[62]? = some (54, 3, [some 63, some 68, some 73]) := rfl
theorem xz63 : xZ[63]? = some (10, 13, [some 64, some 65, some 66, some 67, none, none, none, none, none, none, none, none, none]) := rfl
theorem xz64 : xZ[64]? = some (51, 4, []) := rfl
theorem xz65 : xZ[65]? = some (50, 24, []) := rfl
theorem xz66 : xZ[66]? = some (50, 6, []) := rfl
theorem xz67 : xZ[67]? = some (50, 3, []) := rfl
theorem xz68 : xZ[68]? = some (10, 13, [some 69, some 70, some 71, some 72, none, none, none, none, none, none, none, none, none]) := rfl
theorem xz69 : xZ[69]? = some (51, 4, []) := rfl
theorem xz70 : xZ[70]? = some (50, 24, []) := rfl
theorem xz71 : xZ[71]? = some (50, 6, []) := rfl
theorem xz72 : xZ[72]? = some (50, 3, []) := rfl
theorem xz73 : xZ[73]? = some (10, 13, [some 74, some 75, some 76, some 77, none, none, none, none, none, none, none, none, none]) := rfl
theorem xz74 : xZ[74]? = some (51, 4, []) := rfl
theorem xz75 : xZ[75]? = some (50, 24, []) := rfl
theorem xz76 : xZ[76]? = some (50, 6, []) := rfl
theorem xz77 : xZ[77]? = some (50, 3, []) := rfl
theorem xz78 : xZ[78]? = some (50, 3, []) := rfl
theorem xz79 : xZ[79]? = some (0, 7, [some 3, some 43, some 45, some 80, some 85, some 86, none]) := rfl
theorem xz80 : xZ[80]? = some (10, 13, [some 81, some 82, some 83, some 84, none, none, none, none, none, none, none, none, none]) := rfl
theorem xz81 : xZ[81]? = some (51, 4, []) := rfl
theorem xz82 : xZ[82]? = some (50, 24, []) := rfl
theorem xz83 : xZ[83]? = some (50, 6, []) := rfl
theorem xz84 : xZ[84]? = some (50, 3, []) := rfl
theorem xz85 : xZ[85]? = some (50, 244, []) := rfl
theorem xz86 : xZ[86]? = some (50, 61, []) := rfl
theorem xz87 : xZ[87]? = some (12, 54, [some 88, some 89, none, none, none, some 90, some 91, some 92, some 93, none, none, none, none, none, none, none, some 94, some 95, some 96, some 97, some 98, some 99, none, some 100, some 101, some 102, some 103, some 104, some 105, some 106, some 107, some 108, some 109, none, none, some 110, some 111, some 112, some 113, some 114, some 115, none, none, none, some 116, some 117, some 118, some 119, some 120, some 121, some 122, some 123, some 124, some 125]) := rfl
theorem xz88 : xZ[88]? = some (50, 120, []) := rfl
theorem xz89 : xZ[89]? = some (50, 1200, []) := rfl
theorem xz90 : xZ[90]? = some (52, 49, []) := rfl
theorem xz91 : xZ[91]? = some (52, 5, []) := rfl
theorem xz92 : xZ[92]? = some (50, 7, []) := rfl
theorem xz93 : xZ[93]? = some (53, 400, []) := rfl
theorem xz94 : xZ[94]? = some (50, 60, []) := rfl
theorem xz95 : xZ[95]? = some (50, 60, []) := rfl
theorem xz96 : xZ[96]? = some (50, 4, []) := rfl
theorem xz97 : xZ[97]? = some (50, 12, []) := rfl
theorem xz98 : xZ[98]? = some (50, 12, []) := rfl
theorem xz99 : xZ[99]? = some (50, 720, []) := rfl
theorem xz100 : xZ[100]? = some (50, 6, []) := rfl
theorem xz101 : xZ[101]? = some (50, 24, []) := rfl
theorem xz102 : xZ[102]? = some (50, 48, []) := rfl
theorem xz103 : xZ[103]? = some (50, 48, []) := rfl
theorem xz104 : xZ[104]? = some (50, 48, []) := rfl
theorem xz105 : xZ[105]? = some (50, 48, []) := rfl
theorem xz106 : xZ[106]? = some (50, 24, []) := rfl
theorem xz107 : xZ[107]? = some (52, 48, []) := rfl
theorem xz108 : xZ[108]? = some (50, 50, []) := rfl
theorem xz109 : xZ[109]? = some (52, 60, []) := rfl
theorem xz110 : xZ[110]? = some (50, 4, []) := rfl
theorem xz111 : xZ[111]? = some (50, 4, []) := rfl
theorem xz112 : xZ[112]? = some (50, 5, []) := rfl
theorem xz113 : xZ[113]? = some (50, 5, []) := rfl
theorem xz114 : xZ[114]? = some (51, 4096, []) := rfl
theorem xz115 : xZ[115]? = some (50, 4096, []) := rfl
theorem xz116 : xZ[116]? = some (50, 4, []) := rfl
theorem xz117 : xZ[117]? = some (50, 4, []) := rfl
theorem xz118 : xZ[118]? = some (50, 4, []) := rfl
theorem xz119 : xZ[119]? = some (52, 4, []) := rfl
theorem xz120 : xZ[120]? = some (50, 244, []) := rfl
theorem xz121 : xZ[121]? = some (50, 244, []) := rfl
theorem xz122 : xZ[122]? = some (50, 244, []) := rfl
theorem xz123 : xZ[123]? = some (50, 61, []) := rfl
theorem xz124 : xZ[124]? = some (52, 244, []) := rfl
theorem xz125 : xZ[125]? = some (50, 7, []) := rfl
end
end
