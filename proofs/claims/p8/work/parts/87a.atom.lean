section
/-! by hand: the reference reads a wish: readsDigit, readsAtom -/
section
set_option maxRecDepth 100000
variable {ro : Nat → Nat × (Nat → Int32)} {L : aLa} {Kp : pmS → Prop} {σ0 σ σ' σs : pmS} {ρ ρ' : Nat → Int} {cl : pmL} {cs vs : List Value} {Q : Option Value → pmS → Prop} {n n2 W p k : Nat}
def kQdg (m : Nat) (σs : pmS) : Option Value → pmS → Prop := fun v σ' => ∃ x : Int32, v = some (.int x) ∧ kOk σ' ∧ kP σ' ∧ kSm kWd σ' σs ∧ (x.toInt = 0 ∨ (x.toInt = 1 ∧ kI σs 87 10 < kI σs 87 11 ∧ kI σ' 87 10 = kI σs 87 10 + 1 ∧ 0 ≤ kI σ' 87 22 ∧ kI σ' 87 22 ≤ m))
theorem kDig (h : bHyp ro L kP) (hL : 0 ≤ L.1 ∧ L.1 ≤ 3072) {m : Nat} {mv : Int32} (hm : m ∈ ([3, 4, 6] : List Nat)) (hmv : mv.toInt = m) (hok : kOk σ) (hP : kP σ) (hp : 0 ≤ kI σ 87 10) (hpl : kI σ 87 10 ≤ kI σ 87 11) (hl40 : kI σ 87 11 ≤ 40) : pmCs ro 2 160 [.ref 87, .int mv] σ (kQdg m σ) := by
  have hk := List.all_eq_true.mp kS160 m hm
  simp only [Bool.and_eq_true] at hk
  obtain ⟨k1, k2, k3⟩ := hk
  have hno : ∀ {n : Nat} {E : aE} {ρ : Nat → Int}, 2 ≤ n → E.length = n → ρ 0 = 0 → bFinOk L n ρ kP σ (bFi n [(some (.inl (false, 0, .ofNat 0)), E, [])] kWd) (kQdg m σ) := fun hn hE h0 => bFin_mono (bFi_int hn hE (by show 0 < _; omega)) fun v σ' hh => by
    obtain ⟨x, rfl, g1, g2, g3, g4, g5⟩ := hh
    exact ⟨x, rfl, g3, g4 (by decide +kernel), g5, Or.inl (by rw [g1, h0]; rfl)⟩
  by_cases c : kI σ 87 10 < kI σ 87 11
  · obtain ⟨pn, hpn⟩ : ∃ pn : Nat, kI σ 87 10 = pn := ⟨(kI σ 87 10).toNat, by omega⟩
    have ht := kOk_at (k := pn) hok (by exact rfl) (show bGe 93 pn = [(-128, 127)] from bGu_ok (by decide +kernel) pn)
    have hE : ∀ {t : aI}, t.1 ≤ kI σ 93 pn ∧ kI σ 93 pn ≤ t.2 → aEok L (kRv L [(m : Int), kI σ 87 10, kI σ 87 11, kI σ 93 pn]) (kE160 m t) := fun hh => kEnv hL ⟨⟨Int.le_refl _, Int.le_refl _⟩, ⟨hp, by show kI σ 87 10 ≤ (39 : Int); omega⟩, ⟨by show (1 : Int) ≤ kI σ 87 11; omega, hl40⟩, hh, trivial⟩
    have hC : aDok 6 (kRv L [(m : Int), kI σ 87 10, kI σ 87 11, kI σ 93 pn]) [(3, 4, .negSucc 0)] := fun q hq => by
      rw [List.mem_singleton] at hq
      subst hq
      refine ⟨(show 3 < 6 by decide), (show 4 < 6 by decide), ?_⟩
      show kI σ 87 10 - kI σ 87 11 ≤ -1
      omega
    have hM : bMok 6 (kRv L [(m : Int), kI σ 87 10, kI σ 87 11, kI σ 93 pn]) kP σ (kHv [(10, (3, .ofNat 0)), (11, (4, .ofNat 0))], kR160, 0) σ := kMok hok hP (by decide +kernel) ⟨⟨(show 3 < 6 by decide), (Int.add_zero _).symm⟩, ⟨(show 4 < 6 by decide), (Int.add_zero _).symm⟩, trivial⟩ (kOneR (c := .ofNat 0) (by decide) (by decide) rfl (by
      show kI σ 93 (kI σ 87 10 + 0).toNat = kI σ 93 pn
      rw [show (kI σ 87 10 + 0).toNat = pn by omega]))
    refine bEc_ok (n := 6) (ρ := kRv L [(m : Int), kI σ 87 10, kI σ 87 11, kI σ 93 pn]) (aB := [.inr [87], .inl (false, 2, .ofNat 0)]) (pl := kL165 (2, .ofNat 0)) (by decide +kernel) ⟨List.mem_singleton.mpr rfl, ⟨by decide, by rw [hmv]; exact (Int.add_zero _).symm⟩, trivial⟩ fun cl hl => ?_
    by_cases cn : 0 ≤ kI σ 93 pn
    · obtain ⟨t, hte⟩ : ∃ t : Nat, kI σ 93 pn = t := ⟨(kI σ 93 pn).toNat, by omega⟩
      have hk := List.all_eq_true.mp k2 t (List.mem_range.mpr (by omega))
      unfold kF160 at hk
      have hEt : aEok L (kRv L [(m : Int), kI σ 87 10, kI σ 87 11, kI σ 93 pn]) (kE160 m (.ofNat t, .ofNat t)) := hE ⟨by show (t : Int) ≤ kI σ 93 pn; omega, by show kI σ 93 pn ≤ (t : Int); omega⟩
      cases hb : (Nat.ble 48 t && (Nat.ble t 57 && Nat.ble t (48 + m))) with
      | false =>
        rw [hb, cond_false] at hk
        exact bSeg_ok (Q := kQdg m σ) (E := kE160 m (.ofNat t, .ofNat t)) h bCn_ok hk (fun B hB => absurd hB List.not_mem_nil) ⟨hEt, hC, fun q hq => absurd hq List.not_mem_nil⟩ hM hl trivial (hno (show 2 ≤ 6 by decide) rfl rfl) (fun B hB => absurd hB List.not_mem_nil)
      | true =>
        rw [hb, cond_true] at hk
        simp only [Bool.and_eq_true] at hb
        have q1 := Nat.le_of_ble_eq_true hb.1
        have q2 := Nat.le_of_ble_eq_true hb.2.1
        have q3 := Nat.le_of_ble_eq_true hb.2.2
        refine bSeg_ok (Q := kQdg m σ) (E := kE160 m (.ofNat t, .ofNat t)) h bCn_ok hk (fun B hB => absurd hB List.not_mem_nil) ⟨hEt, hC, fun q hq => absurd hq List.not_mem_nil⟩ hM hl trivial (bFin_mono (bFi_ok (E0 := kE160 m (.ofNat t, .ofNat t)) (show 2 ≤ 6 by decide) rfl (Nat.le_refl _) aExt.rf) fun v σ' hh => ?_) (fun B hB => absurd hB List.not_mem_nil)
        obtain ⟨al, hal, ρ', a1, a2, a3, a4, a5⟩ := hh
        rw [List.mem_singleton] at hal
        subst hal
        cases v with
        | none => exact a4.elim
        | some v =>
          obtain ⟨y, rfl, hy⟩ := bVok_int a4
          have h0 : ρ' 0 = 0 := a3.1.1
          have hy : y.toInt = ρ' 0 + 1 := hy.2
          have g3 : ρ' 3 = kI σ 87 10 := a1 3 (show 3 < 6 by decide)
          have l22 : kI σ' 87 22 = ρ' 0 + ((t - 48 : Nat) : Int) := by
            have := (a5.2.1 87 22).2
            rw [kI_z (by decide +kernel)] at this
            exact this
          have l10 : kI σ' 87 10 = ρ' 3 + 1 := by
            have := (a5.2.1 87 10).2
            rw [kI_z (by decide +kernel)] at this
            exact this
          have b3 : (0 : Int) ≤ ρ' 3 ∧ ρ' 3 ≤ (39 : Int) := a3.2 3 _ rfl
          have hok' : kOk σ' := by
            refine ⟨a5.1, fun p k => ?_⟩
            have hz := a5.2.1 p k
            by_cases cp : p = 87 ∧ k = 22
            · obtain ⟨rfl, rfl⟩ := cp
              rw [show bGe 87 22 = [(-2147483648, 2147483647)] by decide +kernel, kI_z (by decide +kernel)]
              exact ⟨_, List.mem_singleton.mpr rfl, by show (-2147483648 : Int) ≤ kI σ' 87 22; omega, by show kI σ' 87 22 ≤ (2147483647 : Int); omega⟩
            · by_cases cp2 : p = 87 ∧ k = 10
              · obtain ⟨rfl, rfl⟩ := cp2
                rw [show bGe 87 10 = [(0, 60)] by decide +kernel, kI_z (by decide +kernel)]
                exact ⟨_, List.mem_singleton.mpr rfl, by show (0 : Int) ≤ kI σ' 87 10; omega, by show kI σ' 87 10 ≤ (60 : Int); omega⟩
              · have e : bEn (kHv [(22, (0, .ofNat (t - 48))), (10, (3, .ofNat 1))]) p k = .inr (bGe p k) := by
                  unfold kHv bEn
                  simp only [fLk_eq, pmLk_cons, List.map_cons, List.map_nil]
                  by_cases e87 : 87 = p
                  · subst e87
                    rw [if_pos rfl]
                    simp only [fLk_eq, pmLk_cons]
                    rw [if_neg (fun e => cp ⟨rfl, e.symm⟩), if_neg (fun e => cp2 ⟨rfl, e.symm⟩)]
                    rfl
                  · rw [if_neg e87]
                    rfl
                have hz : bEk _ ρ' (bEn (kHv [(22, (0, .ofNat (t - 48))), (10, (3, .ofNat 1))]) p k) (bZ σ' p k) := hz
                rw [e] at hz
                exact hz
          exact ⟨y, rfl, hok', a5.2.2.2.2 (show bFg kWd = true by decide +kernel), a5.2.2.2.1, Or.inr ⟨by omega, c, by omega, by omega, by omega⟩⟩
    · obtain ⟨t, hte⟩ : ∃ t : Nat, kI σ 93 pn = -(t : Int) - 1 := ⟨(-(kI σ 93 pn) - 1).toNat, by omega⟩
      have hk := List.all_eq_true.mp k3 t (List.mem_range.mpr (by omega))
      have ens : (.negSucc t : Int) = -(t : Int) - 1 := by omega
      exact bSeg_ok (Q := kQdg m σ) (E := kE160 m (.negSucc t, .negSucc t)) h bCn_ok hk (fun B hB => absurd hB List.not_mem_nil) ⟨hE ⟨by show (.negSucc t : Int) ≤ kI σ 93 pn; omega, by show kI σ 93 pn ≤ (.negSucc t : Int); omega⟩, hC, fun q hq => absurd hq List.not_mem_nil⟩ hM hl trivial (hno (show 2 ≤ 6 by decide) rfl rfl) (fun B hB => absurd hB List.not_mem_nil)
  · refine bEc_ok (n := 5) (ρ := kRv L [(m : Int), kI σ 87 10, kI σ 87 11]) (aB := [.inr [87], .inl (false, 2, .ofNat 0)]) (pl := kL165 (2, .ofNat 0)) (by decide +kernel) ⟨List.mem_singleton.mpr rfl, ⟨by decide, by rw [hmv]; exact (Int.add_zero _).symm⟩, trivial⟩ fun cl hl => ?_
    have hE : aEok L (kRv L [(m : Int), kI σ 87 10, kI σ 87 11]) (kX160 m) := kEnv hL ⟨⟨Int.le_refl _, Int.le_refl _⟩, ⟨hp, by show kI σ 87 10 ≤ (40 : Int); omega⟩, ⟨by show (0 : Int) ≤ kI σ 87 11; omega, hl40⟩, trivial⟩
    refine bSeg_ok (Q := kQdg m σ) (E := kX160 m) h bCn_ok k1 (fun B hB => absurd hB List.not_mem_nil) ⟨hE, fun q hq => ?_, fun q hq => absurd hq List.not_mem_nil⟩ (kMok hok hP (by decide +kernel) ⟨⟨(show 3 < 5 by decide), (Int.add_zero _).symm⟩, ⟨(show 4 < 5 by decide), (Int.add_zero _).symm⟩, trivial⟩ kNoR) hl trivial (hno (show 2 ≤ 5 by decide) rfl rfl) (fun B hB => absurd hB List.not_mem_nil)
    rw [List.mem_singleton] at hq
    subst hq
    refine ⟨(show 4 < 5 by decide), (show 3 < 5 by decide), ?_⟩
    show kI σ 87 11 - kI σ 87 10 ≤ 0
    omega
end
end
section
/-! by hand: the reference reads a wish: readsAtom -/
section
set_option maxRecDepth 100000
variable {ro : Nat → Nat × (Nat → Int32)} {L : aLa} {Kp : pmS → Prop} {σ0 σ σ' σs : pmS} {ρ ρ' : Nat → Int} {cl : pmL} {cs vs : List Value} {Q : Option Value → pmS → Prop} {n n2 W p k : Nat}
def kWat : Nat := 24443471957792058209195131312833264775239811542705476469888533239565313365018546577418856628011241914189611636822637018407192167359266608327246602710763623669526931550450211253500707580594302739831398142540399142113719058851373738547498379686644090812175125073065329460450003504136433885719903390776090707888546980236068309975338414366252186622385946379213894827478168079710522635123473317871436361648090189375162916062168339695825412956994459009781117154694794068764165772399817201849473171456
def kWp : Nat := 1897137590064188545819787018382342682267975428761855001222473056385648716020711424
def kN3 : bL := [some (.inr [87]), none, none]
def kN1 (c : Nat) : bL := [some (.inr [87]), some (.inl (false, 0, .ofNat c)), none]
def kN2 (c : Nat) : bL := [some (.inr [87]), some (.inl (false, 0, .ofNat c)), some (.inl (false, 2, .ofNat 0))]
/-- letter, sort, greatest first digit, greatest second digit (99: none) -/
def kAt : List (Nat × Nat × Nat × Nat) := [(104, 0, 4, 99), (105, 1, 6, 99), (100, 2, 3, 99), (108, 3, 4, 6), (111, 4, 3, 4)]
def kE159 : aE := kBe [(.ofNat 0, .ofNat 40), (.ofNat 0, .ofNat 40)]
def kA159 : bNq := bPc 2 159 0 kN3 [] kE159 [] (kHv [(10, (2, .ofNat 0)), (11, (3, .ofNat 0))]) 0
def kB84 (q : Nat × Nat × Nat × Nat) : bNq := bPc 2 159 84 (kN1 q.1) [.inl (false, 0, .ofNat q.2.2.1), .inr [87]] kE159 [(2, 3, .negSucc 0)] (kHv [(10, (2, .ofNat 1))]) kWp
def kO1 (m : Nat) : aE := kBe [(.ofNat 0, .ofNat m)]
def kO2 (m1 m2 : Nat) : aE := kBe [(.ofNat 0, .ofNat m1), (.ofNat 0, .ofNat m2)]
def kA87 (c m : Nat) : bNq := bPc 2 159 87 (kN1 c) [.inl (false, 0, .ofNat 1)] (kO1 m) [] (kHv [(22, (2, .ofNat 0))]) 0
def kB177s (c w m : Nat) : bNq := bPc 2 159 177 kN3 [.inl (false, 2, .ofNat 0), .inl (false, 2, .ofNat 0), .inl (false, 0, .ofNat w), .inr [87]] (kO1 m) [] [] 0
def kB122 (c m m2 : Nat) : bNq := bPc 2 159 122 (kN2 c) [.inl (false, 0, .ofNat m2), .inr [87]] (kO1 m) [] [] 0
def kA125 (c m m2 : Nat) : bNq := bPc 2 159 125 (kN2 c) [.inl (false, 0, .ofNat 1)] (kO2 m m2) [] (kHv [(22, (3, .ofNat 0))]) 0
def kB177d (w m m2 : Nat) : bNq := bPc 2 159 177 kN3 [.inl (false, 3, .ofNat 0), .inl (false, 2, .ofNat 0), .inl (false, 0, .ofNat w), .inr [87]] (kO2 m m2) [] [] 0
def kNo (m : Nat) (E : aE) (pc : Nat) (pl : bL) : Bool := true
noncomputable def kEnd0 (n pc : Nat) (pl : bL) (E : aE) : Bool := bSeg (bCc []) (bFi n [(some (.inl (false, 0, .ofNat 0)), E, [])] 0) [] (bPc 2 159 pc pl [.inl (false, 0, .ofNat 0)] E [] [] 0) []
theorem kS159 : (bSeg (bCc []) (bFi 4 [(some (.inl (false, 0, .ofNat 0)), kE159, [])] kWd) (kAt.map kB84) kA159 [] && (kAt.all (fun q => kEnd0 2 87 (kN1 q.1) (kBe []) && (bif Nat.beq q.2.2.2 99 then bSeg (bCc []) bNo [kB177s q.1 q.2.1 q.2.2.1] (kA87 q.1 q.2.2.1) [] else bSeg (bCc []) bNo [kB122 q.1 q.2.2.1 q.2.2.2] (kA87 q.1 q.2.2.1) [] && (kEnd0 3 125 (kN2 q.1) (kO1 q.2.2.1) && bSeg (bCc []) bNo [kB177d q.2.1 q.2.2.1 q.2.2.2] (kA125 q.1 q.2.2.1 q.2.2.2) []))) && (bSeg (bCc []) bNo [bPc 2 159 181 kN3 [.inr [87]] (kBe []) [] [] 0] (bPc 2 159 180 kN3 [] (kBe []) [] [] 0) [] && bSeg (bCc []) (bFi 2 [(some (.inl (false, 0, .ofNat 1)), kBe [], [])] 0) [] (bPc 2 159 184 kN3 [] (kBe []) [] [] 0) []))) = true := by decide +kernel
theorem kM159 : (bMk bSp 159).1 = 12 ∧ (bMk bSp 159).2.2.1 = 2 := by decide +kernel
def kQat (σs : pmS) : Option Value → pmS → Prop := fun v σ' => ∃ x : Int32, v = some (.int x) ∧ kOk σ' ∧ kP σ' ∧ kSm kWat σ' σs ∧ (x.toInt = 0 ∨ (x.toInt = 1 ∧ kIv 1 σ' ∧ kI σs 87 10 + 1 ≤ kI σ' 87 10))
theorem kN3_ok {a b : Option bV} (h : bLok n ρ [some (.inr [87]), a, b] cl) : bLok n2 ρ' kN3 cl := by
  refine bLok_re h rfl fun j y hy => ?_
  match j, hy with
  | 0, hy => cases hy; exact ⟨_, rfl, fun v hv => by rw [bVok_one hv]; exact List.mem_singleton.mpr rfl⟩
  | 1, hy => cases hy
  | 2, hy => cases hy
  | j + 3, hy => cases hy
theorem kAtEnd {n : Nat} {E : aE} (hn : 2 ≤ n) (hE : E.length = n) (h0 : ρ 0 = 0) (hsm : kSm kWat σ σs) : bFinOk L n ρ kP σ (bFi n [(some (.inl (false, 0, .ofNat 0)), E, [])] 0) (kQat σs) := bFin_mono (bFi_int hn hE (by show 0 < _; omega)) fun v σ' hh => by
  obtain ⟨x, rfl, g1, g2, g3, g4, g5⟩ := hh
  exact ⟨x, rfl, g3, g4 (by decide +kernel), kSm.tr (kSm.le g5 (by decide +kernel)) hsm, Or.inl (by rw [g1, h0]; rfl)⟩
/-- the atom is said -/
theorem kAtSay (h : bHyp ro L kP) (hL : 0 ≤ L.1 ∧ L.1 ≤ 3072) {w A B : Nat} (hq : (w, A, B) ∈ kCs) (hw5 : w < 5) {xw xa xb : Int32} (hxw : xw.toInt = w) (hxa : 0 ≤ xa.toInt ∧ xa.toInt < A) (hxb : 0 ≤ xb.toInt ∧ xb.toInt < B) (hI : kIv 0 σ) (hp : kI σ 87 15 + kI σ 87 14 + 1 ≤ kI σ 87 10) (hsm : kSm kWat σ σs) (hp2 : kI σs 87 10 + 1 ≤ kI σ 87 10) (hl : bLok n ρ kN3 cl) : pmWp ro 2 12 159 2 177 cl [.int xb, .int xa, .int xw, .ref 87] σ (kQat σs) := by
  have hk := kS159
  simp only [Bool.and_eq_true] at hk
  obtain ⟨_, _, k3, k4⟩ := hk
  obtain ⟨hok, hP, b1, b2, b3, b4, b5, b6⟩ := id hI
  refine pmWp_iv (k := 202) (mm := 161) (nn := 3) (oo := 12) (p := 87) (rest := []) (as := [.int xw, .int xa, .int xb]) (u := (0, true)) (a := 0) (b := 0) (c := true) rfl rfl rfl rfl rfl (by rw [hok.1]; rfl) (by decide) ?_
  refine pmCs_mono (pmCs_deep (kSays h hL hq hxw hxa hxb hok hP (by omega)) (by decide)) ?_
  rintro v σ2 ⟨rfl, hok2, hP2, s2, c2, z, hz, row2⟩
  have j14 : kI σ2 87 14 = kI σ 87 14 := s2.i (by decide +kernel)
  have j10 : kI σ2 87 10 = kI σ 87 10 := s2.i (by decide +kernel)
  have j11 : kI σ2 87 11 = kI σ 87 11 := s2.i (by decide +kernel)
  have w2 : kWts σ2 = kWts σ := funext fun j => s2.r (by decide +kernel) (by decide +kernel) j
  have q2 : ∀ j : Nat, kSaid σ2 j = if (j : Int) = kI σ 87 15 then z else kSaid σ j := row2
  have hI2 : kIv 1 σ2 := by
    refine ⟨hok2, hP2, by omega, by omega, by omega, by omega, by omega, ?_⟩
    have hq0 : kSaid σ2 (kI σ 87 15).toNat = z := by
      rw [q2]
      exact if_pos (by omega)
    rw [show (kI σ2 87 15).toNat = (kI σ 87 15).toNat + 1 by omega, kD_say b6 (fun j hj => by rw [q2, if_neg (by omega)]), hq0, hz, if_pos (by omega), w2, j14]
  have hgo := bSeg_ok (Kp := kP) (σ := σ2) (σ0 := σ2) (ρ := kRv L []) (E := kBe []) (cl := cl) (cs := []) (Q := kQat σs) h bCn_ok k3 (fun B hB => by rw [List.mem_singleton.mp hB]; rfl) (aXok0 (kEnv hL trivial)) (kOk_mok hok2 hP2) (kN3_ok hl) trivial bNo_ok ?_
  · rw [kM159.1, kM159.2] at hgo
    exact hgo
  intro B hB ρ3 cl3 cs3 σ3 hA3
  rw [List.mem_singleton] at hB
  subst hB
  obtain ⟨v1, r1, rfl, hv1, hs1⟩ := bSok_c (show bSok 2 ρ3 [.inr [87]] cs3 from hA3.2.2)
  have := bVok_one hv1
  subst this
  have := bSok_n hs1
  subst this
  have s3 : kSm 0 σ3 σ2 := hA3.sm
  have hI3 := kIv_sm hI2 (hA3.ok rfl) (hA3.kp (show bFg 0 = true by decide +kernel)) s3 (Nat.zero_testBit _) (Nat.zero_testBit _) (Nat.zero_testBit _) (Nat.zero_testBit _) (Nat.zero_testBit _) (Nat.zero_testBit _)
  have i10 : kI σ3 87 10 = kI σ2 87 10 := s3.i (Nat.zero_testBit _)
  show pmWp ro 2 (bMk bSp 159).1 159 (bMk bSp 159).2.2.1 181 cl3 [.ref 87] σ3 (kQat σs)
  rw [kM159.1, kM159.2]
  refine pmWp_iv (k := 206) (mm := 162) (nn := 0) (oo := 12) (p := 87) (rest := []) (as := []) (u := (0, true)) (a := 0) (b := 0) (c := true) rfl rfl rfl rfl rfl (by rw [hI3.1.1]; rfl) (by decide) ?_
  refine pmCs_mono (kEnds h hL hI3) ?_
  rintro v σ4 ⟨rfl, hI4, s4⟩
  have k10 : kI σ4 87 10 = kI σ3 87 10 := s4.i (by decide +kernel)
  have s4s : kSm kWat σ4 σs := kSm.tr (kSm.le s4 (by decide +kernel)) (kSm.tr (kSm.le s3 (by decide +kernel)) (kSm.tr (kSm.le s2 (by decide +kernel)) hsm))
  have hend : bFinOk L 2 (kRv L []) kP σ4 (bFi 2 [(some (.inl (false, 0, .ofNat 1)), kBe [], [])] 0) (kQat σs) := bFin_mono (bFi_int (by decide) rfl (by decide)) fun v σ' hh => by
    obtain ⟨x, rfl, g1, g2, g3, g4, g5⟩ := hh
    have hI5 := kIv_sm hI4 g3 (g4 (by decide +kernel)) g5 (Nat.zero_testBit _) (Nat.zero_testBit _) (Nat.zero_testBit _) (Nat.zero_testBit _) (Nat.zero_testBit _) (Nat.zero_testBit _)
    have m10 : kI σ' 87 10 = kI σ4 87 10 := g5.i (Nat.zero_testBit _)
    exact ⟨x, rfl, g3, g4 (by decide +kernel), kSm.tr (kSm.le g5 (by decide +kernel)) s4s, Or.inr ⟨g1, hI5, by omega⟩⟩
  have hgo := bSeg_ok (Kp := kP) (σ := σ4) (σ0 := σ4) (ρ := kRv L []) (E := kBe []) (cl := cl3) (cs := []) (Q := kQat σs) h bCn_ok k4 (fun B hB => absurd hB List.not_mem_nil) (aXok0 (kEnv hL trivial)) (kOk_mok hI4.1 hI4.2.1) (kN3_ok (show bLok 2 ρ3 kN3 cl3 from hA3.2.1)) trivial hend (fun B hB => absurd hB List.not_mem_nil)
  rw [kM159.1, kM159.2] at hgo
  exact hgo
theorem kN1_ok {c : Nat} (h : bLok n ρ (kN1 c) cl) (h0 : ρ 0 = ρ' 0) (hn : 0 < n2) : bLok n2 ρ' (kN1 c) cl := by
  refine bLok_re h rfl fun j y hy => ?_
  match j, hy with
  | 0, hy => cases hy; exact ⟨_, rfl, fun v hv => by rw [bVok_one hv]; exact List.mem_singleton.mpr rfl⟩
  | 1, hy => cases hy; exact ⟨_, rfl, bVok_re hn (by show ρ 0 + (c : Int) = ρ' 0 + (c : Int); rw [h0])⟩
  | 2, hy => cases hy
  | j + 3, hy => cases hy
theorem kN2_ok {c : Nat} (h : bLok n ρ (kN2 c) cl) (h0 : ρ 0 = ρ' 0) (h2 : ρ 2 = ρ' 2) (hn : 2 < n2) : bLok n2 ρ' (kN2 c) cl := by
  refine bLok_re h rfl fun j y hy => ?_
  match j, hy with
  | 0, hy => cases hy; exact ⟨_, rfl, fun v hv => by rw [bVok_one hv]; exact List.mem_singleton.mpr rfl⟩
  | 1, hy => cases hy; exact ⟨_, rfl, bVok_re (by show 0 < n2; omega) (by show ρ 0 + (c : Int) = ρ' 0 + (c : Int); rw [h0])⟩
  | 2, hy => cases hy; exact ⟨_, rfl, bVok_re hn (by show ρ 2 + 0 = ρ' 2 + 0; rw [h2])⟩
  | j + 3, hy => cases hy
theorem kAtom (h : bHyp ro L kP) (hL : 0 ≤ L.1 ∧ L.1 ≤ 3072) (hI : kIv 0 σ) : pmCs ro 3 159 [.ref 87] σ (kQat σ) := by
  have hk := kS159
  simp only [Bool.and_eq_true] at hk
  obtain ⟨k1, k2, _, _⟩ := hk
  obtain ⟨hok, hP, b1, b2, b3, b4, b5, b6⟩ := id hI
  refine bEc_ok (n := 4) (ρ := kRv L [kI σ 87 10, kI σ 87 11]) (aB := [.inr [87]]) (pl := kN3) (by decide +kernel) ⟨List.mem_singleton.mpr rfl, trivial⟩ fun cl hl => ?_
  have hE : aEok L (kRv L [kI σ 87 10, kI σ 87 11]) kE159 := kEnv hL ⟨⟨by show (0 : Int) ≤ kI σ 87 10; omega, by show kI σ 87 10 ≤ (40 : Int); omega⟩, ⟨by show (0 : Int) ≤ kI σ 87 11; omega, by show kI σ 87 11 ≤ (40 : Int); omega⟩, trivial⟩
  have hend : bFinOk L 4 (kRv L [kI σ 87 10, kI σ 87 11]) kP σ (bFi 4 [(some (.inl (false, 0, .ofNat 0)), kE159, [])] kWd) (kQat σ) := bFin_mono (bFi_int (by decide) rfl (by decide)) fun v σ' hh => by
    obtain ⟨x, rfl, g1, g2, g3, g4, g5⟩ := hh
    exact ⟨x, rfl, g3, g4 (by decide +kernel), kSm.le g5 (by decide +kernel), Or.inl g1⟩
  refine bSeg_ok (Q := kQat σ) (E := kE159) h bCn_ok k1 (fun B hB => by
    obtain ⟨q, _, rfl⟩ := List.mem_map.mp hB
    rfl) (aXok0 hE) (kMok hok hP (by decide +kernel) ⟨⟨by decide, (Int.add_zero _).symm⟩, ⟨by decide, (Int.add_zero _).symm⟩, trivial⟩ kNoR) hl trivial hend ?_
  intro B hB ρ1 cl1 cs1 σ1 hA
  obtain ⟨q, hqm, rfl⟩ := List.mem_map.mp hB
  obtain ⟨c, w, m1, m2⟩ := q
  have kq := List.all_eq_true.mp k2 _ hqm
  rw [Bool.and_eq_true] at kq
  obtain ⟨kq0, kq1⟩ := kq
  obtain ⟨v1, r1, rfl, hv1, hs1⟩ := bSok_c (show bSok 4 ρ1 [.inl (false, 0, .ofNat m1), .inr [87]] cs1 from hA.2.2)
  obtain ⟨v2, r2, rfl, hv2, hs2⟩ := bSok_c hs1
  obtain ⟨mv, rfl, hmv⟩ := bVok_int hv1
  have := bVok_one hv2
  subst this
  have := bSok_n hs2
  subst this
  have h0 : ρ1 0 = 0 := hA.env.1.1
  have hmv : mv.toInt = ρ1 0 + (m1 : Int) := hmv.2
  have e2 : ρ1 2 = kI σ 87 10 := hA.ext 2 (by decide)
  have e3 : ρ1 3 = kI σ 87 11 := hA.ext 3 (by decide)
  have s1 : kSm kWp σ1 σ := hA.sm
  have l10 : kI σ1 87 10 = ρ1 2 + 1 := kCell (f := (2, .ofNat 1)) hA (by decide +kernel) rfl
  have hd : ρ1 2 - ρ1 3 ≤ -1 := (hA.1.1.2.1 (2, 3, .negSucc 0) (List.mem_singleton.mpr rfl)).2.2
  have l11 : kI σ1 87 11 = kI σ 87 11 := s1.i (by decide +kernel)
  have l14 : kI σ1 87 14 = kI σ 87 14 := s1.i (by decide +kernel)
  have l15 : kI σ1 87 15 = kI σ 87 15 := s1.i (by decide +kernel)
  have hE1 : aEok L ρ1 kE159 := hA.env
  have hP1 := hA.kp (show bFg kWp = true by decide +kernel)
  have hok1 : kOk σ1 := by
    refine ⟨hA.1.2.1.1, fun p k => ?_⟩
    have hz : bEk 4 ρ1 (bEn (kHv [(10, (2, .ofNat 1))]) p k) (bZ σ1 p k) := hA.1.2.1.2.1 p k
    by_cases cp : p = 87 ∧ k = 10
    · obtain ⟨rfl, rfl⟩ := cp
      rw [show bGe 87 10 = [(0, 60)] by decide +kernel, kI_z (by decide +kernel)]
      exact ⟨_, List.mem_singleton.mpr rfl, by show (0 : Int) ≤ kI σ1 87 10; omega, by show kI σ1 87 10 ≤ (60 : Int); omega⟩
    · have e : bEn (kHv [(10, (2, .ofNat 1))]) p k = .inr (bGe p k) := by
        unfold kHv bEn
        simp only [fLk_eq, pmLk_cons, List.map_cons, List.map_nil]
        by_cases e87 : 87 = p
        · subst e87
          rw [if_pos rfl]
          simp only [fLk_eq, pmLk_cons]
          rw [if_neg (fun e => cp ⟨rfl, e.symm⟩)]
          rfl
        · rw [if_neg e87]
          rfl
      rw [e] at hz
      exact hz
  have q1 : kSaid σ1 = kSaid σ := funext fun j => s1.r (by decide +kernel) (by decide +kernel) j
  have w1 : kWts σ1 = kWts σ := funext fun j => s1.r (by decide +kernel) (by decide +kernel) j
  have hI1 : kIv 0 σ1 := ⟨hok1, hP1, by omega, by omega, by omega, by omega, by omega, by rw [q1, w1, l14, l15]; exact b6⟩
  have hm1 : m1 ∈ ([3, 4, 6] : List Nat) ∧ (m2 = 99 ∧ w < 3 ∧ (w, m1 + 1, 7) ∈ kCs ∨ m2 ∈ ([3, 4, 6] : List Nat) ∧ w < 5 ∧ (w, m1 + 1, m2 + 1) ∈ kCs) := by
    unfold kAt at hqm
    simp only [List.mem_cons, List.not_mem_nil, or_false, Prod.mk.injEq] at hqm
    rcases hqm with ⟨rfl, rfl, rfl, rfl⟩ | ⟨rfl, rfl, rfl, rfl⟩ | ⟨rfl, rfl, rfl, rfl⟩ | ⟨rfl, rfl, rfl, rfl⟩ | ⟨rfl, rfl, rfl, rfl⟩ <;> decide
  have sm1 : kSm kWat σ1 σ := kSm.le s1 (by decide +kernel)
  show pmWp ro 2 (bMk bSp 159).1 159 (bMk bSp 159).2.2.1 84 cl1 [.int mv, .ref 87] σ1 (kQat σ)
  rw [kM159.1, kM159.2]
  refine pmWp_iv (k := 199) (mm := 160) (nn := 1) (oo := 12) (p := 87) (rest := []) (as := [.int mv]) (u := (0, true)) (a := 0) (b := 0) (c := true) rfl rfl rfl rfl rfl (by rw [hok1.1]; rfl) (by decide) ?_
  refine pmCs_mono (kDig h hL hm1.1 (by omega) hok1 hP1 (by omega) (by omega) (by omega)) ?_
  rintro v σ2 ⟨x, rfl, hok2, hP2, s2, hx⟩
  have sm2 : kSm kWat σ2 σ := kSm.tr (kSm.le s2 (by decide +kernel)) sm1
  have hl1 : bLok 4 ρ1 (kN1 c) cl1 := hA.2.1
  rcases hx with hx0 | ⟨hx1, hlt, p2, d0, d1⟩
  · have hgo := bSeg_ok (Kp := kP) (σ := σ2) (σ0 := σ2) (ρ := kRv L []) (E := kBe []) (cl := cl1) (cs := [.int x]) (Q := kQat σ) h bCn_ok kq0 (fun B hB => absurd hB List.not_mem_nil) (aXok0 (kEnv hL trivial)) (kOk_mok hok2 hP2) (kN1_ok hl1 h0 (by decide)) ⟨⟨by decide, by show x.toInt = 0 + 0; omega⟩, trivial⟩ (kAtEnd (by decide) rfl rfl sm2) (fun B hB => absurd hB List.not_mem_nil)
    rw [kM159.1, kM159.2] at hgo
    exact hgo
  · have l11b : kI σ2 87 11 = kI σ1 87 11 := s2.i (by decide +kernel)
    have l14b : kI σ2 87 14 = kI σ1 87 14 := s2.i (by decide +kernel)
    have l15b : kI σ2 87 15 = kI σ1 87 15 := s2.i (by decide +kernel)
    have q2 : kSaid σ2 = kSaid σ1 := funext fun j => s2.r (by decide +kernel) (by decide +kernel) j
    have w2 : kWts σ2 = kWts σ1 := funext fun j => s2.r (by decide +kernel) (by decide +kernel) j
    have hI2 : kIv 0 σ2 := ⟨hok2, hP2, by omega, by omega, by omega, by omega, by omega, by rw [q2, w2, q1, w1, l14b, l15b, l14, l15]; exact b6⟩
    have hE2 : aEok L (kRv L [kI σ2 87 22]) (kO1 m1) := kEnv hL ⟨⟨d0, d1⟩, trivial⟩
    have hM2 : bMok 3 (kRv L [kI σ2 87 22]) kP σ2 (kHv [(22, (2, .ofNat 0))], [], 0) σ2 := kMok hok2 hP2 (by decide +kernel) ⟨⟨by decide, (Int.add_zero _).symm⟩, trivial⟩ kNoR
    have hst : bSok 3 (kRv L [kI σ2 87 22]) [.inl (false, 0, .ofNat 1)] [.int x] := ⟨⟨by decide, by show x.toInt = 0 + 1; omega⟩, trivial⟩
    rcases hm1.2 with ⟨h99, hw3, hcs⟩ | ⟨hm2, hw5, hcs⟩
    · have hbq : Nat.beq m2 99 = true := by rw [h99]; rfl
      have kq1 : (bif Nat.beq m2 99 then bSeg (bCc []) bNo [kB177s c w m1] (kA87 c m1) [] else _) = true := kq1
      rw [hbq, cond_true] at kq1
      have hgo := bSeg_ok (Kp := kP) (σ := σ2) (σ0 := σ2) (ρ := kRv L [kI σ2 87 22]) (E := kO1 m1) (cl := cl1) (cs := [.int x]) (Q := kQat σ) h bCn_ok kq1 (fun B hB => by rw [List.mem_singleton.mp hB]; rfl) (aXok0 hE2) hM2 (kN1_ok hl1 h0 (by show 0 < 3; decide)) hst bNo_ok ?_
      · rw [kM159.1, kM159.2] at hgo
        exact hgo
      intro B hB ρ3 cl3 cs3 σ3 hA3
      rw [List.mem_singleton] at hB
      subst hB
      obtain ⟨v1, r1, rfl, hv1, hs1⟩ := bSok_c (show bSok 3 ρ3 [.inl (false, 2, .ofNat 0), .inl (false, 2, .ofNat 0), .inl (false, 0, .ofNat w), .inr [87]] cs3 from hA3.2.2)
      obtain ⟨v2, r2, rfl, hv2, hs2⟩ := bSok_c hs1
      obtain ⟨v3, r3, rfl, hv3, hs3⟩ := bSok_c hs2
      obtain ⟨v4, r4, rfl, hv4, hs4⟩ := bSok_c hs3
      obtain ⟨y1, rfl, hy1⟩ := bVok_int hv1
      obtain ⟨y2, rfl, hy2⟩ := bVok_int hv2
      obtain ⟨y3, rfl, hy3⟩ := bVok_int hv3
      have := bVok_one hv4
      subst this
      have := bSok_n hs4
      subst this
      have h03 : ρ3 0 = 0 := hA3.env.1.1
      have e23 : ρ3 2 = kI σ2 87 22 := hA3.ext 2 (show 2 < 3 by decide)
      have hy1 : y1.toInt = ρ3 2 + 0 := hy1.2
      have hy2 : y2.toInt = ρ3 2 + 0 := hy2.2
      have hy3 : y3.toInt = ρ3 0 + (w : Int) := hy3.2
      have s3 : kSm 0 σ3 σ2 := hA3.sm
      have hI3 := kIv_sm hI2 (hA3.ok rfl) (hA3.kp (show bFg 0 = true by decide +kernel)) s3 (Nat.zero_testBit _) (Nat.zero_testBit _) (Nat.zero_testBit _) (Nat.zero_testBit _) (Nat.zero_testBit _) (Nat.zero_testBit _)
      have i10 : kI σ3 87 10 = kI σ2 87 10 := s3.i (Nat.zero_testBit _)
      have i14 : kI σ3 87 14 = kI σ2 87 14 := s3.i (Nat.zero_testBit _)
      have i15 : kI σ3 87 15 = kI σ2 87 15 := s3.i (Nat.zero_testBit _)
      have hm6 : m1 ≤ 6 := by
        have := hm1.1
        simp only [List.mem_cons, List.not_mem_nil, or_false] at this
        omega
      show pmWp ro 2 (bMk bSp 159).1 159 (bMk bSp 159).2.2.1 177 cl3 _ σ3 (kQat σ)
      rw [kM159.1, kM159.2]
      exact kAtSay h hL hcs (by omega) (by omega) ⟨by omega, by omega⟩ ⟨by omega, by omega⟩ hI3 (by omega) (kSm.tr (kSm.le s3 (by decide +kernel)) sm2) (by omega) (show bLok 3 ρ3 kN3 cl3 from hA3.2.1)
    · have hbq : Nat.beq m2 99 = false := by
        simp only [List.mem_cons, List.not_mem_nil, or_false] at hm2
        rcases hm2 with rfl | rfl | rfl <;> rfl
      have kq1 : (bif Nat.beq m2 99 then bSeg (bCc []) bNo [kB177s c w m1] (kA87 c m1) [] else bSeg (bCc []) bNo [kB122 c m1 m2] (kA87 c m1) [] && (kEnd0 3 125 (kN2 c) (kO1 m1) && bSeg (bCc []) bNo [kB177d w m1 m2] (kA125 c m1 m2) [])) = true := kq1
      rw [hbq, cond_false, Bool.and_eq_true, Bool.and_eq_true] at kq1
      obtain ⟨kr1, kr2, kr3⟩ := kq1
      have hgo := bSeg_ok (Kp := kP) (σ := σ2) (σ0 := σ2) (ρ := kRv L [kI σ2 87 22]) (E := kO1 m1) (cl := cl1) (cs := [.int x]) (Q := kQat σ) h bCn_ok kr1 (fun B hB => by rw [List.mem_singleton.mp hB]; rfl) (aXok0 hE2) hM2 (kN1_ok hl1 h0 (by show 0 < 3; decide)) hst bNo_ok ?_
      · rw [kM159.1, kM159.2] at hgo
        exact hgo
      intro B hB ρ3 cl3 cs3 σ3 hA3
      rw [List.mem_singleton] at hB
      subst hB
      obtain ⟨v1, r1, rfl, hv1, hs1⟩ := bSok_c (show bSok 3 ρ3 [.inl (false, 0, .ofNat m2), .inr [87]] cs3 from hA3.2.2)
      obtain ⟨v2, r2, rfl, hv2, hs2⟩ := bSok_c hs1
      obtain ⟨y1, rfl, hy1⟩ := bVok_int hv1
      have := bVok_one hv2
      subst this
      have := bSok_n hs2
      subst this
      have h03 : ρ3 0 = 0 := hA3.env.1.1
      have e23 : ρ3 2 = kI σ2 87 22 := hA3.ext 2 (show 2 < 3 by decide)
      have hy1 : y1.toInt = ρ3 0 + (m2 : Int) := hy1.2
      have s3 : kSm 0 σ3 σ2 := hA3.sm
      have hI3 := kIv_sm hI2 (hA3.ok rfl) (hA3.kp (show bFg 0 = true by decide +kernel)) s3 (Nat.zero_testBit _) (Nat.zero_testBit _) (Nat.zero_testBit _) (Nat.zero_testBit _) (Nat.zero_testBit _) (Nat.zero_testBit _)
      have i10 : kI σ3 87 10 = kI σ2 87 10 := s3.i (Nat.zero_testBit _)
      have i11 : kI σ3 87 11 = kI σ2 87 11 := s3.i (Nat.zero_testBit _)
      have i14 : kI σ3 87 14 = kI σ2 87 14 := s3.i (Nat.zero_testBit _)
      have i15 : kI σ3 87 15 = kI σ2 87 15 := s3.i (Nat.zero_testBit _)
      have hl3 : bLok 3 ρ3 (kN2 c) cl3 := hA3.2.1
      show pmWp ro 2 (bMk bSp 159).1 159 (bMk bSp 159).2.2.1 122 cl3 _ σ3 (kQat σ)
      rw [kM159.1, kM159.2]
      refine pmWp_iv (k := 199) (mm := 160) (nn := 1) (oo := 12) (p := 87) (rest := []) (as := [.int y1]) (u := (0, true)) (a := 0) (b := 0) (c := true) rfl rfl rfl rfl rfl (by rw [hI3.1.1]; rfl) (by decide) ?_
      refine pmCs_mono (kDig h hL hm2 (by omega) hI3.1 hI3.2.1 (by omega) (by omega) (by omega)) ?_
      rintro v σ4 ⟨x4, rfl, hok4, hP4, s4, hx4⟩
      have sm4 : kSm kWat σ4 σ := kSm.tr (kSm.le s4 (by decide +kernel)) (kSm.tr (kSm.le s3 (by decide +kernel)) sm2)
      rcases hx4 with hx0 | ⟨hx1b, hltb, p4, d0b, d1b⟩
      · have hgo := bSeg_ok (Kp := kP) (σ := σ4) (σ0 := σ4) (ρ := ρ3) (E := kO1 m1) (cl := cl3) (cs := [.int x4]) (Q := kQat σ) h bCn_ok kr2 (fun B hB => absurd hB List.not_mem_nil) (aXok0 hA3.env) (kOk_mok hok4 hP4) hl3 ⟨⟨(show 0 < 3 by decide), by show x4.toInt = ρ3 0 + 0; omega⟩, trivial⟩ (kAtEnd (show 2 ≤ 3 by decide) rfl h03 sm4) (fun B hB => absurd hB List.not_mem_nil)
        rw [kM159.1, kM159.2] at hgo
        exact hgo
      · have l11c : kI σ4 87 11 = kI σ3 87 11 := s4.i (by decide +kernel)
        have l14c : kI σ4 87 14 = kI σ3 87 14 := s4.i (by decide +kernel)
        have l15c : kI σ4 87 15 = kI σ3 87 15 := s4.i (by decide +kernel)
        have q4 : kSaid σ4 = kSaid σ3 := funext fun j => s4.r (by decide +kernel) (by decide +kernel) j
        have w4 : kWts σ4 = kWts σ3 := funext fun j => s4.r (by decide +kernel) (by decide +kernel) j
        have hI4 : kIv 0 σ4 := ⟨hok4, hP4, by omega, by omega, by omega, by omega, by omega, by rw [q4, w4, l14c, l15c]; exact hI3.2.2.2.2.2.2.2⟩
        have hE4 : aEok L (kRv L [kI σ2 87 22, kI σ4 87 22]) (kO2 m1 m2) := kEnv hL ⟨⟨d0, d1⟩, ⟨d0b, d1b⟩, trivial⟩
        have hgo := bSeg_ok (Kp := kP) (σ := σ4) (σ0 := σ4) (ρ := kRv L [kI σ2 87 22, kI σ4 87 22]) (E := kO2 m1 m2) (cl := cl3) (cs := [.int x4]) (Q := kQat σ) h bCn_ok kr3 (fun B hB => by rw [List.mem_singleton.mp hB]; rfl) (aXok0 hE4) (kMok hok4 hP4 (by decide +kernel) ⟨⟨(show 3 < 4 by decide), (Int.add_zero _).symm⟩, trivial⟩ kNoR) (kN2_ok hl3 h03 e23 (by show 2 < 4; decide)) ⟨⟨(show 0 < 4 by decide), by show x4.toInt = 0 + 1; omega⟩, trivial⟩ bNo_ok ?_
        · rw [kM159.1, kM159.2] at hgo
          exact hgo
        intro B hB ρ5 cl5 cs5 σ5 hA5
        rw [List.mem_singleton] at hB
        subst hB
        obtain ⟨v1, r1, rfl, hv1, hs1⟩ := bSok_c (show bSok 4 ρ5 [.inl (false, 3, .ofNat 0), .inl (false, 2, .ofNat 0), .inl (false, 0, .ofNat w), .inr [87]] cs5 from hA5.2.2)
        obtain ⟨v2, r2, rfl, hv2, hs2⟩ := bSok_c hs1
        obtain ⟨v3, r3, rfl, hv3, hs3⟩ := bSok_c hs2
        obtain ⟨v4, r4, rfl, hv4, hs4⟩ := bSok_c hs3
        obtain ⟨z1, rfl, hz1⟩ := bVok_int hv1
        obtain ⟨z2, rfl, hz2⟩ := bVok_int hv2
        obtain ⟨z3, rfl, hz3⟩ := bVok_int hv3
        have := bVok_one hv4
        subst this
        have := bSok_n hs4
        subst this
        have h05 : ρ5 0 = 0 := hA5.env.1.1
        have e25 : ρ5 2 = kI σ2 87 22 := hA5.ext 2 (show 2 < 4 by decide)
        have e35 : ρ5 3 = kI σ4 87 22 := hA5.ext 3 (show 3 < 4 by decide)
        have hz1 : z1.toInt = ρ5 3 + 0 := hz1.2
        have hz2 : z2.toInt = ρ5 2 + 0 := hz2.2
        have hz3 : z3.toInt = ρ5 0 + (w : Int) := hz3.2
        have s5 : kSm 0 σ5 σ4 := hA5.sm
        have hI5 := kIv_sm hI4 (hA5.ok rfl) (hA5.kp (show bFg 0 = true by decide +kernel)) s5 (Nat.zero_testBit _) (Nat.zero_testBit _) (Nat.zero_testBit _) (Nat.zero_testBit _) (Nat.zero_testBit _) (Nat.zero_testBit _)
        have o10 : kI σ5 87 10 = kI σ4 87 10 := s5.i (Nat.zero_testBit _)
        have o14 : kI σ5 87 14 = kI σ4 87 14 := s5.i (Nat.zero_testBit _)
        have o15 : kI σ5 87 15 = kI σ4 87 15 := s5.i (Nat.zero_testBit _)
        show pmWp ro 2 (bMk bSp 159).1 159 (bMk bSp 159).2.2.1 177 cl5 _ σ5 (kQat σ)
        rw [kM159.1, kM159.2]
        exact kAtSay h hL hcs hw5 (by omega) ⟨by omega, by omega⟩ ⟨by omega, by omega⟩ hI5 (by omega) (kSm.tr (kSm.le s5 (by decide +kernel)) sm4) (by omega) (show bLok 4 ρ5 kN3 cl5 from hA5.2.1)
end
end
