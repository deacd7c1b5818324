section
/-! by hand: how the class takes a wish: add, read, wish -/
section
set_option maxRecDepth 100000
variable {ro : Nat → Nat × (Nat → Int32)} {L : aLa} {Kp : pmS → Prop} {σ0 σ σ' : pmS} {ρ ρ' ρ0 : Nat → Int} {cl : pmL} {cs vs : List Value} {Q Q' : Option Value → pmS → Prop} {d o m rt pc mm n nC p k : Nat} {x : Int32} {pl : pmL} {st rest : List Value}
/-- a call on an object -/
theorem pmWp_iv {k a b : Nat} {y : MethodName} {bb : ByteArray} {oo nn mx r : Nat} {ev : Nat × Nat × Nat × Nat} {c : Bool} {n2 : Nat} {rs : List (Option Nat)} {u : Nat × Bool} {as : List Value} (hi : pmCode m pc = some (.invokevirtual k)) {X : _} (hm : pmM o k = some (mm, X)) (hq : pmInf[mm]? = some (y, bb, (oo, nn, mx, r), (0, ev))) (hd : st.drop nn = .ref p :: rest) (ht : (st.take nn).reverse = as) (hp : σ.1[p]? = some (oo, n2, rs)) (hcat : pmCats rest ≤ 8) (hw : pmCs ro d mm (.ref p :: as) σ (fun r σ' => pmWp ro d o m rt (pc + 3) pl (r.toList ++ rest) σ' Q)) : pmWp ro d o m rt pc pl st σ Q := by
  refine (pmWp_call hi hcat (fun call => ?_)).mpr hw
  obtain ⟨x1, x2⟩ := X
  simp only [pmStep, hm, hq, hd, hp, ht]
  rw [if_pos trivial]
/-- arraycopy of ints -/
theorem pmWp_cpy {k a b na nb : Nat} {ra rb : List (Option Nat)} {sp dp s : Int32} {X : _} (hi : pmCode m pc = some (.invokestatic k)) (hm : pmM o k = some (9000, X)) (ha : σ.1[a]? = some (50, na, ra)) (hb : σ.1[b]? = some (50, nb, rb)) (hc : ¬ sp < 0 ∧ ¬ dp < 0 ∧ ¬ s < 0 ∧ sp.toNatClampNeg + s.toNatClampNeg ≤ na ∧ dp.toNatClampNeg + s.toNatClampNeg ≤ nb) (hcat : pmCats rest ≤ 8) (hw : pmWp ro d o m rt (pc + 3) pl rest (σ.1, pmRow σ.2.1 b (va_cpy (σ.2.1 a) (σ.2.1 b) sp.toNatClampNeg dp.toNatClampNeg s.toNatClampNeg), σ.2.2) Q) : pmWp ro d o m rt pc pl (.int s :: .int dp :: .ref b :: .int sp :: .ref a :: rest) σ Q := by
  refine pmWp_1 hi ?_ hw
  obtain ⟨x1, x2⟩ := X
  simp only [pmStep, hm, pmCopy, ha, hb]
  rw [if_pos trivial, if_pos hcat, if_pos hc, if_pos ⟨trivial, trivial⟩]
  rfl
def kW31 : Nat := 1856910058928070678636904448
/-! add -/
def kE46 (p k : Nat) : aE := [(.ofNat 0, .ofNat 0), (.ofNat 0, .ofNat 3072), (.ofNat p, .ofNat p), (.ofNat 1, .ofNat 9), (.ofNat 0, .ofNat 40), (.ofNat k, .ofNat k)]
def kA46 (p k : Nat) : bNq := bPc 1 46 0 [some (.inr [7]), some (.inl (false, 2, .ofNat 0)), some (.inl (false, 3, .ofNat 0)), some (.inr [32]), some (.inl (false, 4, .ofNat 0)), none, none, none] [] (kE46 p k) [] [(12, [(p, .inl (5, .ofNat 0))])] 0
def kL46 (p : Nat) : bL := [some (.inr [7]), some (.inl (false, 2, .ofNat 0)), some (.inl (false, 3, .ofNat 0)), some (.inr [32]), some (.inl (false, 4, .ofNat 0)), some (.inl (false, 5, .ofNat 0)), some (.inl (false, 5, .ofNat (3 * p))), none]
def kB50 (p k : Nat) : bNq := bPc 1 46 50 (kL46 p) [.inl (false, 0, .ofNat 40), .inl (false, 0, .ofNat (40 * (3 * p + k))), .inr [8], .inl (false, 0, .ofNat 0), .inr [32]] (kE46 p k) [] [] 0
def kA53 (p k : Nat) : bNq := bPc 1 46 53 (kL46 p) [] (kE46 p k) [] [] 0
def kB61 (p k : Nat) : bNq := bPc 1 46 61 (kL46 p) [.inl (false, 4, .ofNat 0), .inl (false, 5, .ofNat (3 * p)), .inr [9]] (kE46 p k) [] [] 0
def kA62 (p k : Nat) : bNq := bPc 1 46 62 (kL46 p) [] (kE46 p k) [] [(12, [(p, .inl (5, .ofNat 0))])] 0
def kC46 : List (Nat × Nat) := [(1, 0), (1, 1), (1, 2), (2, 0), (2, 1), (2, 2), (3, 0), (3, 1), (3, 2)]
theorem kS46 : (kC46.all fun q => bSeg (bCc []) bNo [kB50 q.1 q.2] (kA46 q.1 q.2) [] && (bSeg (bCc []) bNo [kB61 q.1 q.2] (kA53 q.1 q.2) [] && bSeg (bCc []) (bFi 6 [(some (.inl (false, 5, .ofNat 0)), kE46 q.1 q.2, [])] kW31) [] (kA62 q.1 q.2) [])) = true := by decide +kernel
theorem kS46n : (([1, 2, 3] : List Nat).all fun p => bSeg (bCc []) (bFi 6 [(some (.inl (false, 0, .negSucc 0)), kE46 p 3, [])] 0) [] (kA46 p 3) []) = true := by decide +kernel
theorem kM46 : (bMk bSp 46).1 = 9 ∧ (bMk bSp 46).2.2.1 = 1 := by decide +kernel
/-- an end that tells one int -/
theorem bFi_int {n : Nat} {E : aE} {W : Nat} {f : aF} (hC : 2 ≤ n) (hE : E.length = n) (hf : f.1 < n) : bFinOk L n ρ Kp σ (bFi n [(some (.inl (false, f)), E, [])] W) fun v σ' => ∃ x : Int32, v = some (.int x) ∧ x.toInt = ρ f.1 + f.2 ∧ (∀ i, E[f.1]? = some i → i.1 ≤ ρ f.1 ∧ ρ f.1 ≤ i.2) ∧ kOk σ' ∧ (bFg W = true → Kp σ') ∧ kSm W σ' σ := bFin_mono (bFi_ok (E0 := E) hC hE (Nat.le_refl _) aExt.rf) fun v σ' hh => by
  obtain ⟨al, hm, ρ', a1, a2, a3, a4, a5⟩ := hh
  rw [List.mem_singleton] at hm
  subst hm
  cases v with
  | none => exact a4.elim
  | some v =>
    obtain ⟨x, rfl, hx⟩ := bVok_int a4
    have e := a1 f.1 (by rw [hE]; exact hf)
    refine ⟨x, rfl, by rw [hx.2, e], fun i hi => ?_, ⟨a5.1, fun p k => a5.2.1 p k⟩, a5.2.2.2.2, a5.2.2.2.1⟩
    rw [← e]
    exact a3.2 _ i hi
def kPostI (lo hi : Int) (σ : pmS) : Option Value → pmS → Prop := fun v σ' => ∃ x : Int32, v = some (.int x) ∧ lo ≤ x.toInt ∧ x.toInt ≤ hi ∧ kOk σ' ∧ kP σ' ∧ kSm kW31 σ' σ
def kR46 (L : aLa) (p w s k : Int) : Nat → Int := fun v => match v with
  | 0 => 0
  | 1 => L.1
  | 2 => p
  | 3 => w
  | 4 => s
  | 5 => k
  | _ => 0
theorem kTrue (h : bHyp ro L Kp) : bHyp ro L fun _ => True := ⟨fun _ _ _ _ _ => trivial, h.2⟩
theorem kI_z {p k : Nat} (hb : bLo p k = false) : bZ σ p k = kI σ p k := by
  unfold bZ
  rw [hb]
  rfl
theorem kAdd (h : bHyp ro L kP) {pv w s : Int32} (hL : 0 ≤ L.1 ∧ L.1 ≤ 3072) (hok : kOk σ) (hP : kP σ) (hp : 1 ≤ pv.toInt ∧ pv.toInt ≤ 3) (hw : 1 ≤ w.toInt ∧ w.toInt ≤ 9) (hs : 0 ≤ s.toInt ∧ s.toInt ≤ 40) (hv : ∀ i : Nat, (i : Int) < s.toInt → bIn kTok (kI σ 32 i)) : pmCs ro 2 46 [.ref 7, .int pv, .int w, .ref 32, .int s] σ (kPostI (-1) 2 σ) := by
  obtain ⟨p, hpv⟩ : ∃ p : Nat, pv.toInt = p := ⟨pv.toInt.toNat, by omega⟩
  have hg12 : ∀ j, bGe 12 j = [(0, 3)] := fun j => bGu_ok (by decide +kernel) j
  have hkz : bZ σ 12 p = kI σ 12 p := kI_z rfl
  have hkb : 0 ≤ kI σ 12 p ∧ kI σ 12 p ≤ 3 := by
    have := hok.2 12 p
    rw [hg12, hkz] at this
    obtain ⟨i, hi, g1, g2⟩ := this
    rw [List.mem_singleton] at hi
    subst hi
    exact ⟨g1, g2⟩
  obtain ⟨k, hk⟩ : ∃ k : Nat, kI σ 12 p = k := ⟨(kI σ 12 p).toNat, by omega⟩
  have hE : aEok L (kR46 L p w.toInt s.toInt k) (kE46 p k) := by
    refine ⟨⟨rfl, rfl, (by decide : 1 < 6)⟩, fun v j hj => ?_⟩
    match v, hj with
    | 0, hj => cases hj; exact ⟨Int.le_refl _, Int.le_refl _⟩
    | 1, hj => cases hj; exact hL
    | 2, hj => cases hj; exact ⟨Int.le_refl _, Int.le_refl _⟩
    | 3, hj => cases hj; exact hw
    | 4, hj => cases hj; exact hs
    | 5, hj => cases hj; exact ⟨Int.le_refl _, Int.le_refl _⟩
    | v + 6, hj => cases hj
  refine bEc_ok (n := 6) (ρ := kR46 L p w.toInt s.toInt k) (aB := [.inr [7], .inl (false, 2, .ofNat 0), .inl (false, 3, .ofNat 0), .inr [32], .inl (false, 4, .ofNat 0)]) (pl := [some (.inr [7]), some (.inl (false, 2, .ofNat 0)), some (.inl (false, 3, .ofNat 0)), some (.inr [32]), some (.inl (false, 4, .ofNat 0)), none, none, none]) (by decide +kernel) ⟨List.mem_singleton.mpr rfl, ⟨(by decide : 2 < 6), by rw [hpv]; exact (Int.add_zero _).symm⟩, ⟨(by decide : 3 < 6), (Int.add_zero _).symm⟩, List.mem_singleton.mpr rfl, ⟨(by decide : 4 < 6), (Int.add_zero _).symm⟩, trivial⟩ fun cl hl => ?_
  have hM0 : bMok 6 (kR46 L p w.toInt s.toInt k) kP σ ([(12, [(p, .inl (5, .ofNat 0))])], [], 0) σ := ⟨hok.1, bHok_c (kOk_hok hok) rfl (by decide) (by rw [hkz, hk]; exact (Int.add_zero _).symm), fun q hq => absurd hq List.not_mem_nil, fun p k _ => ⟨rfl, rfl⟩, fun _ => hP⟩
  by_cases hk3 : k = 3
  · subst hk3
    have hc := List.all_eq_true.mp kS46n p (by simp only [List.mem_cons, List.not_mem_nil, or_false]; omega)
    refine bSeg_ok (E := kE46 p 3) h bCn_ok hc (fun B hB => absurd hB List.not_mem_nil) (aXok0 hE) hM0 hl trivial (bFin_mono (bFi_int (show 2 ≤ 6 by decide) rfl (show 0 < 6 by decide)) fun v σ' hh => ?_) (fun B hB => absurd hB List.not_mem_nil)
    obtain ⟨x, rfl, g1, g2, g3, g4, g5⟩ := hh
    have g1 : x.toInt = 0 + (-1) := g1
    exact ⟨x, rfl, by omega, by omega, g3, g4 (by decide +kernel), kSm.le g5 (by decide +kernel)⟩
  · have hmem : (p, k) ∈ kC46 := by
      have : (p = 1 ∨ p = 2 ∨ p = 3) ∧ (k = 0 ∨ k = 1 ∨ k = 2) := by omega
      obtain ⟨rfl | rfl | rfl, rfl | rfl | rfl⟩ := this <;> decide
    have hc := List.all_eq_true.mp kS46 _ hmem
    simp only [Bool.and_eq_true] at hc
    obtain ⟨c1, c2, c3⟩ := hc
    refine bSeg_ok (E := kE46 p k) h bCn_ok c1 (fun B hB => by rw [List.mem_singleton.mp hB]; rfl) (aXok0 hE) hM0 hl trivial bNo_ok ?_
    intro B hB ρ1 cl1 cs1 σ1 hA
    rw [List.mem_singleton] at hB
    subst hB
    obtain ⟨v1, r1, rfl, hv1, hs1⟩ := bSok_c (show bSok 6 ρ1 [.inl (false, 0, .ofNat 40), .inl (false, 0, .ofNat (40 * (3 * p + k))), .inr [8], .inl (false, 0, .ofNat 0), .inr [32]] cs1 from hA.2.2)
    obtain ⟨v2, r2, rfl, hv2, hs2⟩ := bSok_c hs1
    obtain ⟨v3, r3, rfl, hv3, hs3⟩ := bSok_c hs2
    obtain ⟨v4, r4, rfl, hv4, hs4⟩ := bSok_c hs3
    obtain ⟨v5, r5, rfl, hv5, hs5⟩ := bSok_c hs4
    obtain ⟨x1, rfl, hx1⟩ := bVok_int hv1
    obtain ⟨x2, rfl, hx2⟩ := bVok_int hv2
    have := bVok_one hv3
    subst this
    obtain ⟨x4, rfl, hx4⟩ := bVok_int hv4
    have := bVok_one hv5
    subst this
    have := bSok_n hs5
    subst this
    have h0 : ρ1 0 = 0 := hA.env.1.1
    have hx1 : x1.toInt = ρ1 0 + 40 := hx1.2
    have hx2 : x2.toInt = ρ1 0 + ((40 * (3 * p + k) : Nat) : Int) := hx2.2
    have hx4 : x4.toInt = ρ1 0 + 0 := hx4.2
    have hall := kAll (show kSm 0 σ1 σ from hA.sm)
    have hok1 := hA.ok rfl
    have hE1 : aEok L ρ1 (kE46 p k) := hA.env
    have n1 : x1.toNatClampNeg = 40 := by show x1.toInt.toNat = 40; omega
    have n2 : x2.toNatClampNeg = 40 * (3 * p + k) := by show x2.toInt.toNat = _; omega
    have n4 : x4.toNatClampNeg = 0 := by show x4.toInt.toNat = 0; omega
    unfold bWa
    rw [show (kB50 p k).2.1 = 46 from rfl, kM46.1, kM46.2, show (kB50 p k).2.2.1 = 50 from rfl]
    refine pmWp_cpy (k := 27) (X := (720, false)) (na := 40) (nb := 480) (ra := []) (rb := []) rfl rfl (by rw [hok1.1]; rfl) (by rw [hok1.1]; rfl) ⟨aNn.mpr (by omega), aNn.mpr (by omega), aNn.mpr (by omega), by omega, by omega⟩ (by decide) ?_
    rw [n1, n2, n4]
    generalize hσ2 : (σ1.1, pmRow σ1.2.1 8 (va_cpy (σ1.2.1 32) (σ1.2.1 8) 0 (40 * (3 * p + k)) 40), σ1.2.2) = σ2
    have hg8 : ∀ j, bGe 8 j = [(-2147483648, 2147483647)] := fun j => bGu_ok (by decide +kernel) j
    have t8 : ∀ q, q ≠ 8 → σ2.2.1 q = σ1.2.1 q := fun q hq => by
      rw [← hσ2]
      funext j
      show (if q = 8 then _ else σ1.2.1 q j) = _
      rw [if_neg hq]
    have t9 : ∀ j, σ2.2.1 8 j = if 40 * (3 * p + k) ≤ j ∧ j < 40 * (3 * p + k) + 40 then σ1.2.1 32 (j - 40 * (3 * p + k)) else σ1.2.1 8 j := fun j => by
      rw [← hσ2]
      show va_cpy (σ1.2.1 32) (σ1.2.1 8) 0 (40 * (3 * p + k)) 40 j = _
      unfold va_cpy
      rw [Nat.zero_add]
    have tl : σ2.2.2 = σ1.2.2 := by rw [← hσ2]
    have hok2 : kOk σ2 := by
      refine ⟨fun q => by rw [← hσ2]; exact hok1.1 q, fun q j => ?_⟩
      by_cases c : q = 8
      · subst c
        rw [hg8, kI_z rfl]
        exact bIn_i rfl
      · have : bZ σ2 q j = bZ σ1 q j := by
          unfold bZ
          rw [t8 q c, tl]
        rw [this]
        exact hok1.2 q j
    have hsm2 : kSm kW31 σ2 σ1 := fun q j hq => by
      have : q ≠ 8 := fun e => by
        subst e
        rw [bRg_sing (by decide +kernel) j 0] at hq
        revert hq
        decide +kernel
      exact ⟨by rw [t8 q this], by rw [tl]⟩
    have hl1 : bLok 6 ρ1 (kL46 p) cl1 := hA.2.1
    have hgo := bSeg_ok (Kp := fun _ => True) (σ := σ2) (σ0 := σ2) (ρ := ρ1) (E := kE46 p k) (cl := cl1) (cs := []) (Q := kPostI (-1) 2 σ) (kTrue h) bCn_ok c2 (fun B hB => by rw [List.mem_singleton.mp hB]; rfl) (aXok0 hE1) (kOk_mok hok2 trivial) hl1 trivial bNo_ok ?_
    · rw [kM46.1, kM46.2] at hgo
      exact hgo
    intro B hB ρ3 cl3 cs3 σ3 hA3
    rw [List.mem_singleton] at hB
    subst hB
    obtain ⟨v1, r1, rfl, hv1, hs1⟩ := bSok_c (show bSok 6 ρ3 [.inl (false, 4, .ofNat 0), .inl (false, 5, .ofNat (3 * p)), .inr [9]] cs3 from hA3.2.2)
    obtain ⟨v2, r2, rfl, hv2, hs2⟩ := bSok_c hs1
    obtain ⟨v3, r3, rfl, hv3, hs3⟩ := bSok_c hs2
    obtain ⟨y1, rfl, hy1⟩ := bVok_int hv1
    obtain ⟨y2, rfl, hy2⟩ := bVok_int hv2
    have := bVok_one hv3
    subst this
    have := bSok_n hs3
    subst this
    have e4 : ρ3 4 = s.toInt := (hA3.ext 4 (show 4 < 6 by decide)).trans (hA.ext 4 (show 4 < 6 by decide))
    have e5 : ρ3 5 = (k : Int) := (hA3.ext 5 (show 5 < 6 by decide)).trans (hA.ext 5 (show 5 < 6 by decide))
    have hy1 : y1.toInt = ρ3 4 + 0 := hy1.2
    have hy2 : y2.toInt = ρ3 5 + ((3 * p : Nat) : Int) := hy2.2
    have hall3 := kAll (show kSm 0 σ3 σ2 from hA3.sm)
    have hok3 := hA3.ok rfl
    have hE3 : aEok L ρ3 (kE46 p k) := hA3.env
    obtain ⟨hin, hn2⟩ := kNat (i := y2) (n := 12) (by omega) (by omega)
    have m2 : y2.toNatClampNeg = 3 * p + k := by omega
    unfold bWa
    rw [show (kB61 p k).2.1 = 46 from rfl, kM46.1, kM46.2, show (kB61 p k).2.2.1 = 61 from rfl]
    refine pmWp_ias (n := 12) (rs := []) rfl (by rw [hok3.1]; rfl) hin ?_
    rw [m2]
    generalize hσ4 : (σ3.1, pmUp σ3.2.1 9 (3 * p + k) y1, σ3.2.2) = σ4
    have hg9 : ∀ j, bGe 9 j = [(0, 40)] := fun j => bGu_ok (by decide +kernel) j
    have hok4 : kOk σ4 := by
      rw [← hσ4]
      exact kOk_upi hok3 rfl (by rw [hg9]; exact ⟨_, List.mem_singleton.mpr rfl, by show (0 : Int) ≤ y1.toInt; omega, by show y1.toInt ≤ (40 : Int); omega⟩)
    have s3 : σ3.2.1 = σ2.2.1 := funext fun q => funext fun j => (hall3 q j).1
    have s3l : σ3.2.2 = σ2.2.2 := funext fun q => funext fun j => (hall3 q j).2
    have s1 : σ1.2.1 = σ.2.1 := funext fun q => funext fun j => (hall q j).1
    have s1l : σ1.2.2 = σ.2.2 := funext fun q => funext fun j => (hall q j).2
    have w4 : ∀ q, q ≠ 8 → q ≠ 9 → σ4.2.1 q = σ.2.1 q := fun q hq hq2 => by
      rw [← hσ4]
      show pmUp σ3.2.1 9 (3 * p + k) y1 q = _
      rw [kUp_ne hq2, s3, t8 q hq, s1]
    have w4l : σ4.2.2 = σ.2.2 := by
      rw [← hσ4]
      show σ3.2.2 = _
      rw [s3l, tl, s1l]
    have w9 : ∀ w, kI σ4 9 w = if w = 3 * p + k then s.toInt else kI σ 9 w := fun w => by
      rw [← hσ4]
      show (if 9 = 9 ∧ w = 3 * p + k then y1 else σ3.2.1 9 w).toInt = _
      by_cases c : w = 3 * p + k
      · rw [if_pos ⟨rfl, c⟩, if_pos c]
        omega
      · rw [if_neg (fun e => c e.2), if_neg c, s3, t8 9 (by decide), s1]
        rfl
    have w8 : ∀ j, kI σ4 8 j = if 40 * (3 * p + k) ≤ j ∧ j < 40 * (3 * p + k) + 40 then kI σ 32 (j - 40 * (3 * p + k)) else kI σ 8 j := fun j => by
      rw [← hσ4]
      show (pmUp σ3.2.1 9 (3 * p + k) y1 8 j).toInt = _
      rw [kUp_ne (by decide), s3, t9 j, s1]
      split <;> rfl
    have hP4 : kP σ4 := by
      obtain ⟨g1, g2, g3⟩ := hP
      refine ⟨?_, ?_, fun w hw i hi => ?_⟩
      · unfold kMemo kI at g1 ⊢
        rw [w4 87 (by decide) (by decide), w4l]
        exact g1
      · unfold kCodes kI at g2 ⊢
        rw [w4 99 (by decide) (by decide), w4 98 (by decide) (by decide)]
        exact g2
      · rw [w9] at hi
        rw [w8]
        by_cases c : w = 3 * p + k
        · rw [if_pos c] at hi
          subst c
          rw [if_pos ⟨by omega, by omega⟩, show 40 * (3 * p + k) + i - 40 * (3 * p + k) = i by omega]
          exact hv i hi
        · rw [if_neg c] at hi
          have h40 : kI σ 9 w ≤ 40 := by
            have := hok.2 9 w
            rw [hg9, kI_z rfl] at this
            obtain ⟨i, hi, g1, g2⟩ := this
            rw [List.mem_singleton] at hi
            subst hi
            exact g2
          rw [if_neg (by omega)]
          exact g3 w hw i hi
    have hsm4 : kSm kW31 σ4 σ3 := by
      rw [← hσ4]
      refine kSm.upi ?_
      rw [bRg_sing (by decide +kernel) _ 0]
      decide +kernel
    have hl3 : bLok 6 ρ3 (kL46 p) cl3 := hA3.2.1
    have hend : bFinOk L 6 ρ3 kP σ4 (bFi 6 [(some (.inl (false, 5, .ofNat 0)), kE46 p k, [])] kW31) (kPostI (-1) 2 σ) := bFin_mono (bFi_int (by decide) rfl (by decide)) fun v σ' hh => by
      obtain ⟨x, rfl, g1, g2, g3, g4, g5⟩ := hh
      have g1 : x.toInt = ρ3 5 + 0 := g1
      have l0 : kSm kW31 σ1 σ := kSm.le (show kSm 0 σ1 σ from hA.sm) (by decide +kernel)
      have l3 : kSm kW31 σ3 σ2 := kSm.le (show kSm 0 σ3 σ2 from hA3.sm) (by decide +kernel)
      exact ⟨x, rfl, by omega, by omega, g3, g4 (by decide +kernel), kSm.tr g5 (kSm.tr hsm4 (kSm.tr l3 (kSm.tr hsm2 l0)))⟩
    have hgo := bSeg_ok (Kp := kP) (σ := σ4) (σ0 := σ4) (ρ := ρ3) (E := kE46 p k) (cl := cl3) (cs := []) (Q := kPostI (-1) 2 σ) h bCn_ok c3 (fun B hB => absurd hB List.not_mem_nil) (aXok0 hE3) ⟨hok4.1, bHok_c (kOk_hok hok4) rfl (show 5 < 6 by decide) (by
      rw [kI_z rfl]
      show (σ4.2.1 12 p).toInt = ρ3 5 + 0
      rw [w4 12 (by decide) (by decide), e5, ← hk, Int.add_zero]
      rfl), fun q hq => absurd hq List.not_mem_nil, fun p k _ => ⟨rfl, rfl⟩, fun _ => hP4⟩ hl3 trivial hend (fun B hB => absurd hB List.not_mem_nil)
    rw [kM46.1, kM46.2] at hgo
    exact hgo
end
end
section
/-! by hand: how the class takes a wish: read, wish -/
section
set_option maxRecDepth 100000
variable {ro : Nat → Nat × (Nat → Int32)} {L : aLa} {Kp : pmS → Prop} {σ0 σ σ' : pmS} {ρ ρ' ρ0 : Nat → Int} {cl : pmL} {cs vs : List Value} {Q Q' : Option Value → pmS → Prop} {d o m rt pc mm n nC p k : Nat} {x : Int32} {pl : pmL} {st rest : List Value}
def kE32 : aE := [(.ofNat 0, .ofNat 0), (.ofNat 0, .ofNat 3072), (.ofNat 1, .ofNat 40)]
def kL32 : bL := [some (.inr [31]), some (.inl (false, 2, .ofNat 0))]
def kA32 : bNq := bPc 30 32 0 kL32 [] kE32 [] [] 0
def kB10 : bNq := bPc 30 32 10 kL32 [.inl (false, 0, .ofNat 0), .inr [31]] kE32 [] [] 229376
def kA13 : bNq := bPc 30 32 13 kL32 [] kE32 [] [] 0
theorem kS32 : (bSeg (bCc [bC33]) bNo [kB10] kA32 [] && bSeg (bCc [bC34f, bC39]) (bFi 3 [(some (.inl (false, 3, .ofNat 0)), kE32 ++ [(.negSucc 5399, .ofNat 0)], [(1, [(4, .inl (3, .ofNat 0))])])] kW31) [] kA13 []) = true := by decide +kernel
theorem kM32 : (bMk bSp 32).1 = 8 ∧ (bMk bSp 32).2.2.1 = 1 := by decide +kernel
def kPost32 (σ : pmS) : Option Value → pmS → Prop := fun v σ' => ∃ x : Int32, v = some (.int x) ∧ -5400 ≤ x.toInt ∧ x.toInt ≤ 0 ∧ kOk σ' ∧ kP σ' ∧ (x.toInt = 0 → ∀ i : Nat, (i : Int) < kI σ' 31 2 → bIn kTok (kI σ' 32 i)) ∧ kSm kW31 σ' σ
theorem kRead (h : bHyp ro L kP) (hq : bHyp ro L kQ) (h33 : bCok ro L kP bC33) (h34 : bCok ro L kQ bC34f) (h39 : bCok ro L kQ bC39) {nv : Int32} (hE : aEok L ρ [(.ofNat 0, .ofNat 0), (.ofNat 0, .ofNat 3072)]) (hok : kOk σ) (hP : kP σ) (hn : 1 ≤ nv.toInt ∧ nv.toInt ≤ 40) : pmCs ro 31 32 [.ref 31, .int nv] σ (kPost32 σ) := by
  have hE0 : aEok L (fun v => if v = 2 then nv.toInt else ρ v) kE32 := by
    refine ⟨⟨hE.1.1, hE.1.2.1, by decide⟩, fun v j hj => ?_⟩
    match v, hj with
    | 0, hj => cases hj; exact hE.2 0 _ rfl
    | 1, hj => cases hj; exact hE.2 1 _ rfl
    | 2, hj => cases hj; exact hn
    | v + 3, hj => cases hj
  have hk := kS32
  rw [Bool.and_eq_true] at hk
  refine bEc_ok (n := 3) (ρ := fun v => if v = 2 then nv.toInt else ρ v) (aB := [.inr [31], .inl (false, 2, .ofNat 0)]) (pl := kL32) (by decide +kernel) ⟨List.mem_singleton.mpr rfl, ⟨(by decide : 2 < 3), (Int.add_zero _).symm⟩, trivial⟩ fun cl hl => ?_
  refine bSeg_ok (E := kE32) h (fun σ0 => bCc_ok (bAc h33 bAn)) hk.1 (fun B hB => by rw [List.mem_singleton.mp hB]; rfl) (aXok0 hE0) (kOk_mok hok hP) hl trivial bNo_ok ?_
  intro B hB ρ1 cl1 cs1 σ1 hA
  rw [List.mem_singleton] at hB
  subst hB
  obtain ⟨v1, r1, rfl, hv1, hs1⟩ := bSok_c (show bSok 3 ρ1 [.inl (false, 0, .ofNat 0), .inr [31]] cs1 from hA.2.2)
  obtain ⟨v2, r2, rfl, hv2, hs2⟩ := bSok_c hs1
  obtain ⟨y, rfl, hy⟩ := bVok_int hv1
  have := bVok_one hv2
  subst this
  have := bSok_n hs2
  subst this
  have hy : y.toInt = ρ1 0 + 0 := hy.2
  have h0 : ρ1 0 = 0 := hA.env.1.1
  have hok1 := hA.ok rfl
  have hP1 := hA.kp (by decide +kernel)
  unfold bWa
  rw [show kB10.2.1 = 32 from rfl, kM32.1, kM32.2]
  refine pmWp_pfi (k := 25) (ci := 8) (j := 2) (c1 := true) (a := true) rfl rfl rfl rfl (by rw [hok1.1]; rfl) ?_
  generalize hσ2 : (σ1.1, pmUp σ1.2.1 31 2 y, σ1.2.2) = σ2
  have hg31 : bGe 31 2 = [(0, 40)] := by decide +kernel
  have hok2 : kOk σ2 := by
    rw [← hσ2]
    exact kOk_upi hok1 (by decide +kernel) (by rw [hg31]; exact ⟨_, List.mem_singleton.mpr rfl, by show (0 : Int) ≤ y.toInt; omega, by show y.toInt ≤ (40 : Int); omega⟩)
  have hq2 : kQ σ2 := by
    refine ⟨by rw [← hσ2]; exact kP_upi hP1 (by decide) (by decide) (by decide) (by decide) (by decide), Or.inr fun i hi => ?_⟩
    exfalso
    rw [← hσ2] at hi
    have hi : (i : Int) < (pmUp σ1.2.1 31 2 y 31 2).toInt := hi
    rw [kUp_at] at hi
    omega
  have hsm2 : kSm kW31 σ2 σ1 := by
    rw [← hσ2]
    exact kSm.upi (by decide +kernel)
  have hsm1 : kSm kW31 σ1 σ := kSm.le (show kSm 229376 σ1 σ from hA.sm) (by decide +kernel)
  have hend : bFinOk L 3 ρ1 kQ σ2 (bFi 3 [(some (.inl (false, 3, .ofNat 0)), kE32 ++ [(.negSucc 5399, .ofNat 0)], [(1, [(4, .inl (3, .ofNat 0))])])] kW31) (kPost32 σ) := bFin_mono (bFi_ok (E0 := kE32) (by decide) rfl (Nat.le_refl _) aExt.rf) fun v σ' hh => by
    obtain ⟨al, hm, ρ', a1, a2, a3, a4, a5⟩ := hh
    rw [List.mem_singleton] at hm
    subst hm
    cases v with
    | none => exact a4.elim
    | some v =>
      obtain ⟨x, rfl, hx⟩ := bVok_int a4
      have hx : x.toInt = ρ' 3 + 0 := hx.2
      have b3 : (-5400 : Int) ≤ ρ' 3 ∧ ρ' 3 ≤ (0 : Int) := a3.2 3 _ rfl
      have hok' : kOk σ' := kOk_m (E := kE32 ++ [(.negSucc 5399, .ofNat 0)]) a3 (by decide +kernel) a5
      have hq' := a5.2.2.2.2 (by decide +kernel)
      have hz : bZ σ' 1 4 = ρ' 3 + 0 := (a5.2.1 1 4).2
      rw [kI_z (by decide +kernel)] at hz
      refine ⟨x, rfl, by omega, by omega, hok', hq'.1, fun hx0 => ?_, kSm.tr a5.2.2.2.1 (kSm.tr hsm2 hsm1)⟩
      rcases hq'.2 with hf | hv
      · exfalso
        exact hf (by omega)
      · exact hv
  have hgo := bSeg_ok (Kp := kQ) (σ := σ2) (σ0 := σ2) (ρ := ρ1) (E := kE32) (cl := cl1) (cs := []) (Q := kPost32 σ) hq (fun σ0 => bCc_ok (bAc h34 (bAc h39 bAn))) hk.2 (fun B hB => absurd hB List.not_mem_nil) (aXok0 hA.env) (kOk_mok hok2 hq2) hA.2.1 trivial hend (fun B hB => absurd hB List.not_mem_nil)
  rw [kM32.1, kM32.2] at hgo
  exact hgo
/-! wish -/
def kE31 : aE := [(.ofNat 0, .ofNat 0), (.ofNat 0, .ofNat 3072), (.negSucc 2147483647, .ofNat 2147483647), (.negSucc 2147483647, .ofNat 2147483647), (.negSucc 2147483647, .ofNat 2147483647)]
def kF31 : aE := [(.ofNat 0, .ofNat 0), (.ofNat 0, .ofNat 3072), (.ofNat 1, .ofNat 3), (.ofNat 1, .ofNat 9), (.ofNat 1, .ofNat 40)]
def kL31 : bL := [some (.inr [0]), some (.inl (false, 2, .ofNat 0)), some (.inl (false, 3, .ofNat 0)), some (.inl (false, 4, .ofNat 0)), none, none]
def kA31 : bNq := bPc 39 31 0 kL31 [] kE31 [] [] 0
def kB79 : bNq := bPc 39 31 79 kL31 [.inl (false, 4, .ofNat 0), .inr [31]] kF31 [] [] 0
def kA82 : bNq := bPc 39 31 82 kL31 [.inl (false, 5, .ofNat 0)] (kF31 ++ [(.negSucc 5399, .ofNat 0)]) [] [] 0
def kB121 : bNq := bPc 39 31 121 kL31 [.inl (false, 6, .ofNat 0), .inr [32], .inl (false, 3, .ofNat 0), .inl (false, 2, .ofNat 0), .inr [7]] (kF31 ++ [(.ofNat 0, .ofNat 0), (.ofNat 0, .ofNat 40)]) [] [(31, [(2, .inl (6, .ofNat 0))])] 16384
theorem kS31 : (bSeg (bCc []) (bFi 5 [(some (.inl (false, 0, .negSucc 0)), kE31, [])] 0) [kB79] kA31 [] && bSeg (bCc []) (bFi 6 [(some (.inl (false, 5, .ofNat 0)), kF31 ++ [(.negSucc 5399, .ofNat 0)], [])] 16384) [kB121] kA82 []) = true := by decide +kernel
theorem kM31 : (bMk bSp 31).1 = 11 ∧ (bMk bSp 31).2.2.1 = 1 := by decide +kernel
theorem kWish (h : bHyp ro L kP) (hq : bHyp ro L kQ) (h33 : bCok ro L kP bC33) (h34 : bCok ro L kQ bC34f) (h39 : bCok ro L kQ bC39) : bCok ro L kP bC31 := by
  intro ρ vs σ hE hM hs
  have hE : aEok L ρ kE31 := hE
  have hM : bMok 5 ρ kP σ ([], [], 0) σ := hM
  have hs : bSok 5 ρ [.inr [0], .inl (false, 2, .ofNat 0), .inl (false, 3, .ofNat 0), .inl (false, 4, .ofNat 0)] vs := hs
  have hok := kOk_of hM
  have hN : 0 ≤ L.1 ∧ L.1 ≤ 3072 := by
    obtain ⟨_, Ln, xs, _, e2, e3⟩ := h
    rw [e2]
    exact ⟨by show (0 : Int) ≤ (Ln : Int); omega, by show (Ln : Int) ≤ 3072; omega⟩
  have hk := kS31
  rw [Bool.and_eq_true] at hk
  suffices hg : pmCs ro 40 31 vs σ (kPostI (-5400) 2 σ) by
    refine pmCs_mono hg ?_
    rintro v σ' ⟨x, rfl, x1, x2, x3, x4, x5⟩
    refine ⟨_, List.mem_singleton.mpr rfl, fun v => if v = 5 then x.toInt else ρ v, fun v hv => if_neg (by have hv : v < 5 := hv; omega), by decide, ⟨⟨hE.1.1, hE.1.2.1, by decide⟩, fun v j hj => ?_⟩, ⟨(by decide : 5 < 6), (Int.add_zero _).symm⟩, x3.1, fun p k => x3.2 p k, fun q hq => absurd hq List.not_mem_nil, x5, fun _ => x4⟩
    match v, hj with
    | 0, hj => cases hj; exact hE.2 0 _ rfl
    | 1, hj => cases hj; exact hE.2 1 _ rfl
    | 2, hj => cases hj; exact hE.2 2 _ rfl
    | 3, hj => cases hj; exact hE.2 3 _ rfl
    | 4, hj => cases hj; exact hE.2 4 _ rfl
    | 5, hj => cases hj; exact ⟨x1, x2⟩
    | v + 6, hj => cases hj
  refine bEc_ok (pl := kL31) (by decide +kernel) hs fun cl hl => ?_
  have hend : bFinOk L 5 ρ kP σ (bFi 5 [(some (.inl (false, 0, .negSucc 0)), kE31, [])] 0) (kPostI (-5400) 2 σ) := bFin_mono (bFi_int (by decide) rfl (by decide)) fun v σ' hh => by
    obtain ⟨x, rfl, g1, g2, g3, g4, g5⟩ := hh
    have g1 : x.toInt = ρ 0 + (-1) := g1
    have h0 := hE.1.1
    exact ⟨x, rfl, by omega, by omega, g3, g4 (by decide +kernel), kSm.le g5 (by decide +kernel)⟩
  refine bSeg_ok (E := kE31) h bCn_ok hk.1 (fun B hB => by rw [List.mem_singleton.mp hB]; rfl) (aXok0 hE) hM hl trivial hend ?_
  intro B hB ρ1 cl1 cs1 σ1 hA
  rw [List.mem_singleton] at hB
  subst hB
  obtain ⟨v1, r1, rfl, hv1, hs1⟩ := bSok_c (show bSok 5 ρ1 [.inl (false, 4, .ofNat 0), .inr [31]] cs1 from hA.2.2)
  obtain ⟨v2, r2, rfl, hv2, hs2⟩ := bSok_c hs1
  obtain ⟨y, rfl, hy⟩ := bVok_int hv1
  have := bVok_one hv2
  subst this
  have := bSok_n hs2
  subst this
  have hy : y.toInt = ρ1 4 + 0 := hy.2
  have b4 : (1 : Int) ≤ ρ1 4 ∧ ρ1 4 ≤ (40 : Int) := hA.env.2 4 _ rfl
  have hok1 := hA.ok rfl
  have hP1 := hA.kp (by decide +kernel)
  have hE1 : aEok L ρ1 kF31 := hA.env
  have l1 : kSm kW31 σ1 σ := kSm.le (show kSm 0 σ1 σ from hA.sm) (by decide +kernel)
  unfold bWa
  rw [show kB79.2.1 = 31 from rfl, kM31.1, kM31.2, show kB79.2.2.1 = 79 from rfl, show kB79.1 = 39 from rfl]
  refine pmWp_iv (k := 170) (mm := 32) (nn := 1) (oo := 8) (p := 31) (rest := []) (as := [.int y]) (u := (0, true)) (a := 0) (b := 0) (c := true) rfl rfl rfl rfl rfl (by rw [hok1.1]; rfl) (by decide) ?_
  refine pmCs_mono (pmCs_deep (kRead (ρ := ρ1) h hq h33 h34 h39 ⟨⟨hE1.1.1, hE1.1.2.1, by decide⟩, fun v j hj => ?_⟩ hok1 hP1 (by omega)) (by decide)) ?_
  · match v, hj with
    | 0, hj => cases hj; exact hE1.2 0 _ rfl
    | 1, hj => cases hj; exact hE1.2 1 _ rfl
    | v + 2, hj => cases hj
  rintro v σ2 ⟨x, rfl, x1, x2, hok2, hP2, hv2, hsm2⟩
  have hE2 : aEok L (fun v => if v = 5 then x.toInt else ρ1 v) (kF31 ++ [(.negSucc 5399, .ofNat 0)]) := by
    refine ⟨⟨hE1.1.1, hE1.1.2.1, by decide⟩, fun v j hj => ?_⟩
    match v, hj with
    | 0, hj => cases hj; exact hE1.2 0 _ rfl
    | 1, hj => cases hj; exact hE1.2 1 _ rfl
    | 2, hj => cases hj; exact hE1.2 2 _ rfl
    | 3, hj => cases hj; exact hE1.2 3 _ rfl
    | 4, hj => cases hj; exact hE1.2 4 _ rfl
    | 5, hj => cases hj; exact ⟨x1, x2⟩
    | v + 6, hj => cases hj
  have hl2 : bLok 6 (fun v => if v = 5 then x.toInt else ρ1 v) kL31 cl1 := (show bLok 5 ρ1 kL31 cl1 from hA.2.1).ext (by decide) fun v hv => if_neg (by omega)
  have hend2 : bFinOk L 6 (fun v => if v = 5 then x.toInt else ρ1 v) kP σ2 (bFi 6 [(some (.inl (false, 5, .ofNat 0)), kF31 ++ [(.negSucc 5399, .ofNat 0)], [])] 16384) (kPostI (-5400) 2 σ) := bFin_mono (bFi_int (by decide) rfl (by decide)) fun v σ' hh => by
    obtain ⟨z, rfl, g1, g2, g3, g4, g5⟩ := hh
    have g1 : z.toInt = x.toInt + 0 := g1
    exact ⟨z, rfl, by omega, by omega, g3, g4 (by decide +kernel), kSm.tr (kSm.le g5 (by decide +kernel)) (kSm.tr hsm2 l1)⟩
  have hgo := bSeg_ok (Kp := kP) (σ := σ2) (σ0 := σ2) (ρ := fun v => if v = 5 then x.toInt else ρ1 v) (pl := kL31) (st := [.inl (false, 5, .ofNat 0)]) (E := kF31 ++ [((.negSucc 5399, .ofNat 0) : aI)]) (cl := cl1) (cs := [.int x]) (Q := kPostI (-5400) 2 σ) h bCn_ok hk.2 (fun B hB => by rw [List.mem_singleton.mp hB]; rfl) (aXok0 hE2) (kOk_mok hok2 hP2) hl2 ⟨⟨(by decide : 5 < 6), (Int.add_zero _).symm⟩, trivial⟩ hend2 ?_
  · rw [kM31.1, kM31.2] at hgo
    exact hgo
  intro B hB ρ3 cl3 cs3 σ3 hA3
  rw [List.mem_singleton] at hB
  subst hB
  obtain ⟨v1, r1, rfl, hv1, hs1⟩ := bSok_c (show bSok 7 ρ3 [.inl (false, 6, .ofNat 0), .inr [32], .inl (false, 3, .ofNat 0), .inl (false, 2, .ofNat 0), .inr [7]] cs3 from hA3.2.2)
  obtain ⟨w2, r2, rfl, hw2, hs2⟩ := bSok_c hs1
  obtain ⟨w3, r3, rfl, hw3, hs3⟩ := bSok_c hs2
  obtain ⟨w4, r4, rfl, hw4, hs4⟩ := bSok_c hs3
  obtain ⟨w5, r5, rfl, hw5, hs5⟩ := bSok_c hs4
  obtain ⟨s, rfl, hss⟩ := bVok_int hv1
  have := bVok_one hw2
  subst this
  obtain ⟨wt, rfl, hwt⟩ := bVok_int hw3
  obtain ⟨pv, rfl, hpv⟩ := bVok_int hw4
  have := bVok_one hw5
  subst this
  have := bSok_n hs5
  subst this
  have hss : s.toInt = ρ3 6 + 0 := hss.2
  have hwt : wt.toInt = ρ3 3 + 0 := hwt.2
  have hpv : pv.toInt = ρ3 2 + 0 := hpv.2
  have hE3 : aEok L ρ3 (kF31 ++ [(.ofNat 0, .ofNat 0), (.ofNat 0, .ofNat 40)]) := hA3.env
  have c2 : (1 : Int) ≤ ρ3 2 ∧ ρ3 2 ≤ (3 : Int) := hE3.2 2 _ rfl
  have c3 : (1 : Int) ≤ ρ3 3 ∧ ρ3 3 ≤ (9 : Int) := hE3.2 3 _ rfl
  have c5 : (0 : Int) ≤ ρ3 5 ∧ ρ3 5 ≤ (0 : Int) := hE3.2 5 _ rfl
  have c6 : (0 : Int) ≤ ρ3 6 ∧ ρ3 6 ≤ (40 : Int) := hE3.2 6 _ rfl
  have e5 : ρ3 5 = x.toInt := hA3.ext 5 (by decide)
  have hok3 : kOk σ3 := kOk_m (E := kF31 ++ [(.ofNat 0, .ofNat 0), (.ofNat 0, .ofNat 40)]) hE3 (by decide +kernel) hA3.1.2.1
  have hP3 := hA3.kp (by decide +kernel)
  have hz : bZ σ3 31 2 = ρ3 6 + 0 := (hA3.1.2.1.2.1 31 2).2
  rw [kI_z (by decide +kernel)] at hz
  have hsm3 : kSm 16384 σ3 σ2 := hA3.sm
  have q1 : kI σ3 31 2 = kI σ2 31 2 := by
    unfold kI
    rw [(hsm3 31 2 (by decide +kernel)).1]
  have q2 : ∀ j, kI σ3 32 j = kI σ2 32 j := fun j => by
    unfold kI
    rw [(hsm3 32 j (by rw [bRg_sing (by decide +kernel) j 0]; decide +kernel)).1]
  unfold bWa
  rw [show kB121.2.1 = 31 from rfl, kM31.1, kM31.2, show kB121.2.2.1 = 121 from rfl, show kB121.1 = 39 from rfl]
  refine pmWp_iv (k := 182) (mm := 46) (nn := 4) (oo := 9) (p := 7) (rest := []) (as := [.int pv, .int wt, .ref 32, .int s]) (u := (0, true)) (a := 0) (b := 0) (c := true) rfl rfl rfl rfl rfl (by rw [hok3.1]; rfl) (by decide) ?_
  refine pmCs_mono (pmCs_deep (kAdd h hN hok3 hP3 (pv := pv) (w := wt) (s := s) (by omega) (by omega) (by omega) (fun i hi => ?_)) (by decide)) ?_
  · rw [q2]
    exact hv2 (by omega) i (by rw [← q1, hz]; omega)
  rintro v σ4 ⟨z, rfl, z1, z2, z3, z4, z5⟩
  refine (pmWp_ret (i := .ireturn) (r := some (.int z)) rfl rfl).mpr ?_
  exact ⟨z, rfl, by omega, z2, z3, z4, kSm.tr z5 (kSm.tr (kSm.le hsm3 (by decide +kernel)) (kSm.tr hsm2 l1))⟩
end
end
