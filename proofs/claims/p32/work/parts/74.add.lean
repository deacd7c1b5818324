/-! by hand: how the class takes a wish: add, read, wish -/
section
set_option maxRecDepth 100000
variable {ro : Nat → Nat × (Nat → Int32)} {L : aLa} {Kp : pmS → Prop} {σ0 σ σ' : pmS} {ρ ρ' ρ0 : Nat → Int} {cl : pmL} {cs vs : List Value} {Q Q' : Option Value → pmS → Prop} {d o m rt pc mm n nC p k : Nat} {x : Int32} {pl : pmL} {st rest : List Value}
/-- a call on an object -/
theorem pmWp_iv {k a b : Nat} {y : MethodName} {bb : ByteArray} {oo nn mx r : Nat} {ev : Nat × Nat × Nat × Nat} {c : Bool} {n2 : Nat} {rs : List (Option Nat)} {u : Nat × Bool} {as : List Value} (hi : pmCode m pc = some (.invokevirtual k)) {X : _} (hm : pmM o k = some (mm, X)) (hq : pmInf[mm]? = some (y, bb, (oo, nn, mx, r), (0, ev))) (hd : st.drop nn = .ref p :: rest) (ht : (st.take nn).reverse = as) (hp : σ.1[p]? = some (oo, n2, rs)) (hcat : pmCats rest ≤ 8) (hw : pmCs ro d mm (.ref p :: as) σ (fun r σ' => pmWp ro d o m rt (pc + 3) pl (r.toList ++ rest) σ' Q)) : pmWp ro d o m rt pc pl st σ Q := by
  refine (pmWp_call hi hcat (fun call => ?_)).mpr hw
  obtain ⟨x1, x2⟩ := X
  simp only [pmStep, hm, hq, hd, hp, ht]
  rw [if_pos trivial]
/-- arraycopy of ints -/
theorem pmWp_cpy {k a b na nb : Nat} {ra rb : List (Option Nat)} {sp dp s : Int32} {X : _} (hi : pmCode m pc = some (.invokestatic k)) (hm : pmM o k = some (9000, X)) (ha : σ.1[a]? = some (50, na, ra)) (hb : σ.1[b]? = some (50, nb, rb)) (hc : ¬ sp < 0 ∧ ¬ dp < 0 ∧ ¬ s < 0 ∧ sp.toNatClampNeg + s.toNatClampNeg ≤ na ∧ dp.toNatClampNeg + s.toNatClampNeg ≤ nb) (hcat : pmCats rest ≤ 8) (hw : pmWp ro d o m rt (pc + 3) pl rest (σ.1, pmRow σ.2.1 b (va_cpy (σ.2.1 a) (σ.2.1 b) sp.toNatClampNeg dp.toNatClampNeg s.toNatClampNeg), σ.2.2) Q) : pmWp ro d o m rt pc pl (.int s :: .int dp :: .ref b :: .int sp :: .ref a :: rest) σ Q := by
  refine pmWp_1 hi ?_ hw
  obtain ⟨x1, x2⟩ := X
  simp only [pmStep, hm, pmCopy, ha, hb]
  rw [if_pos trivial, if_pos hcat, if_pos hc, if_pos ⟨trivial, trivial⟩]
  rfl
def kW31 : Nat := 1856910058928070678636904448
/-! add -/
def kE46 (p k : Nat) : aE := [(.ofNat 0, .ofNat 0), (.ofNat 0, .ofNat 3072), (.ofNat p, .ofNat p), (.ofNat 1, .ofNat 9), (.ofNat 0, .ofNat 40), (.ofNat k, .ofNat k)]
def kA46 (p k : Nat) : bNq := bPc 1 46 0 [some (.inr [7]), some (.inl (false, 2, .ofNat 0)), some (.inl (false, 3, .ofNat 0)), some (.inr [32]), some (.inl (false, 4, .ofNat 0)), none, none, none] [] (kE46 p k) [] [(12, [(p, .inl (5, .ofNat 0))])] 0
def kL46 (p : Nat) : bL := [some (.inr [7]), some (.inl (false, 2, .ofNat 0)), some (.inl (false, 3, .ofNat 0)), some (.inr [32]), some (.inl (false, 4, .ofNat 0)), some (.inl (false, 5, .ofNat 0)), some (.inl (false, 5, .ofNat (3 * p))), none]
def kB50 (p k : Nat) : bNq := bPc 1 46 50 (kL46 p) [.inl (false, 0, .ofNat 40), .inl (false, 0, .ofNat (40 * (3 * p + k))), .inr [8], .inl (false, 0, .ofNat 0), .inr [32]] (kE46 p k) [] [] 0
def kA53 (p k : Nat) : bNq := bPc 1 46 53 (kL46 p) [] (kE46 p k) [] [] 0
def kB61 (p k : Nat) : bNq := bPc 1 46 61 (kL46 p) [.inl (false, 4, .ofNat 0), .inl (false, 5, .ofNat (3 * p)), .inr [9]] (kE46 p k) [] [] 0
def kA62 (p k : Nat) : bNq := bPc 1 46 62 (kL46 p) [] (kE46 p k) [] [(12, [(p, .inl (5, .ofNat 0))])] 0
def kC46 : List (Nat × Nat) := [(1, 0), (1, 1), (1, 2), (2, 0), (2, 1), (2, 2), (3, 0), (3, 1), (3, 2)]
theorem kS46 : (kC46.all fun q => bSeg (bCc []) bNo [kB50 q.1 q.2] (kA46 q.1 q.2) [] && (bSeg (bCc []) bNo [kB61 q.1 q.2] (kA53 q.1 q.2) [] && bSeg (bCc []) (bFi 6 [(some (.inl (false, 5, .ofNat 0)), kE46 q.1 q.2, [])] kW31) [] (kA62 q.1 q.2) [])) = true := by decide +kernel
theorem kS46n : (([1, 2, 3] : List Nat).all fun p => bSeg (bCc []) (bFi 6 [(some (.inl (false, 0, .negSucc 0)), kE46 p 3, [])] 0) [] (kA46 p 3) []) = true := by decide +kernel
theorem kM46 : (bMk bSp 46).1 = 9 ∧ (bMk bSp 46).2.2.1 = 1 := by decide +kernel
/-- an end that tells one int -/
theorem bFi_int {n : Nat} {E : aE} {W : Nat} {f : aF} (hC : 2 ≤ n) (hE : E.length = n) (hf : f.1 < n) : bFinOk L n ρ Kp σ (bFi n [(some (.inl (false, f)), E, [])] W) fun v σ' => ∃ x : Int32, v = some (.int x) ∧ x.toInt = ρ f.1 + f.2 ∧ (∀ i, E[f.1]? = some i → i.1 ≤ ρ f.1 ∧ ρ f.1 ≤ i.2) ∧ kOk σ' ∧ (bFg W = true → Kp σ') ∧ kSm W σ' σ := bFin_mono (bFi_ok (E0 := E) hC hE (Nat.le_refl _) aExt.rf) fun v σ' hh => by
  obtain ⟨al, hm, ρ', a1, a2, a3, a4, a5⟩ := hh
  rw [List.mem_singleton] at hm
  subst hm
  cases v with
  | none => exact a4.elim
  | some v =>
    obtain ⟨x, rfl, hx⟩ := bVok_int a4
    have e := a1 f.1 (by rw [hE]; exact hf)
    refine ⟨x, rfl, by rw [hx.2, e], fun i hi => ?_, ⟨a5.1, fun p k => a5.2.1 p k⟩, a5.2.2.2.2, a5.2.2.2.1⟩
    rw [← e]
    exact a3.2 _ i hi
def kPostI (lo hi : Int) (σ : pmS) : Option Value → pmS → Prop := fun v σ' => ∃ x : Int32, v = some (.int x) ∧ lo ≤ x.toInt ∧ x.toInt ≤ hi ∧ kOk σ' ∧ kP σ' ∧ kSm kW31 σ' σ
def kR46 (L : aLa) (p w s k : Int) : Nat → Int := fun v => match v with
  | 0 => 0
  | 1 => L.1
  | 2 => p
  | 3 => w
  | 4 => s
  | 5 => k
  | _ => 0
theorem kTrue (h : bHyp ro L Kp) : bHyp ro L fun _ => True := ⟨fun _ _ _ _ _ => trivial, h.2⟩
theorem kI_z {p k : Nat} (hb : bLo p k = false) : bZ σ p k = kI σ p k := by
  unfold bZ
  rw [hb]
  rfl
theorem kAdd (h : bHyp ro L kP) {pv w s : Int32} (hL : 0 ≤ L.1 ∧ L.1 ≤ 3072) (hok : kOk σ) (hP : kP σ) (hp : 1 ≤ pv.toInt ∧ pv.toInt ≤ 3) (hw : 1 ≤ w.toInt ∧ w.toInt ≤ 9) (hs : 0 ≤ s.toInt ∧ s.toInt ≤ 40) (hv : ∀ i : Nat, (i : Int) < s.toInt → bIn kTok (kI σ 32 i)) : pmCs ro 2 46 [.ref 7, .int pv, .int w, .ref 32, .int s] σ (kPostI (-1) 2 σ) := by
  obtain ⟨p, hpv⟩ : ∃ p : Nat, pv.toInt = p := ⟨pv.toInt.toNat, by omega⟩
  have hg12 : ∀ j, bGe 12 j = [(0, 3)] := fun j => bGu_ok (by decide +kernel) j
  have hkz : bZ σ 12 p = kI σ 12 p := kI_z rfl
  have hkb : 0 ≤ kI σ 12 p ∧ kI σ 12 p ≤ 3 := by
    have := hok.2 12 p
    rw [hg12, hkz] at this
    obtain ⟨i, hi, g1, g2⟩ := this
    rw [List.mem_singleton] at hi
    subst hi
    exact ⟨g1, g2⟩
  obtain ⟨k, hk⟩ : ∃ k : Nat, kI σ 12 p = k := ⟨(kI σ 12 p).toNat, by omega⟩
  have hE : aEok L (kR46 L p w.toInt s.toInt k) (kE46 p k) := by
    refine ⟨⟨rfl, rfl, (by decide : 1 < 6)⟩, fun v j hj => ?_⟩
    match v, hj with
    | 0, hj => cases hj; exact ⟨Int.le_refl _, Int.le_refl _⟩
    | 1, hj => cases hj; exact hL
    | 2, hj => cases hj; exact ⟨Int.le_refl _, Int.le_refl _⟩
    | 3, hj => cases hj; exact hw
    | 4, hj => cases hj; exact hs
    | 5, hj => cases hj; exact ⟨Int.le_refl _, Int.le_refl _⟩
    | v + 6, hj => cases hj
  refine bEc_ok (n := 6) (ρ := kR46 L p w.toInt s.toInt k) (aB := [.inr [7], .inl (false, 2, .ofNat 0), .inl (false, 3, .ofNat 0), .inr [32], .inl (false, 4, .ofNat 0)]) (pl := [some (.inr [7]), some (.inl (false, 2, .ofNat 0)), some (.inl (false, 3, .ofNat 0)), some (.inr [32]), some (.inl (false, 4, .ofNat 0)), none, none, none]) (by decide +kernel) ⟨List.mem_singleton.mpr rfl, ⟨(by decide : 2 < 6), by rw [hpv]; exact (Int.add_zero _).symm⟩, ⟨(by decide : 3 < 6), (Int.add_zero _).symm⟩, List.mem_singleton.mpr rfl, ⟨(by decide : 4 < 6), (Int.add_zero _).symm⟩, trivial⟩ fun cl hl => ?_
  have hM0 : bMok 6 (kR46 L p w.toInt s.toInt k) kP σ ([(12, [(p, .inl (5, .ofNat 0))])], [], 0) σ := ⟨hok.1, bHok_c (kOk_hok hok) rfl (by decide) (by rw [hkz, hk]; exact (Int.add_zero _).symm), fun q hq => absurd hq List.not_mem_nil, fun p k _ => ⟨rfl, rfl⟩, fun _ => hP⟩
  by_cases hk3 : k = 3
  · subst hk3
    have hc := List.all_eq_true.mp kS46n p (by simp only [List.mem_cons, List.not_mem_nil, or_false]; omega)
    refine bSeg_ok (E := kE46 p 3) h bCn_ok hc (fun B hB => absurd hB List.not_mem_nil) (aXok0 hE) hM0 hl trivial (bFin_mono (bFi_int (show 2 ≤ 6 by decide) rfl (show 0 < 6 by decide)) fun v σ' hh => ?_) (fun B hB => absurd hB List.not_mem_nil)
    obtain ⟨x, rfl, g1, g2, g3, g4, g5⟩ := hh
    have g1 : x.toInt = 0 + (-1) := g1
    exact ⟨x, rfl, by omega, by omega, g3, g4 (by decide +kernel), kSm.le g5 (by decide +kernel)⟩
  · have hmem : (p, k) ∈ kC46 := by
      have : (p = 1 ∨ p = 2 ∨ p = 3) ∧ (k = 0 ∨ k = 1 ∨ k = 2) := by omega
      obtain ⟨rfl | rfl | rfl, rfl | rfl | rfl⟩ := this <;> decide
    have hc := List.all_eq_true.mp kS46 _ hmem
    simp only [Bool.and_eq_true] at hc
    obtain ⟨c1, c2, c3⟩ := hc
    refine bSeg_ok (E := kE46 p k) h bCn_ok c1 (fun B hB => by rw [List.mem_singleton.mp hB]; rfl) (aXok0 hE) hM0 hl trivial bNo_ok ?_
    intro B hB ρ1 cl1 cs1 σ1 hA
    rw [List.mem_singleton] at hB
    subst hB
    obtain ⟨v1, r1, rfl, hv1, hs1⟩ := bSok_c (show bSok 6 ρ1 [.inl (false, 0, .ofNat 40), .inl (false, 0, .ofNat (40 * (3 * p + k))), .inr [8], .inl (false, 0, .ofNat 0), .inr [32]] cs1 from hA.2.2)
    obtain ⟨v2, r2, rfl, hv2, hs2⟩ := bSok_c hs1
    obtain ⟨v3, r3, rfl, hv3, hs3⟩ := bSok_c hs2
    obtain ⟨v4, r4, rfl, hv4, hs4⟩ := bSok_c hs3
    obtain ⟨v5, r5, rfl, hv5, hs5⟩ := bSok_c hs4
    obtain ⟨x1, rfl, hx1⟩ := bVok_int hv1
    obtain ⟨x2, rfl, hx2⟩ := bVok_int hv2
    have := bVok_one hv3
    subst this
    obtain ⟨x4, rfl, hx4⟩ := bVok_int hv4
    have := bVok_one hv5
    subst this
    have := bSok_n hs5
    subst this
    have h0 : ρ1 0 = 0 := hA.env.1.1
    have hx1 : x1.toInt = ρ1 0 + 40 := hx1.2
    have hx2 : x2.toInt = ρ1 0 + ((40 * (3 * p + k) : Nat) : Int) := hx2.2
    have hx4 : x4.toInt = ρ1 0 + 0 := hx4.2
    have hall := kAll (show kSm 0 σ1 σ from hA.sm)
    have hok1 := hA.ok rfl
    have hE1 : aEok L ρ1 (kE46 p k) := hA.env
    have n1 : x1.toNatClampNeg = 40 := by show x1.toInt.toNat = 40; omega
    have n2 : x2.toNatClampNeg = 40 * (3 * p + k) := by show x2.toInt.toNat = _; omega
    have n4 : x4.toNatClampNeg = 0 := by show x4.toInt.toNat = 0; omega
    unfold bWa
    rw [show (kB50 p k).2.1 = 46 from rfl, kM46.1, kM46.2, show (kB50 p k).2.2.1 = 50 from rfl]
    refine pmWp_cpy (k := 27) (X := (720, false)) (na := 40) (nb := 480) (ra := []) (rb := []) rfl rfl (by rw [hok1.1]; rfl) (by rw [hok1.1]; rfl) ⟨aNn.mpr (by omega), aNn.mpr (by omega), aNn.mpr (by omega), by omega, by omega⟩ (by decide) ?_
    rw [n1, n2, n4]
    generalize hσ2 : (σ1.1, pmRow σ1.2.1 8 (va_cpy (σ1.2.1 32) (σ1.2.1 8) 0 (40 * (3 * p + k)) 40), σ1.2.2) = σ2
    have hg8 : ∀ j, bGe 8 j = [(-2147483648, 2147483647)] := fun j => bGu_ok (by decide +kernel) j
    have t8 : ∀ q, q ≠ 8 → σ2.2.1 q = σ1.2.1 q := fun q hq => by
      rw [← hσ2]
      funext j
      show (if q = 8 then _ else σ1.2.1 q j) = _
      rw [if_neg hq]
    have t9 : ∀ j, σ2.2.1 8 j = if 40 * (3 * p + k) ≤ j ∧ j < 40 * (3 * p + k) + 40 then σ1.2.1 32 (j - 40 * (3 * p + k)) else σ1.2.1 8 j := fun j => by
      rw [← hσ2]
      show va_cpy (σ1.2.1 32) (σ1.2.1 8) 0 (40 * (3 * p + k)) 40 j = _
      unfold va_cpy
      rw [Nat.zero_add]
    have tl : σ2.2.2 = σ1.2.2 := by rw [← hσ2]
    have hok2 : kOk σ2 := by
      refine ⟨fun q => by rw [← hσ2]; exact hok1.1 q, fun q j => ?_⟩
      by_cases c : q = 8
      · subst c
        rw [hg8, kI_z rfl]
        exact bIn_i rfl
      · have : bZ σ2 q j = bZ σ1 q j := by
          unfold bZ
          rw [t8 q c, tl]
        rw [this]
        exact hok1.2 q j
    have hsm2 : kSm kW31 σ2 σ1 := fun q j hq => by
      have : q ≠ 8 := fun e => by
        subst e
        rw [bRg_sing (by decide +kernel) j 0] at hq
        revert hq
        decide +kernel
      exact ⟨by rw [t8 q this], by rw [tl]⟩
    have hl1 : bLok 6 ρ1 (kL46 p) cl1 := hA.2.1
    have hgo := bSeg_ok (Kp := fun _ => True) (σ := σ2) (σ0 := σ2) (ρ := ρ1) (E := kE46 p k) (cl := cl1) (cs := []) (Q := kPostI (-1) 2 σ) (kTrue h) bCn_ok c2 (fun B hB => by rw [List.mem_singleton.mp hB]; rfl) (aXok0 hE1) (kOk_mok hok2 trivial) hl1 trivial bNo_ok ?_
    · rw [kM46.1, kM46.2] at hgo
      exact hgo
    intro B hB ρ3 cl3 cs3 σ3 hA3
    rw [List.mem_singleton] at hB
    subst hB
    obtain ⟨v1, r1, rfl, hv1, hs1⟩ := bSok_c (show bSok 6 ρ3 [.inl (false, 4, .ofNat 0), .inl (false, 5, .ofNat (3 * p)), .inr [9]] cs3 from hA3.2.2)
    obtain ⟨v2, r2, rfl, hv2, hs2⟩ := bSok_c hs1
    obtain ⟨v3, r3, rfl, hv3, hs3⟩ := bSok_c hs2
    obtain ⟨y1, rfl, hy1⟩ := bVok_int hv1
    obtain ⟨y2, rfl, hy2⟩ := bVok_int hv2
    have := bVok_one hv3
    subst this
    have := bSok_n hs3
    subst this
    have e4 : ρ3 4 = s.toInt := (hA3.ext 4 (show 4 < 6 by decide)).trans (hA.ext 4 (show 4 < 6 by decide))
    have e5 : ρ3 5 = (k : Int) := (hA3.ext 5 (show 5 < 6 by decide)).trans (hA.ext 5 (show 5 < 6 by decide))
    have hy1 : y1.toInt = ρ3 4 + 0 := hy1.2
    have hy2 : y2.toInt = ρ3 5 + ((3 * p : Nat) : Int) := hy2.2
    have hall3 := kAll (show kSm 0 σ3 σ2 from hA3.sm)
    have hok3 := hA3.ok rfl
    have hE3 : aEok L ρ3 (kE46 p k) := hA3.env
    obtain ⟨hin, hn2⟩ := kNat (i := y2) (n := 12) (by omega) (by omega)
    have m2 : y2.toNatClampNeg = 3 * p + k := by omega
    unfold bWa
    rw [show (kB61 p k).2.1 = 46 from rfl, kM46.1, kM46.2, show (kB61 p k).2.2.1 = 61 from rfl]
    refine pmWp_ias (n := 12) (rs := []) rfl (by rw [hok3.1]; rfl) hin ?_
    rw [m2]
    generalize hσ4 : (σ3.1, pmUp σ3.2.1 9 (3 * p + k) y1, σ3.2.2) = σ4
    have hg9 : ∀ j, bGe 9 j = [(0, 40)] := fun j => bGu_ok (by decide +kernel) j
    have hok4 : kOk σ4 := by
      rw [← hσ4]
      exact kOk_upi hok3 rfl (by rw [hg9]; exact ⟨_, List.mem_singleton.mpr rfl, by show (0 : Int) ≤ y1.toInt; omega, by show y1.toInt ≤ (40 : Int); omega⟩)
    have s3 : σ3.2.1 = σ2.2.1 := funext fun q => funext fun j => (hall3 q j).1
    have s3l : σ3.2.2 = σ2.2.2 := funext fun q => funext fun j => (hall3 q j).2
    have s1 : σ1.2.1 = σ.2.1 := funext fun q => funext fun j => (hall q j).1
    have s1l : σ1.2.2 = σ.2.2 := funext fun q => funext fun j => (hall q j).2
    have w4 : ∀ q, q ≠ 8 → q ≠ 9 → σ4.2.1 q = σ.2.1 q := fun q hq hq2 => by
      rw [← hσ4]
      show pmUp σ3.2.1 9 (3 * p + k) y1 q = _
      rw [kUp_ne hq2, s3, t8 q hq, s1]
    have w4l : σ4.2.2 = σ.2.2 := by
      rw [← hσ4]
      show σ3.2.2 = _
      rw [s3l, tl, s1l]
    have w9 : ∀ w, kI σ4 9 w = if w = 3 * p + k then s.toInt else kI σ 9 w := fun w => by
      rw [← hσ4]
      show (if 9 = 9 ∧ w = 3 * p + k then y1 else σ3.2.1 9 w).toInt = _
      by_cases c : w = 3 * p + k
      · rw [if_pos ⟨rfl, c⟩, if_pos c]
        omega
      · rw [if_neg (fun e => c e.2), if_neg c, s3, t8 9 (by decide), s1]
        rfl
    have w8 : ∀ j, kI σ4 8 j = if 40 * (3 * p + k) ≤ j ∧ j < 40 * (3 * p + k) + 40 then kI σ 32 (j - 40 * (3 * p + k)) else kI σ 8 j := fun j => by
      rw [← hσ4]
      show (pmUp σ3.2.1 9 (3 * p + k) y1 8 j).toInt = _
      rw [kUp_ne (by decide), s3, t9 j, s1]
      split <;> rfl
    have hP4 : kP σ4 := by
      obtain ⟨g1, g2, g3⟩ := hP
      refine ⟨?_, ?_, fun w hw i hi => ?_⟩
      · unfold kMemo kI at g1 ⊢
        rw [w4 87 (by decide) (by decide), w4l]
        exact g1
      · unfold kCodes kI at g2 ⊢
        rw [w4 99 (by decide) (by decide), w4 98 (by decide) (by decide)]
        exact g2
      · rw [w9] at hi
        rw [w8]
        by_cases c : w = 3 * p + k
        · rw [if_pos c] at hi
          subst c
          rw [if_pos ⟨by omega, by omega⟩, show 40 * (3 * p + k) + i - 40 * (3 * p + k) = i by omega]
          exact hv i hi
        · rw [if_neg c] at hi
          have h40 : kI σ 9 w ≤ 40 := by
            have := hok.2 9 w
            rw [hg9, kI_z rfl] at this
            obtain ⟨i, hi, g1, g2⟩ := this
            rw [List.mem_singleton] at hi
            subst hi
            exact g2
          rw [if_neg (by omega)]
          exact g3 w hw i hi
    have hsm4 : kSm kW31 σ4 σ3 := by
      rw [← hσ4]
      refine kSm.upi ?_
      rw [bRg_sing (by decide +kernel) _ 0]
      decide +kernel
    have hl3 : bLok 6 ρ3 (kL46 p) cl3 := hA3.2.1
    have hend : bFinOk L 6 ρ3 kP σ4 (bFi 6 [(some (.inl (false, 5, .ofNat 0)), kE46 p k, [])] kW31) (kPostI (-1) 2 σ) := bFin_mono (bFi_int (by decide) rfl (by decide)) fun v σ' hh => by
      obtain ⟨x, rfl, g1, g2, g3, g4, g5⟩ := hh
      have g1 : x.toInt = ρ3 5 + 0 := g1
      have l0 : kSm kW31 σ1 σ := kSm.le (show kSm 0 σ1 σ from hA.sm) (by decide +kernel)
      have l3 : kSm kW31 σ3 σ2 := kSm.le (show kSm 0 σ3 σ2 from hA3.sm) (by decide +kernel)
      exact ⟨x, rfl, by omega, by omega, g3, g4 (by decide +kernel), kSm.tr g5 (kSm.tr hsm4 (kSm.tr l3 (kSm.tr hsm2 l0)))⟩
    have hgo := bSeg_ok (Kp := kP) (σ := σ4) (σ0 := σ4) (ρ := ρ3) (E := kE46 p k) (cl := cl3) (cs := []) (Q := kPostI (-1) 2 σ) h bCn_ok c3 (fun B hB => absurd hB List.not_mem_nil) (aXok0 hE3) ⟨hok4.1, bHok_c (kOk_hok hok4) rfl (show 5 < 6 by decide) (by
      rw [kI_z rfl]
      show (σ4.2.1 12 p).toInt = ρ3 5 + 0
      rw [w4 12 (by decide) (by decide), e5, ← hk, Int.add_zero]
      rfl), fun q hq => absurd hq List.not_mem_nil, fun p k _ => ⟨rfl, rfl⟩, fun _ => hP4⟩ hl3 trivial hend (fun B hB => absurd hB List.not_mem_nil)
    rw [kM46.1, kM46.2] at hgo
    exact hgo
end
