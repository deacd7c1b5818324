/-! by hand: emit, as its callers call it -/
section
set_option maxRecDepth 100000
variable {ro : Nat → Nat × (Nat → Int32)} {L : aLa} {Kp : pmS → Prop} {σ0 σ σ' : pmS} {ρ ρ' ρ0 : Nat → Int} {cl : pmL} {cs vs : List Value} {Q Q' : Option Value → pmS → Prop} {d mm n nC p k : Nat} {x : Int32}
theorem bFin_mono {fin : Option bV → aX → bM → Bool} {n0 : Nat} (h : bFinOk L n0 ρ0 Kp σ0 fin Q') (hQ : ∀ v σ, Q' v σ → Q v σ) : bFinOk L n0 ρ0 Kp σ0 fin Q := fun r X M ρ v σ a b c => hQ _ _ (h r X M ρ v σ a b c)
/-- an end that tells nothing but the table and the regions -/
theorem bFi_end {n : Nat} {E : aE} {W : Nat} (hC : 2 ≤ n) (hE : E.length = n) : bFinOk L n ρ Kp σ (bFi n [(none, E, [])] W) fun v σ' => v = none ∧ kOk σ' ∧ (bFg W = true → Kp σ') ∧ kSm W σ' σ := bFin_mono (bFi_ok (E0 := E) hC hE (Nat.le_refl _) aExt.rf) fun v σ' hh => by
  obtain ⟨al, hm, ρ', a1, a2, a3, a4, a5⟩ := hh
  rw [List.mem_singleton] at hm
  subst hm
  refine ⟨?_, ⟨a5.1, fun p k => a5.2.1 p k⟩, a5.2.2.2.2, a5.2.2.2.1⟩
  cases v with
  | none => rfl
  | some v => exact a4.elim
def kR41 (L : aLa) (s a b : Int) : Nat → Int := fun v => match v with
  | 0 => 0
  | 1 => L.1
  | 2 => s
  | 3 => a
  | 4 => b
  | _ => 0
def kOkArg (σ : pmS) (s a b : Int) : Prop := (∃ q ∈ kCmb, s = q.1 ∧ 0 ≤ a ∧ a < q.2.1 ∧ 0 ≤ b ∧ b < q.2.2) ∨ (kI σ 1 4 ≠ 0 ∧ (0 ≤ s ∧ s ≤ 7) ∧ (-1 ≤ a ∧ a ≤ 6) ∧ -1 ≤ b ∧ b ≤ 6)
theorem kEm_at {E : aE} {t : aI} {nE : E.length = 5} {cl' : pmL} {cs' : List Value} (h : bHyp ro L kQ) (hA : bAt L 5 ρ kQ σ (kB41 E t) ρ' cl' cs' σ') (hm : bMh (E ++ [(.ofNat 0, .ofNat 39), t]) 7 7 [] [] [(31, [(2, .inl (5, .ofNat 0))])] = true) (hE : ρ 0 = 0 ∧ ρ 1 = L.1 ∧ 0 ≤ L.1 ∧ L.1 ≤ 3072) (hx : kI σ 1 4 ≠ 0 ∨ bCov t kTok = true) : bWa ro (kB41 E t) cl' cs' σ' (kQ41 σ) := by
  have hlen : (E ++ [((.ofNat 0, .ofNat 39) : aI), t]).length = 7 := by rw [List.length_append, nE]; rfl
  obtain ⟨v1, r1, rfl, hv1, hs1⟩ := bSok_c (show bSok (E ++ [((.ofNat 0, .ofNat 39) : aI), t]).length ρ' [.inl (false, 6, .ofNat 0), .inl (false, 5, .ofNat 0), .inr [32]] cs' from hA.2.2)
  obtain ⟨v2, r2, rfl, hv2, hs2⟩ := bSok_c hs1
  obtain ⟨v3, r3, rfl, hv3, hs3⟩ := bSok_c hs2
  obtain ⟨x, rfl, hx1⟩ := bVok_int hv1
  obtain ⟨i, rfl, hi1⟩ := bVok_int hv2
  have := bVok_one hv3
  subst this
  have := bSok_n hs3
  subst this
  have hx2 : x.toInt = ρ' 6 + 0 := hx1.2
  have hi2 : i.toInt = ρ' 5 + 0 := hi1.2
  have henv : aEok L ρ' (E ++ [((.ofNat 0, .ofNat 39) : aI), t]) := hA.env
  have h5 : (0 : Int) ≤ ρ' 5 ∧ ρ' 5 ≤ (39 : Int) := henv.2 5 _ (by rw [List.getElem?_append_right (by omega), nE]; rfl)
  have h6 : t.1 ≤ ρ' 6 ∧ ρ' 6 ≤ t.2 := henv.2 6 _ (by rw [List.getElem?_append_right (by omega), nE]; rfl)
  have hok : kOk σ' := kOk_m (E := E ++ [(.ofNat 0, .ofNat 39), t]) henv (by rw [hlen]; exact hm) hA.1.2.1
  have hq := hA.kp (show bFg 0 = true by decide +kernel)
  have hz : bZ σ' 31 2 = ρ' 5 + 0 := (hA.1.2.1.2.1 31 2).2
  have hsz : kI σ' 31 2 = i.toInt := by
    rw [hi2, ← hz]
    unfold bZ
    rw [show bLo 31 2 = false by decide +kernel]
    rfl
  have hall := kAll hA.sm
  have hf : kI σ' 1 4 = kI σ 1 4 := by
    unfold kI
    rw [(hall 1 4).1]
  have e0 : ρ' 0 = ρ 0 := hA.ext 0 (by decide)
  have e1 : ρ' 1 = ρ 1 := hA.ext 1 (by decide)
  have hl : bLok 2 ρ' [some (.inr [31]), none, none, none] cl' := by
    have := hA.2.1
    refine ⟨this.1, fun j a hj => ?_⟩
    match j, hj with
    | 0, hj =>
      cases hj
      obtain ⟨v, g1, g2⟩ := this.2 0 _ rfl
      have := bVok_one g2
      subst this
      exact ⟨_, g1, List.mem_singleton.mpr rfl⟩
    | 1, hj => cases hj
    | 2, hj => cases hj
    | 3, hj => cases hj
    | j + 4, hj => cases hj
  have hE2 : aEok L ρ' [(.ofNat 0, .ofNat 0), (.ofNat 0, .ofNat 3072)] := by
    refine ⟨⟨by rw [e0]; exact hE.1, by rw [e1]; exact hE.2.1, by decide⟩, fun v j hj => ?_⟩
    match v, hj with
    | 0, hj => cases hj; exact ⟨by show (0 : Int) ≤ ρ' 0; omega, by show ρ' 0 ≤ (0 : Int); omega⟩
    | 1, hj => cases hj; exact ⟨by show (0 : Int) ≤ ρ' 1; omega, by show ρ' 1 ≤ (3072 : Int); omega⟩
    | v + 2, hj => cases hj
  have hgo := kEm2 (σ := σ') (x := x) (i := i) h hok hq hE2 hl hsz (by omega) (by omega) (by
    rcases hx with hx | hx
    · exact Or.inl (by rw [hf]; exact hx)
    · exact Or.inr (bCov_ok hx (by omega) (by omega)))
  unfold bWa
  rw [show (kB41 E t).2.1 = 41 from rfl, kM41.1, kM41.2]
  refine pmWp_mono hgo ?_
  rintro v σ2 ⟨b1, b2, b3, b4⟩
  exact ⟨b1, b2, b3, kSm.tr b4 (kSm.le (show kSm 0 σ' σ from hA.sm) (by decide +kernel))⟩
theorem kEm (h : bHyp ro L kQ) {s a b : Int32} (hL : 0 ≤ L.1 ∧ L.1 ≤ 3072) (hok : kOk σ) (hq : kQ σ) (hx : kOkArg σ s.toInt a.toInt b.toInt) : pmCs ro 1 41 [.ref 31, .int s, .int a, .int b] σ (kQ41 σ) := by
  refine bEc_ok (n := 5) (ρ := kR41 L s.toInt a.toInt b.toInt) (aB := [.inr [31], .inl (false, 2, .ofNat 0), .inl (false, 3, .ofNat 0), .inl (false, 4, .ofNat 0)]) (pl := [some (.inr [31]), some (.inl (false, 2, .ofNat 0)), some (.inl (false, 3, .ofNat 0)), some (.inl (false, 4, .ofNat 0))]) (by decide +kernel) ⟨List.mem_singleton.mpr rfl, ⟨(by decide : 2 < 5), (Int.add_zero _).symm⟩, ⟨(by decide : 3 < 5), (Int.add_zero _).symm⟩, ⟨(by decide : 4 < 5), (Int.add_zero _).symm⟩, trivial⟩ fun cl hl => ?_
  have hend : ∀ E : aE, E.length = 5 → bFinOk L 5 (kR41 L s.toInt a.toInt b.toInt) kQ σ (bFi 5 [(none, E, [])] 0) (kQ41 σ) := fun E hE => bFin_mono (bFi_end (by decide) hE) fun v σ' hh => ⟨hh.1, hh.2.1, hh.2.2.1 rfl, kSm.le hh.2.2.2 (by decide +kernel)⟩
  rcases hx with ⟨q, hqm, e1, e2, e3, e4, e5⟩ | ⟨f1, f2, f3, f4⟩
  · have hk := List.all_eq_true.mp (List.all_eq_true.mp (List.all_eq_true.mp kS41v q hqm) a.toInt.toNat (List.mem_range.mpr (by omega))) b.toInt.toNat (List.mem_range.mpr (by omega))
    rw [Bool.and_eq_true] at hk
    have hm : bMh (kE41 q.1 a.toInt.toNat b.toInt.toNat ++ [(.ofNat 0, .ofNat 39), kT41 q.1 a.toInt.toNat b.toInt.toNat]) 7 7 [] [] [(31, [(2, .inl (5, .ofNat 0))])] = true := rfl
    refine bSeg_ok (ρ := kR41 L s.toInt a.toInt b.toInt) (E := kE41 q.1 a.toInt.toNat b.toInt.toNat) h bCn_ok hk.1 (fun B hB => by rw [List.mem_singleton.mp hB]; rfl) (aXok0 ⟨⟨rfl, rfl, (by decide : 1 < 5)⟩, fun v j hj => ?_⟩) (kOk_mok hok hq) hl trivial (hend (kE41 q.1 a.toInt.toNat b.toInt.toNat) rfl) ?_
    · match v, hj with
      | 0, hj => cases hj; exact ⟨Int.le_refl _, Int.le_refl _⟩
      | 1, hj => cases hj; exact ⟨hL.1, hL.2⟩
      | 2, hj => cases hj; exact ⟨by show (q.1 : Int) ≤ s.toInt; omega, by show s.toInt ≤ (q.1 : Int); omega⟩
      | 3, hj => cases hj; exact ⟨by show ((a.toInt.toNat : Nat) : Int) ≤ a.toInt; omega, by show a.toInt ≤ ((a.toInt.toNat : Nat) : Int); omega⟩
      | 4, hj => cases hj; exact ⟨by show ((b.toInt.toNat : Nat) : Int) ≤ b.toInt; omega, by show b.toInt ≤ ((b.toInt.toNat : Nat) : Int); omega⟩
      | v + 5, hj => cases hj
    · intro B hB ρ' cl' cs' σ' hA
      rw [List.mem_singleton] at hB
      subst hB
      exact kEm_at (nE := rfl) h hA hm ⟨rfl, rfl, hL⟩ (Or.inr hk.2)
  · have hm : bMh (kF41 ++ [(.ofNat 0, .ofNat 39), (.negSucc 2147483647, .ofNat 2147483647)]) 7 7 [] [] [(31, [(2, .inl (5, .ofNat 0))])] = true := by decide +kernel
    refine bSeg_ok (ρ := kR41 L s.toInt a.toInt b.toInt) (E := kF41) h bCn_ok kS41f (fun B hB => by rw [List.mem_singleton.mp hB]; rfl) (aXok0 ⟨⟨rfl, rfl, (by decide : 1 < 5)⟩, fun v j hj => ?_⟩) (kOk_mok hok hq) hl trivial (hend kF41 rfl) ?_
    · match v, hj with
      | 0, hj => cases hj; exact ⟨Int.le_refl _, Int.le_refl _⟩
      | 1, hj => cases hj; exact ⟨hL.1, hL.2⟩
      | 2, hj => cases hj; exact f2
      | 3, hj => cases hj; exact f3
      | 4, hj => cases hj; exact f4
      | v + 5, hj => cases hj
    · intro B hB ρ' cl' cs' σ' hA
      rw [List.mem_singleton] at hB
      subst hB
      exact kEm_at (nE := rfl) h hA hm ⟨rfl, rfl, hL⟩ (Or.inl f1)
/-- as a contract -/
theorem kEmC (h : bHyp ro L kQ) {aB : List bV} {E0 : aE} {H0 : bH} (hm : bMh E0 E0.length E0.length [] [] H0 = true) (hv : ∀ ρ vs σ, aEok L ρ E0 → bHok E0.length ρ H0 (bZ σ) → bSok E0.length ρ aB vs → ∃ s a b : Int32, vs = [.ref 31, .int s, .int a, .int b] ∧ kOkArg σ s.toInt a.toInt b.toInt) : bCok ro L kQ (41, aB, E0, H0, [(none, E0, [])], kW41, 1) := by
  intro ρ vs σ hE hM hs
  obtain ⟨s, a, b, rfl, hx⟩ := hv ρ vs σ hE hM.2.1 hs
  have h1 := hE.2 1
  have hN : 0 ≤ L.1 ∧ L.1 ≤ 3072 := by
    obtain ⟨_, Ln, xs, _, e2, e3⟩ := h
    rw [e2]
    exact ⟨by show (0 : Int) ≤ (Ln : Int); omega, by show (Ln : Int) ≤ 3072; omega⟩
  refine pmCs_mono (kEm h hN (kOk_m hE hm hM) (hM.2.2.2.2 (show bFg 0 = true by decide +kernel)) hx) ?_
  rintro v σ' ⟨rfl, b2, b3, b4⟩
  exact ⟨_, List.mem_singleton.mpr rfl, ρ, aExt.rf, Nat.le_refl _, hE, trivial, b2.1, fun p k => b2.2 p k, fun q hq => absurd hq List.not_mem_nil, b4, fun _ => b3⟩
/-- the arguments as values -/
theorem kArg {fs fa fb : aF} (hs : bSok n ρ [.inr [31], .inl (false, fs), .inl (false, fa), .inl (false, fb)] vs) : ∃ s a b : Int32, vs = [.ref 31, .int s, .int a, .int b] ∧ s.toInt = ρ fs.1 + fs.2 ∧ a.toInt = ρ fa.1 + fa.2 ∧ b.toInt = ρ fb.1 + fb.2 := by
  obtain ⟨v0, r0, rfl, hv0, hs0⟩ := bSok_c hs
  obtain ⟨v1, r1, rfl, hv1, hs1⟩ := bSok_c hs0
  obtain ⟨v2, r2, rfl, hv2, hs2⟩ := bSok_c hs1
  obtain ⟨v3, r3, rfl, hv3, hs3⟩ := bSok_c hs2
  have := bVok_one hv0
  subst this
  obtain ⟨s, rfl, h1⟩ := bVok_int hv1
  obtain ⟨a, rfl, h2⟩ := bVok_int hv2
  obtain ⟨b, rfl, h3⟩ := bVok_int hv3
  have := bSok_n hs3
  subst this
  exact ⟨s, a, b, rfl, h1.2, h2.2, h3.2⟩
theorem kEf {s : Nat} (h : bHyp ro L kQ) (hs7 : s ≤ 7) : bCok ro L kQ (41, [.inr [31], .inl (false, 0, .ofNat s), .inl (false, 2, .ofNat 0), .inl (false, 3, .ofNat 0)], [(.ofNat 0, .ofNat 0), (.ofNat 0, .ofNat 3072), (.negSucc 0, .ofNat 6), (.negSucc 0, .ofNat 6), (.negSucc 5399, .negSucc 0)], [(1, [(4, .inl (4, .ofNat 0))])], [(none, [(.ofNat 0, .ofNat 0), (.ofNat 0, .ofNat 3072), (.negSucc 0, .ofNat 6), (.negSucc 0, .ofNat 6), (.negSucc 5399, .negSucc 0)], [])], kW41, 1) :=
  kEmC h (by decide +kernel) fun ρ vs σ hE hH hs => by
    obtain ⟨sx, a, b, rfl, h1, h2, h3⟩ := kArg hs
    refine ⟨sx, a, b, rfl, Or.inr ⟨?_, ?_, ?_⟩⟩
    · have hz : bZ σ 1 4 = ρ 4 + 0 := (hH 1 4).2
      have h4 : (-5400 : Int) ≤ ρ 4 ∧ ρ 4 ≤ (-1 : Int) := hE.2 4 _ rfl
      have e : kI σ 1 4 = bZ σ 1 4 := by
        unfold bZ
        rw [show bLo 1 4 = false by decide +kernel]
        rfl
      rw [e, hz]
      omega
    · have h0 := hE.1.1
      have h1 : sx.toInt = ρ 0 + (s : Int) := h1
      omega
    · have a2 : (-1 : Int) ≤ ρ 2 ∧ ρ 2 ≤ (6 : Int) := hE.2 2 _ rfl
      have a3 : (-1 : Int) ≤ ρ 3 ∧ ρ 3 ≤ (6 : Int) := hE.2 3 _ rfl
      have h2 : a.toInt = ρ 2 + 0 := h2
      have h3 : b.toInt = ρ 3 + 0 := h3
      omega
theorem kEv1 {s u : Nat} (h : bHyp ro L kQ) (hq : (s, u + 1, 1) ∈ kCmb) : bCok ro L kQ (41, [.inr [31], .inl (false, 0, .ofNat s), .inl (false, 2, .ofNat 0), .inl (false, 0, .ofNat 0)], [(.ofNat 0, .ofNat 0), (.ofNat 0, .ofNat 3072), (.ofNat 0, .ofNat u)], [], [(none, [(.ofNat 0, .ofNat 0), (.ofNat 0, .ofNat 3072), (.ofNat 0, .ofNat u)], [])], kW41, 1) :=
  kEmC h rfl fun ρ vs σ hE hH hs => by
    obtain ⟨sx, a, b, rfl, h1, h2, h3⟩ := kArg hs
    have h0 := hE.1.1
    have a2 : (0 : Int) ≤ ρ 2 ∧ ρ 2 ≤ (u : Int) := hE.2 2 _ rfl
    have h1 : sx.toInt = ρ 0 + (s : Int) := h1
    have h2 : a.toInt = ρ 2 + 0 := h2
    have h3 : b.toInt = ρ 0 + 0 := h3
    exact ⟨sx, a, b, rfl, Or.inl ⟨_, hq, by show sx.toInt = (s : Int); omega, by omega, by show a.toInt < ((u + 1 : Nat) : Int); omega, by omega, by show b.toInt < ((1 : Nat) : Int); omega⟩⟩
theorem kEv2 {s u w : Nat} (h : bHyp ro L kQ) (hq : (s, u + 1, w + 1) ∈ kCmb) : bCok ro L kQ (41, [.inr [31], .inl (false, 0, .ofNat s), .inl (false, 2, .ofNat 0), .inl (false, 3, .ofNat 0)], [(.ofNat 0, .ofNat 0), (.ofNat 0, .ofNat 3072), (.ofNat 0, .ofNat u), (.ofNat 0, .ofNat w)], [], [(none, [(.ofNat 0, .ofNat 0), (.ofNat 0, .ofNat 3072), (.ofNat 0, .ofNat u), (.ofNat 0, .ofNat w)], [])], kW41, 1) :=
  kEmC h rfl fun ρ vs σ hE hH hs => by
    obtain ⟨sx, a, b, rfl, h1, h2, h3⟩ := kArg hs
    have h0 := hE.1.1
    have a2 : (0 : Int) ≤ ρ 2 ∧ ρ 2 ≤ (u : Int) := hE.2 2 _ rfl
    have a3 : (0 : Int) ≤ ρ 3 ∧ ρ 3 ≤ (w : Int) := hE.2 3 _ rfl
    have h1 : sx.toInt = ρ 0 + (s : Int) := h1
    have h2 : a.toInt = ρ 2 + 0 := h2
    have h3 : b.toInt = ρ 3 + 0 := h3
    exact ⟨sx, a, b, rfl, Or.inl ⟨_, hq, by show sx.toInt = (s : Int); omega, by omega, by show a.toInt < ((u + 1 : Nat) : Int); omega, by omega, by show b.toInt < ((w + 1 : Nat) : Int); omega⟩⟩
theorem kEv0 {s : Nat} (h : bHyp ro L kQ) (hq : (s, 1, 1) ∈ kCmb) : bCok ro L kQ (41, [.inr [31], .inl (false, 0, .ofNat s), .inl (false, 0, .ofNat 0), .inl (false, 0, .ofNat 0)], [(.ofNat 0, .ofNat 0), (.ofNat 0, .ofNat 3072)], [], [(none, [(.ofNat 0, .ofNat 0), (.ofNat 0, .ofNat 3072)], [])], kW41, 1) :=
  kEmC h rfl fun ρ vs σ hE hH hs => by
    obtain ⟨sx, a, b, rfl, h1, h2, h3⟩ := kArg hs
    have h0 := hE.1.1
    have h1 : sx.toInt = ρ 0 + (s : Int) := h1
    have h2 : a.toInt = ρ 0 + 0 := h2
    have h3 : b.toInt = ρ 0 + 0 := h3
    exact ⟨sx, a, b, rfl, Or.inl ⟨_, hq, by show sx.toInt = (s : Int); omega, by omega, by show a.toInt < ((1 : Nat) : Int); omega, by omega, by show b.toInt < ((1 : Nat) : Int); omega⟩⟩
/-- the class's reading of a wish, from its first text place -/
theorem kOne (h : bHyp ro L kQ) (h39 : bCok ro L kQ bC39) : bCok ro L kQ bC34f :=
  bO34f h h39 (kEf (s := 0) h (by decide)) (kEf (s := 1) h (by decide)) (kEf (s := 2) h (by decide)) (kEf (s := 3) h (by decide)) (kEf (s := 4) h (by decide)) (kEv1 (s := 2) (u := 3) h (by decide)) (kEv1 (s := 0) (u := 4) h (by decide)) (kEv1 (s := 1) (u := 6) h (by decide)) (kEv2 (s := 4) (u := 3) (w := 4) h (by decide)) (kEv2 (s := 3) (u := 4) (w := 6) h (by decide)) (kEv0 (s := 6) h (by decide)) (kEv0 (s := 7) h (by decide)) (kEv0 (s := 5) h (by decide))
end
