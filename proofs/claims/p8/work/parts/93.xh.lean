section
/-! exact runs: the heap, calls -/
section
variable {ro : Nat → Nat × (Nat → Int32)} {d o m rt pc t f : Nat} {pl pl' : pmL} {st st' : List Value} {a a' : xA} {b b' : xB} {Q : Option Value → pmS → Prop} {z y k : Int} {i : Instr} {v w : Value} {p n j : Nat} {rs : List (Option Nat)}
theorem xUp (a : xA) (p j : Nat) (z : Int) : pmUp (fun p (k : Nat) => Int32.ofInt (a p (k : Int))) p j (Int32.ofInt z) = fun q (k : Nat) => Int32.ofInt (xU a p (j : Int) z q (k : Int)) := by
  funext q i
  unfold pmUp xU
  by_cases c : q = p ∧ i = j
  · rw [if_pos c, if_pos ⟨c.1, by rw [c.2]⟩]
  · rw [if_neg c, if_neg (fun e => c ⟨e.1, Int.ofNat.inj e.2⟩)]
theorem xUpl (b : xB) (p j : Nat) (l : Int64) : pmUp (fun p (k : Nat) => b p (k : Int)) p j l = fun q (k : Nat) => xU b p (j : Int) l q (k : Int) := by
  funext q i
  unfold pmUp xU
  by_cases c : q = p ∧ i = j
  · rw [if_pos c, if_pos ⟨c.1, by rw [c.2]⟩]
  · rw [if_neg c, if_neg (fun e => c ⟨e.1, Int.ofNat.inj e.2⟩)]
theorem xSi (h : (j : Int) = k) : ((xS a b).1, pmUp (xS a b).2.1 p j (Int32.ofInt z), (xS a b).2.2) = xS (xU a p k z) b := by
  subst h
  show (xZ, pmUp (fun p (k : Nat) => Int32.ofInt (a p (k : Int))) p j (Int32.ofInt z), fun p (k : Nat) => b p (k : Int)) = _
  rw [xUp]
  rfl
theorem xSl {l : Int64} (h : (j : Int) = k) : ((xS a b).1, (xS a b).2.1, pmUp (xS a b).2.2 p j l) = xS a (xU b p k l) := by
  subst h
  show (xZ, (fun p (k : Nat) => Int32.ofInt (a p (k : Int))), pmUp (fun p (k : Nat) => b p (k : Int)) p j l) = _
  rw [xUpl]
  rfl
/-! fields -/
theorem x_gfi {c ci wd : Nat} {nst : Bool} (hc : pmCode m pc = some (.getfield c) ∧ pc + 3 = t) (hf : pmF o c = some (ci, j, wd, nst)) (hk : pmKd ci j = 0 ∨ pmKd ci j = 3) (hj : (j : Int) = k) (hp : xZ[p]? = some (ci, n, rs)) (hw : pmWp ro d o m rt t pl (xV (a p k) :: st) (xS a b) Q) : pmWp ro d o m rt pc pl (.ref p :: st) (xS a b) Q := by
  obtain ⟨h1, rfl⟩ := hc
  refine pmWp_1 h1 (st' := xV (a p k) :: st) ?_ hw
  have hv : pmRd (xS a b) rs ci j p = some (xV (a p k)) := by
    subst hj
    unfold pmRd
    rcases hk with h | h <;> rw [h] <;> rfl
  have hp' : (xS a b).1[p]? = some (ci, n, rs) := hp
  simp only [pmStep, hf, hp', hv, if_true, pmNx]
theorem x_gfl {c ci wd : Nat} {nst : Bool} (hc : pmCode m pc = some (.getfield c) ∧ pc + 3 = t) (hf : pmF o c = some (ci, j, wd, nst)) (hk : pmKd ci j = 1) (hj : (j : Int) = k) (hp : xZ[p]? = some (ci, n, rs)) (hw : pmWp ro d o m rt t pl (.long (b p k) :: st) (xS a b) Q) : pmWp ro d o m rt pc pl (.ref p :: st) (xS a b) Q := by
  obtain ⟨h1, rfl⟩ := hc
  refine pmWp_1 h1 (st' := .long (b p k) :: st) ?_ hw
  have hv : pmRd (xS a b) rs ci j p = some (.long (b p k)) := by
    subst hj
    unfold pmRd
    rw [hk]
    rfl
  have hp' : (xS a b).1[p]? = some (ci, n, rs) := hp
  simp only [pmStep, hf, hp', hv, if_true, pmNx]
theorem x_gfr {c ci wd q : Nat} {nst : Bool} (hc : pmCode m pc = some (.getfield c) ∧ pc + 3 = t) (hf : pmF o c = some (ci, j, wd, nst)) (hk : pmKd ci j = 2) (hp : xZ[p]? = some (ci, n, rs)) (hq : rs[j]? = some (some q)) (hw : pmWp ro d o m rt t pl (.ref q :: st) (xS a b) Q) : pmWp ro d o m rt pc pl (.ref p :: st) (xS a b) Q := by
  obtain ⟨h1, rfl⟩ := hc
  refine pmWp_1 h1 (st' := .ref q :: st) ?_ hw
  have hv : pmRd (xS a b) rs ci j p = some (.ref q) := by
    unfold pmRd
    rw [hk]
    show some (va_rf (pmRf rs j)) = _
    unfold pmRf
    rw [hq]
    rfl
  have hp' : (xS a b).1[p]? = some (ci, n, rs) := hp
  simp only [pmStep, hf, hp', hv, if_true, pmNx]
theorem x_pfi {c ci wd : Nat} {nst : Bool} (hc : pmCode m pc = some (.putfield c) ∧ pc + 3 = t) (hf : pmF o c = some (ci, j, wd, nst)) (hk : pmKd ci j = 0 ∧ pmFn ci j = false) (hj : (j : Int) = k) (hp : xZ[p]? = some (ci, n, rs)) (hw : pmWp ro d o m rt t pl st (xS (xU a p k z) b) Q) : pmWp ro d o m rt pc pl (xV z :: .ref p :: st) (xS a b) Q := by
  obtain ⟨h1, rfl⟩ := hc
  refine pmWp_1 h1 (st' := st) ?_ hw
  have hv : pmWr (xS a b) ci j p (xV z) = some (xS (xU a p k z) b) := by
    rw [← xSi hj]
    unfold pmWr xV
    rw [hk.1]
    rfl
  have hp' : (xS a b).1[p]? = some (ci, n, rs) := hp
  simp only [pmStep, hf, hp', hv, pmNx]
  rw [if_pos ⟨trivial, fun e => by rw [hk.2] at e; cases e⟩]
theorem x_pfz {c ci wd : Nat} {nst : Bool} (hz : z = 0 ∨ z = 1) (hc : pmCode m pc = some (.putfield c) ∧ pc + 3 = t) (hf : pmF o c = some (ci, j, wd, nst)) (hk : pmKd ci j = 3 ∧ pmFn ci j = false) (hj : (j : Int) = k) (hp : xZ[p]? = some (ci, n, rs)) (hw : pmWp ro d o m rt t pl st (xS (xU a p k z) b) Q) : pmWp ro d o m rt pc pl (xV z :: .ref p :: st) (xS a b) Q := by
  obtain ⟨h1, rfl⟩ := hc
  refine pmWp_1 h1 (st' := st) ?_ hw
  have hv : pmWr (xS a b) ci j p (xV z) = some (xS (xU a p k z) b) := by
    rw [← xSi hj]
    unfold pmWr xV
    rw [hk.1]
    have e : Int32.ofInt z = 0 ∨ Int32.ofInt z = 1 := by
      rcases hz with h | h <;> subst h
      · exact Or.inl rfl
      · exact Or.inr rfl
    simp only [e, if_true]
  have hp' : (xS a b).1[p]? = some (ci, n, rs) := hp
  simp only [pmStep, hf, hp', hv, pmNx]
  rw [if_pos ⟨trivial, fun e => by rw [hk.2] at e; cases e⟩]
theorem x_pfl {c ci wd : Nat} {nst : Bool} {l : Int64} (hc : pmCode m pc = some (.putfield c) ∧ pc + 3 = t) (hf : pmF o c = some (ci, j, wd, nst)) (hk : pmKd ci j = 1 ∧ pmFn ci j = false) (hj : (j : Int) = k) (hp : xZ[p]? = some (ci, n, rs)) (hw : pmWp ro d o m rt t pl st (xS a (xU b p k l)) Q) : pmWp ro d o m rt pc pl (.long l :: .ref p :: st) (xS a b) Q := by
  obtain ⟨h1, rfl⟩ := hc
  refine pmWp_1 h1 (st' := st) ?_ hw
  have hv : pmWr (xS a b) ci j p (.long l) = some (xS a (xU b p k l)) := by
    rw [← xSl hj]
    unfold pmWr
    rw [hk.1]
    rfl
  have hp' : (xS a b).1[p]? = some (ci, n, rs) := hp
  simp only [pmStep, hf, hp', hv, pmNx]
  rw [if_pos ⟨trivial, fun e => by rw [hk.2] at e; cases e⟩]
theorem x_gst {c wd : Nat} (hc : pmCode m pc = some (.getstatic c) ∧ pc + 3 = t) (hf : pmG o c = some wd) (hw : pmWp ro d o m rt t pl (.ref 1000 :: st) (xS a b) Q) : pmWp ro d o m rt pc pl st (xS a b) Q := by
  obtain ⟨h1, rfl⟩ := hc
  refine pmWp_1 h1 (st' := .ref 1000 :: st) ?_ hw
  simp only [pmStep, hf, pmNx]
/-! rows -/
theorem x_ial (hc : pmCode m pc = some .iaload ∧ pc + 1 = t) (hp : xZ[p]? = some (50, n, rs)) (hpp : Nat.ble p 999 = true) (h0 : 0 ≤ k) (h1 : k < n) (h2 : k < 2147483648) (hw : pmWp ro d o m rt t pl (xV (a p k) :: st) (xS a b) Q) : pmWp ro d o m rt pc pl (xV k :: .ref p :: st) (xS a b) Q := by
  obtain ⟨g1, rfl⟩ := hc
  refine pmWp_ial g1 (by have := Nat.le_of_ble_eq_true hpp; omega) (show (xS a b).1[p]? = _ from hp) (xIn h0 h1 h2) ?_
  have e : (xS a b).2.1 p (Int32.ofInt k).toNatClampNeg = Int32.ofInt (a p k) := by
    show Int32.ofInt (a p (((Int32.ofInt k).toNatClampNeg : Nat) : Int)) = _
    rw [xIx h0 h2]
  rw [e]
  exact hw
theorem x_lal (hc : pmCode m pc = some .laload ∧ pc + 1 = t) (hp : xZ[p]? = some (51, n, rs)) (h0 : 0 ≤ k) (h1 : k < n) (h2 : k < 2147483648) (hw : pmWp ro d o m rt t pl (.long (b p k) :: st) (xS a b) Q) : pmWp ro d o m rt pc pl (xV k :: .ref p :: st) (xS a b) Q := by
  obtain ⟨g1, rfl⟩ := hc
  refine pmWp_1 g1 (st' := .long (b p k) :: st) ?_ hw
  have hp' : (xS a b).1[p]? = some (51, n, rs) := hp
  have e : (xS a b).2.2 p (Int32.ofInt k).toNatClampNeg = b p k := by
    show b p (((Int32.ofInt k).toNatClampNeg : Nat) : Int) = _
    rw [xIx h0 h2]
  simp only [pmStep, hp', xV, e, pmNx]
  rw [if_pos ⟨trivial, xIn h0 h1 h2⟩]
theorem x_bal {kd : Nat} (hc : pmCode m pc = some .baload ∧ pc + 1 = t) (hp : xZ[p]? = some (kd, n, rs)) (hkd : kd = 52 ∨ kd = 53) (h0 : 0 ≤ k) (h1 : k < n) (h2 : k < 2147483648) (hw : pmWp ro d o m rt t pl (xV (a p k) :: st) (xS a b) Q) : pmWp ro d o m rt pc pl (xV k :: .ref p :: st) (xS a b) Q := by
  obtain ⟨g1, rfl⟩ := hc
  refine pmWp_1 g1 (st' := xV (a p k) :: st) ?_ hw
  have hp' : (xS a b).1[p]? = some (kd, n, rs) := hp
  have e : (xS a b).2.1 p (Int32.ofInt k).toNatClampNeg = Int32.ofInt (a p k) := by
    show Int32.ofInt (a p (((Int32.ofInt k).toNatClampNeg : Nat) : Int)) = _
    rw [xIx h0 h2]
  simp only [pmStep, hp', xV, e, pmNx]
  rw [if_pos ⟨hkd, xIn h0 h1 h2⟩]
theorem x_ias (hc : pmCode m pc = some .iastore ∧ pc + 1 = t) (hp : xZ[p]? = some (50, n, rs)) (h0 : 0 ≤ k) (h1 : k < n) (h2 : k < 2147483648) (hw : pmWp ro d o m rt t pl st (xS (xU a p k z) b) Q) : pmWp ro d o m rt pc pl (xV z :: xV k :: .ref p :: st) (xS a b) Q := by
  obtain ⟨g1, rfl⟩ := hc
  refine pmWp_ias g1 (show (xS a b).1[p]? = _ from hp) (xIn h0 h1 h2) ?_
  rw [xSi (xIx h0 h2)]
  exact hw
theorem x_las {l : Int64} (hc : pmCode m pc = some .lastore ∧ pc + 1 = t) (hp : xZ[p]? = some (51, n, rs)) (h0 : 0 ≤ k) (h1 : k < n) (h2 : k < 2147483648) (hw : pmWp ro d o m rt t pl st (xS a (xU b p k l)) Q) : pmWp ro d o m rt pc pl (.long l :: xV k :: .ref p :: st) (xS a b) Q := by
  obtain ⟨g1, rfl⟩ := hc
  refine pmWp_las g1 (show (xS a b).1[p]? = _ from hp) (xIn h0 h1 h2) ?_
  rw [xSl (xIx h0 h2)]
  exact hw
theorem x_zas (hz : z = 0 ∨ z = 1) (hc : pmCode m pc = some .bastore ∧ pc + 1 = t) (hp : xZ[p]? = some (52, n, rs)) (h0 : 0 ≤ k) (h1 : k < n) (h2 : k < 2147483648) (hw : pmWp ro d o m rt t pl st (xS (xU a p k z) b) Q) : pmWp ro d o m rt pc pl (xV z :: xV k :: .ref p :: st) (xS a b) Q := by
  obtain ⟨g1, rfl⟩ := hc
  refine pmWp_1 g1 (st' := st) ?_ hw
  have hp' : (xS a b).1[p]? = some (52, n, rs) := hp
  have e : vp_nar .boolean (Int32.ofInt z) = Int32.ofInt z := by
    rcases hz with h | h <;> subst h <;> rfl
  simp only [pmStep, hp', xV, e, pmNx]
  rw [if_pos ⟨trivial, xIn h0 h1 h2⟩, xSi (xIx h0 h2)]
theorem x_call {mm : Nat} {as rest : List Value} (hc : pmCode m pc = some i ∧ pc + 3 = t) (hcat : Nat.ble (pmCats rest) 8 = true) (hs : ∀ call, pmStep ro call o m rt pc i pl st (xS a b) = pmRt call mm as pc pl rest (xS a b)) (hw : pmCs ro d mm as (xS a b) fun r σ' => pmWp ro d o m rt t pl (r.toList ++ rest) σ' Q) : pmWp ro d o m rt pc pl st (xS a b) Q := by
  obtain ⟨h1, rfl⟩ := hc
  exact (pmWp_call h1 (Nat.le_of_ble_eq_true hcat) hs).mpr hw
theorem x_cS {mm c wd : Nat} {nst : Bool} {as rest : List Value} {q : pmIt} (hc : pmCode m pc = some (.invokestatic c) ∧ pc + 3 = t) (hm : pmM o c = some (mm, wd, nst)) (h9 : Nat.ble mm 8999 = true) (hi : pmInf[mm]? = some q) (hq : q.2.2.2.1 = 1 ∧ q.2.2.1.2.1 = as.length) (hst : as.reverse ++ rest = st) (hcat : Nat.ble (pmCats rest) 8 = true) (hw : pmCs ro d mm as (xS a b) fun r σ' => pmWp ro d o m rt t pl (r.toList ++ rest) σ' Q) : pmWp ro d o m rt pc pl st (xS a b) Q := by
  refine x_call hc hcat (fun call => ?_) hw
  have h9 := Nat.le_of_ble_eq_true h9
  obtain ⟨y, bb, ⟨oo, n, mx, r⟩, kind, ev⟩ := q
  obtain ⟨q1, q2⟩ := hq
  have q1 : kind = 1 := q1
  have q2 : n = as.length := q2
  subst q1 q2 hst
  simp only [pmStep, hm, hi]
  rw [if_neg (by omega), if_neg (by omega), if_neg (by omega), if_pos (by simp)]
  have e1 : (as.reverse ++ rest).take as.length = as.reverse := by simp [List.take_append]
  have e2 : (as.reverse ++ rest).drop as.length = rest := by simp [List.drop_append]
  rw [e1, e2, List.reverse_reverse]
theorem x_cV {mm c wd : Nat} {nst : Bool} {as rest : List Value} {q : pmIt} (hc : pmCode m pc = some (.invokevirtual c) ∧ pc + 3 = t) (hm : pmM o c = some (mm, wd, nst)) (hi : pmInf[mm]? = some q) (hp : xZ[p]? = some (q.2.2.1.1, n, rs)) (hq : q.2.2.2.1 = 0 ∧ q.2.2.1.2.1 = as.length) (hst : as.reverse ++ .ref p :: rest = st) (hcat : Nat.ble (pmCats rest) 8 = true) (hw : pmCs ro d mm (.ref p :: as) (xS a b) fun r σ' => pmWp ro d o m rt t pl (r.toList ++ rest) σ' Q) : pmWp ro d o m rt pc pl st (xS a b) Q := by
  refine x_call hc hcat (fun call => ?_) hw
  obtain ⟨y, bb, ⟨oo, n', mx, r⟩, kind, ev⟩ := q
  obtain ⟨q1, q2⟩ := hq
  have q1 : kind = 0 := q1
  have q2 : n' = as.length := q2
  have hp' : (xS a b).1[p]? = some (oo, n, rs) := hp
  subst q1 q2 hst
  have e1 : (as.reverse ++ Value.ref p :: rest).take as.length = as.reverse := by simp [List.take_append]
  have e2 : (as.reverse ++ Value.ref p :: rest).drop as.length = Value.ref p :: rest := by simp [List.drop_append]
  simp only [pmStep, hm, hi, e1, e2, hp', List.reverse_reverse, if_true]
/-- going in -/
theorem x_go {mm : Nat} {q : pmIt} {as : List Value} {pl0 : pmL} (hi : pmInf[mm]? = some q) (h1 : Nat.ble (pmPl as).length q.2.2.1.2.2.1 = true) (h2 : Nat.ble q.2.2.1.2.2.1 40 = true) (h3 : Nat.ble q.2.2.2.1 2 = true) (h4 : pmEl mm (pmPl as) = true) (h5 : pmPl as ++ List.replicate (q.2.2.1.2.2.1 - (pmPl as).length) none = pl0) (hw : pmWp ro d q.2.2.1.1 mm (pmRk q.2.2.1.2.2.2 q.2.2.2.1) 0 pl0 [] (xS a b) Q) : pmCs ro (d + 1) mm as (xS a b) Q := by
  obtain ⟨y, bb, ⟨oo, n', mx, r⟩, kind, ev⟩ := q
  refine (pmCs_go hi ⟨Nat.le_of_ble_eq_true h1, Nat.le_of_ble_eq_true h2, Nat.lt_succ_of_le (Nat.le_of_ble_eq_true h3), h4⟩).mpr ?_
  have h5 : pmPl as ++ List.replicate (mx - (pmPl as).length) none = pl0 := h5
  rw [h5]
  exact hw
/-- Math.max, Math.min -/
theorem x_max {c wd : Nat} {nst : Bool} (hc : pmCode m pc = some (.invokestatic c) ∧ pc + 3 = t) (hm : pmM o c = some (9002, wd, nst)) (hz : xR z) (hy : xR y) (hcat : Nat.ble (pmCats st) 8 = true) (hw : pmWp ro d o m rt t pl (xV (if z < y then y else z) :: st) (xS a b) Q) : pmWp ro d o m rt pc pl (xV y :: xV z :: st) (xS a b) Q := by
  obtain ⟨h1, rfl⟩ := hc
  refine pmWp_1 h1 (st' := xV (if z < y then y else z) :: st) ?_ hw
  simp only [pmStep, hm, xV]
  rw [if_neg (by decide), if_pos trivial, if_pos (Nat.le_of_ble_eq_true hcat)]
  by_cases c : z < y
  · rw [if_pos ((xLt hz hy).mpr c), if_pos c]
    rfl
  · rw [if_neg (fun e => c ((xLt hz hy).mp e)), if_neg c]
    rfl
theorem x_min {c wd : Nat} {nst : Bool} (hc : pmCode m pc = some (.invokestatic c) ∧ pc + 3 = t) (hm : pmM o c = some (9003, wd, nst)) (hz : xR z) (hy : xR y) (hcat : Nat.ble (pmCats st) 8 = true) (hw : pmWp ro d o m rt t pl (xV (if y < z then y else z) :: st) (xS a b) Q) : pmWp ro d o m rt pc pl (xV y :: xV z :: st) (xS a b) Q := by
  obtain ⟨h1, rfl⟩ := hc
  refine pmWp_1 h1 (st' := xV (if y < z then y else z) :: st) ?_ hw
  simp only [pmStep, hm, xV]
  rw [if_neg (by decide), if_neg (by decide), if_pos trivial, if_pos (Nat.le_of_ble_eq_true hcat)]
  by_cases c : y < z
  · rw [if_pos ((xLt hy hz).mpr c), if_pos c]
    rfl
  · rw [if_neg (fun e => c ((xLt hy hz).mp e)), if_neg c]
    rfl
end
/-! longs -/
section
variable {ro : Nat → Nat × (Nat → Int32)} {d o m rt pc t f : Nat} {pl pl' : pmL} {st st' : List Value} {a a' : xA} {b b' : xB} {Q : Option Value → pmS → Prop} {z y k : Int} {i : Instr} {x l : Int64}
def xShr (l : Int64) (y : Int) : Int64 := (l.toUInt64 >>> ((Int32.ofInt y).toInt64.toUInt64 &&& Int64.toUInt64 63)).toInt64
def xShL (l : Int64) (y : Int) : Int64 := l <<< ((Int32.ofInt y).toInt64 &&& 63)
def xCmp (x y : Int64) : Int := (lg_cmp x y).toInt
def xL2 (l : Int64) : Int := l.toInt32.toInt
def xByte (z : Int) : Int := (Int32.ofInt z).toInt8.toInt32.toInt
def xUs (z y : Int) : Int := ((Int32.ofInt z).toUInt32 >>> ((Int32.ofInt y).toUInt32 &&& Int32.toUInt32 31)).toInt32.toInt
theorem x_lconst {n : Fin 2} (hc : pmCode m pc = some (.lconst n) ∧ pc + 1 = t) (hl : Int64.ofNat n.val = l) (hw : pmWp ro d o m rt t pl (.long l :: st) (xS a b) Q) : pmWp ro d o m rt pc pl st (xS a b) Q := by
  obtain ⟨h1, rfl⟩ := hc
  subst hl
  exact pmWp_1 h1 rfl hw
theorem x_ldc2 {n wd : Nat} (hc : pmCode m pc = some (.ldc2_w n) ∧ pc + 3 = t) (hl : pmCL o n = some (l, wd)) (hw : pmWp ro d o m rt t pl (.long l :: st) (xS a b) Q) : pmWp ro d o m rt pc pl st (xS a b) Q := by
  obtain ⟨h1, rfl⟩ := hc
  refine pmWp_1 h1 (st' := .long l :: st) ?_ hw
  simp only [pmStep, hl, pmNx]
theorem x_land (hc : pmCode m pc = some .land ∧ pc + 1 = t) (hw : pmWp ro d o m rt t pl (.long (x &&& l) :: st) (xS a b) Q) : pmWp ro d o m rt pc pl (.long l :: .long x :: st) (xS a b) Q := by
  obtain ⟨h1, rfl⟩ := hc
  exact pmWp_1 h1 rfl hw
theorem x_lor (hc : pmCode m pc = some .lor ∧ pc + 1 = t) (hw : pmWp ro d o m rt t pl (.long (x ||| l) :: st) (xS a b) Q) : pmWp ro d o m rt pc pl (.long l :: .long x :: st) (xS a b) Q := by
  obtain ⟨h1, rfl⟩ := hc
  exact pmWp_1 h1 rfl hw
theorem x_lxor (hc : pmCode m pc = some .lxor ∧ pc + 1 = t) (hw : pmWp ro d o m rt t pl (.long (x ^^^ l) :: st) (xS a b) Q) : pmWp ro d o m rt pc pl (.long l :: .long x :: st) (xS a b) Q := by
  obtain ⟨h1, rfl⟩ := hc
  exact pmWp_1 h1 rfl hw
theorem x_ladd (hc : pmCode m pc = some .ladd ∧ pc + 1 = t) (hw : pmWp ro d o m rt t pl (.long (x + l) :: st) (xS a b) Q) : pmWp ro d o m rt pc pl (.long l :: .long x :: st) (xS a b) Q := by
  obtain ⟨h1, rfl⟩ := hc
  exact pmWp_1 h1 rfl hw
theorem x_lmul (hc : pmCode m pc = some .lmul ∧ pc + 1 = t) (hw : pmWp ro d o m rt t pl (.long (x * l) :: st) (xS a b) Q) : pmWp ro d o m rt pc pl (.long l :: .long x :: st) (xS a b) Q := by
  obtain ⟨h1, rfl⟩ := hc
  exact pmWp_1 h1 rfl hw
theorem x_lrem (hc : pmCode m pc = some .lrem ∧ pc + 1 = t) (hl : l ≠ 0) (hw : pmWp ro d o m rt t pl (.long (x - x / l * l) :: st) (xS a b) Q) : pmWp ro d o m rt pc pl (.long l :: .long x :: st) (xS a b) Q := by
  obtain ⟨h1, rfl⟩ := hc
  refine pmWp_1 h1 (st' := .long (x - x / l * l) :: st) ?_ hw
  simp only [pmStep]
  rw [if_neg hl]
  rfl
theorem x_lushr (hc : pmCode m pc = some .lushr ∧ pc + 1 = t) (hw : pmWp ro d o m rt t pl (.long (xShr x y) :: st) (xS a b) Q) : pmWp ro d o m rt pc pl (xV y :: .long x :: st) (xS a b) Q := by
  obtain ⟨h1, rfl⟩ := hc
  exact pmWp_1 h1 rfl hw
theorem x_lshl (hc : pmCode m pc = some .lshl ∧ pc + 1 = t) (hw : pmWp ro d o m rt t pl (.long (xShL x y) :: st) (xS a b) Q) : pmWp ro d o m rt pc pl (xV y :: .long x :: st) (xS a b) Q := by
  obtain ⟨h1, rfl⟩ := hc
  exact pmWp_1 h1 rfl hw
theorem x_lcmp (hc : pmCode m pc = some .lcmp ∧ pc + 1 = t) (hw : pmWp ro d o m rt t pl (xV (xCmp x l) :: st) (xS a b) Q) : pmWp ro d o m rt pc pl (.long l :: .long x :: st) (xS a b) Q := by
  obtain ⟨h1, rfl⟩ := hc
  refine pmWp_1 h1 (st' := xV (xCmp x l) :: st) ?_ hw
  simp only [pmStep, pmNx, xV, xCmp, Int32.ofInt_toInt]
theorem xI64 (hz : xR z) : (Int32.ofInt z).toInt64 = Int64.ofInt z := by
  apply Int64.toInt.inj
  have := hz.1
  have := hz.2
  rw [Int32.toInt_toInt64, xI hz, Int64.toInt_ofInt_of_le (by omega) (by omega)]
theorem x_i2l (hz : xR z) (hc : pmCode m pc = some .i2l ∧ pc + 1 = t) (hw : pmWp ro d o m rt t pl (.long (Int64.ofInt z) :: st) (xS a b) Q) : pmWp ro d o m rt pc pl (xV z :: st) (xS a b) Q := by
  obtain ⟨h1, rfl⟩ := hc
  refine pmWp_1 h1 (st' := .long (Int64.ofInt z) :: st) ?_ hw
  simp only [pmStep, pmNx, xV, xI64 hz]
theorem x_l2i (hc : pmCode m pc = some .l2i ∧ pc + 1 = t) (hw : pmWp ro d o m rt t pl (xV (xL2 l) :: st) (xS a b) Q) : pmWp ro d o m rt pc pl (.long l :: st) (xS a b) Q := by
  obtain ⟨h1, rfl⟩ := hc
  refine pmWp_1 h1 (st' := xV (xL2 l) :: st) ?_ hw
  simp only [pmStep, pmNx, xV, xL2, Int32.ofInt_toInt]
theorem x_i2b (hc : pmCode m pc = some .i2b ∧ pc + 1 = t) (hw : pmWp ro d o m rt t pl (xV (xByte z) :: st) (xS a b) Q) : pmWp ro d o m rt pc pl (xV z :: st) (xS a b) Q := by
  obtain ⟨h1, rfl⟩ := hc
  refine pmWp_1 h1 (st' := xV (xByte z) :: st) ?_ hw
  simp only [pmStep, pmNx, xV, xByte, Int32.ofInt_toInt]
theorem x_iushr (hc : pmCode m pc = some .iushr ∧ pc + 1 = t) (hw : pmWp ro d o m rt t pl (xV (xUs z y) :: st) (xS a b) Q) : pmWp ro d o m rt pc pl (xV y :: xV z :: st) (xS a b) Q := by
  obtain ⟨h1, rfl⟩ := hc
  refine pmWp_1 h1 (st' := xV (xUs z y) :: st) ?_ hw
  simp only [pmStep, pmNx, xV, xUs, Int32.ofInt_toInt]
theorem xUsB (z y : Int) : -2147483648 ≤ xUs z y ∧ xUs z y ≤ 2147483647 := aB32 _
theorem xByteB (z : Int) : -128 ≤ xByte z ∧ xByte z ≤ 127 := by
  unfold xByte
  rw [Int8.toInt_toInt32]
  have h1 := Int8.le_toInt (Int32.ofInt z).toInt8
  have h2 := Int8.toInt_lt (Int32.ofInt z).toInt8
  omega
theorem xL2B (l : Int64) : -2147483648 ≤ xL2 l ∧ xL2 l ≤ 2147483647 := aB32 _
theorem xCmp0 (x y : Int64) : xCmp x y = 0 ↔ x = y := by
  unfold xCmp lg_cmp
  split
  · rename_i h
    refine ⟨fun e => absurd e (by decide), fun e => ?_⟩
    rw [e, gt_iff_lt, Int64.lt_iff_toInt_lt] at h
    omega
  · split
    · rename_i h
      exact ⟨fun _ => by first | exact h | simpa using h, fun _ => rfl⟩
    · rename_i h
      exact ⟨fun e => absurd e (by decide), fun e => absurd (by first | exact e | simpa using e) h⟩
end
/-! the script -/
section
variable {Ln : Nat} {xs : Nat → Int32} {d o m rt pc t : Nat} {pl : pmL} {st : List Value} {a : xA} {b : xB} {Q : Option Value → pmS → Prop} {k : Int}
theorem x_salen (hc : pmCode m pc = some .arraylength ∧ pc + 1 = t) (hLn : Ln ≤ 3072) (hw : pmWp (pmRo Ln xs) d o m rt t pl (xV (Ln : Int) :: st) (xS a b) Q) : pmWp (pmRo Ln xs) d o m rt pc pl (.ref 1001 :: st) (xS a b) Q := by
  obtain ⟨h1, rfl⟩ := hc
  refine pmWp_1 h1 (st' := xV (Ln : Int) :: st) ?_ hw
  simp only [pmStep]
  rw [if_pos ⟨trivial, rfl⟩]
  rfl
theorem x_sld (hc : pmCode m pc = some .iaload ∧ pc + 1 = t) (h0 : 0 ≤ k) (h1 : k < Ln) (h2 : k < 2147483648) (hw : pmWp (pmRo Ln xs) d o m rt t pl (xV (xs k.toNat).toInt :: st) (xS a b) Q) : pmWp (pmRo Ln xs) d o m rt pc pl (xV k :: .ref 1001 :: st) (xS a b) Q := by
  obtain ⟨g1, rfl⟩ := hc
  refine pmWp_1 g1 (st' := xV (xs k.toNat).toInt :: st) ?_ hw
  have e : (Int32.ofInt k).toNatClampNeg = k.toNat := by
    have := xIx h0 h2
    omega
  have hin : pmIn (Int32.ofInt k) (pmRo Ln xs 1001).1 := xIn h0 h1 h2
  simp only [pmStep, xV]
  rw [if_pos (by decide), if_pos hin, e, Int32.ofInt_toInt]
  rfl
end
/-! reads told otherwise -/
section
variable {ro : Nat → Nat × (Nat → Int32)} {d o m rt pc t : Nat} {pl : pmL} {st : List Value} {a : xA} {b : xB} {Q : Option Value → pmS → Prop} {z y k v : Int} {p n j : Nat} {rs : List (Option Nat)}
theorem x_gfi' {c ci wd : Nat} {nst : Bool} (hc : pmCode m pc = some (.getfield c) ∧ pc + 3 = t) (hf : pmF o c = some (ci, j, wd, nst)) (hk : pmKd ci j = 0 ∨ pmKd ci j = 3) (hj : (j : Int) = k) (hp : xZ[p]? = some (ci, n, rs)) (hv : a p k = v) (hw : pmWp ro d o m rt t pl (xV v :: st) (xS a b) Q) : pmWp ro d o m rt pc pl (.ref p :: st) (xS a b) Q := by
  subst hv
  exact x_gfi hc hf hk hj hp hw
theorem x_gfl' {c ci wd : Nat} {nst : Bool} {v : Int64} (hc : pmCode m pc = some (.getfield c) ∧ pc + 3 = t) (hf : pmF o c = some (ci, j, wd, nst)) (hk : pmKd ci j = 1) (hj : (j : Int) = k) (hp : xZ[p]? = some (ci, n, rs)) (hv : b p k = v) (hw : pmWp ro d o m rt t pl (.long v :: st) (xS a b) Q) : pmWp ro d o m rt pc pl (.ref p :: st) (xS a b) Q := by
  subst hv
  exact x_gfl hc hf hk hj hp hw
theorem x_ial' (hc : pmCode m pc = some .iaload ∧ pc + 1 = t) (hp : xZ[p]? = some (50, n, rs)) (hpp : Nat.ble p 999 = true) (h0 : 0 ≤ k) (h1 : k < n) (h2 : k < 2147483648) (hv : a p k = v) (hw : pmWp ro d o m rt t pl (xV v :: st) (xS a b) Q) : pmWp ro d o m rt pc pl (xV k :: .ref p :: st) (xS a b) Q := by
  subst hv
  exact x_ial hc hp hpp h0 h1 h2 hw
theorem x_lal' {v : Int64} (hc : pmCode m pc = some .laload ∧ pc + 1 = t) (hp : xZ[p]? = some (51, n, rs)) (h0 : 0 ≤ k) (h1 : k < n) (h2 : k < 2147483648) (hv : b p k = v) (hw : pmWp ro d o m rt t pl (.long v :: st) (xS a b) Q) : pmWp ro d o m rt pc pl (xV k :: .ref p :: st) (xS a b) Q := by
  subst hv
  exact x_lal hc hp h0 h1 h2 hw
theorem x_bal' {kd : Nat} (hc : pmCode m pc = some .baload ∧ pc + 1 = t) (hp : xZ[p]? = some (kd, n, rs)) (hkd : kd = 52 ∨ kd = 53) (h0 : 0 ≤ k) (h1 : k < n) (h2 : k < 2147483648) (hv : a p k = v) (hw : pmWp ro d o m rt t pl (xV v :: st) (xS a b) Q) : pmWp ro d o m rt pc pl (xV k :: .ref p :: st) (xS a b) Q := by
  subst hv
  exact x_bal hc hp hkd h0 h1 h2 hw
theorem x_bas (hz : -128 ≤ z ∧ z ≤ 127) (hc : pmCode m pc = some .bastore ∧ pc + 1 = t) (hp : xZ[p]? = some (53, n, rs)) (h0 : 0 ≤ k) (h1 : k < n) (h2 : k < 2147483648) (hw : pmWp ro d o m rt t pl st (xS (xU a p k z) b) Q) : pmWp ro d o m rt pc pl (xV z :: xV k :: .ref p :: st) (xS a b) Q := by
  obtain ⟨g1, rfl⟩ := hc
  refine pmWp_1 g1 (st' := st) ?_ hw
  have hp' : (xS a b).1[p]? = some (53, n, rs) := hp
  have e : vp_nar .byte (Int32.ofInt z) = Int32.ofInt z := by
    show (Int32.ofInt z).toInt8.toInt32 = _
    apply Int32.toInt.inj
    rw [Int8.toInt_toInt32, Int32.toInt_toInt8, xI ⟨by omega, by omega⟩]
    exact Int.bmod_eq_of_le (by omega) (by omega)
  simp only [pmStep, hp', xV, e, pmNx]
  rw [if_neg (fun h => absurd h.1 (by decide)), if_pos ⟨trivial, xIn h0 h1 h2⟩, xSi (xIx h0 h2)]
end
end
section
/-! what the table tells of each cell, in Int (printed by facts.py) -/
section
variable {a : xA} {b : xB} {k z v lo hi : Int} {p q : Nat} {j : Int}
/-- every int is one of 32 bits -/
def xAr (a : xA) : Prop := ∀ p k, xR (a p k)
theorem xRb (h : xR z) : -2147483648 ≤ z ∧ z ≤ 2147483647 := h
theorem xBZ (hA : xAr a) {n : Nat} (hl : bLo p n = false) : bZ (xS a b) p n = a p (n : Int) := by
  unfold bZ
  rw [hl]
  exact xI (hA p n)
theorem xT1 (h : kOk (xS a b)) (hA : xAr a) (h0 : 0 ≤ k) (hl : bLo p k.toNat = false) (hg : bGe p k.toNat = [(lo, hi)]) : lo ≤ a p k ∧ a p k ≤ hi := by
  have h1 := h.2 p k.toNat
  rw [hg, xBZ hA hl] at h1
  obtain ⟨i, hi, g1, g2⟩ := h1
  rw [List.mem_singleton] at hi
  subst hi
  rw [Int.toNat_of_nonneg h0] at g1 g2
  exact ⟨g1, g2⟩
theorem xUr (hv : lo ≤ v ∧ v ≤ hi) (ha : lo ≤ a q j ∧ a q j ≤ hi) : lo ≤ xU a p k v q j ∧ xU a p k v q j ≤ hi := by
  unfold xU
  split
  · exact hv
  · exact ha
theorem xUa {β : Type} {f : Nat → Int → β} {w : β} : xU f p k w p k = w := if_pos ⟨rfl, rfl⟩
theorem xUn {β : Type} {f : Nat → Int → β} {w : β} (h : q ≠ p) : xU f p k w q j = f q j := if_neg (fun e => h e.1)
theorem xUk {β : Type} {f : Nat → Int → β} {w : β} (h : j ≠ k) : xU f p k w q j = f q j := if_neg (fun e => h e.2)
theorem xAr_u (h : xAr a) (hv : xR v) : xAr (xU a p k v) := fun q j => by
  unfold xU
  split
  · exact hv
  · exact h q j
theorem xAndB (z y : Int) : -2147483648 ≤ xAnd z y ∧ xAnd z y ≤ 2147483647 := aB32 _
theorem xOrB (z y : Int) : -2147483648 ≤ xOr z y ∧ xOr z y ≤ 2147483647 := aB32 _
theorem xXorB (z y : Int) : -2147483648 ≤ xXor z y ∧ xXor z y ≤ 2147483647 := aB32 _
theorem xt0_12 (h : kOk (xS a b)) (hA : xAr a) : 0 ≤ a 0 12 ∧ a 0 12 ≤ 1 := xT1 h hA (k := 12) (by decide) rfl (by decide +kernel)
theorem xt1_1 (h : kOk (xS a b)) (hA : xAr a) : 0 ≤ a 1 1 ∧ a 1 1 ≤ 400 := xT1 h hA (k := 1) (by decide) rfl (by decide +kernel)
theorem xt1_2 (h : kOk (xS a b)) (hA : xAr a) : 0 ≤ a 1 2 ∧ a 1 2 ≤ 400 := xT1 h hA (k := 2) (by decide) rfl (by decide +kernel)
theorem xt1_3 (h : kOk (xS a b)) (hA : xAr a) : 0 ≤ a 1 3 ∧ a 1 3 ≤ 400 := xT1 h hA (k := 3) (by decide) rfl (by decide +kernel)
theorem xt1_4 (h : kOk (xS a b)) (hA : xAr a) : -5400 ≤ a 1 4 ∧ a 1 4 ≤ 0 := xT1 h hA (k := 4) (by decide) rfl (by decide +kernel)
theorem xt2 (h : kOk (xS a b)) (hA : xAr a) (h0 : 0 ≤ k) : 0 ≤ a 2 k ∧ a 2 k ≤ 255 := xT1 h hA h0 rfl (bGu_ok (by decide +kernel) _)
theorem xt3_5 (h : kOk (xS a b)) (hA : xAr a) : 0 ≤ a 3 5 ∧ a 3 5 ≤ 5 := xT1 h hA (k := 5) (by decide) rfl (by decide +kernel)
theorem xt6 (h : kOk (xS a b)) (hA : xAr a) (h0 : 0 ≤ k) : 0 ≤ a 6 k ∧ a 6 k ≤ 99 := xT1 h hA h0 rfl (bGu_ok (by decide +kernel) _)
theorem xt9 (h : kOk (xS a b)) (hA : xAr a) (h0 : 0 ≤ k) : 0 ≤ a 9 k ∧ a 9 k ≤ 40 := xT1 h hA h0 rfl (bGu_ok (by decide +kernel) _)
theorem xt10 (h : kOk (xS a b)) (hA : xAr a) (h0 : 0 ≤ k) : 0 ≤ a 10 k ∧ a 10 k ≤ 9 := xT1 h hA h0 rfl (bGu_ok (by decide +kernel) _)
theorem xt11 (h : kOk (xS a b)) (hA : xAr a) (h0 : 0 ≤ k) : 0 ≤ a 11 k ∧ a 11 k ≤ 2 := xT1 h hA h0 rfl (bGu_ok (by decide +kernel) _)
theorem xt12 (h : kOk (xS a b)) (hA : xAr a) (h0 : 0 ≤ k) : 0 ≤ a 12 k ∧ a 12 k ≤ 3 := xT1 h hA h0 rfl (bGu_ok (by decide +kernel) _)
theorem xt13_7 (h : kOk (xS a b)) (hA : xAr a) : 0 ≤ a 13 7 ∧ a 13 7 ≤ 6 := xT1 h hA (k := 7) (by decide) rfl (by decide +kernel)
theorem xt20 (h : kOk (xS a b)) (hA : xAr a) (h0 : 0 ≤ k) : 0 ≤ a 20 k ∧ a 20 k ≤ 4 := xT1 h hA h0 rfl (bGu_ok (by decide +kernel) _)
theorem xt21_12 (h : kOk (xS a b)) (hA : xAr a) : 0 ≤ a 21 12 ∧ a 21 12 ≤ 1 := xT1 h hA (k := 12) (by decide) rfl (by decide +kernel)
theorem xt26_12 (h : kOk (xS a b)) (hA : xAr a) : 0 ≤ a 26 12 ∧ a 26 12 ≤ 1 := xT1 h hA (k := 12) (by decide) rfl (by decide +kernel)
theorem xt31_2 (h : kOk (xS a b)) (hA : xAr a) : 0 ≤ a 31 2 ∧ a 31 2 ≤ 40 := xT1 h hA (k := 2) (by decide) rfl (by decide +kernel)
theorem xt33_2 (h : kOk (xS a b)) (hA : xAr a) : 0 ≤ a 33 2 ∧ a 33 2 ≤ 4 := xT1 h hA (k := 2) (by decide) rfl (by decide +kernel)
theorem xt34_10 (h : kOk (xS a b)) (hA : xAr a) : 0 ≤ a 34 10 ∧ a 34 10 ≤ 3 := xT1 h hA (k := 10) (by decide) rfl (by decide +kernel)
theorem xt34_11 (h : kOk (xS a b)) (hA : xAr a) : 0 ≤ a 34 11 ∧ a 34 11 ≤ 11 := xT1 h hA (k := 11) (by decide) rfl (by decide +kernel)
theorem xt39 (h : kOk (xS a b)) (hA : xAr a) (h0 : 0 ≤ k) : 0 ≤ a 39 k ∧ a 39 k ≤ 100000 := xT1 h hA h0 rfl (bGu_ok (by decide +kernel) _)
theorem xt42 (h : kOk (xS a b)) (hA : xAr a) (h0 : 0 ≤ k) : 0 ≤ a 42 k ∧ a 42 k ≤ 6 := xT1 h hA h0 rfl (bGu_ok (by decide +kernel) _)
theorem xt47_12 (h : kOk (xS a b)) (hA : xAr a) : 0 ≤ a 47 12 ∧ a 47 12 ≤ 1 := xT1 h hA (k := 12) (by decide) rfl (by decide +kernel)
theorem xt52_12 (h : kOk (xS a b)) (hA : xAr a) : 0 ≤ a 52 12 ∧ a 52 12 ≤ 1 := xT1 h hA (k := 12) (by decide) rfl (by decide +kernel)
theorem xt57_12 (h : kOk (xS a b)) (hA : xAr a) : 0 ≤ a 57 12 ∧ a 57 12 ≤ 1 := xT1 h hA (k := 12) (by decide) rfl (by decide +kernel)
theorem xt63_12 (h : kOk (xS a b)) (hA : xAr a) : 0 ≤ a 63 12 ∧ a 63 12 ≤ 1 := xT1 h hA (k := 12) (by decide) rfl (by decide +kernel)
theorem xt68_12 (h : kOk (xS a b)) (hA : xAr a) : 0 ≤ a 68 12 ∧ a 68 12 ≤ 1 := xT1 h hA (k := 12) (by decide) rfl (by decide +kernel)
theorem xt73_12 (h : kOk (xS a b)) (hA : xAr a) : 0 ≤ a 73 12 ∧ a 73 12 ≤ 1 := xT1 h hA (k := 12) (by decide) rfl (by decide +kernel)
theorem xt79_6 (h : kOk (xS a b)) (hA : xAr a) : 0 ≤ a 79 6 ∧ a 79 6 ≤ 60 := xT1 h hA (k := 6) (by decide) rfl (by decide +kernel)
theorem xt80_12 (h : kOk (xS a b)) (hA : xAr a) : 0 ≤ a 80 12 ∧ a 80 12 ≤ 1 := xT1 h hA (k := 12) (by decide) rfl (by decide +kernel)
theorem xt87_2 (h : kOk (xS a b)) (hA : xAr a) : 0 ≤ a 87 2 ∧ a 87 2 ≤ 5 := xT1 h hA (k := 2) (by decide) rfl (by decide +kernel)
theorem xt87_3 (h : kOk (xS a b)) (hA : xAr a) : 0 ≤ a 87 3 ∧ a 87 3 ≤ 6 := xT1 h hA (k := 3) (by decide) rfl (by decide +kernel)
theorem xt87_4 (h : kOk (xS a b)) (hA : xAr a) : 0 ≤ a 87 4 ∧ a 87 4 ≤ 1 := xT1 h hA (k := 4) (by decide) rfl (by decide +kernel)
theorem xt87_9 (h : kOk (xS a b)) (hA : xAr a) : 0 ≤ a 87 9 ∧ a 87 9 ≤ 400 := xT1 h hA (k := 9) (by decide) rfl (by decide +kernel)
theorem xt87_10 (h : kOk (xS a b)) (hA : xAr a) : 0 ≤ a 87 10 ∧ a 87 10 ≤ 60 := xT1 h hA (k := 10) (by decide) rfl (by decide +kernel)
theorem xt87_11 (h : kOk (xS a b)) (hA : xAr a) : 0 ≤ a 87 11 ∧ a 87 11 ≤ 60 := xT1 h hA (k := 11) (by decide) rfl (by decide +kernel)
theorem xt87_14 (h : kOk (xS a b)) (hA : xAr a) : 0 ≤ a 87 14 ∧ a 87 14 ≤ 60 := xT1 h hA (k := 14) (by decide) rfl (by decide +kernel)
theorem xt87_15 (h : kOk (xS a b)) (hA : xAr a) : 0 ≤ a 87 15 ∧ a 87 15 ≤ 60 := xT1 h hA (k := 15) (by decide) rfl (by decide +kernel)
theorem xt87_34 (h : kOk (xS a b)) (hA : xAr a) : 0 ≤ a 87 34 ∧ a 87 34 ≤ 4 := xT1 h hA (k := 34) (by decide) rfl (by decide +kernel)
theorem xt87_41 (h : kOk (xS a b)) (hA : xAr a) : 0 ≤ a 87 41 ∧ a 87 41 ≤ 3000 := xT1 h hA (k := 41) (by decide) rfl (by decide +kernel)
theorem xt87_42 (h : kOk (xS a b)) (hA : xAr a) : -1 ≤ a 87 42 ∧ a 87 42 ≤ 2 := xT1 h hA (k := 42) (by decide) rfl (by decide +kernel)
theorem xt87_43 (h : kOk (xS a b)) (hA : xAr a) : -1 ≤ a 87 43 ∧ a 87 43 ≤ 40 := xT1 h hA (k := 43) (by decide) rfl (by decide +kernel)
theorem xt90 (h : kOk (xS a b)) (hA : xAr a) (h0 : 0 ≤ k) : 0 ≤ a 90 k ∧ a 90 k ≤ 1 := xT1 h hA h0 rfl (bGu_ok (by decide +kernel) _)
theorem xt91 (h : kOk (xS a b)) (hA : xAr a) (h0 : 0 ≤ k) : 0 ≤ a 91 k ∧ a 91 k ≤ 1 := xT1 h hA h0 rfl (bGu_ok (by decide +kernel) _)
theorem xt93 (h : kOk (xS a b)) (hA : xAr a) (h0 : 0 ≤ k) : -128 ≤ a 93 k ∧ a 93 k ≤ 127 := xT1 h hA h0 rfl (bGu_ok (by decide +kernel) _)
theorem xt94 (h : kOk (xS a b)) (hA : xAr a) (h0 : 0 ≤ k) : 0 ≤ a 94 k ∧ a 94 k ≤ 8 := xT1 h hA h0 rfl (bGu_ok (by decide +kernel) _)
theorem xt96 (h : kOk (xS a b)) (hA : xAr a) (h0 : 0 ≤ k) : 0 ≤ a 96 k ∧ a 96 k ≤ 3 := xT1 h hA h0 rfl (bGu_ok (by decide +kernel) _)
theorem xt97 (h : kOk (xS a b)) (hA : xAr a) (h0 : 0 ≤ k) : 0 ≤ a 97 k ∧ a 97 k ≤ 9 := xT1 h hA h0 rfl (bGu_ok (by decide +kernel) _)
theorem xt98 (h : kOk (xS a b)) (hA : xAr a) (h0 : 0 ≤ k) : 0 ≤ a 98 k ∧ a 98 k ≤ 60 := xT1 h hA h0 rfl (bGu_ok (by decide +kernel) _)
theorem xt100 (h : kOk (xS a b)) (hA : xAr a) (h0 : 0 ≤ k) : 0 ≤ a 100 k ∧ a 100 k ≤ 4 := xT1 h hA h0 rfl (bGu_ok (by decide +kernel) _)
theorem xt107 (h : kOk (xS a b)) (hA : xAr a) (h0 : 0 ≤ k) : 0 ≤ a 107 k ∧ a 107 k ≤ 1 := xT1 h hA h0 rfl (bGu_ok (by decide +kernel) _)
theorem xt109 (h : kOk (xS a b)) (hA : xAr a) (h0 : 0 ≤ k) : 0 ≤ a 109 k ∧ a 109 k ≤ 1 := xT1 h hA h0 rfl (bGu_ok (by decide +kernel) _)
theorem xt110 (h : kOk (xS a b)) (hA : xAr a) (h0 : 0 ≤ k) : 0 ≤ a 110 k ∧ a 110 k ≤ 40 := xT1 h hA h0 rfl (bGu_ok (by decide +kernel) _)
theorem xt111 (h : kOk (xS a b)) (hA : xAr a) (h0 : 0 ≤ k) : 0 ≤ a 111 k ∧ a 111 k ≤ 40 := xT1 h hA h0 rfl (bGu_ok (by decide +kernel) _)
theorem xt112 (h : kOk (xS a b)) (hA : xAr a) (h0 : 0 ≤ k) : 0 ≤ a 112 k ∧ a 112 k ≤ 42 := xT1 h hA h0 rfl (bGu_ok (by decide +kernel) _)
theorem xt113 (h : kOk (xS a b)) (hA : xAr a) (h0 : 0 ≤ k) : 0 ≤ a 113 k ∧ a 113 k ≤ 36 := xT1 h hA h0 rfl (bGu_ok (by decide +kernel) _)
theorem xt115 (h : kOk (xS a b)) (hA : xAr a) (h0 : 0 ≤ k) : 0 ≤ a 115 k ∧ a 115 k ≤ 41 := xT1 h hA h0 rfl (bGu_ok (by decide +kernel) _)
theorem xt116 (h : kOk (xS a b)) (hA : xAr a) (h0 : 0 ≤ k) : -1 ≤ a 116 k ∧ a 116 k ≤ 60 := xT1 h hA h0 rfl (bGu_ok (by decide +kernel) _)
theorem xt118 (h : kOk (xS a b)) (hA : xAr a) (h0 : 0 ≤ k) : -1 ≤ a 118 k ∧ a 118 k ≤ 2 := xT1 h hA h0 rfl (bGu_ok (by decide +kernel) _)
theorem xt119 (h : kOk (xS a b)) (hA : xAr a) (h0 : 0 ≤ k) : 0 ≤ a 119 k ∧ a 119 k ≤ 1 := xT1 h hA h0 rfl (bGu_ok (by decide +kernel) _)
theorem xt120 (h : kOk (xS a b)) (hA : xAr a) (h0 : 0 ≤ k) : -1 ≤ a 120 k ∧ a 120 k ≤ 60 := xT1 h hA h0 rfl (bGu_ok (by decide +kernel) _)
theorem xt122 (h : kOk (xS a b)) (hA : xAr a) (h0 : 0 ≤ k) : -1 ≤ a 122 k ∧ a 122 k ≤ 2 := xT1 h hA h0 rfl (bGu_ok (by decide +kernel) _)
theorem xt123 (h : kOk (xS a b)) (hA : xAr a) (h0 : 0 ≤ k) : 0 ≤ a 123 k ∧ a 123 k ≤ 56 := xT1 h hA h0 rfl (bGu_ok (by decide +kernel) _)
theorem xt124 (h : kOk (xS a b)) (hA : xAr a) (h0 : 0 ≤ k) : 0 ≤ a 124 k ∧ a 124 k ≤ 1 := xT1 h hA h0 rfl (bGu_ok (by decide +kernel) _)
end
end
section
/-! exact runs: bits of longs -/
section
variable {x y l : Int64} {k j : Int}
theorem xCmpB (x y : Int64) : -2147483648 ≤ xCmp x y ∧ xCmp x y ≤ 2147483647 := aB32 _
theorem xShrB (h0 : 0 ≤ k) (h1 : k < 64) : (xShr l k).toBitVec = l.toBitVec >>> k.toNat := by
  have hy : (Int32.ofInt k).toInt = k := xI ⟨by omega, by omega⟩
  show l.toBitVec >>> (UInt64.mod ((Int32.ofInt k).toInt64.toUInt64 &&& Int64.toUInt64 63) 64).toBitVec = _
  rw [BitVec.ushiftRight_eq', bSm64 _ (by omega) (by omega), hy]
theorem xSm64 (y : Int32) (h0 : 0 ≤ y.toInt) (h1 : y.toInt < 64) : ((y.toInt64 &&& 63).toBitVec.smod 64).toNat = y.toInt.toNat := by
  have key : ∀ k : Fin 64, (((Int32.ofNat k.val).toInt64 &&& 63).toBitVec.smod 64).toNat = k.val := by decide
  have e : y = Int32.ofNat y.toInt.toNat := by
    apply Int32.toInt.inj
    rw [Int32.toInt_ofNat_of_lt (by omega)]
    omega
  have := key ⟨y.toInt.toNat, by omega⟩
  rw [← e] at this
  exact this
theorem xShLB (h0 : 0 ≤ k) (h1 : k < 64) : (xShL l k).toBitVec = l.toBitVec <<< k.toNat := by
  have hy : (Int32.ofInt k).toInt = k := xI ⟨by omega, by omega⟩
  show l.toBitVec <<< (((Int32.ofInt k).toInt64 &&& 63).toBitVec.smod 64) = _
  rw [BitVec.shiftLeft_eq', xSm64 _ (by omega) (by omega), hy]
/-- a bit -/
def xBit (l : Int64) (k : Int) : Bool := l.toBitVec.getLsbD k.toNat
theorem xBit_or : xBit (x ||| y) k = (xBit x k || xBit y k) := BitVec.getLsbD_or
theorem xBit_one (h0 : 0 ≤ k) (h1 : k < 64) (h2 : 0 ≤ j) (h3 : j < 64) : xBit (xShL 1 k) j = decide (j = k) := by
  unfold xBit
  rw [xShLB h0 h1, BitVec.getLsbD_shiftLeft, show (1 : Int64).toBitVec = 1#64 from rfl, BitVec.getLsbD_one]
  by_cases c : j = k
  · subst c
    simp
    omega
  · simp [c]
    omega
theorem xBit_shr (h0 : 0 ≤ k) (h1 : k < 64) : xShr l k &&& 1 = 0 ↔ xBit l k = false := by
  have e : (xShr l k &&& 1).toBitVec = (l.toBitVec >>> k.toNat) &&& 1#64 := by
    show (xShr l k).toBitVec &&& 1#64 = _
    rw [xShrB h0 h1]
  constructor
  · intro h
    have h2 := congrArg Int64.toBitVec h
    rw [e] at h2
    have h3 := congrArg (fun q : BitVec 64 => q.getLsbD 0) h2
    simp only [BitVec.getLsbD_and, BitVec.getLsbD_ushiftRight, BitVec.getLsbD_one] at h3
    unfold xBit
    simpa using h3
  · intro h
    apply Int64.toBitVec.inj
    rw [e]
    apply BitVec.eq_of_getLsbD_eq
    intro i hi
    simp only [BitVec.getLsbD_and, BitVec.getLsbD_ushiftRight, BitVec.getLsbD_one]
    unfold xBit at h
    by_cases c : i = 0
    · subst c
      simpa using h
    · simp [c]
end
end
section
/-! the engine's contracts, told simply: how a state is one of ints and longs, what a contract gives -/
section
set_option maxRecDepth 100000
theorem xZok : (List.range 126).all (fun p => decide (aG2 bZT p = xZ[p]?)) = true := by decide +kernel
variable {ro : Nat → Nat × (Nat → Int32)} {L : aLa} {Kp : pmS → Prop} {d mm D W n p : Nat} {a a' : xA} {b b' : xB} {Q Q' : Option Value → pmS → Prop} {vs : List Value} {σ : pmS} {ρ ρ' : Nat → Int} {lo hi z k : Int} {v : Option Value}
theorem xEx (h : kOk σ) : ∃ a b, σ = xS a b ∧ xAr a := by
  refine ⟨fun p k => (σ.2.1 p k.toNat).toInt, fun p k => σ.2.2 p k.toNat, ?_, fun p k => aB32 _⟩
  have e1 : σ.1 = xZ := by
    apply List.ext_getElem?
    intro p
    rw [h.1 p]
    by_cases c : p < 126
    · exact of_decide_eq_true (List.all_eq_true.mp xZok p (List.mem_range.mpr c))
    · have h2 := h.1 126
      rw [show aG2 bZT 126 = none from rfl, List.getElem?_eq_none_iff] at h2
      rw [← h.1 p, List.getElem?_eq_none (by omega), List.getElem?_eq_none (by show 126 ≤ p; omega)]
  obtain ⟨σ1, σ2, σ3⟩ := σ
  have e1 : σ1 = xZ := e1
  subst e1
  show (xZ, σ2, σ3) = (xZ, (fun p (k : Nat) => Int32.ofInt ((σ2 p ((k : Int)).toNat).toInt)), fun p (k : Nat) => σ3 p ((k : Int)).toNat)
  simp only [Int32.ofInt_toInt, Int.toNat_natCast]
/-- what isn't written stays -/
theorem xFr (h : kSm W (xS a' b') (xS a b)) (hA' : xAr a') (hA : xAr a) (h0 : 0 ≤ k) (hb : W.testBit (bRg p k.toNat) = false) : a' p k = a p k ∧ b' p k = b p k := by
  obtain ⟨h1, h2⟩ := h p k.toNat hb
  have h1 : Int32.ofInt (a' p ((k.toNat : Nat) : Int)) = Int32.ofInt (a p ((k.toNat : Nat) : Int)) := h1
  have h2 : b' p ((k.toNat : Nat) : Int) = b p ((k.toNat : Nat) : Int) := h2
  rw [Int.toNat_of_nonneg h0] at h1 h2
  exact ⟨(xEq (hA' p k) (hA p k)).mp h1, h2⟩
/-- of a row that is one region -/
theorem xFrr (h : kSm W (xS a' b') (xS a b)) (hA' : xAr a') (hA : xAr a) (hs : bSing p = true) (hb : W.testBit (bRg p 0) = false) (h0 : 0 ≤ k) : a' p k = a p k ∧ b' p k = b p k := xFr h hA' hA h0 (by rw [bRg_sing hs k.toNat 0]; exact hb)
def xRo (l : List Int) (w : Nat) : Int := l.getD w 0
def xEl : aE → List Int → Prop
  | [], [] => True
  | i :: E, z :: l => (i.1 ≤ z ∧ z ≤ i.2) ∧ xEl E l
  | _, _ => False
theorem xEl_at : ∀ {E : aE} {l : List Int} {w : Nat} {i : aI}, xEl E l → E[w]? = some i → i.1 ≤ xRo l w ∧ xRo l w ≤ i.2
  | [], _, w, _, _, h => by cases h
  | j :: E, [], _, _, h, _ => h.elim
  | j :: E, z :: l, 0, i, h, hi => by cases hi; exact h.1
  | j :: E, z :: l, w + 1, i, h, hi => xEl_at (w := w) h.2 hi
theorem xEl_ok {E : aE} {l : List Int} (h : xEl E (0 :: L.1 :: l)) (hn : Nat.ble 2 E.length = true) : aEok L (xRo (0 :: L.1 :: l)) E := ⟨⟨rfl, rfl, by have := Nat.le_of_ble_eq_true hn; omega⟩, fun _ _ hi => xEl_at h hi⟩
theorem xVk {x : Int} {v : Nat} (h : xR x) (hn : v < n) (hr : ρ v = x) : bVok n ρ (.inl (false, (v, 0))) (xV x) := ⟨hn, by
  show (Int32.ofInt x).toInt = ρ v + 0
  rw [xI h, hr]
  omega⟩
theorem xVl {x : Int64} {v : Nat} (hn : v < n) (hr : ρ v = x.toInt) : bVok n ρ (.inl (true, (v, 0))) (.long x) := ⟨hn, by
  show x.toInt = ρ v + 0
  rw [hr]
  omega⟩
theorem xVr {q : Nat} {ps : List Nat} (h : q ∈ ps) : bVok n ρ (.inr ps) (.ref q) := h
theorem xRi {E : aE} {w : Nat} (h : bRok n ρ (some (.inl (false, (w, 0)))) v) (hE : aEok L ρ E) (hj : E[w]? = some (lo, hi)) : ∃ z, v = some (xV z) ∧ lo ≤ z ∧ z ≤ hi ∧ z = ρ w := by
  cases v with
  | none => exact h.elim
  | some v =>
    obtain ⟨x, rfl, hx⟩ := bVok_int h
    have hx : x.toInt = ρ w + 0 := hx.2
    have hb := hE.2 _ _ hj
    refine ⟨x.toInt, ?_, ?_, ?_, ?_⟩
    · unfold xV
      rw [Int32.ofInt_toInt]
    · have : lo ≤ ρ w := hb.1
      omega
    · have : ρ w ≤ hi := hb.2
      omega
    · omega
theorem xRl {E : aE} {w : Nat} (h : bRok n ρ (some (.inl (true, (w, 0)))) v) (hE : aEok L ρ E) (hj : E[w]? = some (lo, hi)) : ∃ x : Int64, v = some (.long x) ∧ lo ≤ x.toInt ∧ x.toInt ≤ hi := by
  cases v with
  | none => exact h.elim
  | some v =>
    obtain ⟨x, rfl, hx⟩ := bVok_long h
    have hx : x.toInt = ρ w + 0 := hx.2
    have hb := hE.2 _ _ hj
    refine ⟨x, rfl, ?_, ?_⟩
    · have : lo ≤ ρ w := hb.1
      omega
    · have : ρ w ≤ hi := hb.2
      omega
theorem xRn (h : bRok n ρ none v) : v = none := by
  cases v with
  | none => rfl
  | some v => exact h.elim
/-- a contract with one outcome -/
theorem xEng {aB : List bV} {E0 E1 : aE} {H0 H1 : bH} {rB : Option bV} (hc : bCok ro L Kp (mm, aB, E0, H0, [(rB, E1, H1)], W, D)) (hd : D ≤ d) (hE : aEok L ρ E0) (hM : bMok E0.length ρ Kp (xS a b) (H0, [], 0) (xS a b)) (hs : bSok E0.length ρ aB vs) (hm : bMh E1 E1.length E1.length [] [] H1 = true) (hf : bFg W = true)
    (hQ : ∀ v a' b' ρ', kOk (xS a' b') → Kp (xS a' b') → xAr a' → kSm W (xS a' b') (xS a b) → aEok L ρ' E1 → bRok E1.length ρ' rB v → aExt E0.length ρ ρ' → bMok E1.length ρ' Kp (xS a b) (H1, [], W) (xS a' b') → Q v (xS a' b')) : pmCs ro d mm vs (xS a b) Q := by
  refine pmCs_deep (d := D) (pmCs_mono (hc ρ vs (xS a b) hE hM hs) ?_) hd
  rintro v σ' ⟨al, hal, ρ', a1, a2, a3, a4, a5⟩
  rw [List.mem_singleton] at hal
  subst hal
  have hok : kOk σ' := kOk_m (E := E1) a3 hm a5
  obtain ⟨a', b', rfl, hA⟩ := xEx hok
  exact hQ v a' b' ρ' hok (a5.2.2.2.2 hf) hA a5.2.2.2.1 a3 a4 a1 a5
/-- two truths of one call -/
theorem pmCs_and {as : List Value} {d d' : Nat} (h1 : pmCs ro d mm as σ Q) (h2 : pmCs ro d' mm as σ Q') : pmCs ro (max d d') mm as σ fun v σ' => Q v σ' ∧ Q' v σ' := by
  obtain ⟨M, r, τ, e1, q1⟩ := h1
  obtain ⟨M', r', τ', e2, q2⟩ := h2
  have f1 := pmCall_le pmRoLe.rf (Nat.le_max_left M M') d (max d d') (Nat.le_max_left d d') _ _ _ _ e1
  have f2 := pmCall_le pmRoLe.rf (Nat.le_max_right M M') d' (max d d') (Nat.le_max_right d d') _ _ _ _ e2
  rw [f1] at f2
  cases f2
  exact ⟨max M M', r, τ, f1, q1, q2⟩
end
/-! writes keep the table and what is under guard -/
section
variable {a a' : xA} {b b' : xB} {p q : Nat} {k z lo hi : Int} {l : Int64}
theorem xOk_i (h : kOk (xS a b)) (h0 : 0 ≤ k) (hz : xR z) (hb : bLo p k.toNat = false) (hin : bIn (bGe p k.toNat) z) : kOk (xS (xU a p k z) b) := by
  have h2 := kOk_upi (σ := xS a b) (p := p) (k := k.toNat) (x := Int32.ofInt z) h hb (by rw [xI hz]; exact hin)
  rw [xSi (Int.toNat_of_nonneg h0)] at h2
  exact h2
theorem xOk_l (h : kOk (xS a b)) (h0 : 0 ≤ k) (hb : bLo p k.toNat = true) (hin : bIn (bGe p k.toNat) l.toInt) : kOk (xS a (xU b p k l)) := by
  have h2 := kOk_upl (σ := xS a b) (p := p) (k := k.toNat) (x := l) h hb hin
  rw [xSl (Int.toNat_of_nonneg h0)] at h2
  exact h2
theorem xIn1 {l : List aI} (hl : l = [(lo, hi)]) (h : lo ≤ z ∧ z ≤ hi) : bIn l z := by
  rw [hl]
  exact ⟨_, List.mem_singleton.mpr rfl, h⟩
theorem bInL {l : List aI} (hl : l = [(-9223372036854775808, 9223372036854775807)]) (x : Int64) : bIn l x.toInt := xIn1 hl (aB64 x)
theorem xP_i {Kp : pmS → Prop} (hK : bKfr Kp) (h : Kp (xS a b)) (hb : bPM.testBit (bRg p k.toNat) = false) (h0 : 0 ≤ k) : Kp (xS (xU a p k z) b) := by
  refine hK (xS a b) (xS (xU a p k z) b) rfl (fun q j hq => ?_) h
  refine ⟨?_, rfl⟩
  show Int32.ofInt (xU a p k z q (j : Int)) = Int32.ofInt (a q (j : Int))
  unfold xU
  rw [if_neg]
  rintro ⟨rfl, e⟩
  have : j = k.toNat := by omega
  rw [this, hb] at hq
  cases hq
theorem xP_l {Kp : pmS → Prop} (hK : bKfr Kp) (h : Kp (xS a b)) (hb : bPM.testBit (bRg p k.toNat) = false) (h0 : 0 ≤ k) : Kp (xS a (xU b p k l)) := by
  refine hK (xS a b) (xS a (xU b p k l)) rfl (fun q j hq => ?_) h
  refine ⟨rfl, ?_⟩
  show xU b p k l q (j : Int) = b q (j : Int)
  unfold xU
  rw [if_neg]
  rintro ⟨rfl, e⟩
  have : j = k.toNat := by omega
  rw [this, hb] at hq
  cases hq
end
end
section
/-! exact: small methods; door -/
section
set_option maxRecDepth 100000
theorem xi14 : pmInf[14]? = some pmI_14 := rfl
theorem xi18 : pmInf[18]? = some pmI_18 := rfl
theorem xi26 : pmInf[26]? = some pmI_26 := rfl
theorem xi138 : pmInf[138]? = some pmI_138 := rfl
theorem xi140 : pmInf[140]? = some pmI_140 := rfl
theorem xi146 : pmInf[146]? = some pmI_146 := rfl
theorem xc14_0 : pmCode 14 0 = some (.iload_n 0) ∧ 0 + 1 = 1 := ⟨rfl, rfl⟩
theorem xc14_1 : pmCode 14 1 = some (.ifCond .lt 13) ∧ ((1 : Nat) : Int) + 13 = ((14 : Nat) : Int) ∧ 1 + 3 = 4 := ⟨rfl, rfl, rfl⟩
theorem xc14_4 : pmCode 14 4 = some (.iload_n 0) ∧ 4 + 1 = 5 := ⟨rfl, rfl⟩
theorem xc14_5 : pmCode 14 5 = some (.bipush 7) ∧ 5 + 2 = 7 := ⟨rfl, rfl⟩
theorem xc14_7 : pmCode 14 7 = some (.if_icmp .ge 7) ∧ ((7 : Nat) : Int) + 7 = ((14 : Nat) : Int) ∧ 7 + 3 = 10 := ⟨rfl, rfl, rfl⟩
theorem xc14_10 : pmCode 14 10 = some (.iconst 1) ∧ 10 + 1 = 11 := ⟨rfl, rfl⟩
theorem xc14_11 : pmCode 14 11 = some (.goto 4) ∧ ((11 : Nat) : Int) + 4 = ((15 : Nat) : Int) := ⟨rfl, rfl⟩
theorem xc14_14 : pmCode 14 14 = some (.iconst 0) ∧ 14 + 1 = 15 := ⟨rfl, rfl⟩
theorem xc14_15 : pmCode 14 15 = some .ireturn := rfl
theorem xc18_0 : pmCode 18 0 = some (.iload_n 0) ∧ 0 + 1 = 1 := ⟨rfl, rfl⟩
theorem xc18_1 : pmCode 18 1 = some (.ifCond .lt 12) ∧ ((1 : Nat) : Int) + 12 = ((13 : Nat) : Int) ∧ 1 + 3 = 4 := ⟨rfl, rfl, rfl⟩
theorem xc18_4 : pmCode 18 4 = some (.iload_n 0) ∧ 4 + 1 = 5 := ⟨rfl, rfl⟩
theorem xc18_5 : pmCode 18 5 = some (.iconst 4) ∧ 5 + 1 = 6 := ⟨rfl, rfl⟩
theorem xc18_6 : pmCode 18 6 = some (.if_icmp .ge 7) ∧ ((6 : Nat) : Int) + 7 = ((13 : Nat) : Int) ∧ 6 + 3 = 9 := ⟨rfl, rfl, rfl⟩
theorem xc18_9 : pmCode 18 9 = some (.iconst 1) ∧ 9 + 1 = 10 := ⟨rfl, rfl⟩
theorem xc18_10 : pmCode 18 10 = some (.goto 4) ∧ ((10 : Nat) : Int) + 4 = ((14 : Nat) : Int) := ⟨rfl, rfl⟩
theorem xc18_13 : pmCode 18 13 = some (.iconst 0) ∧ 13 + 1 = 14 := ⟨rfl, rfl⟩
theorem xc18_14 : pmCode 18 14 = some .ireturn := rfl
theorem xc26_0 : pmCode 26 0 = some (.iload_n 0) ∧ 0 + 1 = 1 := ⟨rfl, rfl⟩
theorem xc26_1 : pmCode 26 1 = some (.iconst 1) ∧ 1 + 1 = 2 := ⟨rfl, rfl⟩
theorem xc26_2 : pmCode 26 2 = some (.if_icmp .lt 12) ∧ ((2 : Nat) : Int) + 12 = ((14 : Nat) : Int) ∧ 2 + 3 = 5 := ⟨rfl, rfl, rfl⟩
theorem xc26_5 : pmCode 26 5 = some (.iload_n 0) ∧ 5 + 1 = 6 := ⟨rfl, rfl⟩
theorem xc26_6 : pmCode 26 6 = some (.iconst 4) ∧ 6 + 1 = 7 := ⟨rfl, rfl⟩
theorem xc26_7 : pmCode 26 7 = some (.if_icmp .ge 7) ∧ ((7 : Nat) : Int) + 7 = ((14 : Nat) : Int) ∧ 7 + 3 = 10 := ⟨rfl, rfl, rfl⟩
theorem xc26_10 : pmCode 26 10 = some (.iconst 1) ∧ 10 + 1 = 11 := ⟨rfl, rfl⟩
theorem xc26_11 : pmCode 26 11 = some (.goto 4) ∧ ((11 : Nat) : Int) + 4 = ((15 : Nat) : Int) := ⟨rfl, rfl⟩
theorem xc26_14 : pmCode 26 14 = some (.iconst 0) ∧ 14 + 1 = 15 := ⟨rfl, rfl⟩
theorem xc26_15 : pmCode 26 15 = some .ireturn := rfl
theorem xc138_0 : pmCode 138 0 = some (.iload_n 0) ∧ 0 + 1 = 1 := ⟨rfl, rfl⟩
theorem xc138_1 : pmCode 138 1 = some (.ifCond .lt 13) ∧ ((1 : Nat) : Int) + 13 = ((14 : Nat) : Int) ∧ 1 + 3 = 4 := ⟨rfl, rfl, rfl⟩
theorem xc138_4 : pmCode 138 4 = some (.iload_n 0) ∧ 4 + 1 = 5 := ⟨rfl, rfl⟩
theorem xc138_5 : pmCode 138 5 = some (.bipush 7) ∧ 5 + 2 = 7 := ⟨rfl, rfl⟩
theorem xc138_7 : pmCode 138 7 = some (.if_icmp .ge 7) ∧ ((7 : Nat) : Int) + 7 = ((14 : Nat) : Int) ∧ 7 + 3 = 10 := ⟨rfl, rfl, rfl⟩
theorem xc138_10 : pmCode 138 10 = some (.iconst 1) ∧ 10 + 1 = 11 := ⟨rfl, rfl⟩
theorem xc138_11 : pmCode 138 11 = some (.goto 4) ∧ ((11 : Nat) : Int) + 4 = ((15 : Nat) : Int) := ⟨rfl, rfl⟩
theorem xc138_14 : pmCode 138 14 = some (.iconst 0) ∧ 14 + 1 = 15 := ⟨rfl, rfl⟩
theorem xc138_15 : pmCode 138 15 = some .ireturn := rfl
theorem xc140_0 : pmCode 140 0 = some (.iload_n 0) ∧ 0 + 1 = 1 := ⟨rfl, rfl⟩
theorem xc140_1 : pmCode 140 1 = some (.ifCond .lt 12) ∧ ((1 : Nat) : Int) + 12 = ((13 : Nat) : Int) ∧ 1 + 3 = 4 := ⟨rfl, rfl, rfl⟩
theorem xc140_4 : pmCode 140 4 = some (.iload_n 0) ∧ 4 + 1 = 5 := ⟨rfl, rfl⟩
theorem xc140_5 : pmCode 140 5 = some (.iconst 3) ∧ 5 + 1 = 6 := ⟨rfl, rfl⟩
theorem xc140_6 : pmCode 140 6 = some (.if_icmp .gt 7) ∧ ((6 : Nat) : Int) + 7 = ((13 : Nat) : Int) ∧ 6 + 3 = 9 := ⟨rfl, rfl, rfl⟩
theorem xc140_9 : pmCode 140 9 = some (.iconst 1) ∧ 9 + 1 = 10 := ⟨rfl, rfl⟩
theorem xc140_10 : pmCode 140 10 = some (.goto 4) ∧ ((10 : Nat) : Int) + 4 = ((14 : Nat) : Int) := ⟨rfl, rfl⟩
theorem xc140_13 : pmCode 140 13 = some (.iconst 0) ∧ 13 + 1 = 14 := ⟨rfl, rfl⟩
theorem xc140_14 : pmCode 140 14 = some .ireturn := rfl
theorem xc146_0 : pmCode 146 0 = some (.iload_n 0) ∧ 0 + 1 = 1 := ⟨rfl, rfl⟩
theorem xc146_1 : pmCode 146 1 = some (.iconst 1) ∧ 1 + 1 = 2 := ⟨rfl, rfl⟩
theorem xc146_2 : pmCode 146 2 = some (.if_icmp .lt 12) ∧ ((2 : Nat) : Int) + 12 = ((14 : Nat) : Int) ∧ 2 + 3 = 5 := ⟨rfl, rfl, rfl⟩
theorem xc146_5 : pmCode 146 5 = some (.iload_n 0) ∧ 5 + 1 = 6 := ⟨rfl, rfl⟩
theorem xc146_6 : pmCode 146 6 = some (.iconst 3) ∧ 6 + 1 = 7 := ⟨rfl, rfl⟩
theorem xc146_7 : pmCode 146 7 = some (.if_icmp .gt 7) ∧ ((7 : Nat) : Int) + 7 = ((14 : Nat) : Int) ∧ 7 + 3 = 10 := ⟨rfl, rfl, rfl⟩
theorem xc146_10 : pmCode 146 10 = some (.iconst 1) ∧ 10 + 1 = 11 := ⟨rfl, rfl⟩
theorem xc146_11 : pmCode 146 11 = some (.goto 4) ∧ ((11 : Nat) : Int) + 4 = ((15 : Nat) : Int) := ⟨rfl, rfl⟩
theorem xc146_14 : pmCode 146 14 = some (.iconst 0) ∧ 14 + 1 = 15 := ⟨rfl, rfl⟩
theorem xc146_15 : pmCode 146 15 = some .ireturn := rfl
theorem xg14 {ro : Nat → Nat × (Nat → Int32)} {d : Nat} {Q : Option Value → pmS → Prop} {a : xA} {b : xB} {r : Int} (h : pmWp ro d 11 14 2 0 [some (xV r)] [] (xS a b) Q) : pmCs ro (d + 1) 14 [xV r] (xS a b) Q := x_go xi14 rfl rfl rfl rfl rfl h
theorem w14 {ro : Nat → Nat × (Nat → Int32)} {d : Nat} {Q : Option Value → pmS → Prop} {r : Int} {a : xA} {b : xB} (h_r : xR r)
    (k1 : (r < 0) → Q (some (xV 0)) (xS a b))
    (k2 : (¬ r < 0) → (7 ≤ r) → Q (some (xV 0)) (xS a b))
    (k3 : (¬ r < 0) → (¬ 7 ≤ r) → Q (some (xV 1)) (xS a b)) :
    pmWp ro d 11 14 2 0 [some (xV r)] [] (xS a b) Q := by
  refine x_iloadn xc14_0 rfl ?_
  refine x_iflt xc14_1 (xRk (by have g0 := xRb h_r; omega)) (fun h0 => ?_) (fun h0 => ?_)
  · refine x_iconst xc14_14 ?_
    refine x_iret xc14_15 (Or.inr ⟨rfl, (by omega)⟩) ?_
    exact k1 h0
  · refine x_iloadn xc14_4 rfl ?_
    refine x_bipush xc14_5 (by decide) ?_
    refine x_icge xc14_7 (xRk (by have g0 := xRb h_r; omega)) (xRk (by decide)) (fun h1 => ?_) (fun h1 => ?_)
    · refine x_iconst xc14_14 ?_
      refine x_iret xc14_15 (Or.inr ⟨rfl, (by omega)⟩) ?_
      exact k2 h0 h1
    · refine x_iconst xc14_10 ?_
      refine x_goto xc14_11 ?_
      refine x_iret xc14_15 (Or.inr ⟨rfl, (by omega)⟩) ?_
      exact k3 h0 h1

theorem xk14 {ro : Nat → Nat × (Nat → Int32)} {d : Nat} {Q : Option Value → pmS → Prop} {r : Int} {a : xA} {b : xB} (hd : 1 ≤ d) (h_r : xR r) (hT : 0 ≤ r ∧ r < 7 → Q (some (xV 1)) (xS a b)) (hF : ¬ (0 ≤ r ∧ r < 7) → Q (some (xV 0)) (xS a b)) : pmCs ro d 14 [xV r] (xS a b) Q := pmCs_deep (d := 1) (xg14 (w14 h_r (fun g0 => hF (by omega)) (fun g0 g1 => hF (by omega)) (fun g0 g1 => hT (by omega)))) hd
theorem xg138 {ro : Nat → Nat × (Nat → Int32)} {d : Nat} {Q : Option Value → pmS → Prop} {a : xA} {b : xB} {r : Int} (h : pmWp ro d 12 138 2 0 [some (xV r)] [] (xS a b) Q) : pmCs ro (d + 1) 138 [xV r] (xS a b) Q := x_go xi138 rfl rfl rfl rfl rfl h
theorem w138 {ro : Nat → Nat × (Nat → Int32)} {d : Nat} {Q : Option Value → pmS → Prop} {r : Int} {a : xA} {b : xB} (h_r : xR r)
    (k1 : (r < 0) → Q (some (xV 0)) (xS a b))
    (k2 : (¬ r < 0) → (7 ≤ r) → Q (some (xV 0)) (xS a b))
    (k3 : (¬ r < 0) → (¬ 7 ≤ r) → Q (some (xV 1)) (xS a b)) :
    pmWp ro d 12 138 2 0 [some (xV r)] [] (xS a b) Q := by
  refine x_iloadn xc138_0 rfl ?_
  refine x_iflt xc138_1 (xRk (by have g0 := xRb h_r; omega)) (fun h0 => ?_) (fun h0 => ?_)
  · refine x_iconst xc138_14 ?_
    refine x_iret xc138_15 (Or.inr ⟨rfl, (by omega)⟩) ?_
    exact k1 h0
  · refine x_iloadn xc138_4 rfl ?_
    refine x_bipush xc138_5 (by decide) ?_
    refine x_icge xc138_7 (xRk (by have g0 := xRb h_r; omega)) (xRk (by decide)) (fun h1 => ?_) (fun h1 => ?_)
    · refine x_iconst xc138_14 ?_
      refine x_iret xc138_15 (Or.inr ⟨rfl, (by omega)⟩) ?_
      exact k2 h0 h1
    · refine x_iconst xc138_10 ?_
      refine x_goto xc138_11 ?_
      refine x_iret xc138_15 (Or.inr ⟨rfl, (by omega)⟩) ?_
      exact k3 h0 h1

theorem xk138 {ro : Nat → Nat × (Nat → Int32)} {d : Nat} {Q : Option Value → pmS → Prop} {r : Int} {a : xA} {b : xB} (hd : 1 ≤ d) (h_r : xR r) (hT : 0 ≤ r ∧ r < 7 → Q (some (xV 1)) (xS a b)) (hF : ¬ (0 ≤ r ∧ r < 7) → Q (some (xV 0)) (xS a b)) : pmCs ro d 138 [xV r] (xS a b) Q := pmCs_deep (d := 1) (xg138 (w138 h_r (fun g0 => hF (by omega)) (fun g0 g1 => hF (by omega)) (fun g0 g1 => hT (by omega)))) hd
theorem xg18 {ro : Nat → Nat × (Nat → Int32)} {d : Nat} {Q : Option Value → pmS → Prop} {a : xA} {b : xB} {r : Int} (h : pmWp ro d 11 18 2 0 [some (xV r)] [] (xS a b) Q) : pmCs ro (d + 1) 18 [xV r] (xS a b) Q := x_go xi18 rfl rfl rfl rfl rfl h
theorem w18 {ro : Nat → Nat × (Nat → Int32)} {d : Nat} {Q : Option Value → pmS → Prop} {r : Int} {a : xA} {b : xB} (h_r : xR r)
    (k1 : (r < 0) → Q (some (xV 0)) (xS a b))
    (k2 : (¬ r < 0) → (4 ≤ r) → Q (some (xV 0)) (xS a b))
    (k3 : (¬ r < 0) → (¬ 4 ≤ r) → Q (some (xV 1)) (xS a b)) :
    pmWp ro d 11 18 2 0 [some (xV r)] [] (xS a b) Q := by
  refine x_iloadn xc18_0 rfl ?_
  refine x_iflt xc18_1 (xRk (by have g0 := xRb h_r; omega)) (fun h0 => ?_) (fun h0 => ?_)
  · refine x_iconst xc18_13 ?_
    refine x_iret xc18_14 (Or.inr ⟨rfl, (by omega)⟩) ?_
    exact k1 h0
  · refine x_iloadn xc18_4 rfl ?_
    refine x_iconst xc18_5 ?_
    refine x_icge xc18_6 (xRk (by have g0 := xRb h_r; omega)) (xRk (by decide)) (fun h1 => ?_) (fun h1 => ?_)
    · refine x_iconst xc18_13 ?_
      refine x_iret xc18_14 (Or.inr ⟨rfl, (by omega)⟩) ?_
      exact k2 h0 h1
    · refine x_iconst xc18_9 ?_
      refine x_goto xc18_10 ?_
      refine x_iret xc18_14 (Or.inr ⟨rfl, (by omega)⟩) ?_
      exact k3 h0 h1

theorem xk18 {ro : Nat → Nat × (Nat → Int32)} {d : Nat} {Q : Option Value → pmS → Prop} {r : Int} {a : xA} {b : xB} (hd : 1 ≤ d) (h_r : xR r) (hT : 0 ≤ r ∧ r < 4 → Q (some (xV 1)) (xS a b)) (hF : ¬ (0 ≤ r ∧ r < 4) → Q (some (xV 0)) (xS a b)) : pmCs ro d 18 [xV r] (xS a b) Q := pmCs_deep (d := 1) (xg18 (w18 h_r (fun g0 => hF (by omega)) (fun g0 g1 => hF (by omega)) (fun g0 g1 => hT (by omega)))) hd
theorem xg140 {ro : Nat → Nat × (Nat → Int32)} {d : Nat} {Q : Option Value → pmS → Prop} {a : xA} {b : xB} {r : Int} (h : pmWp ro d 12 140 2 0 [some (xV r)] [] (xS a b) Q) : pmCs ro (d + 1) 140 [xV r] (xS a b) Q := x_go xi140 rfl rfl rfl rfl rfl h
theorem w140 {ro : Nat → Nat × (Nat → Int32)} {d : Nat} {Q : Option Value → pmS → Prop} {r : Int} {a : xA} {b : xB} (h_r : xR r)
    (k1 : (r < 0) → Q (some (xV 0)) (xS a b))
    (k2 : (¬ r < 0) → (3 < r) → Q (some (xV 0)) (xS a b))
    (k3 : (¬ r < 0) → (¬ 3 < r) → Q (some (xV 1)) (xS a b)) :
    pmWp ro d 12 140 2 0 [some (xV r)] [] (xS a b) Q := by
  refine x_iloadn xc140_0 rfl ?_
  refine x_iflt xc140_1 (xRk (by have g0 := xRb h_r; omega)) (fun h0 => ?_) (fun h0 => ?_)
  · refine x_iconst xc140_13 ?_
    refine x_iret xc140_14 (Or.inr ⟨rfl, (by omega)⟩) ?_
    exact k1 h0
  · refine x_iloadn xc140_4 rfl ?_
    refine x_iconst xc140_5 ?_
    refine x_icgt xc140_6 (xRk (by have g0 := xRb h_r; omega)) (xRk (by decide)) (fun h1 => ?_) (fun h1 => ?_)
    · refine x_iconst xc140_13 ?_
      refine x_iret xc140_14 (Or.inr ⟨rfl, (by omega)⟩) ?_
      exact k2 h0 h1
    · refine x_iconst xc140_9 ?_
      refine x_goto xc140_10 ?_
      refine x_iret xc140_14 (Or.inr ⟨rfl, (by omega)⟩) ?_
      exact k3 h0 h1

theorem xk140 {ro : Nat → Nat × (Nat → Int32)} {d : Nat} {Q : Option Value → pmS → Prop} {r : Int} {a : xA} {b : xB} (hd : 1 ≤ d) (h_r : xR r) (hT : 0 ≤ r ∧ r < 4 → Q (some (xV 1)) (xS a b)) (hF : ¬ (0 ≤ r ∧ r < 4) → Q (some (xV 0)) (xS a b)) : pmCs ro d 140 [xV r] (xS a b) Q := pmCs_deep (d := 1) (xg140 (w140 h_r (fun g0 => hF (by omega)) (fun g0 g1 => hF (by omega)) (fun g0 g1 => hT (by omega)))) hd
theorem xg26 {ro : Nat → Nat × (Nat → Int32)} {d : Nat} {Q : Option Value → pmS → Prop} {a : xA} {b : xB} {r : Int} (h : pmWp ro d 11 26 2 0 [some (xV r)] [] (xS a b) Q) : pmCs ro (d + 1) 26 [xV r] (xS a b) Q := x_go xi26 rfl rfl rfl rfl rfl h
theorem w26 {ro : Nat → Nat × (Nat → Int32)} {d : Nat} {Q : Option Value → pmS → Prop} {r : Int} {a : xA} {b : xB} (h_r : xR r)
    (k1 : (r < 1) → Q (some (xV 0)) (xS a b))
    (k2 : (¬ r < 1) → (4 ≤ r) → Q (some (xV 0)) (xS a b))
    (k3 : (¬ r < 1) → (¬ 4 ≤ r) → Q (some (xV 1)) (xS a b)) :
    pmWp ro d 11 26 2 0 [some (xV r)] [] (xS a b) Q := by
  refine x_iloadn xc26_0 rfl ?_
  refine x_iconst xc26_1 ?_
  refine x_iclt xc26_2 (xRk (by have g0 := xRb h_r; omega)) (xRk (by decide)) (fun h0 => ?_) (fun h0 => ?_)
  · refine x_iconst xc26_14 ?_
    refine x_iret xc26_15 (Or.inr ⟨rfl, (by omega)⟩) ?_
    exact k1 h0
  · refine x_iloadn xc26_5 rfl ?_
    refine x_iconst xc26_6 ?_
    refine x_icge xc26_7 (xRk (by have g0 := xRb h_r; omega)) (xRk (by decide)) (fun h1 => ?_) (fun h1 => ?_)
    · refine x_iconst xc26_14 ?_
      refine x_iret xc26_15 (Or.inr ⟨rfl, (by omega)⟩) ?_
      exact k2 h0 h1
    · refine x_iconst xc26_10 ?_
      refine x_goto xc26_11 ?_
      refine x_iret xc26_15 (Or.inr ⟨rfl, (by omega)⟩) ?_
      exact k3 h0 h1

theorem xk26 {ro : Nat → Nat × (Nat → Int32)} {d : Nat} {Q : Option Value → pmS → Prop} {r : Int} {a : xA} {b : xB} (hd : 1 ≤ d) (h_r : xR r) (hT : 1 ≤ r ∧ r < 4 → Q (some (xV 1)) (xS a b)) (hF : ¬ (1 ≤ r ∧ r < 4) → Q (some (xV 0)) (xS a b)) : pmCs ro d 26 [xV r] (xS a b) Q := pmCs_deep (d := 1) (xg26 (w26 h_r (fun g0 => hF (by omega)) (fun g0 g1 => hF (by omega)) (fun g0 g1 => hT (by omega)))) hd
theorem xg146 {ro : Nat → Nat × (Nat → Int32)} {d : Nat} {Q : Option Value → pmS → Prop} {a : xA} {b : xB} {r : Int} (h : pmWp ro d 12 146 2 0 [some (xV r)] [] (xS a b) Q) : pmCs ro (d + 1) 146 [xV r] (xS a b) Q := x_go xi146 rfl rfl rfl rfl rfl h
theorem w146 {ro : Nat → Nat × (Nat → Int32)} {d : Nat} {Q : Option Value → pmS → Prop} {r : Int} {a : xA} {b : xB} (h_r : xR r)
    (k1 : (r < 1) → Q (some (xV 0)) (xS a b))
    (k2 : (¬ r < 1) → (3 < r) → Q (some (xV 0)) (xS a b))
    (k3 : (¬ r < 1) → (¬ 3 < r) → Q (some (xV 1)) (xS a b)) :
    pmWp ro d 12 146 2 0 [some (xV r)] [] (xS a b) Q := by
  refine x_iloadn xc146_0 rfl ?_
  refine x_iconst xc146_1 ?_
  refine x_iclt xc146_2 (xRk (by have g0 := xRb h_r; omega)) (xRk (by decide)) (fun h0 => ?_) (fun h0 => ?_)
  · refine x_iconst xc146_14 ?_
    refine x_iret xc146_15 (Or.inr ⟨rfl, (by omega)⟩) ?_
    exact k1 h0
  · refine x_iloadn xc146_5 rfl ?_
    refine x_iconst xc146_6 ?_
    refine x_icgt xc146_7 (xRk (by have g0 := xRb h_r; omega)) (xRk (by decide)) (fun h1 => ?_) (fun h1 => ?_)
    · refine x_iconst xc146_14 ?_
      refine x_iret xc146_15 (Or.inr ⟨rfl, (by omega)⟩) ?_
      exact k2 h0 h1
    · refine x_iconst xc146_10 ?_
      refine x_goto xc146_11 ?_
      refine x_iret xc146_15 (Or.inr ⟨rfl, (by omega)⟩) ?_
      exact k3 h0 h1

theorem xk146 {ro : Nat → Nat × (Nat → Int32)} {d : Nat} {Q : Option Value → pmS → Prop} {r : Int} {a : xA} {b : xB} (hd : 1 ≤ d) (h_r : xR r) (hT : 1 ≤ r ∧ r < 4 → Q (some (xV 1)) (xS a b)) (hF : ¬ (1 ≤ r ∧ r < 4) → Q (some (xV 0)) (xS a b)) : pmCs ro d 146 [xV r] (xS a b) Q := pmCs_deep (d := 1) (xg146 (w146 h_r (fun g0 => hF (by omega)) (fun g0 g1 => hF (by omega)) (fun g0 g1 => hT (by omega)))) hd
end
end
section
/-! the engine's contracts as the walks use them (printed by eng.py) -/
section
set_option maxRecDepth 100000
variable {ro : Nat → Nat × (Nat → Int32)} {L : aLa} {d : Nat} {a : xA} {b : xB} {Q : Option Value → pmS → Prop}
theorem xEl.c {i : aI} {E : aE} {z : Int} {l : List Int} (h : i.1 ≤ z ∧ z ≤ i.2) (t : xEl E l) : xEl (i :: E) (z :: l) := ⟨h, t⟩
theorem xEl.f {E : aE} {z : Int} {l : List Int} (h : xR z) (t : xEl E l) : xEl ((.negSucc 2147483647, .ofNat 2147483647) :: E) (z :: l) := ⟨h, t⟩
theorem xEl.l {E : aE} {z : Int} {l : List Int} (h : -9223372036854775808 ≤ z ∧ z ≤ 9223372036854775807) (t : xEl E l) : xEl ((.negSucc 9223372036854775807, .ofNat 9223372036854775807) :: E) (z :: l) := ⟨h, t⟩
theorem xEl.n : xEl [] [] := trivial
theorem bSok.c {n : Nat} {ρ : Nat → Int} {a : bV} {r : List bV} {v : Value} {cr : List Value} (h : bVok n ρ a v) (t : bSok n ρ r cr) : bSok n ρ (a :: r) (v :: cr) := ⟨h, t⟩
theorem bSok.n {n : Nat} {ρ : Nat → Int} : bSok n ρ [] [] := trivial
abbrev xW20 : Nat := 144115188101021696
theorem xe20 (hL : 0 ≤ L.1 ∧ L.1 ≤ 3072) (hc : bCok ro L kP bC20) (hT : kOk (xS a b)) (hP : kP (xS a b)) (hA : xAr a) (hd : 2 ≤ d) {x2 : Int} {x3 : Int} (g2 : xR (x2)) (g3 : 0 ≤ x3 ∧ x3 ≤ 1) (hQ : ∀ z a' b', kOk (xS a' b') → kP (xS a' b') → xAr a' → kSm xW20 (xS a' b') (xS a b) → (-1 ≤ z ∧ z ≤ 4) → Q (some (xV z)) (xS a' b')) : pmCs ro d 20 [.ref 0, xV x2, xV x3] (xS a b) Q := by
  refine xEng (ρ := xRo (0 :: L.1 :: [x2, x3])) hc hd (xEl_ok (xEl.c ⟨Int.le_refl _, Int.le_refl _⟩ (xEl.c hL (xEl.f g2 (xEl.c g3 xEl.n)))) rfl) (kOk_mok hT hP) (bSok.c (xVr (List.mem_singleton.mpr rfl)) (bSok.c (xVk g2 (by decide) rfl) (bSok.c (xVk ⟨by omega, by omega⟩ (by decide) rfl) bSok.n))) (by decide +kernel) (by decide +kernel) ?_
  intro v a' b' ρ' h1 h2 h3 h4 h5 h6 h7 h8
  obtain ⟨z, rfl, z1, z2, -⟩ := xRi h6 h5 rfl
  exact hQ z a' b' h1 h2 h3 h4 ⟨z1, z2⟩
abbrev xW23 : Nat := 432345564252733440
theorem xe23 (hL : 0 ≤ L.1 ∧ L.1 ≤ 3072) (hc : bCok ro L kP bC23) (hT : kOk (xS a b)) (hP : kP (xS a b)) (hA : xAr a) (hd : 2 ≤ d) {x2 : Int} {x3 : Int} (g2 : xR (x2)) (g3 : 0 ≤ x3 ∧ x3 ≤ 1) (hQ : ∀ z a' b', kOk (xS a' b') → kP (xS a' b') → xAr a' → kSm xW23 (xS a' b') (xS a b) → (-1 ≤ z ∧ z ≤ 4) → Q (some (xV z)) (xS a' b')) : pmCs ro d 23 [.ref 0, xV x2, xV x3] (xS a b) Q := by
  refine xEng (ρ := xRo (0 :: L.1 :: [x2, x3])) hc hd (xEl_ok (xEl.c ⟨Int.le_refl _, Int.le_refl _⟩ (xEl.c hL (xEl.f g2 (xEl.c g3 xEl.n)))) rfl) (kOk_mok hT hP) (bSok.c (xVr (List.mem_singleton.mpr rfl)) (bSok.c (xVk g2 (by decide) rfl) (bSok.c (xVk ⟨by omega, by omega⟩ (by decide) rfl) bSok.n))) (by decide +kernel) (by decide +kernel) ?_
  intro v a' b' ρ' h1 h2 h3 h4 h5 h6 h7 h8
  obtain ⟨z, rfl, z1, z2, -⟩ := xRi h6 h5 rfl
  exact hQ z a' b' h1 h2 h3 h4 ⟨z1, z2⟩
abbrev xW25 : Nat := 73786976294838206464
theorem xe25 (hL : 0 ≤ L.1 ∧ L.1 ≤ 3072) (hc : bCok ro L kP bC25) (hT : kOk (xS a b)) (hP : kP (xS a b)) (hA : xAr a) (hd : 3 ≤ d) {x2 : Int} {x3 : Int} {x4 : Int} {x5 : Int} (g2 : xR (x2)) (g3 : 0 ≤ x3 ∧ x3 ≤ 1) (g4 : xR (x4)) (g5 : xR (x5)) (hQ : ∀ z a' b', kOk (xS a' b') → kP (xS a' b') → xAr a' → kSm xW25 (xS a' b') (xS a b) → (0 ≤ z ∧ z ≤ 1) → Q (some (xV z)) (xS a' b')) : pmCs ro d 25 [.ref 0, xV x2, xV x3, xV x4, xV x5] (xS a b) Q := by
  refine xEng (ρ := xRo (0 :: L.1 :: [x2, x3, x4, x5])) hc hd (xEl_ok (xEl.c ⟨Int.le_refl _, Int.le_refl _⟩ (xEl.c hL (xEl.f g2 (xEl.c g3 (xEl.f g4 (xEl.f g5 xEl.n)))))) rfl) (kOk_mok hT hP) (bSok.c (xVr (List.mem_singleton.mpr rfl)) (bSok.c (xVk g2 (by decide) rfl) (bSok.c (xVk ⟨by omega, by omega⟩ (by decide) rfl) (bSok.c (xVk g4 (by decide) rfl) (bSok.c (xVk g5 (by decide) rfl) bSok.n))))) (by decide +kernel) (by decide +kernel) ?_
  intro v a' b' ρ' h1 h2 h3 h4 h5 h6 h7 h8
  obtain ⟨z, rfl, z1, z2, -⟩ := xRi h6 h5 rfl
  exact hQ z a' b' h1 h2 h3 h4 ⟨z1, z2⟩
abbrev xW28 : Nat := 67108864
theorem xe28 (hL : 0 ≤ L.1 ∧ L.1 ≤ 3072) (hc : bCok ro L kP bC28) (hT : kOk (xS a b)) (hP : kP (xS a b)) (hA : xAr a) (hd : 2 ≤ d) {x2 : Int} {x3 : Int} (g2 : xR (x2)) (g3 : xR (x3)) (hQ : ∀ z a' b', kOk (xS a' b') → kP (xS a' b') → xAr a' → kSm xW28 (xS a' b') (xS a b) → (0 ≤ z ∧ z ≤ 1) → Q (some (xV z)) (xS a' b')) : pmCs ro d 28 [.ref 0, xV x2, xV x3] (xS a b) Q := by
  refine xEng (ρ := xRo (0 :: L.1 :: [x2, x3])) hc hd (xEl_ok (xEl.c ⟨Int.le_refl _, Int.le_refl _⟩ (xEl.c hL (xEl.f g2 (xEl.f g3 xEl.n)))) rfl) (kOk_mok hT hP) (bSok.c (xVr (List.mem_singleton.mpr rfl)) (bSok.c (xVk g2 (by decide) rfl) (bSok.c (xVk g3 (by decide) rfl) bSok.n))) (by decide +kernel) (by decide +kernel) ?_
  intro v a' b' ρ' h1 h2 h3 h4 h5 h6 h7 h8
  obtain ⟨z, rfl, z1, z2, -⟩ := xRi h6 h5 rfl
  exact hQ z a' b' h1 h2 h3 h4 ⟨z1, z2⟩
abbrev xW29 : Nat := 278528
theorem xe29 (hL : 0 ≤ L.1 ∧ L.1 ≤ 3072) (hc : bCok ro L kP bC29) (hT : kOk (xS a b)) (hP : kP (xS a b)) (hA : xAr a) (hd : 2 ≤ d) {x2 : Int} {x3 : Int} {x4 : Int} {x5 : Int} {x6 : Int} (g2 : xR (x2)) (g3 : xR (x3)) (g4 : xR (x4)) (g5 : xR (x5)) (g6 : xR (x6)) (hQ : ∀ z a' b', kOk (xS a' b') → kP (xS a' b') → xAr a' → kSm xW29 (xS a' b') (xS a b) → (-1 ≤ z ∧ z ≤ 400) → Q (some (xV z)) (xS a' b')) : pmCs ro d 29 [.ref 0, xV x2, xV x3, xV x4, xV x5, xV x6] (xS a b) Q := by
  refine xEng (ρ := xRo (0 :: L.1 :: [x2, x3, x4, x5, x6])) hc hd (xEl_ok (xEl.c ⟨Int.le_refl _, Int.le_refl _⟩ (xEl.c hL (xEl.f g2 (xEl.f g3 (xEl.f g4 (xEl.f g5 (xEl.f g6 xEl.n))))))) rfl) (kOk_mok hT hP) (bSok.c (xVr (List.mem_singleton.mpr rfl)) (bSok.c (xVk g2 (by decide) rfl) (bSok.c (xVk g3 (by decide) rfl) (bSok.c (xVk g4 (by decide) rfl) (bSok.c (xVk g5 (by decide) rfl) (bSok.c (xVk g6 (by decide) rfl) bSok.n)))))) (by decide +kernel) (by decide +kernel) ?_
  intro v a' b' ρ' h1 h2 h3 h4 h5 h6 h7 h8
  obtain ⟨z, rfl, z1, z2, -⟩ := xRi h6 h5 rfl
  exact hQ z a' b' h1 h2 h3 h4 ⟨z1, z2⟩
abbrev xW31 : Nat := 1856910058928070678636904448
theorem xe31 (hL : 0 ≤ L.1 ∧ L.1 ≤ 3072) (hc : bCok ro L kP bC31) (hT : kOk (xS a b)) (hP : kP (xS a b)) (hA : xAr a) (hd : 40 ≤ d) {x2 : Int} {x3 : Int} {x4 : Int} (g2 : xR (x2)) (g3 : xR (x3)) (g4 : xR (x4)) (hQ : ∀ z a' b', kOk (xS a' b') → kP (xS a' b') → xAr a' → kSm xW31 (xS a' b') (xS a b) → (-5400 ≤ z ∧ z ≤ 2) → Q (some (xV z)) (xS a' b')) : pmCs ro d 31 [.ref 0, xV x2, xV x3, xV x4] (xS a b) Q := by
  refine xEng (ρ := xRo (0 :: L.1 :: [x2, x3, x4])) hc hd (xEl_ok (xEl.c ⟨Int.le_refl _, Int.le_refl _⟩ (xEl.c hL (xEl.f g2 (xEl.f g3 (xEl.f g4 xEl.n))))) rfl) (kOk_mok hT hP) (bSok.c (xVr (List.mem_singleton.mpr rfl)) (bSok.c (xVk g2 (by decide) rfl) (bSok.c (xVk g3 (by decide) rfl) (bSok.c (xVk g4 (by decide) rfl) bSok.n)))) (by decide +kernel) (by decide +kernel) ?_
  intro v a' b' ρ' h1 h2 h3 h4 h5 h6 h7 h8
  obtain ⟨z, rfl, z1, z2, -⟩ := xRi h6 h5 rfl
  exact hQ z a' b' h1 h2 h3 h4 ⟨z1, z2⟩
abbrev xW47 : Nat := 69324642199990267409233854464
theorem xe47 (hL : 0 ≤ L.1 ∧ L.1 ≤ 3072) (hc : bCok ro L kP bC47) (hT : kOk (xS a b)) (hP : kP (xS a b)) (hA : xAr a) (hd : 7 ≤ d) {x2 : Int} (g2 : xR (x2)) (hQ : ∀ z a' b', kOk (xS a' b') → kP (xS a' b') → xAr a' → kSm xW47 (xS a' b') (xS a b) → (-5400 ≤ z ∧ z ≤ 5) → Q (some (xV z)) (xS a' b')) : pmCs ro d 47 [.ref 0, xV x2] (xS a b) Q := by
  refine xEng (ρ := xRo (0 :: L.1 :: [x2])) hc hd (xEl_ok (xEl.c ⟨Int.le_refl _, Int.le_refl _⟩ (xEl.c hL (xEl.f g2 xEl.n))) rfl) (kOk_mok hT hP) (bSok.c (xVr (List.mem_singleton.mpr rfl)) (bSok.c (xVk g2 (by decide) rfl) bSok.n)) (by decide +kernel) (by decide +kernel) ?_
  intro v a' b' ρ' h1 h2 h3 h4 h5 h6 h7 h8
  obtain ⟨z, rfl, z1, z2, -⟩ := xRi h6 h5 rfl
  exact hQ z a' b' h1 h2 h3 h4 ⟨z1, z2⟩
abbrev xW58 : Nat := 134217728
theorem xe58 (hL : 0 ≤ L.1 ∧ L.1 ≤ 3072) (hc : bCok ro L kP bC58) (hT : kOk (xS a b)) (hP : kP (xS a b)) (hA : xAr a) (hd : 2 ≤ d) (hQ : ∀ a' b', kOk (xS a' b') → kP (xS a' b') → xAr a' → kSm xW58 (xS a' b') (xS a b) → Q none (xS a' b')) : pmCs ro d 58 [.ref 3] (xS a b) Q := by
  refine xEng (ρ := xRo (0 :: L.1 :: [])) hc hd (xEl_ok (xEl.c ⟨Int.le_refl _, Int.le_refl _⟩ (xEl.c hL xEl.n)) rfl) (kOk_mok hT hP) (bSok.c (xVr (List.mem_singleton.mpr rfl)) bSok.n) (by decide +kernel) (by decide +kernel) ?_
  intro v a' b' ρ' h1 h2 h3 h4 h5 h6 h7 h8
  obtain rfl := xRn h6
  exact hQ a' b' h1 h2 h3 h4
abbrev xW59 : Nat := 867779903933653758116625711826992682548916367168294527303952797532160
theorem xe59 (hL : 0 ≤ L.1 ∧ L.1 ≤ 3072) (hc : bCok ro L kP bC59) (hT : kOk (xS a b)) (hP : kP (xS a b)) (hA : xAr a) (hd : 3 ≤ d) {w1 : Nat} (hw1 : w1 ∈ ([21, 26, 52, 57, 68, 73] : List Nat)) (hQ : ∀ a' b', kOk (xS a' b') → kP (xS a' b') → xAr a' → kSm xW59 (xS a' b') (xS a b) → Q none (xS a' b')) : pmCs ro d 59 [.ref 43, .ref w1] (xS a b) Q := by
  refine xEng (ρ := xRo (0 :: L.1 :: [])) hc hd (xEl_ok (xEl.c ⟨Int.le_refl _, Int.le_refl _⟩ (xEl.c hL xEl.n)) rfl) (kOk_mok hT hP) (bSok.c (xVr (List.mem_singleton.mpr rfl)) (bSok.c (xVr hw1) bSok.n)) (by decide +kernel) (by decide +kernel) ?_
  intro v a' b' ρ' h1 h2 h3 h4 h5 h6 h7 h8
  obtain rfl := xRn h6
  exact hQ a' b' h1 h2 h3 h4
abbrev xW66 : Nat := 463111831645104869746335202152167092146587173271403913001447226538705828184064
theorem xe66 (hL : 0 ≤ L.1 ∧ L.1 ≤ 3072) (hc : bCok ro L kP bC66) (hT : kOk (xS a b)) (hP : kP (xS a b)) (hA : xAr a) (hd : 2 ≤ d) {w0 : Nat} (hw0 : w0 ∈ ([26, 52, 57, 68, 73, 80] : List Nat)) {w1 : Nat} (hw1 : w1 ∈ ([21, 52, 57, 73, 80] : List Nat)) (hQ : ∀ a' b', kOk (xS a' b') → kP (xS a' b') → xAr a' → kSm xW66 (xS a' b') (xS a b) → Q none (xS a' b')) : pmCs ro d 66 [.ref w0, .ref w1] (xS a b) Q := by
  refine xEng (ρ := xRo (0 :: L.1 :: [])) hc hd (xEl_ok (xEl.c ⟨Int.le_refl _, Int.le_refl _⟩ (xEl.c hL xEl.n)) rfl) (kOk_mok hT hP) (bSok.c (xVr hw0) (bSok.c (xVr hw1) bSok.n)) (by decide +kernel) (by decide +kernel) ?_
  intro v a' b' ρ' h1 h2 h3 h4 h5 h6 h7 h8
  obtain rfl := xRn h6
  exact hQ a' b' h1 h2 h3 h4
abbrev xW68 : Nat := 0
theorem xe68 (hL : 0 ≤ L.1 ∧ L.1 ≤ 3072) (hc : bCok ro L kP bC68) (hT : kOk (xS a b)) (hP : kP (xS a b)) (hA : xAr a) (hd : 3 ≤ d) {x2 : Int} {x3 : Int} {x4 : Int} (g2 : xR (x2)) (g3 : 0 ≤ x3 ∧ x3 ≤ 1) (g4 : xR (x4)) (hQ : ∀ z a' b', kOk (xS a' b') → kP (xS a' b') → xAr a' → kSm xW68 (xS a' b') (xS a b) → (-1 ≤ z ∧ z ≤ 20) → Q (some (xV z)) (xS a' b')) : pmCs ro d 68 [.ref 0, xV x2, xV x3, xV x4] (xS a b) Q := by
  refine xEng (ρ := xRo (0 :: L.1 :: [x2, x3, x4])) hc hd (xEl_ok (xEl.c ⟨Int.le_refl _, Int.le_refl _⟩ (xEl.c hL (xEl.f g2 (xEl.c g3 (xEl.f g4 xEl.n))))) rfl) (kOk_mok hT hP) (bSok.c (xVr (List.mem_singleton.mpr rfl)) (bSok.c (xVk g2 (by decide) rfl) (bSok.c (xVk ⟨by omega, by omega⟩ (by decide) rfl) (bSok.c (xVk g4 (by decide) rfl) bSok.n)))) (by decide +kernel) (by decide +kernel) ?_
  intro v a' b' ρ' h1 h2 h3 h4 h5 h6 h7 h8
  obtain ⟨z, rfl, z1, z2, -⟩ := xRi h6 h5 rfl
  exact hQ z a' b' h1 h2 h3 h4 ⟨z1, z2⟩
abbrev xW70 : Nat := 654472793090632101239929904497164288
theorem xe70 (hL : 0 ≤ L.1 ∧ L.1 ≤ 3072) (hc : bCok ro L kP bC70) (hT : kOk (xS a b)) (hP : kP (xS a b)) (hA : xAr a) (hd : 4 ≤ d) {x2 : Int} {x3 : Int} (g2 : xR (x2)) (g3 : xR (x3)) (hQ : ∀ z a' b', kOk (xS a' b') → kP (xS a' b') → xAr a' → kSm xW70 (xS a' b') (xS a b) → (-1 ≤ z ∧ z ≤ 1) → Q (some (xV z)) (xS a' b')) : pmCs ro d 70 [.ref 0, xV x2, xV x3] (xS a b) Q := by
  refine xEng (ρ := xRo (0 :: L.1 :: [x2, x3])) hc hd (xEl_ok (xEl.c ⟨Int.le_refl _, Int.le_refl _⟩ (xEl.c hL (xEl.f g2 (xEl.f g3 xEl.n)))) rfl) (kOk_mok hT hP) (bSok.c (xVr (List.mem_singleton.mpr rfl)) (bSok.c (xVk g2 (by decide) rfl) (bSok.c (xVk g3 (by decide) rfl) bSok.n))) (by decide +kernel) (by decide +kernel) ?_
  intro v a' b' ρ' h1 h2 h3 h4 h5 h6 h7 h8
  obtain ⟨z, rfl, z1, z2, -⟩ := xRi h6 h5 rfl
  exact hQ z a' b' h1 h2 h3 h4 ⟨z1, z2⟩
abbrev xW76 : Nat := 664532868254043329770207741135028224
theorem xe76 (hL : 0 ≤ L.1 ∧ L.1 ≤ 3072) (hc : bCok ro L kP bC76) (hT : kOk (xS a b)) (hP : kP (xS a b)) (hA : xAr a) (hd : 8 ≤ d) {x2 : Int} {x3 : Int} {x4 : Int} (g2 : xR (x2)) (g3 : xR (x3)) (g4 : xR (x4)) (hQ : ∀ z a' b', kOk (xS a' b') → kP (xS a' b') → xAr a' → kSm xW76 (xS a' b') (xS a b) → (-3 ≤ z ∧ z ≤ 33554431) → Q (some (xV z)) (xS a' b')) : pmCs ro d 76 [.ref 0, xV x2, xV x3, xV x4] (xS a b) Q := by
  refine xEng (ρ := xRo (0 :: L.1 :: [x2, x3, x4])) hc hd (xEl_ok (xEl.c ⟨Int.le_refl _, Int.le_refl _⟩ (xEl.c hL (xEl.f g2 (xEl.f g3 (xEl.f g4 xEl.n))))) rfl) (kOk_mok hT hP) (bSok.c (xVr (List.mem_singleton.mpr rfl)) (bSok.c (xVk g2 (by decide) rfl) (bSok.c (xVk g3 (by decide) rfl) (bSok.c (xVk g4 (by decide) rfl) bSok.n)))) (by decide +kernel) (by decide +kernel) ?_
  intro v a' b' ρ' h1 h2 h3 h4 h5 h6 h7 h8
  obtain ⟨z, rfl, z1, z2, -⟩ := xRi h6 h5 rfl
  exact hQ z a' b' h1 h2 h3 h4 ⟨z1, z2⟩
abbrev xW84 : Nat := 664532868254043329770207741135028224
theorem xe84 (hL : 0 ≤ L.1 ∧ L.1 ≤ 3072) (hc : bCok ro L kP bC84) (hT : kOk (xS a b)) (hP : kP (xS a b)) (hA : xAr a) (hd : 9 ≤ d) {x2 : Int} (g2 : xR (x2)) (hQ : ∀ z a' b', kOk (xS a' b') → kP (xS a' b') → xAr a' → kSm xW84 (xS a' b') (xS a b) → (-2 ≤ z ∧ z ≤ 6) → Q (some (xV z)) (xS a' b')) : pmCs ro d 84 [.ref 0, xV x2] (xS a b) Q := by
  refine xEng (ρ := xRo (0 :: L.1 :: [x2])) hc hd (xEl_ok (xEl.c ⟨Int.le_refl _, Int.le_refl _⟩ (xEl.c hL (xEl.f g2 xEl.n))) rfl) (kOk_mok hT hP) (bSok.c (xVr (List.mem_singleton.mpr rfl)) (bSok.c (xVk g2 (by decide) rfl) bSok.n)) (by decide +kernel) (by decide +kernel) ?_
  intro v a' b' ρ' h1 h2 h3 h4 h5 h6 h7 h8
  obtain ⟨z, rfl, z1, z2, -⟩ := xRi h6 h5 rfl
  exact hQ z a' b' h1 h2 h3 h4 ⟨z1, z2⟩
abbrev xW87 : Nat := 463170137409521489942666444397263063757261896445574024500021803394402848079872
theorem xe87 (hL : 0 ≤ L.1 ∧ L.1 ≤ 3072) (hc : bCok ro L kP bC87) (hT : kOk (xS a b)) (hP : kP (xS a b)) (hA : xAr a) (hd : 11 ≤ d) {x2 : Int} {x3 : Int} {x4 : Int} (g2 : xR (x2)) (g3 : xR (x3)) (g4 : xR (x4)) (hQ : ∀ z a' b', kOk (xS a' b') → kP (xS a' b') → xAr a' → kSm xW87 (xS a' b') (xS a b) → (-2147483648 ≤ z ∧ z ≤ 2147483647) → Q (some (xV z)) (xS a' b')) : pmCs ro d 87 [.ref 0, xV x2, xV x3, xV x4] (xS a b) Q := by
  refine xEng (ρ := xRo (0 :: L.1 :: [x2, x3, x4])) hc hd (xEl_ok (xEl.c ⟨Int.le_refl _, Int.le_refl _⟩ (xEl.c hL (xEl.f g2 (xEl.f g3 (xEl.f g4 xEl.n))))) rfl) (kOk_mok hT hP) (bSok.c (xVr (List.mem_singleton.mpr rfl)) (bSok.c (xVk g2 (by decide) rfl) (bSok.c (xVk g3 (by decide) rfl) (bSok.c (xVk g4 (by decide) rfl) bSok.n)))) (by decide +kernel) (by decide +kernel) ?_
  intro v a' b' ρ' h1 h2 h3 h4 h5 h6 h7 h8
  obtain ⟨z, rfl, z1, z2, -⟩ := xRi h6 h5 rfl
  exact hQ z a' b' h1 h2 h3 h4 ⟨z1, z2⟩
abbrev xW100 : Nat := 926336714766309467322223308379558557612191846171897211787193874750053745164288
theorem xe100 (hL : 0 ≤ L.1 ∧ L.1 ≤ 3072) (hc : bCok ro L kP bC100) (hT : kOk (xS a b)) (hP : kP (xS a b)) (hA : xAr a) (hd : 6 ≤ d) {x2 : Int} {x3 : Int} (g2 : xR (x2)) (g3 : xR (x3)) (hQ : ∀ z a' b', kOk (xS a' b') → kP (xS a' b') → xAr a' → kSm xW100 (xS a' b') (xS a b) → (-2147483648 ≤ z ∧ z ≤ 2147483647) → Q (some (xV z)) (xS a' b')) : pmCs ro d 100 [.ref 0, xV x2, xV x3] (xS a b) Q := by
  refine xEng (ρ := xRo (0 :: L.1 :: [x2, x3])) hc hd (xEl_ok (xEl.c ⟨Int.le_refl _, Int.le_refl _⟩ (xEl.c hL (xEl.f g2 (xEl.f g3 xEl.n)))) rfl) (kOk_mok hT hP) (bSok.c (xVr (List.mem_singleton.mpr rfl)) (bSok.c (xVk g2 (by decide) rfl) (bSok.c (xVk g3 (by decide) rfl) bSok.n))) (by decide +kernel) (by decide +kernel) ?_
  intro v a' b' ρ' h1 h2 h3 h4 h5 h6 h7 h8
  obtain ⟨z, rfl, z1, z2, -⟩ := xRi h6 h5 rfl
  exact hQ z a' b' h1 h2 h3 h4 ⟨z1, z2⟩
abbrev xW106 : Nat := 926336714766309467322223308379558557612191846171897211787193874750053745164288
theorem xe106 (hL : 0 ≤ L.1 ∧ L.1 ≤ 3072) (hc : bCok ro L kP bC106) (hT : kOk (xS a b)) (hP : kP (xS a b)) (hA : xAr a) (hd : 6 ≤ d) {x2 : Int} {x3 : Int} (g2 : xR (x2)) (g3 : xR (x3)) (hQ : ∀ z a' b', kOk (xS a' b') → kP (xS a' b') → xAr a' → kSm xW106 (xS a' b') (xS a b) → (-2147483648 ≤ z ∧ z ≤ 2147483647) → Q (some (xV z)) (xS a' b')) : pmCs ro d 106 [.ref 0, xV x2, xV x3] (xS a b) Q := by
  refine xEng (ρ := xRo (0 :: L.1 :: [x2, x3])) hc hd (xEl_ok (xEl.c ⟨Int.le_refl _, Int.le_refl _⟩ (xEl.c hL (xEl.f g2 (xEl.f g3 xEl.n)))) rfl) (kOk_mok hT hP) (bSok.c (xVr (List.mem_singleton.mpr rfl)) (bSok.c (xVk g2 (by decide) rfl) (bSok.c (xVk g3 (by decide) rfl) bSok.n))) (by decide +kernel) (by decide +kernel) ?_
  intro v a' b' ρ' h1 h2 h3 h4 h5 h6 h7 h8
  obtain ⟨z, rfl, z1, z2, -⟩ := xRi h6 h5 rfl
  exact hQ z a' b' h1 h2 h3 h4 ⟨z1, z2⟩
abbrev xW107 : Nat := 0
theorem xe107 (hL : 0 ≤ L.1 ∧ L.1 ≤ 3072) (hc : bCok ro L kP bC107) (hT : kOk (xS a b)) (hP : kP (xS a b)) (hA : xAr a) (hd : 2 ≤ d) {x2 : Int} (g2 : xR (x2)) (hQ : ∀ z a' b', kOk (xS a' b') → kP (xS a' b') → xAr a' → kSm xW107 (xS a' b') (xS a b) → (-1 ≤ z ∧ z ≤ 2) → Q (some (xV z)) (xS a' b')) : pmCs ro d 107 [.ref 0, xV x2] (xS a b) Q := by
  refine xEng (ρ := xRo (0 :: L.1 :: [x2])) hc hd (xEl_ok (xEl.c ⟨Int.le_refl _, Int.le_refl _⟩ (xEl.c hL (xEl.f g2 xEl.n))) rfl) (kOk_mok hT hP) (bSok.c (xVr (List.mem_singleton.mpr rfl)) (bSok.c (xVk g2 (by decide) rfl) bSok.n)) (by decide +kernel) (by decide +kernel) ?_
  intro v a' b' ρ' h1 h2 h3 h4 h5 h6 h7 h8
  obtain ⟨z, rfl, z1, z2, -⟩ := xRi h6 h5 rfl
  exact hQ z a' b' h1 h2 h3 h4 ⟨z1, z2⟩
abbrev xW109 : Nat := 0
theorem xe109 (hL : 0 ≤ L.1 ∧ L.1 ≤ 3072) (hc : bCok ro L kP bC109) (hT : kOk (xS a b)) (hP : kP (xS a b)) (hA : xAr a) (hd : 1 ≤ d) {x2 : Int} (g2 : xR (x2)) (hQ : ∀ z a' b', kOk (xS a' b') → kP (xS a' b') → xAr a' → kSm xW109 (xS a' b') (xS a b) → (-2147483648 ≤ z ∧ z ≤ 2147483647) → Q (some (xV z)) (xS a' b')) : pmCs ro d 109 [.ref 0, xV x2] (xS a b) Q := by
  refine xEng (ρ := xRo (0 :: L.1 :: [x2])) hc hd (xEl_ok (xEl.c ⟨Int.le_refl _, Int.le_refl _⟩ (xEl.c hL (xEl.f g2 xEl.n))) rfl) (kOk_mok hT hP) (bSok.c (xVr (List.mem_singleton.mpr rfl)) (bSok.c (xVk g2 (by decide) rfl) bSok.n)) (by decide +kernel) (by decide +kernel) ?_
  intro v a' b' ρ' h1 h2 h3 h4 h5 h6 h7 h8
  obtain ⟨z, rfl, z1, z2, -⟩ := xRi h6 h5 rfl
  exact hQ z a' b' h1 h2 h3 h4 ⟨z1, z2⟩
abbrev xW110 : Nat := 463111845448597563327462777021678816700649376530456390713713785033506989015040
theorem xe110 (hL : 0 ≤ L.1 ∧ L.1 ≤ 3072) (hc : bCok ro L kP bC110) (hT : kOk (xS a b)) (hP : kP (xS a b)) (hA : xAr a) (hd : 14 ≤ d) {x2 : Int} (g2 : xR (x2)) (hQ : ∀ z a' b', kOk (xS a' b') → kP (xS a' b') → xAr a' → kSm xW110 (xS a' b') (xS a b) → (-1 ≤ z ∧ z ≤ 1) → Q (some (xV z)) (xS a' b')) : pmCs ro d 110 [.ref 0, xV x2] (xS a b) Q := by
  refine xEng (ρ := xRo (0 :: L.1 :: [x2])) hc hd (xEl_ok (xEl.c ⟨Int.le_refl _, Int.le_refl _⟩ (xEl.c hL (xEl.f g2 xEl.n))) rfl) (kOk_mok hT hP) (bSok.c (xVr (List.mem_singleton.mpr rfl)) (bSok.c (xVk g2 (by decide) rfl) bSok.n)) (by decide +kernel) (by decide +kernel) ?_
  intro v a' b' ρ' h1 h2 h3 h4 h5 h6 h7 h8
  obtain ⟨z, rfl, z1, z2, -⟩ := xRi h6 h5 rfl
  exact hQ z a' b' h1 h2 h3 h4 ⟨z1, z2⟩
abbrev xW114 : Nat := 463111845448597563327462777021678816700649376530456390713713785033506989015040
theorem xe114 (hL : 0 ≤ L.1 ∧ L.1 ≤ 3072) (hc : bCok ro L kP bC114) (hT : kOk (xS a b)) (hP : kP (xS a b)) (hA : xAr a) (hd : 14 ≤ d) (hQ : ∀ z a' b', kOk (xS a' b') → kP (xS a' b') → xAr a' → kSm xW114 (xS a' b') (xS a b) → (-1 ≤ z ∧ z ≤ 3) → Q (some (xV z)) (xS a' b')) : pmCs ro d 114 [.ref 0] (xS a b) Q := by
  refine xEng (ρ := xRo (0 :: L.1 :: [])) hc hd (xEl_ok (xEl.c ⟨Int.le_refl _, Int.le_refl _⟩ (xEl.c hL xEl.n)) rfl) (kOk_mok hT hP) (bSok.c (xVr (List.mem_singleton.mpr rfl)) bSok.n) (by decide +kernel) (by decide +kernel) ?_
  intro v a' b' ρ' h1 h2 h3 h4 h5 h6 h7 h8
  obtain ⟨z, rfl, z1, z2, -⟩ := xRi h6 h5 rfl
  exact hQ z a' b' h1 h2 h3 h4 ⟨z1, z2⟩
abbrev xW115 : Nat := 463111845448597563327462777021678816700649376530456390713713785033506989015040
theorem xe115 (hL : 0 ≤ L.1 ∧ L.1 ≤ 3072) (hc : bCok ro L kP bC115) (hT : kOk (xS a b)) (hP : kP (xS a b)) (hA : xAr a) (hd : 14 ≤ d) {x2 : Int} {x3 : Int} (g2 : xR (x2)) (g3 : xR (x3)) (hQ : ∀ z a' b', kOk (xS a' b') → kP (xS a' b') → xAr a' → kSm xW115 (xS a' b') (xS a b) → (-2147483648 ≤ z ∧ z ≤ 2147483647) → Q (some (xV z)) (xS a' b')) : pmCs ro d 115 [.ref 0, xV x2, xV x3] (xS a b) Q := by
  refine xEng (ρ := xRo (0 :: L.1 :: [x2, x3])) hc hd (xEl_ok (xEl.c ⟨Int.le_refl _, Int.le_refl _⟩ (xEl.c hL (xEl.f g2 (xEl.f g3 xEl.n)))) rfl) (kOk_mok hT hP) (bSok.c (xVr (List.mem_singleton.mpr rfl)) (bSok.c (xVk g2 (by decide) rfl) (bSok.c (xVk g3 (by decide) rfl) bSok.n))) (by decide +kernel) (by decide +kernel) ?_
  intro v a' b' ρ' h1 h2 h3 h4 h5 h6 h7 h8
  obtain ⟨z, rfl, z1, z2, -⟩ := xRi h6 h5 rfl
  exact hQ z a' b' h1 h2 h3 h4 ⟨z1, z2⟩
abbrev xW116 : Nat := 463111831645104869746335202152167092146598471628238446372940674708458541416448
theorem xe116 (hL : 0 ≤ L.1 ∧ L.1 ≤ 3072) (hc : bCok ro L kP bC116) (hT : kOk (xS a b)) (hP : kP (xS a b)) (hA : xAr a) (hd : 12 ≤ d) {x2 : Int} (g2 : xR (x2)) (hQ : ∀ z a' b', kOk (xS a' b') → kP (xS a' b') → xAr a' → kSm xW116 (xS a' b') (xS a b) → (-2147483648 ≤ z ∧ z ≤ 2147483647) → Q (some (xV z)) (xS a' b')) : pmCs ro d 116 [.ref 0, xV x2] (xS a b) Q := by
  refine xEng (ρ := xRo (0 :: L.1 :: [x2])) hc hd (xEl_ok (xEl.c ⟨Int.le_refl _, Int.le_refl _⟩ (xEl.c hL (xEl.f g2 xEl.n))) rfl) (kOk_mok hT hP) (bSok.c (xVr (List.mem_singleton.mpr rfl)) (bSok.c (xVk g2 (by decide) rfl) bSok.n)) (by decide +kernel) (by decide +kernel) ?_
  intro v a' b' ρ' h1 h2 h3 h4 h5 h6 h7 h8
  obtain ⟨z, rfl, z1, z2, -⟩ := xRi h6 h5 rfl
  exact hQ z a' b' h1 h2 h3 h4 ⟨z1, z2⟩
abbrev xW119 : Nat := 463111831645104869746335202152167092146598471628238446372940674708458541416448
theorem xe119 (hL : 0 ≤ L.1 ∧ L.1 ≤ 3072) (hc : bCok ro L kP bC119) (hT : kOk (xS a b)) (hP : kP (xS a b)) (hA : xAr a) (hd : 12 ≤ d) {x2 : Int} (g2 : xR (x2)) (hQ : ∀ z a' b', kOk (xS a' b') → kP (xS a' b') → xAr a' → kSm xW119 (xS a' b') (xS a b) → (-1 ≤ z ∧ z ≤ 1) → Q (some (xV z)) (xS a' b')) : pmCs ro d 119 [.ref 0, xV x2] (xS a b) Q := by
  refine xEng (ρ := xRo (0 :: L.1 :: [x2])) hc hd (xEl_ok (xEl.c ⟨Int.le_refl _, Int.le_refl _⟩ (xEl.c hL (xEl.f g2 xEl.n))) rfl) (kOk_mok hT hP) (bSok.c (xVr (List.mem_singleton.mpr rfl)) (bSok.c (xVk g2 (by decide) rfl) bSok.n)) (by decide +kernel) (by decide +kernel) ?_
  intro v a' b' ρ' h1 h2 h3 h4 h5 h6 h7 h8
  obtain ⟨z, rfl, z1, z2, -⟩ := xRi h6 h5 rfl
  exact hQ z a' b' h1 h2 h3 h4 ⟨z1, z2⟩
abbrev xW120 : Nat := 463111831645104869746335202152167092146598471628238446372924533807394045558784
theorem xe120 (hL : 0 ≤ L.1 ∧ L.1 ≤ 3072) (hc : bCok ro L kP bC120) (hT : kOk (xS a b)) (hP : kP (xS a b)) (hA : xAr a) (hd : 12 ≤ d) {x2 : Int} {x3 : Int} {x4 : Int} {x5 : Int} (g2 : xR (x2)) (g3 : xR (x3)) (g4 : xR (x4)) (g5 : xR (x5)) (hQ : ∀ z a' b', kOk (xS a' b') → kP (xS a' b') → xAr a' → kSm xW120 (xS a' b') (xS a b) → (-2147483648 ≤ z ∧ z ≤ 2147483647) → Q (some (xV z)) (xS a' b')) : pmCs ro d 120 [.ref 0, xV x2, xV x3, xV x4, xV x5] (xS a b) Q := by
  refine xEng (ρ := xRo (0 :: L.1 :: [x2, x3, x4, x5])) hc hd (xEl_ok (xEl.c ⟨Int.le_refl _, Int.le_refl _⟩ (xEl.c hL (xEl.f g2 (xEl.f g3 (xEl.f g4 (xEl.f g5 xEl.n)))))) rfl) (kOk_mok hT hP) (bSok.c (xVr (List.mem_singleton.mpr rfl)) (bSok.c (xVk g2 (by decide) rfl) (bSok.c (xVk g3 (by decide) rfl) (bSok.c (xVk g4 (by decide) rfl) (bSok.c (xVk g5 (by decide) rfl) bSok.n))))) (by decide +kernel) (by decide +kernel) ?_
  intro v a' b' ρ' h1 h2 h3 h4 h5 h6 h7 h8
  obtain ⟨z, rfl, z1, z2, -⟩ := xRi h6 h5 rfl
  exact hQ z a' b' h1 h2 h3 h4 ⟨z1, z2⟩
abbrev xW124 : Nat := 0
theorem xe124 (hL : 0 ≤ L.1 ∧ L.1 ≤ 3072) (hc : bCok ro L kP bC124) (hT : kOk (xS a b)) (hP : kP (xS a b)) (hA : xAr a) (hd : 5 ≤ d) {x2 : Int} (g2 : xR (x2)) (hQ : ∀ z a' b', kOk (xS a' b') → kP (xS a' b') → xAr a' → kSm xW124 (xS a' b') (xS a b) → (-2147483648 ≤ z ∧ z ≤ 2147483647) → Q (some (xV z)) (xS a' b')) : pmCs ro d 124 [.ref 0, xV x2] (xS a b) Q := by
  refine xEng (ρ := xRo (0 :: L.1 :: [x2])) hc hd (xEl_ok (xEl.c ⟨Int.le_refl _, Int.le_refl _⟩ (xEl.c hL (xEl.f g2 xEl.n))) rfl) (kOk_mok hT hP) (bSok.c (xVr (List.mem_singleton.mpr rfl)) (bSok.c (xVk g2 (by decide) rfl) bSok.n)) (by decide +kernel) (by decide +kernel) ?_
  intro v a' b' ρ' h1 h2 h3 h4 h5 h6 h7 h8
  obtain ⟨z, rfl, z1, z2, -⟩ := xRi h6 h5 rfl
  exact hQ z a' b' h1 h2 h3 h4 ⟨z1, z2⟩
abbrev xW127 : Nat := 0
theorem xe127 (hL : 0 ≤ L.1 ∧ L.1 ≤ 3072) (hc : bCok ro L kP bC127) (hT : kOk (xS a b)) (hP : kP (xS a b)) (hA : xAr a) (hd : 3 ≤ d) {x2 : Int} {x3 : Int} {x4 : Int} (g2 : xR (x2)) (g3 : xR (x3)) (g4 : xR (x4)) (hQ : ∀ z a' b', kOk (xS a' b') → kP (xS a' b') → xAr a' → kSm xW127 (xS a' b') (xS a b) → (-1 ≤ z ∧ z ≤ 15) → Q (some (xV z)) (xS a' b')) : pmCs ro d 127 [.ref 0, xV x2, xV x3, xV x4] (xS a b) Q := by
  refine xEng (ρ := xRo (0 :: L.1 :: [x2, x3, x4])) hc hd (xEl_ok (xEl.c ⟨Int.le_refl _, Int.le_refl _⟩ (xEl.c hL (xEl.f g2 (xEl.f g3 (xEl.f g4 xEl.n))))) rfl) (kOk_mok hT hP) (bSok.c (xVr (List.mem_singleton.mpr rfl)) (bSok.c (xVk g2 (by decide) rfl) (bSok.c (xVk g3 (by decide) rfl) (bSok.c (xVk g4 (by decide) rfl) bSok.n)))) (by decide +kernel) (by decide +kernel) ?_
  intro v a' b' ρ' h1 h2 h3 h4 h5 h6 h7 h8
  obtain ⟨z, rfl, z1, z2, -⟩ := xRi h6 h5 rfl
  exact hQ z a' b' h1 h2 h3 h4 ⟨z1, z2⟩
abbrev xW129 : Nat := 16384
theorem xe129 (hL : 0 ≤ L.1 ∧ L.1 ≤ 3072) (hc : bCok ro L kP bC129) (hT : kOk (xS a b)) (hP : kP (xS a b)) (hA : xAr a) (hd : 4 ≤ d) {x2 : Int} {x3 : Int} (g2 : xR (x2)) (g3 : xR (x3)) (hQ : ∀ z a' b', kOk (xS a' b') → kP (xS a' b') → xAr a' → kSm xW129 (xS a' b') (xS a b) → (-2 ≤ z ∧ z ≤ 100) → Q (some (xV z)) (xS a' b')) : pmCs ro d 129 [.ref 0, xV x2, xV x3] (xS a b) Q := by
  refine xEng (ρ := xRo (0 :: L.1 :: [x2, x3])) hc hd (xEl_ok (xEl.c ⟨Int.le_refl _, Int.le_refl _⟩ (xEl.c hL (xEl.f g2 (xEl.f g3 xEl.n)))) rfl) (kOk_mok hT hP) (bSok.c (xVr (List.mem_singleton.mpr rfl)) (bSok.c (xVk g2 (by decide) rfl) (bSok.c (xVk g3 (by decide) rfl) bSok.n))) (by decide +kernel) (by decide +kernel) ?_
  intro v a' b' ρ' h1 h2 h3 h4 h5 h6 h7 h8
  obtain ⟨z, rfl, z1, z2, -⟩ := xRi h6 h5 rfl
  exact hQ z a' b' h1 h2 h3 h4 ⟨z1, z2⟩
abbrev xW132 : Nat := 0
theorem xe132 (hL : 0 ≤ L.1 ∧ L.1 ≤ 3072) (hc : bCok ro L kP bC132) (hT : kOk (xS a b)) (hP : kP (xS a b)) (hA : xAr a) (hd : 2 ≤ d) {x2 : Int} (g2 : xR (x2)) (hQ : ∀ z a' b', kOk (xS a' b') → kP (xS a' b') → xAr a' → kSm xW132 (xS a' b') (xS a b) → (-1 ≤ z ∧ z ≤ 20) → Q (some (xV z)) (xS a' b')) : pmCs ro d 132 [.ref 0, xV x2] (xS a b) Q := by
  refine xEng (ρ := xRo (0 :: L.1 :: [x2])) hc hd (xEl_ok (xEl.c ⟨Int.le_refl _, Int.le_refl _⟩ (xEl.c hL (xEl.f g2 xEl.n))) rfl) (kOk_mok hT hP) (bSok.c (xVr (List.mem_singleton.mpr rfl)) (bSok.c (xVk g2 (by decide) rfl) bSok.n)) (by decide +kernel) (by decide +kernel) ?_
  intro v a' b' ρ' h1 h2 h3 h4 h5 h6 h7 h8
  obtain ⟨z, rfl, z1, z2, -⟩ := xRi h6 h5 rfl
  exact hQ z a' b' h1 h2 h3 h4 ⟨z1, z2⟩
abbrev xW133 : Nat := 0
theorem xe133 (hL : 0 ≤ L.1 ∧ L.1 ≤ 3072) (hc : bCok ro L kP bC133) (hT : kOk (xS a b)) (hP : kP (xS a b)) (hA : xAr a) (hd : 2 ≤ d) {x2 : Int} (g2 : xR (x2)) (hQ : ∀ z a' b', kOk (xS a' b') → kP (xS a' b') → xAr a' → kSm xW133 (xS a' b') (xS a b) → (-1 ≤ z ∧ z ≤ 20) → Q (some (xV z)) (xS a' b')) : pmCs ro d 133 [.ref 0, xV x2] (xS a b) Q := by
  refine xEng (ρ := xRo (0 :: L.1 :: [x2])) hc hd (xEl_ok (xEl.c ⟨Int.le_refl _, Int.le_refl _⟩ (xEl.c hL (xEl.f g2 xEl.n))) rfl) (kOk_mok hT hP) (bSok.c (xVr (List.mem_singleton.mpr rfl)) (bSok.c (xVk g2 (by decide) rfl) bSok.n)) (by decide +kernel) (by decide +kernel) ?_
  intro v a' b' ρ' h1 h2 h3 h4 h5 h6 h7 h8
  obtain ⟨z, rfl, z1, z2, -⟩ := xRi h6 h5 rfl
  exact hQ z a' b' h1 h2 h3 h4 ⟨z1, z2⟩
abbrev xW134 : Nat := 0
theorem xe134 (hL : 0 ≤ L.1 ∧ L.1 ≤ 3072) (hc : bCok ro L kP bC134) (hT : kOk (xS a b)) (hP : kP (xS a b)) (hA : xAr a) (hd : 3 ≤ d) {x2 : Int} (g2 : xR (x2)) (hQ : ∀ z a' b', kOk (xS a' b') → kP (xS a' b') → xAr a' → kSm xW134 (xS a' b') (xS a b) → (-2147483648 ≤ z ∧ z ≤ 2147483647) → Q (some (xV z)) (xS a' b')) : pmCs ro d 134 [.ref 0, xV x2] (xS a b) Q := by
  refine xEng (ρ := xRo (0 :: L.1 :: [x2])) hc hd (xEl_ok (xEl.c ⟨Int.le_refl _, Int.le_refl _⟩ (xEl.c hL (xEl.f g2 xEl.n))) rfl) (kOk_mok hT hP) (bSok.c (xVr (List.mem_singleton.mpr rfl)) (bSok.c (xVk g2 (by decide) rfl) bSok.n)) (by decide +kernel) (by decide +kernel) ?_
  intro v a' b' ρ' h1 h2 h3 h4 h5 h6 h7 h8
  obtain ⟨z, rfl, z1, z2, -⟩ := xRi h6 h5 rfl
  exact hQ z a' b' h1 h2 h3 h4 ⟨z1, z2⟩
abbrev xW141 : Nat := 1527716997362003638074695707052079048452488221419092279368033327472832085313659161088678539250702619636850727301414813650449510459954163020452912669422726479345433221903138203343794223787143921239462383908774946382107441178210858659218648730415255675760945317066583091278125219008527117857493961923505669243034186264754269373458650897890761663899121648700868426717385504981907664695217082366964789156905165222507928165878903246693680174601780100059641154934714399991619905062431402480931700736
theorem xe141 (hL : 0 ≤ L.1 ∧ L.1 ≤ 3072) (hc : bCok ro L kP bC141) (hT : kOk (xS a b)) (hP : kP (xS a b)) (hA : xAr a) (hd : 2 ≤ d) {x2 : Int} {x3 : Int} (g2 : xR (x2)) (g3 : 0 ≤ x3 ∧ x3 ≤ 1) (hQ : ∀ z a' b', kOk (xS a' b') → kP (xS a' b') → xAr a' → kSm xW141 (xS a' b') (xS a b) → (-1 ≤ z ∧ z ≤ 4) → Q (some (xV z)) (xS a' b')) : pmCs ro d 141 [.ref 87, xV x2, xV x3] (xS a b) Q := by
  refine xEng (ρ := xRo (0 :: L.1 :: [x2, x3])) hc hd (xEl_ok (xEl.c ⟨Int.le_refl _, Int.le_refl _⟩ (xEl.c hL (xEl.f g2 (xEl.c g3 xEl.n)))) rfl) (kOk_mok hT hP) (bSok.c (xVr (List.mem_singleton.mpr rfl)) (bSok.c (xVk g2 (by decide) rfl) (bSok.c (xVk ⟨by omega, by omega⟩ (by decide) rfl) bSok.n))) (by decide +kernel) (by decide +kernel) ?_
  intro v a' b' ρ' h1 h2 h3 h4 h5 h6 h7 h8
  obtain ⟨z, rfl, z1, z2, -⟩ := xRi h6 h5 rfl
  exact hQ z a' b' h1 h2 h3 h4 ⟨z1, z2⟩
abbrev xW142 : Nat := 1527716997362003638074695707052079048452488221419092279368033327472832085313659161088678539250702619636850727301414813650449510459954163020452912669422726479345433221903138203343794223787143921239462383908774946382107441178210858659218648730415255675760945317066583091278125219008527117857493961923505669243034186264754269373458650897890761663899121648700868426717385504981907664695217082366965318881690073608208362131262033295618101645323324549946588021253454310483613503918837097078491971584
theorem xe142 (hL : 0 ≤ L.1 ∧ L.1 ≤ 3072) (hc : bCok ro L kP bC142) (hT : kOk (xS a b)) (hP : kP (xS a b)) (hA : xAr a) (hd : 2 ≤ d) {x2 : Int} {x3 : Int} (g2 : xR (x2)) (g3 : 0 ≤ x3 ∧ x3 ≤ 1) (hQ : ∀ z a' b', kOk (xS a' b') → kP (xS a' b') → xAr a' → kSm xW142 (xS a' b') (xS a b) → (-1 ≤ z ∧ z ≤ 4) → Q (some (xV z)) (xS a' b')) : pmCs ro d 142 [.ref 87, xV x2, xV x3] (xS a b) Q := by
  refine xEng (ρ := xRo (0 :: L.1 :: [x2, x3])) hc hd (xEl_ok (xEl.c ⟨Int.le_refl _, Int.le_refl _⟩ (xEl.c hL (xEl.f g2 (xEl.c g3 xEl.n)))) rfl) (kOk_mok hT hP) (bSok.c (xVr (List.mem_singleton.mpr rfl)) (bSok.c (xVk g2 (by decide) rfl) (bSok.c (xVk ⟨by omega, by omega⟩ (by decide) rfl) bSok.n))) (by decide +kernel) (by decide +kernel) ?_
  intro v a' b' ρ' h1 h2 h3 h4 h5 h6 h7 h8
  obtain ⟨z, rfl, z1, z2, -⟩ := xRi h6 h5 rfl
  exact hQ z a' b' h1 h2 h3 h4 ⟨z1, z2⟩
abbrev xW145 : Nat := 36660106397142021594460444195183105282947906509733491572540929685802991185740637364135450427780538646396928
theorem xe145 (hL : 0 ≤ L.1 ∧ L.1 ≤ 3072) (hc : bCok ro L kP bC145) (hT : kOk (xS a b)) (hP : kP (xS a b)) (hA : xAr a) (hd : 2 ≤ d) {x2 : Int} {x3 : Int} {x4 : Int} {x5 : Int} (g2 : xR (x2)) (g3 : 0 ≤ x3 ∧ x3 ≤ 1) (g4 : xR (x4)) (g5 : xR (x5)) (hQ : ∀ z a' b', kOk (xS a' b') → kP (xS a' b') → xAr a' → kSm xW145 (xS a' b') (xS a b) → (0 ≤ z ∧ z ≤ 1) → Q (some (xV z)) (xS a' b')) : pmCs ro d 145 [.ref 87, xV x2, xV x3, xV x4, xV x5] (xS a b) Q := by
  refine xEng (ρ := xRo (0 :: L.1 :: [x2, x3, x4, x5])) hc hd (xEl_ok (xEl.c ⟨Int.le_refl _, Int.le_refl _⟩ (xEl.c hL (xEl.f g2 (xEl.c g3 (xEl.f g4 (xEl.f g5 xEl.n)))))) rfl) (kOk_mok hT hP) (bSok.c (xVr (List.mem_singleton.mpr rfl)) (bSok.c (xVk g2 (by decide) rfl) (bSok.c (xVk ⟨by omega, by omega⟩ (by decide) rfl) (bSok.c (xVk g4 (by decide) rfl) (bSok.c (xVk g5 (by decide) rfl) bSok.n))))) (by decide +kernel) (by decide +kernel) ?_
  intro v a' b' ρ' h1 h2 h3 h4 h5 h6 h7 h8
  obtain ⟨z, rfl, z1, z2, -⟩ := xRi h6 h5 rfl
  exact hQ z a' b' h1 h2 h3 h4 ⟨z1, z2⟩
abbrev xW150 : Nat := 3055433994724007276149391414104158096904976442838184558736066654945664170627318322177357078501405239273701454602829627300899020919908326040905825338845452958690866443806276406687588447574287842478924767817549892764214882356421717318437297460830511351521890634133166182556250438017054235714987923847011338486068372529508538746917301795781523327798243297401736853434771009963815329390434164733929545206011273670909564387533938488856569790197382559949142912166470353585293159625584436168921972736
theorem xe150 (hL : 0 ≤ L.1 ∧ L.1 ≤ 3072) (hc : bCok ro L kP bC150) (hT : kOk (xS a b)) (hP : kP (xS a b)) (hA : xAr a) (hd : 2 ≤ d) {x2 : Int} {x3 : Int} (g2 : xR (x2)) (g3 : xR (x3)) (hQ : ∀ z a' b', kOk (xS a' b') → kP (xS a' b') → xAr a' → kSm xW150 (xS a' b') (xS a b) → (0 ≤ z ∧ z ≤ 1) → Q (some (xV z)) (xS a' b')) : pmCs ro d 150 [.ref 87, xV x2, xV x3] (xS a b) Q := by
  refine xEng (ρ := xRo (0 :: L.1 :: [x2, x3])) hc hd (xEl_ok (xEl.c ⟨Int.le_refl _, Int.le_refl _⟩ (xEl.c hL (xEl.f g2 (xEl.f g3 xEl.n)))) rfl) (kOk_mok hT hP) (bSok.c (xVr (List.mem_singleton.mpr rfl)) (bSok.c (xVk g2 (by decide) rfl) (bSok.c (xVk g3 (by decide) rfl) bSok.n))) (by decide +kernel) (by decide +kernel) ?_
  intro v a' b' ρ' h1 h2 h3 h4 h5 h6 h7 h8
  obtain ⟨z, rfl, z1, z2, -⟩ := xRi h6 h5 rfl
  exact hQ z a' b' h1 h2 h3 h4 ⟨z1, z2⟩
abbrev xW151 : Nat := 6110867989448014552298782828208316193809952885676369117472133309891328341254636644354714157002810478547402909205659254601798041839816652081811650677690905917381732887612552813375176895148575684957849535635099785528429764712843434636874594921661022703043781268266332365112500876034108471429975847694022676972136745059017077493834603591563046655596486594803473706869542019927630658780868329467859090412022547341820077343862909071986049473903956291239419812047321634671197555779361696695854301184
theorem xe151 (hL : 0 ≤ L.1 ∧ L.1 ≤ 3072) (hc : bCok ro L kP bC151) (hT : kOk (xS a b)) (hP : kP (xS a b)) (hA : xAr a) (hd : 2 ≤ d) {x2 : Int} {x3 : Int} {x4 : Int} {x5 : Int} {x6 : Int} (g2 : xR (x2)) (g3 : xR (x3)) (g4 : xR (x4)) (g5 : xR (x5)) (g6 : xR (x6)) (hQ : ∀ z a' b', kOk (xS a' b') → kP (xS a' b') → xAr a' → kSm xW151 (xS a' b') (xS a b) → (-1 ≤ z ∧ z ≤ 400) → Q (some (xV z)) (xS a' b')) : pmCs ro d 151 [.ref 87, xV x2, xV x3, xV x4, xV x5, xV x6] (xS a b) Q := by
  refine xEng (ρ := xRo (0 :: L.1 :: [x2, x3, x4, x5, x6])) hc hd (xEl_ok (xEl.c ⟨Int.le_refl _, Int.le_refl _⟩ (xEl.c hL (xEl.f g2 (xEl.f g3 (xEl.f g4 (xEl.f g5 (xEl.f g6 xEl.n))))))) rfl) (kOk_mok hT hP) (bSok.c (xVr (List.mem_singleton.mpr rfl)) (bSok.c (xVk g2 (by decide) rfl) (bSok.c (xVk g3 (by decide) rfl) (bSok.c (xVk g4 (by decide) rfl) (bSok.c (xVk g5 (by decide) rfl) (bSok.c (xVk g6 (by decide) rfl) bSok.n)))))) (by decide +kernel) (by decide +kernel) ?_
  intro v a' b' ρ' h1 h2 h3 h4 h5 h6 h7 h8
  obtain ⟨z, rfl, z1, z2, -⟩ := xRi h6 h5 rfl
  exact hQ z a' b' h1 h2 h3 h4 ⟨z1, z2⟩
abbrev xW153 : Nat := 769969366670449833589646636354247840420054063595222508801488797046307370998084217188693983782354120296972766559913066079826553271816898162308267985389054145590098343839181654485272288788720536304689041490022572976582150353818272764246198960129288860583516439801557878004175110380297667400176956809446857298489229877436151764223160052536943878605157310945237687065562294510881463006389409512950245391914840965077101369464424491448192991232701759494077657661885464981078752903683383748856486297600
theorem xe153 (hL : 0 ≤ L.1 ∧ L.1 ≤ 3072) (hc : bCok ro L kP bC153) (hT : kOk (xS a b)) (hP : kP (xS a b)) (hA : xAr a) (hd : 8 ≤ d) {x2 : Int} {x3 : Int} {x4 : Int} (g2 : xR (x2)) (g3 : xR (x3)) (g4 : xR (x4)) (hQ : ∀ z a' b', kOk (xS a' b') → kP (xS a' b') → xAr a' → kSm xW153 (xS a' b') (xS a b) → (-2147483648 ≤ z ∧ z ≤ 2147483647) → Q (some (xV z)) (xS a' b')) : pmCs ro d 153 [.ref 87, xV x2, xV x3, xV x4] (xS a b) Q := by
  refine xEng (ρ := xRo (0 :: L.1 :: [x2, x3, x4])) hc hd (xEl_ok (xEl.c ⟨Int.le_refl _, Int.le_refl _⟩ (xEl.c hL (xEl.f g2 (xEl.f g3 (xEl.f g4 xEl.n))))) rfl) (kOk_mok hT hP) (bSok.c (xVr (List.mem_singleton.mpr rfl)) (bSok.c (xVk g2 (by decide) rfl) (bSok.c (xVk g3 (by decide) rfl) (bSok.c (xVk g4 (by decide) rfl) bSok.n)))) (by decide +kernel) (by decide +kernel) ?_
  intro v a' b' ρ' h1 h2 h3 h4 h5 h6 h7 h8
  obtain ⟨z, rfl, z1, z2, -⟩ := xRi h6 h5 rfl
  exact hQ z a' b' h1 h2 h3 h4 ⟨z1, z2⟩
abbrev xW166 : Nat := 199458731175583194987032271512719440565956862188476687994290431234852957058551340071737870084571734019787230956472718070202688085651615523950332278119831169143339761451673723828565773857649510357024208843129656999647947520227209706547586778243015781027349020596213088397272028593753300507474411668732900176370543358726317409398761461228617842838669322454385381792221851530437864702607542273830920711048415945236984254376842763967189686322405180948978995155241677655127514534086758851954395123286016
theorem xe166 (hL : 0 ≤ L.1 ∧ L.1 ≤ 3072) (hc : bCok ro L kP bC166) (hT : kOk (xS a b)) (hP : kP (xS a b)) (hA : xAr a) (hd : 6 ≤ d) {x2 : Int} (g2 : xR (x2)) (hQ : ∀ z a' b', kOk (xS a' b') → kP (xS a' b') → xAr a' → kSm xW166 (xS a' b') (xS a b) → (-2147483648 ≤ z ∧ z ≤ 2147483647) → Q (some (xV z)) (xS a' b')) : pmCs ro d 166 [.ref 87, xV x2] (xS a b) Q := by
  refine xEng (ρ := xRo (0 :: L.1 :: [x2])) hc hd (xEl_ok (xEl.c ⟨Int.le_refl _, Int.le_refl _⟩ (xEl.c hL (xEl.f g2 xEl.n))) rfl) (kOk_mok hT hP) (bSok.c (xVr (List.mem_singleton.mpr rfl)) (bSok.c (xVk g2 (by decide) rfl) bSok.n)) (by decide +kernel) (by decide +kernel) ?_
  intro v a' b' ρ' h1 h2 h3 h4 h5 h6 h7 h8
  obtain ⟨z, rfl, z1, z2, -⟩ := xRi h6 h5 rfl
  exact hQ z a' b' h1 h2 h3 h4 ⟨z1, z2⟩
abbrev xW174 : Nat := 36660106943420706031233197767709906635810859819375173165254875599758882386273332232534271096153092380426240
theorem xe174 (hL : 0 ≤ L.1 ∧ L.1 ≤ 3072) (hc : bCok ro L kP bC174) (hT : kOk (xS a b)) (hP : kP (xS a b)) (hA : xAr a) (hd : 3 ≤ d) (hQ : ∀ a' b', kOk (xS a' b') → kP (xS a' b') → xAr a' → kSm xW174 (xS a' b') (xS a b) → Q none (xS a' b')) : pmCs ro d 174 [.ref 87] (xS a b) Q := by
  refine xEng (ρ := xRo (0 :: L.1 :: [])) hc hd (xEl_ok (xEl.c ⟨Int.le_refl _, Int.le_refl _⟩ (xEl.c hL xEl.n)) rfl) (kOk_mok hT hP) (bSok.c (xVr (List.mem_singleton.mpr rfl)) bSok.n) (by decide +kernel) (by decide +kernel) ?_
  intro v a' b' ρ' h1 h2 h3 h4 h5 h6 h7 h8
  obtain rfl := xRn h6
  exact hQ a' b' h1 h2 h3 h4
abbrev xW181d : Nat := 58968162887836583628774290327941701376214178963073843940123596495048538282394332607832664878173244953001502434965675107919324887176341635325513034796178726418435276800
theorem xe181d (hL : 0 ≤ L.1 ∧ L.1 ≤ 3072) (hc : bCok ro L kP bC181d) (hT : kOk (xS a b)) (hP : kP (xS a b)) (hA : xAr a) (hd : 1 ≤ d) (g2 : xR (a 88 114)) (hQ : ∀ a' b', kOk (xS a' b') → kP (xS a' b') → xAr a' → kSm xW181d (xS a' b') (xS a b) → Q none (xS a' b')) : pmCs ro d 181 [.ref 87, xV 0] (xS a b) Q := by
  refine xEng (ρ := xRo (0 :: L.1 :: [a 88 114])) hc hd (xEl_ok (xEl.c ⟨Int.le_refl _, Int.le_refl _⟩ (xEl.c hL (xEl.f g2 xEl.n))) rfl) ⟨hT.1, bHok_c (kOk_hok hT) rfl (by decide) (by rw [xBZ hA (by decide +kernel)]; exact (Int.add_zero _).symm), fun q hq => absurd hq List.not_mem_nil, fun p k _ => ⟨rfl, rfl⟩, fun _ => hP⟩ (bSok.c (xVr (List.mem_singleton.mpr rfl)) (bSok.c (by exact ⟨by decide, rfl⟩) bSok.n)) (by decide +kernel) (by decide +kernel) ?_
  intro v a' b' ρ' h1 h2 h3 h4 h5 h6 h7 h8
  obtain rfl := xRn h6
  exact hQ a' b' h1 h2 h3 h4
abbrev xW182 : Nat := 0
theorem xe182 (hL : 0 ≤ L.1 ∧ L.1 ≤ 3072) (hc : bCok ro L kP bC182) (hT : kOk (xS a b)) (hP : kP (xS a b)) (hA : xAr a) (hd : 2 ≤ d) {x2 : Int} {x3 : Int} {x4 : Int} (g2 : xR (x2)) (g3 : 0 ≤ x3 ∧ x3 ≤ 1) (g4 : xR (x4)) (hQ : ∀ z a' b', kOk (xS a' b') → kP (xS a' b') → xAr a' → kSm xW182 (xS a' b') (xS a b) → (-1 ≤ z ∧ z ≤ 19) → Q (some (xV z)) (xS a' b')) : pmCs ro d 182 [.ref 87, xV x2, xV x3, xV x4] (xS a b) Q := by
  refine xEng (ρ := xRo (0 :: L.1 :: [x2, x3, x4])) hc hd (xEl_ok (xEl.c ⟨Int.le_refl _, Int.le_refl _⟩ (xEl.c hL (xEl.f g2 (xEl.c g3 (xEl.f g4 xEl.n))))) rfl) (kOk_mok hT hP) (bSok.c (xVr (List.mem_singleton.mpr rfl)) (bSok.c (xVk g2 (by decide) rfl) (bSok.c (xVk ⟨by omega, by omega⟩ (by decide) rfl) (bSok.c (xVk g4 (by decide) rfl) bSok.n)))) (by decide +kernel) (by decide +kernel) ?_
  intro v a' b' ρ' h1 h2 h3 h4 h5 h6 h7 h8
  obtain ⟨z, rfl, z1, z2, -⟩ := xRi h6 h5 rfl
  exact hQ z a' b' h1 h2 h3 h4 ⟨z1, z2⟩
abbrev xW183 : Nat := 600722766834697622549179547144190315116293608473529789723980592895557141258695800686645820490004281283123895586553127364375154705021336166250412508219726815302293869783864391766033389500685584134096440751072849316586759590331360998543320179178965175800015873795653536820019286117656999175452345731713205237068930586281614785953916871465013738431757018215560679280103458726965804280794480260008420023863464493890187635104272578417112473311126990346481089675225403277697317527666904826299411215679488
theorem xe183 (hL : 0 ≤ L.1 ∧ L.1 ≤ 3072) (hc : bCok ro L kP bC183) (hT : kOk (xS a b)) (hP : kP (xS a b)) (hA : xAr a) (hd : 4 ≤ d) {x2 : Int} {x3 : Int} (g2 : xR (x2)) (g3 : xR (x3)) (hQ : ∀ z a' b', kOk (xS a' b') → kP (xS a' b') → xAr a' → kSm xW183 (xS a' b') (xS a b) → (-1 ≤ z ∧ z ≤ 1) → Q (some (xV z)) (xS a' b')) : pmCs ro d 183 [.ref 87, xV x2, xV x3] (xS a b) Q := by
  refine xEng (ρ := xRo (0 :: L.1 :: [x2, x3])) hc hd (xEl_ok (xEl.c ⟨Int.le_refl _, Int.le_refl _⟩ (xEl.c hL (xEl.f g2 (xEl.f g3 xEl.n)))) rfl) (kOk_mok hT hP) (bSok.c (xVr (List.mem_singleton.mpr rfl)) (bSok.c (xVk g2 (by decide) rfl) (bSok.c (xVk g3 (by decide) rfl) bSok.n))) (by decide +kernel) (by decide +kernel) ?_
  intro v a' b' ρ' h1 h2 h3 h4 h5 h6 h7 h8
  obtain ⟨z, rfl, z1, z2, -⟩ := xRi h6 h5 rfl
  exact hQ z a' b' h1 h2 h3 h4 ⟨z1, z2⟩
abbrev xW189 : Nat := 12615178103528650073532770490027996617442165777944125584203592450806699966432611814419562230290089906945601807317615674651878248805448059491258662672614263121348171265461152227086701179514397266816025255772529835648321951396958580969409723762758268691800333349708724273220405008470796982684499260365977309978447542311913910505032254300765288507066897382526774264882172633266281889896684085460176820501132754371741683367885063664406278635355761597925746673656278849705928209862748313065490839580442624
theorem xe189 (hL : 0 ≤ L.1 ∧ L.1 ≤ 3072) (hc : bCok ro L kP bC189) (hT : kOk (xS a b)) (hP : kP (xS a b)) (hA : xAr a) (hd : 5 ≤ d) {x2 : Int} {x3 : Int} {x4 : Int} (g2 : xR (x2)) (g3 : xR (x3)) (g4 : xR (x4)) (hQ : ∀ z a' b', kOk (xS a' b') → kP (xS a' b') → xAr a' → kSm xW189 (xS a' b') (xS a b) → (-2147483648 ≤ z ∧ z ≤ 2147483647) → Q (some (xV z)) (xS a' b')) : pmCs ro d 189 [.ref 87, xV x2, xV x3, xV x4] (xS a b) Q := by
  refine xEng (ρ := xRo (0 :: L.1 :: [x2, x3, x4])) hc hd (xEl_ok (xEl.c ⟨Int.le_refl _, Int.le_refl _⟩ (xEl.c hL (xEl.f g2 (xEl.f g3 (xEl.f g4 xEl.n))))) rfl) (kOk_mok hT hP) (bSok.c (xVr (List.mem_singleton.mpr rfl)) (bSok.c (xVk g2 (by decide) rfl) (bSok.c (xVk g3 (by decide) rfl) (bSok.c (xVk g4 (by decide) rfl) bSok.n)))) (by decide +kernel) (by decide +kernel) ?_
  intro v a' b' ρ' h1 h2 h3 h4 h5 h6 h7 h8
  obtain ⟨z, rfl, z1, z2, -⟩ := xRi h6 h5 rfl
  exact hQ z a' b' h1 h2 h3 h4 ⟨z1, z2⟩
abbrev xW197 : Nat := 51061435180949297916680261507256176784884956720250032126538350396122357006989143058364894741650363909065531124857015825971888149926813574131285063198676779300694978931628473300112838107558274651398197463841192191909874565178165684876182215230212039943001349272630550629701639320000844929913449387195622445150859099833937256806082934074526167766699346548322657738808793991792093363867530822100715702028394482009232195683241313890859716564999183234821093924193812168384522822594768418635367043951493120
theorem xe197 (hL : 0 ≤ L.1 ∧ L.1 ≤ 3072) (hc : bCok ro L kP bC197) (hT : kOk (xS a b)) (hP : kP (xS a b)) (hA : xAr a) (hd : 14 ≤ d) {x2 : Int} (g2 : xR (x2)) (hQ : ∀ z a' b', kOk (xS a' b') → kP (xS a' b') → xAr a' → kSm xW197 (xS a' b') (xS a b) → (-2 ≤ z ∧ z ≤ 2) → Q (some (xV z)) (xS a' b')) : pmCs ro d 197 [.ref 87, xV x2] (xS a b) Q := by
  refine xEng (ρ := xRo (0 :: L.1 :: [x2])) hc hd (xEl_ok (xEl.c ⟨Int.le_refl _, Int.le_refl _⟩ (xEl.c hL (xEl.f g2 xEl.n))) rfl) (kOk_mok hT hP) (bSok.c (xVr (List.mem_singleton.mpr rfl)) (bSok.c (xVk g2 (by decide) rfl) bSok.n)) (by decide +kernel) (by decide +kernel) ?_
  intro v a' b' ρ' h1 h2 h3 h4 h5 h6 h7 h8
  obtain ⟨z, rfl, z1, z2, -⟩ := xRi h6 h5 rfl
  exact hQ z a' b' h1 h2 h3 h4 ⟨z1, z2⟩
abbrev xW201 : Nat := 0
theorem xe201 (hL : 0 ≤ L.1 ∧ L.1 ≤ 3072) (hc : bCok ro L kP bC201) (hT : kOk (xS a b)) (hP : kP (xS a b)) (hA : xAr a) (hd : 2 ≤ d) {x2 : Int} (g2 : xR (x2)) (hQ : ∀ z a' b', kOk (xS a' b') → kP (xS a' b') → xAr a' → kSm xW201 (xS a' b') (xS a b) → (-1 ≤ z ∧ z ≤ 2) → Q (some (xV z)) (xS a' b')) : pmCs ro d 201 [.ref 87, xV x2] (xS a b) Q := by
  refine xEng (ρ := xRo (0 :: L.1 :: [x2])) hc hd (xEl_ok (xEl.c ⟨Int.le_refl _, Int.le_refl _⟩ (xEl.c hL (xEl.f g2 xEl.n))) rfl) (kOk_mok hT hP) (bSok.c (xVr (List.mem_singleton.mpr rfl)) (bSok.c (xVk g2 (by decide) rfl) bSok.n)) (by decide +kernel) (by decide +kernel) ?_
  intro v a' b' ρ' h1 h2 h3 h4 h5 h6 h7 h8
  obtain ⟨z, rfl, z1, z2, -⟩ := xRi h6 h5 rfl
  exact hQ z a' b' h1 h2 h3 h4 ⟨z1, z2⟩
abbrev xW203 : Nat := 0
theorem xe203 (hL : 0 ≤ L.1 ∧ L.1 ≤ 3072) (hc : bCok ro L kP bC203) (hT : kOk (xS a b)) (hP : kP (xS a b)) (hA : xAr a) (hd : 2 ≤ d) {x2 : Int} (g2 : xR (x2)) (hQ : ∀ z a' b', kOk (xS a' b') → kP (xS a' b') → xAr a' → kSm xW203 (xS a' b') (xS a b) → (-2147483648 ≤ z ∧ z ≤ 1000) → Q (some (xV z)) (xS a' b')) : pmCs ro d 203 [.ref 87, xV x2] (xS a b) Q := by
  refine xEng (ρ := xRo (0 :: L.1 :: [x2])) hc hd (xEl_ok (xEl.c ⟨Int.le_refl _, Int.le_refl _⟩ (xEl.c hL (xEl.f g2 xEl.n))) rfl) (kOk_mok hT hP) (bSok.c (xVr (List.mem_singleton.mpr rfl)) (bSok.c (xVk g2 (by decide) rfl) bSok.n)) (by decide +kernel) (by decide +kernel) ?_
  intro v a' b' ρ' h1 h2 h3 h4 h5 h6 h7 h8
  obtain ⟨z, rfl, z1, z2, -⟩ := xRi h6 h5 rfl
  exact hQ z a' b' h1 h2 h3 h4 ⟨z1, z2⟩
abbrev xW204 : Nat := 26245777923930217361714504141245389597535906518744674356303953430471190020639505763933118112481783717353444039475034985592005300780617184215535939288289271136162319935480296564388587465081453399346718195227956477591447722088107272480023839735055381519094626864756701574845582616909140179641904802467127174542620600291505843869921946086596938569996274711510584597974146812958652421164660005931946299533539252727545742361312900587177646938509974289064247078899362587645182252781183157630978065447423836160
theorem xe204 (hL : 0 ≤ L.1 ∧ L.1 ≤ 3072) (hc : bCok ro L kP bC204) (hT : kOk (xS a b)) (hP : kP (xS a b)) (hA : xAr a) (hd : 15 ≤ d) {x2 : Int} {x3 : Int} {x4 : Int} (g2 : xR (x2)) (g3 : xR (x3)) (g4 : xR (x4)) (g5 : 0 ≤ a 88 114 ∧ a 88 114 ≤ 60) (hQ : ∀ z a' b', kOk (xS a' b') → kP (xS a' b') → xAr a' → kSm xW204 (xS a' b') (xS a b) → (-2 ≤ z ∧ z ≤ 60) → (0 ≤ a' 88 114 ∧ a' 88 114 ≤ 60) → Q (some (xV z)) (xS a' b')) : pmCs ro d 204 [.ref 87, xV x2, xV x3, xV x4] (xS a b) Q := by
  refine xEng (ρ := xRo (0 :: L.1 :: [x2, x3, x4, a 88 114])) hc hd (xEl_ok (xEl.c ⟨Int.le_refl _, Int.le_refl _⟩ (xEl.c hL (xEl.f g2 (xEl.f g3 (xEl.f g4 (xEl.c g5 xEl.n)))))) rfl) ⟨hT.1, bHok_c (kOk_hok hT) rfl (by decide) (by rw [xBZ hA (by decide +kernel)]; exact (Int.add_zero _).symm), fun q hq => absurd hq List.not_mem_nil, fun p k _ => ⟨rfl, rfl⟩, fun _ => hP⟩ (bSok.c (xVr (List.mem_singleton.mpr rfl)) (bSok.c (xVk g2 (by decide) rfl) (bSok.c (xVk g3 (by decide) rfl) (bSok.c (xVk g4 (by decide) rfl) bSok.n)))) (by decide +kernel) (by decide +kernel) ?_
  intro v a' b' ρ' h1 h2 h3 h4 h5 h6 h7 h8
  obtain ⟨z, rfl, z1, z2, -⟩ := xRi h6 h5 rfl
  have e8 : bZ (xS a' b') 88 114 = ρ' 7 + 0 := (h8.2.1 88 114).2
  rw [xBZ h3 (by decide +kernel)] at e8
  have e9 := h5.2 7 _ rfl
  have e10 : (0 : Int) ≤ ρ' 7 ∧ ρ' 7 ≤ (60 : Int) := e9
  have e11 : a' 88 114 = ρ' 7 + 0 := e8
  exact hQ z a' b' h1 h2 h3 h4 ⟨z1, z2⟩ ⟨by omega, by omega⟩
abbrev xW215 : Nat := 6561494541213123898563838466940276081910236320820208049891798689333872134921647998966670081938820096361801270193390959158615023124713047831897839023114669427941855175025889463129794035719488406968690723510385042135304979418659345733422505210445443626871640050845325031506130655834461516327074154978926103069424905817091984435379316014721856726977271324295830779550143378542533514263597287833490112155166073175657696215247740497453544731878673992948135808685796568779980053755428010112802961571104948224
theorem xe215 (hL : 0 ≤ L.1 ∧ L.1 ≤ 3072) (hc : bCok ro L kP bC215) (hT : kOk (xS a b)) (hP : kP (xS a b)) (hA : xAr a) (hd : 6 ≤ d) {x2 : Int} {x3 : Int} (g2 : xR (x2)) (g3 : xR (x3)) (g4 : 0 ≤ a 88 114 ∧ a 88 114 ≤ 60) (hQ : ∀ z a' b', kOk (xS a' b') → kP (xS a' b') → xAr a' → kSm xW215 (xS a' b') (xS a b) → (-2147483648 ≤ z ∧ z ≤ 2147483647) → Q (some (xV z)) (xS a' b')) : pmCs ro d 215 [.ref 87, xV x2, xV x3] (xS a b) Q := by
  refine xEng (ρ := xRo (0 :: L.1 :: [x2, x3, a 88 114])) hc hd (xEl_ok (xEl.c ⟨Int.le_refl _, Int.le_refl _⟩ (xEl.c hL (xEl.f g2 (xEl.f g3 (xEl.c g4 xEl.n))))) rfl) ⟨hT.1, bHok_c (kOk_hok hT) rfl (by decide) (by rw [xBZ hA (by decide +kernel)]; exact (Int.add_zero _).symm), fun q hq => absurd hq List.not_mem_nil, fun p k _ => ⟨rfl, rfl⟩, fun _ => hP⟩ (bSok.c (xVr (List.mem_singleton.mpr rfl)) (bSok.c (xVk g2 (by decide) rfl) (bSok.c (xVk g3 (by decide) rfl) bSok.n))) (by decide +kernel) (by decide +kernel) ?_
  intro v a' b' ρ' h1 h2 h3 h4 h5 h6 h7 h8
  obtain ⟨z, rfl, z1, z2, -⟩ := xRi h6 h5 rfl
  exact hQ z a' b' h1 h2 h3 h4 ⟨z1, z2⟩
abbrev xW222 : Nat := 6561494541213123898563838466940276081910236320820208049891798689333872134921647998966670081938820096361801270193390959158615023124713047831897839023114669427941855175025889463129794035719488406968690723510385042135304979418659345733422505210445443626871640050845325031506130655834461516327074154978926103069424905817091984435379316014721856726977271324295830779550143378542533514263597287833490112155166073175657696215247740497453544731878673992948135808685796568779980053755428010112802961571104948224
theorem xe222 (hL : 0 ≤ L.1 ∧ L.1 ≤ 3072) (hc : bCok ro L kP bC222) (hT : kOk (xS a b)) (hP : kP (xS a b)) (hA : xAr a) (hd : 6 ≤ d) {x2 : Int} {x3 : Int} (g2 : xR (x2)) (g3 : xR (x3)) (g4 : 0 ≤ a 88 114 ∧ a 88 114 ≤ 60) (hQ : ∀ z a' b', kOk (xS a' b') → kP (xS a' b') → xAr a' → kSm xW222 (xS a' b') (xS a b) → (-2147483648 ≤ z ∧ z ≤ 2147483647) → Q (some (xV z)) (xS a' b')) : pmCs ro d 222 [.ref 87, xV x2, xV x3] (xS a b) Q := by
  refine xEng (ρ := xRo (0 :: L.1 :: [x2, x3, a 88 114])) hc hd (xEl_ok (xEl.c ⟨Int.le_refl _, Int.le_refl _⟩ (xEl.c hL (xEl.f g2 (xEl.f g3 (xEl.c g4 xEl.n))))) rfl) ⟨hT.1, bHok_c (kOk_hok hT) rfl (by decide) (by rw [xBZ hA (by decide +kernel)]; exact (Int.add_zero _).symm), fun q hq => absurd hq List.not_mem_nil, fun p k _ => ⟨rfl, rfl⟩, fun _ => hP⟩ (bSok.c (xVr (List.mem_singleton.mpr rfl)) (bSok.c (xVk g2 (by decide) rfl) (bSok.c (xVk g3 (by decide) rfl) bSok.n))) (by decide +kernel) (by decide +kernel) ?_
  intro v a' b' ρ' h1 h2 h3 h4 h5 h6 h7 h8
  obtain ⟨z, rfl, z1, z2, -⟩ := xRi h6 h5 rfl
  exact hQ z a' b' h1 h2 h3 h4 ⟨z1, z2⟩
abbrev xW223 : Nat := 819986576729362254779630081851819780133740775566368162973233509302435497818119767937271544968855843951464117475645018852372086172354123866931813073719927102887631132254974894760635576668436006426818651526363390797992463636935030243854275736772335457370127185991091910745574219031379949191378078920401513455397332850997670145448529205259750411574874580558333099146322453258965819880588941571730831883432380984718261006510454585694498377593342776168324635335855616744811334939808307882492828078319861760
theorem xe223 (hL : 0 ≤ L.1 ∧ L.1 ≤ 3072) (hc : bCok ro L kP bC223) (hT : kOk (xS a b)) (hP : kP (xS a b)) (hA : xAr a) (hd : 19 ≤ d) {x2 : Int} (g2 : xR (x2)) (g3 : 0 ≤ a 88 114 ∧ a 88 114 ≤ 60) (hQ : ∀ z a' b', kOk (xS a' b') → kP (xS a' b') → xAr a' → kSm xW223 (xS a' b') (xS a b) → (-1 ≤ z ∧ z ≤ 1) → (0 ≤ a' 88 114 ∧ a' 88 114 ≤ 60) → Q (some (xV z)) (xS a' b')) : pmCs ro d 223 [.ref 87, xV x2] (xS a b) Q := by
  refine xEng (ρ := xRo (0 :: L.1 :: [x2, a 88 114])) hc hd (xEl_ok (xEl.c ⟨Int.le_refl _, Int.le_refl _⟩ (xEl.c hL (xEl.f g2 (xEl.c g3 xEl.n)))) rfl) ⟨hT.1, bHok_c (kOk_hok hT) rfl (by decide) (by rw [xBZ hA (by decide +kernel)]; exact (Int.add_zero _).symm), fun q hq => absurd hq List.not_mem_nil, fun p k _ => ⟨rfl, rfl⟩, fun _ => hP⟩ (bSok.c (xVr (List.mem_singleton.mpr rfl)) (bSok.c (xVk g2 (by decide) rfl) bSok.n)) (by decide +kernel) (by decide +kernel) ?_
  intro v a' b' ρ' h1 h2 h3 h4 h5 h6 h7 h8
  obtain ⟨z, rfl, z1, z2, -⟩ := xRi h6 h5 rfl
  have e8 : bZ (xS a' b') 88 114 = ρ' 3 + 0 := (h8.2.1 88 114).2
  rw [xBZ h3 (by decide +kernel)] at e8
  have e9 := h5.2 3 _ rfl
  have e10 : (0 : Int) ≤ ρ' 3 ∧ ρ' 3 ≤ (60 : Int) := e9
  have e11 : a' 88 114 = ρ' 3 + 0 := e8
  exact hQ z a' b' h1 h2 h3 h4 ⟨z1, z2⟩ ⟨by omega, by omega⟩
abbrev xW230 : Nat := 819986576729362254779630081851819780133740775566368162973233509302435497818119767937271544968855843951464117475645018852372086172354123866931813073719927102887631132254974894760635576668436006426818651526363390797992463636935030243854275736772335457370127185991091910745574219031379949191378078920401513455397332850997670145448529205259750411574874580558333099146322453258965819880588941571730831883432380984718261006510454585694498377593342776168324635335855616744811334939808307882492828078319861760
theorem xe230 (hL : 0 ≤ L.1 ∧ L.1 ≤ 3072) (hc : bCok ro L kP bC230) (hT : kOk (xS a b)) (hP : kP (xS a b)) (hA : xAr a) (hd : 19 ≤ d) (g2 : 0 ≤ a 88 114 ∧ a 88 114 ≤ 60) (hQ : ∀ z a' b', kOk (xS a' b') → kP (xS a' b') → xAr a' → kSm xW230 (xS a' b') (xS a b) → (-1 ≤ z ∧ z ≤ 3) → (0 ≤ a' 88 114 ∧ a' 88 114 ≤ 60) → Q (some (xV z)) (xS a' b')) : pmCs ro d 230 [.ref 87] (xS a b) Q := by
  refine xEng (ρ := xRo (0 :: L.1 :: [a 88 114])) hc hd (xEl_ok (xEl.c ⟨Int.le_refl _, Int.le_refl _⟩ (xEl.c hL (xEl.c g2 xEl.n))) rfl) ⟨hT.1, bHok_c (kOk_hok hT) rfl (by decide) (by rw [xBZ hA (by decide +kernel)]; exact (Int.add_zero _).symm), fun q hq => absurd hq List.not_mem_nil, fun p k _ => ⟨rfl, rfl⟩, fun _ => hP⟩ (bSok.c (xVr (List.mem_singleton.mpr rfl)) bSok.n) (by decide +kernel) (by decide +kernel) ?_
  intro v a' b' ρ' h1 h2 h3 h4 h5 h6 h7 h8
  obtain ⟨z, rfl, z1, z2, -⟩ := xRi h6 h5 rfl
  have e8 : bZ (xS a' b') 88 114 = ρ' 2 + 0 := (h8.2.1 88 114).2
  rw [xBZ h3 (by decide +kernel)] at e8
  have e9 := h5.2 2 _ rfl
  have e10 : (0 : Int) ≤ ρ' 2 ∧ ρ' 2 ≤ (60 : Int) := e9
  have e11 : a' 88 114 = ρ' 2 + 0 := e8
  exact hQ z a' b' h1 h2 h3 h4 ⟨z1, z2⟩ ⟨by omega, by omega⟩
abbrev xW231 : Nat := 819986576729362254779630081851819780133740775566368162973233509302435497818119767937271544968855843951464117475645018852372086172354123866931813073719927102887631132254974894760635576668436006426818651526363390797992463636935030243854275736772335457370127185991091910745574219031379949191378078920401513455397332850997670145448529205259750411574874580558333099146322453258965819880588941571730831883432380984718261006510454585694498377593342776168324635335855616744811334939808307882492828078319861760
theorem xe231 (hL : 0 ≤ L.1 ∧ L.1 ≤ 3072) (hc : bCok ro L kP bC231) (hT : kOk (xS a b)) (hP : kP (xS a b)) (hA : xAr a) (hd : 18 ≤ d) {x2 : Int} {x3 : Int} (g2 : xR (x2)) (g3 : xR (x3)) (g4 : 0 ≤ a 88 114 ∧ a 88 114 ≤ 60) (hQ : ∀ z a' b', kOk (xS a' b') → kP (xS a' b') → xAr a' → kSm xW231 (xS a' b') (xS a b) → (-2147483648 ≤ z ∧ z ≤ 2147483647) → (0 ≤ a' 88 114 ∧ a' 88 114 ≤ 60) → Q (some (xV z)) (xS a' b')) : pmCs ro d 231 [.ref 87, xV x2, xV x3] (xS a b) Q := by
  refine xEng (ρ := xRo (0 :: L.1 :: [x2, x3, a 88 114])) hc hd (xEl_ok (xEl.c ⟨Int.le_refl _, Int.le_refl _⟩ (xEl.c hL (xEl.f g2 (xEl.f g3 (xEl.c g4 xEl.n))))) rfl) ⟨hT.1, bHok_c (kOk_hok hT) rfl (by decide) (by rw [xBZ hA (by decide +kernel)]; exact (Int.add_zero _).symm), fun q hq => absurd hq List.not_mem_nil, fun p k _ => ⟨rfl, rfl⟩, fun _ => hP⟩ (bSok.c (xVr (List.mem_singleton.mpr rfl)) (bSok.c (xVk g2 (by decide) rfl) (bSok.c (xVk g3 (by decide) rfl) bSok.n))) (by decide +kernel) (by decide +kernel) ?_
  intro v a' b' ρ' h1 h2 h3 h4 h5 h6 h7 h8
  obtain ⟨z, rfl, z1, z2, -⟩ := xRi h6 h5 rfl
  have e8 : bZ (xS a' b') 88 114 = ρ' 4 + 0 := (h8.2.1 88 114).2
  rw [xBZ h3 (by decide +kernel)] at e8
  have e9 := h5.2 4 _ rfl
  have e10 : (0 : Int) ≤ ρ' 4 ∧ ρ' 4 ≤ (60 : Int) := e9
  have e11 : a' 88 114 = ρ' 4 + 0 := e8
  exact hQ z a' b' h1 h2 h3 h4 ⟨z1, z2⟩ ⟨by omega, by omega⟩
abbrev xW232 : Nat := 819986576729362254779630081851819780133740775566368162973233509302435497818119767937271544968855843951464117475645018852372086172354123866931813073719927102887631132254974894760635576668435822343041641625214439317140926840802307763011632044579287464967021667731067077759326325550601803874492451923866907281569607729265569789249522763163131298593461601615200685699260645647158947810041210555730012192465132154021525062791470490728937763863171047298068057939455928897544362440316225059137612812763791360
theorem xe232 (hL : 0 ≤ L.1 ∧ L.1 ≤ 3072) (hc : bCok ro L kP bC232) (hT : kOk (xS a b)) (hP : kP (xS a b)) (hA : xAr a) (hd : 16 ≤ d) {x2 : Int} (g2 : xR (x2)) (g3 : 0 ≤ a 88 114 ∧ a 88 114 ≤ 60) (hQ : ∀ z a' b', kOk (xS a' b') → kP (xS a' b') → xAr a' → kSm xW232 (xS a' b') (xS a b) → (-2147483648 ≤ z ∧ z ≤ 2147483647) → (0 ≤ a' 88 114 ∧ a' 88 114 ≤ 60) → Q (some (xV z)) (xS a' b')) : pmCs ro d 232 [.ref 87, xV x2] (xS a b) Q := by
  refine xEng (ρ := xRo (0 :: L.1 :: [x2, a 88 114])) hc hd (xEl_ok (xEl.c ⟨Int.le_refl _, Int.le_refl _⟩ (xEl.c hL (xEl.f g2 (xEl.c g3 xEl.n)))) rfl) ⟨hT.1, bHok_c (kOk_hok hT) rfl (by decide) (by rw [xBZ hA (by decide +kernel)]; exact (Int.add_zero _).symm), fun q hq => absurd hq List.not_mem_nil, fun p k _ => ⟨rfl, rfl⟩, fun _ => hP⟩ (bSok.c (xVr (List.mem_singleton.mpr rfl)) (bSok.c (xVk g2 (by decide) rfl) bSok.n)) (by decide +kernel) (by decide +kernel) ?_
  intro v a' b' ρ' h1 h2 h3 h4 h5 h6 h7 h8
  obtain ⟨z, rfl, z1, z2, -⟩ := xRi h6 h5 rfl
  have e8 : bZ (xS a' b') 88 114 = ρ' 3 + 0 := (h8.2.1 88 114).2
  rw [xBZ h3 (by decide +kernel)] at e8
  have e9 := h5.2 3 _ rfl
  have e10 : (0 : Int) ≤ ρ' 3 ∧ ρ' 3 ≤ (60 : Int) := e9
  have e11 : a' 88 114 = ρ' 3 + 0 := e8
  exact hQ z a' b' h1 h2 h3 h4 ⟨z1, z2⟩ ⟨by omega, by omega⟩
abbrev xW236 : Nat := 819986576729362254779630081851819780133740775566368162973233509302435497818119767937271544968855843951464117475645018852372086172354123866931813073719927102887631132254974894760635576668435822343041641625214439317140926840802307763011632044579287464967021667731067077759326325550601803874492451923866907281569607729265569789249522763163131298593461601615200685699260645647158947810041210555730012192465132154021525062791470490728937763863171047298068057939455928897544362440316225059137612812763791360
theorem xe236 (hL : 0 ≤ L.1 ∧ L.1 ≤ 3072) (hc : bCok ro L kP bC236) (hT : kOk (xS a b)) (hP : kP (xS a b)) (hA : xAr a) (hd : 16 ≤ d) {x2 : Int} (g2 : xR (x2)) (g3 : 0 ≤ a 88 114 ∧ a 88 114 ≤ 60) (hQ : ∀ z a' b', kOk (xS a' b') → kP (xS a' b') → xAr a' → kSm xW236 (xS a' b') (xS a b) → (-1 ≤ z ∧ z ≤ 1) → (0 ≤ a' 88 114 ∧ a' 88 114 ≤ 60) → Q (some (xV z)) (xS a' b')) : pmCs ro d 236 [.ref 87, xV x2] (xS a b) Q := by
  refine xEng (ρ := xRo (0 :: L.1 :: [x2, a 88 114])) hc hd (xEl_ok (xEl.c ⟨Int.le_refl _, Int.le_refl _⟩ (xEl.c hL (xEl.f g2 (xEl.c g3 xEl.n)))) rfl) ⟨hT.1, bHok_c (kOk_hok hT) rfl (by decide) (by rw [xBZ hA (by decide +kernel)]; exact (Int.add_zero _).symm), fun q hq => absurd hq List.not_mem_nil, fun p k _ => ⟨rfl, rfl⟩, fun _ => hP⟩ (bSok.c (xVr (List.mem_singleton.mpr rfl)) (bSok.c (xVk g2 (by decide) rfl) bSok.n)) (by decide +kernel) (by decide +kernel) ?_
  intro v a' b' ρ' h1 h2 h3 h4 h5 h6 h7 h8
  obtain ⟨z, rfl, z1, z2, -⟩ := xRi h6 h5 rfl
  have e8 : bZ (xS a' b') 88 114 = ρ' 3 + 0 := (h8.2.1 88 114).2
  rw [xBZ h3 (by decide +kernel)] at e8
  have e9 := h5.2 3 _ rfl
  have e10 : (0 : Int) ≤ ρ' 3 ∧ ρ' 3 ≤ (60 : Int) := e9
  have e11 : a' 88 114 = ρ' 3 + 0 := e8
  exact hQ z a' b' h1 h2 h3 h4 ⟨z1, z2⟩ ⟨by omega, by omega⟩
abbrev xW237 : Nat := 819986576729362254779630081851819780133740775566368162973233509302435497818119767937271544968855843951464117475645018852372086172354123866931813073719927102887631132254974894760635576668435822343041641625214439317140926840802307763011632044579287464967021667731067077759326325550601803874492451923866907281569607729265569789249522763163131298593461601615200685699260645647158947810041210555730012192465132154021525062791470490728937763863171047298068057939455928897544362440316225059137612812763791360
theorem xe237 (hL : 0 ≤ L.1 ∧ L.1 ≤ 3072) (hc : bCok ro L kP bC237) (hT : kOk (xS a b)) (hP : kP (xS a b)) (hA : xAr a) (hd : 15 ≤ d) {x2 : Int} {x3 : Int} {x4 : Int} {x5 : Int} (g2 : xR (x2)) (g3 : xR (x3)) (g4 : xR (x4)) (g5 : xR (x5)) (g6 : 0 ≤ a 88 114 ∧ a 88 114 ≤ 60) (hQ : ∀ z a' b', kOk (xS a' b') → kP (xS a' b') → xAr a' → kSm xW237 (xS a' b') (xS a b) → (-2147483648 ≤ z ∧ z ≤ 2147483647) → (0 ≤ a' 88 114 ∧ a' 88 114 ≤ 60) → Q (some (xV z)) (xS a' b')) : pmCs ro d 237 [.ref 87, xV x2, xV x3, xV x4, xV x5] (xS a b) Q := by
  refine xEng (ρ := xRo (0 :: L.1 :: [x2, x3, x4, x5, a 88 114])) hc hd (xEl_ok (xEl.c ⟨Int.le_refl _, Int.le_refl _⟩ (xEl.c hL (xEl.f g2 (xEl.f g3 (xEl.f g4 (xEl.f g5 (xEl.c g6 xEl.n))))))) rfl) ⟨hT.1, bHok_c (kOk_hok hT) rfl (by decide) (by rw [xBZ hA (by decide +kernel)]; exact (Int.add_zero _).symm), fun q hq => absurd hq List.not_mem_nil, fun p k _ => ⟨rfl, rfl⟩, fun _ => hP⟩ (bSok.c (xVr (List.mem_singleton.mpr rfl)) (bSok.c (xVk g2 (by decide) rfl) (bSok.c (xVk g3 (by decide) rfl) (bSok.c (xVk g4 (by decide) rfl) (bSok.c (xVk g5 (by decide) rfl) bSok.n))))) (by decide +kernel) (by decide +kernel) ?_
  intro v a' b' ρ' h1 h2 h3 h4 h5 h6 h7 h8
  obtain ⟨z, rfl, z1, z2, -⟩ := xRi h6 h5 rfl
  have e8 : bZ (xS a' b') 88 114 = ρ' 6 + 0 := (h8.2.1 88 114).2
  rw [xBZ h3 (by decide +kernel)] at e8
  have e9 := h5.2 6 _ rfl
  have e10 : (0 : Int) ≤ ρ' 6 ∧ ρ' 6 ≤ (60 : Int) := e9
  have e11 : a' 88 114 = ρ' 6 + 0 := e8
  exact hQ z a' b' h1 h2 h3 h4 ⟨z1, z2⟩ ⟨by omega, by omega⟩
abbrev xW239 : Nat := 26245978164852495594255353867761104327640945283280832199567194757335488539686591995866680327755280385447205080773563836634460092498852191327591356092458677711767420700103557852519176142877953627874762894041540168541219917674637382933690020841781774507486560203381300126024522623337846065308296619915704412277699623268367937741517264058887426907909085297183323118200573514086953966230764705546607876455944006047724891236129071799429255367278678959564656461970381352804780934328785516464238808953847283712
theorem xe239 (hL : 0 ≤ L.1 ∧ L.1 ≤ 3072) (hc : bCok ro L kP bC239) (hT : kOk (xS a b)) (hP : kP (xS a b)) (hA : xAr a) (hd : 2 ≤ d) {x2 : Int} (g2 : xR (x2)) (g3 : 0 ≤ a 88 114 ∧ a 88 114 ≤ 60) (hQ : ∀ z a' b', kOk (xS a' b') → kP (xS a' b') → xAr a' → kSm xW239 (xS a' b') (xS a b) → (-2147483648 ≤ z ∧ z ≤ 2147483647) → Q (some (xV z)) (xS a' b')) : pmCs ro d 239 [.ref 87, xV x2] (xS a b) Q := by
  refine xEng (ρ := xRo (0 :: L.1 :: [x2, a 88 114])) hc hd (xEl_ok (xEl.c ⟨Int.le_refl _, Int.le_refl _⟩ (xEl.c hL (xEl.f g2 (xEl.c g3 xEl.n)))) rfl) ⟨hT.1, bHok_c (kOk_hok hT) rfl (by decide) (by rw [xBZ hA (by decide +kernel)]; exact (Int.add_zero _).symm), fun q hq => absurd hq List.not_mem_nil, fun p k _ => ⟨rfl, rfl⟩, fun _ => hP⟩ (bSok.c (xVr (List.mem_singleton.mpr rfl)) (bSok.c (xVk g2 (by decide) rfl) bSok.n)) (by decide +kernel) (by decide +kernel) ?_
  intro v a' b' ρ' h1 h2 h3 h4 h5 h6 h7 h8
  obtain ⟨z, rfl, z1, z2, -⟩ := xRi h6 h5 rfl
  exact hQ z a' b' h1 h2 h3 h4 ⟨z1, z2⟩
abbrev xW240 : Nat := 0
theorem xe240 (hL : 0 ≤ L.1 ∧ L.1 ≤ 3072) (hc : bCok ro L kP bC240) (hT : kOk (xS a b)) (hP : kP (xS a b)) (hA : xAr a) (hd : 2 ≤ d) {x2 : Int} {x3 : Int} {x4 : Int} (g2 : xR (x2)) (g3 : xR (x3)) (g4 : xR (x4)) (g5 : 0 ≤ a 88 114 ∧ a 88 114 ≤ 60) (hQ : ∀ z a' b', kOk (xS a' b') → kP (xS a' b') → xAr a' → kSm xW240 (xS a' b') (xS a b) → (-2147483648 ≤ z ∧ z ≤ 2147483647) → Q (some (xV z)) (xS a' b')) : pmCs ro d 240 [.ref 87, xV x2, xV x3, xV x4] (xS a b) Q := by
  refine xEng (ρ := xRo (0 :: L.1 :: [x2, x3, x4, a 88 114])) hc hd (xEl_ok (xEl.c ⟨Int.le_refl _, Int.le_refl _⟩ (xEl.c hL (xEl.f g2 (xEl.f g3 (xEl.f g4 (xEl.c g5 xEl.n)))))) rfl) ⟨hT.1, bHok_c (kOk_hok hT) rfl (by decide) (by rw [xBZ hA (by decide +kernel)]; exact (Int.add_zero _).symm), fun q hq => absurd hq List.not_mem_nil, fun p k _ => ⟨rfl, rfl⟩, fun _ => hP⟩ (bSok.c (xVr (List.mem_singleton.mpr rfl)) (bSok.c (xVk g2 (by decide) rfl) (bSok.c (xVk g3 (by decide) rfl) (bSok.c (xVk g4 (by decide) rfl) bSok.n)))) (by decide +kernel) (by decide +kernel) ?_
  intro v a' b' ρ' h1 h2 h3 h4 h5 h6 h7 h8
  obtain ⟨z, rfl, z1, z2, -⟩ := xRi h6 h5 rfl
  exact hQ z a' b' h1 h2 h3 h4 ⟨z1, z2⟩
abbrev xW241 : Nat := 948568795032094272909893509191171341133987714380927500611236528192824358010355712
theorem xe241 (hL : 0 ≤ L.1 ∧ L.1 ≤ 3072) (hc : bCok ro L kP bC241) (hT : kOk (xS a b)) (hP : kP (xS a b)) (hA : xAr a) (hd : 2 ≤ d) {x2 : Int} {x3 : Int} (g2 : xR (x2)) (g3 : xR (x3)) (g4 : 0 ≤ a 88 114 ∧ a 88 114 ≤ 60) (hQ : ∀ z a' b', kOk (xS a' b') → kP (xS a' b') → xAr a' → kSm xW241 (xS a' b') (xS a b) → (-2 ≤ z ∧ z ≤ 16) → Q (some (xV z)) (xS a' b')) : pmCs ro d 241 [.ref 87, xV x2, xV x3] (xS a b) Q := by
  refine xEng (ρ := xRo (0 :: L.1 :: [x2, x3, a 88 114])) hc hd (xEl_ok (xEl.c ⟨Int.le_refl _, Int.le_refl _⟩ (xEl.c hL (xEl.f g2 (xEl.f g3 (xEl.c g4 xEl.n))))) rfl) ⟨hT.1, bHok_c (kOk_hok hT) rfl (by decide) (by rw [xBZ hA (by decide +kernel)]; exact (Int.add_zero _).symm), fun q hq => absurd hq List.not_mem_nil, fun p k _ => ⟨rfl, rfl⟩, fun _ => hP⟩ (bSok.c (xVr (List.mem_singleton.mpr rfl)) (bSok.c (xVk g2 (by decide) rfl) (bSok.c (xVk g3 (by decide) rfl) bSok.n))) (by decide +kernel) (by decide +kernel) ?_
  intro v a' b' ρ' h1 h2 h3 h4 h5 h6 h7 h8
  obtain ⟨z, rfl, z1, z2, -⟩ := xRi h6 h5 rfl
  exact hQ z a' b' h1 h2 h3 h4 ⟨z1, z2⟩
abbrev xW243 : Nat := 0
theorem xe243 (hL : 0 ≤ L.1 ∧ L.1 ≤ 3072) (hc : bCok ro L kP bC243) (hT : kOk (xS a b)) (hP : kP (xS a b)) (hA : xAr a) (hd : 2 ≤ d) {x2 : Int} (g2 : xR (x2)) (hQ : ∀ z a' b', kOk (xS a' b') → kP (xS a' b') → xAr a' → kSm xW243 (xS a' b') (xS a b) → (-1 ≤ z ∧ z ≤ 7) → Q (some (xV z)) (xS a' b')) : pmCs ro d 243 [.ref 87, xV x2] (xS a b) Q := by
  refine xEng (ρ := xRo (0 :: L.1 :: [x2])) hc hd (xEl_ok (xEl.c ⟨Int.le_refl _, Int.le_refl _⟩ (xEl.c hL (xEl.f g2 xEl.n))) rfl) (kOk_mok hT hP) (bSok.c (xVr (List.mem_singleton.mpr rfl)) (bSok.c (xVk g2 (by decide) rfl) bSok.n)) (by decide +kernel) (by decide +kernel) ?_
  intro v a' b' ρ' h1 h2 h3 h4 h5 h6 h7 h8
  obtain ⟨z, rfl, z1, z2, -⟩ := xRi h6 h5 rfl
  exact hQ z a' b' h1 h2 h3 h4 ⟨z1, z2⟩
abbrev xW244 : Nat := 0
theorem xe244 (hL : 0 ≤ L.1 ∧ L.1 ≤ 3072) (hc : bCok ro L kP bC244) (hT : kOk (xS a b)) (hP : kP (xS a b)) (hA : xAr a) (hd : 2 ≤ d) {x2 : Int} (g2 : xR (x2)) (hQ : ∀ z a' b', kOk (xS a' b') → kP (xS a' b') → xAr a' → kSm xW244 (xS a' b') (xS a b) → (-1 ≤ z ∧ z ≤ 20) → Q (some (xV z)) (xS a' b')) : pmCs ro d 244 [.ref 87, xV x2] (xS a b) Q := by
  refine xEng (ρ := xRo (0 :: L.1 :: [x2])) hc hd (xEl_ok (xEl.c ⟨Int.le_refl _, Int.le_refl _⟩ (xEl.c hL (xEl.f g2 xEl.n))) rfl) (kOk_mok hT hP) (bSok.c (xVr (List.mem_singleton.mpr rfl)) (bSok.c (xVk g2 (by decide) rfl) bSok.n)) (by decide +kernel) (by decide +kernel) ?_
  intro v a' b' ρ' h1 h2 h3 h4 h5 h6 h7 h8
  obtain ⟨z, rfl, z1, z2, -⟩ := xRi h6 h5 rfl
  exact hQ z a' b' h1 h2 h3 h4 ⟨z1, z2⟩
abbrev xW245 : Nat := 0
theorem xe245 (hL : 0 ≤ L.1 ∧ L.1 ≤ 3072) (hc : bCok ro L kP bC245) (hT : kOk (xS a b)) (hP : kP (xS a b)) (hA : xAr a) (hd : 2 ≤ d) {x2 : Int} (g2 : xR (x2)) (hQ : ∀ z a' b', kOk (xS a' b') → kP (xS a' b') → xAr a' → kSm xW245 (xS a' b') (xS a b) → (-2147483648 ≤ z ∧ z ≤ 2147483647) → Q (some (xV z)) (xS a' b')) : pmCs ro d 245 [.ref 87, xV x2] (xS a b) Q := by
  refine xEng (ρ := xRo (0 :: L.1 :: [x2])) hc hd (xEl_ok (xEl.c ⟨Int.le_refl _, Int.le_refl _⟩ (xEl.c hL (xEl.f g2 xEl.n))) rfl) (kOk_mok hT hP) (bSok.c (xVr (List.mem_singleton.mpr rfl)) (bSok.c (xVk g2 (by decide) rfl) bSok.n)) (by decide +kernel) (by decide +kernel) ?_
  intro v a' b' ρ' h1 h2 h3 h4 h5 h6 h7 h8
  obtain ⟨z, rfl, z1, z2, -⟩ := xRi h6 h5 rfl
  exact hQ z a' b' h1 h2 h3 h4 ⟨z1, z2⟩
end
end
section
/-! the engine's contracts hold -/
section
variable {Ln : Nat} {xs : Nat → Int32}
theorem xC39 (hLn : Ln ≤ 3072) : bCok (pmRo Ln xs) ((Ln : Int), xs) kP bC39 := kFail (kHypP hLn) fun σ x hP _ => kP_upi hP (by decide) (by decide) (by decide) (by decide) (by decide)
theorem xC39q (hLn : Ln ≤ 3072) : bCok (pmRo Ln xs) ((Ln : Int), xs) kQ bC39 := kFail (kHypQ hLn) fun σ x hP hx => ⟨kP_upi hP.1 (by decide) (by decide) (by decide) (by decide) (by decide), Or.inl (by
    show (pmUp σ.2.1 1 4 x 1 4).toInt ≠ 0
    rw [kUp_at]
    omega)⟩
theorem xC33 (hLn : Ln ≤ 3072) : bCok (pmRo Ln xs) ((Ln : Int), xs) kP bC33 := kOpen (kHypP hLn) fun σ x hP => kP_upi hP (by decide) (by decide) (by decide) (by decide) (by decide)
theorem xC187 (hLn : Ln ≤ 3072) : bCok (pmRo Ln xs) ((Ln : Int), xs) kP bC187 := kHeld (kHypP hLn)
theorem xC199 (hLn : Ln ≤ 3072) : bCok (pmRo Ln xs) ((Ln : Int), xs) kP bC199 := kFirst (kHypP hLn) (bO190 (kHypP hLn) (xC187 hLn))
theorem xC31 (hLn : Ln ≤ 3072) : bCok (pmRo Ln xs) ((Ln : Int), xs) kP bC31 := kWish (kHypP hLn) (kHypQ hLn) (xC33 hLn) (kOne (kHypQ hLn) (xC39q hLn)) (xC39q hLn)
theorem xC153 (hLn : Ln ≤ 3072) : bCok (pmRo Ln xs) ((Ln : Int), xs) kP bC153 := kWish2 (kHypP hLn)
theorem xC73 (hLn : Ln ≤ 3072) : bCok (pmRo Ln xs) ((Ln : Int), xs) kP bC73 := kMeas1 (kHypP hLn)
theorem xC73a (hLn : Ln ≤ 3072) : bCok (pmRo Ln xs) ((Ln : Int), xs) kP bC73a := kMeas2 (kHypP hLn)
theorem xC74 (hLn : Ln ≤ 3072) : bCok (pmRo Ln xs) ((Ln : Int), xs) kP bC74 := kWeigh1 (kHypP hLn)
theorem xC74a (hLn : Ln ≤ 3072) : bCok (pmRo Ln xs) ((Ln : Int), xs) kP bC74a := kWeigh2 (kHypP hLn)
theorem xL0 (hLn : Ln ≤ 3072) : (0 : Int) ≤ ((((Ln : Int), xs) : aLa)).1 ∧ ((((Ln : Int), xs) : aLa)).1 ≤ 3072 := ⟨Int.natCast_nonneg _, by show (Ln : Int) ≤ 3072; omega⟩
theorem xC20 (hLn : Ln ≤ 3072) : bCok (pmRo Ln xs) ((Ln : Int), xs) kP bC20 := bO20 (kHypP hLn)
theorem xC23 (hLn : Ln ≤ 3072) : bCok (pmRo Ln xs) ((Ln : Int), xs) kP bC23 := bO23 (kHypP hLn)
theorem xC25 (hLn : Ln ≤ 3072) : bCok (pmRo Ln xs) ((Ln : Int), xs) kP bC25 := bO25 (kHypP hLn)
theorem xC28 (hLn : Ln ≤ 3072) : bCok (pmRo Ln xs) ((Ln : Int), xs) kP bC28 := bO28 (kHypP hLn)
theorem xC29 (hLn : Ln ≤ 3072) : bCok (pmRo Ln xs) ((Ln : Int), xs) kP bC29 := bO29 (kHypP hLn)
theorem xC47 (hLn : Ln ≤ 3072) : bCok (pmRo Ln xs) ((Ln : Int), xs) kP bC47 := bO47 (kHypP hLn) (xC33 hLn) (xC39 hLn)
theorem xC58 (hLn : Ln ≤ 3072) : bCok (pmRo Ln xs) ((Ln : Int), xs) kP bC58 := bO58 (kHypP hLn)
theorem xC59 (hLn : Ln ≤ 3072) : bCok (pmRo Ln xs) ((Ln : Int), xs) kP bC59 := bO59 (kHypP hLn)
theorem xC66 (hLn : Ln ≤ 3072) : bCok (pmRo Ln xs) ((Ln : Int), xs) kP bC66 := bO66 (kHypP hLn)
theorem xC68 (hLn : Ln ≤ 3072) : bCok (pmRo Ln xs) ((Ln : Int), xs) kP bC68 := bO68 (kHypP hLn)
theorem xC70 (hLn : Ln ≤ 3072) : bCok (pmRo Ln xs) ((Ln : Int), xs) kP bC70 := bO70 (kHypP hLn) (xC73 hLn) (xC74 hLn)
theorem xC76 (hLn : Ln ≤ 3072) : bCok (pmRo Ln xs) ((Ln : Int), xs) kP bC76 := bO76 (kHypP hLn) (xC73 hLn) (xC73a hLn) (xC74 hLn) (xC74a hLn)
theorem xC84 (hLn : Ln ≤ 3072) : bCok (pmRo Ln xs) ((Ln : Int), xs) kP bC84 := bO84 (kHypP hLn) (xC73 hLn) (xC73a hLn) (xC74 hLn) (xC74a hLn)
theorem xC87 (hLn : Ln ≤ 3072) : bCok (pmRo Ln xs) ((Ln : Int), xs) kP bC87 := bO87 (kHypP hLn) (xC73 hLn) (xC73a hLn) (xC74 hLn) (xC74a hLn)
theorem xC100 (hLn : Ln ≤ 3072) : bCok (pmRo Ln xs) ((Ln : Int), xs) kP bC100 := bO100 (kHypP hLn)
theorem xC106 (hLn : Ln ≤ 3072) : bCok (pmRo Ln xs) ((Ln : Int), xs) kP bC106 := bO106 (kHypP hLn)
theorem xC107 (hLn : Ln ≤ 3072) : bCok (pmRo Ln xs) ((Ln : Int), xs) kP bC107 := bO107 (kHypP hLn)
theorem xC109 (hLn : Ln ≤ 3072) : bCok (pmRo Ln xs) ((Ln : Int), xs) kP bC109 := bO109 (kHypP hLn)
theorem xC110 (hLn : Ln ≤ 3072) : bCok (pmRo Ln xs) ((Ln : Int), xs) kP bC110 := bO110 (kHypP hLn) (xC73 hLn) (xC73a hLn) (xC74 hLn) (xC74a hLn)
theorem xC114 (hLn : Ln ≤ 3072) : bCok (pmRo Ln xs) ((Ln : Int), xs) kP bC114 := bO114 (kHypP hLn) (xC73 hLn) (xC73a hLn) (xC74 hLn) (xC74a hLn)
theorem xC115 (hLn : Ln ≤ 3072) : bCok (pmRo Ln xs) ((Ln : Int), xs) kP bC115 := bO115 (kHypP hLn) (xC73 hLn) (xC73a hLn) (xC74 hLn) (xC74a hLn)
theorem xC116 (hLn : Ln ≤ 3072) : bCok (pmRo Ln xs) ((Ln : Int), xs) kP bC116 := bO116 (kHypP hLn) (xC73 hLn) (xC73a hLn) (xC74 hLn) (xC74a hLn)
theorem xC119 (hLn : Ln ≤ 3072) : bCok (pmRo Ln xs) ((Ln : Int), xs) kP bC119 := bO119 (kHypP hLn) (xC73 hLn) (xC73a hLn) (xC74 hLn) (xC74a hLn)
theorem xC120 (hLn : Ln ≤ 3072) : bCok (pmRo Ln xs) ((Ln : Int), xs) kP bC120 := bO120 (kHypP hLn) (xC73 hLn) (xC73a hLn) (xC74 hLn) (xC74a hLn)
theorem xC124 (hLn : Ln ≤ 3072) : bCok (pmRo Ln xs) ((Ln : Int), xs) kP bC124 := bO124 (kHypP hLn)
theorem xC127 (hLn : Ln ≤ 3072) : bCok (pmRo Ln xs) ((Ln : Int), xs) kP bC127 := bO127 (kHypP hLn)
theorem xC129 (hLn : Ln ≤ 3072) : bCok (pmRo Ln xs) ((Ln : Int), xs) kP bC129 := bO129 (kHypP hLn)
theorem xC132 (hLn : Ln ≤ 3072) : bCok (pmRo Ln xs) ((Ln : Int), xs) kP bC132 := bO132 (kHypP hLn)
theorem xC133 (hLn : Ln ≤ 3072) : bCok (pmRo Ln xs) ((Ln : Int), xs) kP bC133 := bO133 (kHypP hLn)
theorem xC134 (hLn : Ln ≤ 3072) : bCok (pmRo Ln xs) ((Ln : Int), xs) kP bC134 := bO134 (kHypP hLn)
theorem xC141 (hLn : Ln ≤ 3072) : bCok (pmRo Ln xs) ((Ln : Int), xs) kP bC141 := bO141 (kHypP hLn)
theorem xC142 (hLn : Ln ≤ 3072) : bCok (pmRo Ln xs) ((Ln : Int), xs) kP bC142 := bO142 (kHypP hLn)
theorem xC145 (hLn : Ln ≤ 3072) : bCok (pmRo Ln xs) ((Ln : Int), xs) kP bC145 := bO145 (kHypP hLn)
theorem xC150 (hLn : Ln ≤ 3072) : bCok (pmRo Ln xs) ((Ln : Int), xs) kP bC150 := bO150 (kHypP hLn)
theorem xC151 (hLn : Ln ≤ 3072) : bCok (pmRo Ln xs) ((Ln : Int), xs) kP bC151 := bO151 (kHypP hLn)
theorem xC166 (hLn : Ln ≤ 3072) : bCok (pmRo Ln xs) ((Ln : Int), xs) kP bC166 := bO166 (kHypP hLn)
theorem xC174 (hLn : Ln ≤ 3072) : bCok (pmRo Ln xs) ((Ln : Int), xs) kP bC174 := bO174 (kHypP hLn)
theorem xC181d (hLn : Ln ≤ 3072) : bCok (pmRo Ln xs) ((Ln : Int), xs) kP bC181d := bO181d (kHypP hLn)
theorem xC182 (hLn : Ln ≤ 3072) : bCok (pmRo Ln xs) ((Ln : Int), xs) kP bC182 := bO182 (kHypP hLn)
theorem xC183 (hLn : Ln ≤ 3072) : bCok (pmRo Ln xs) ((Ln : Int), xs) kP bC183 := bO183 (kHypP hLn) (xC187 hLn)
theorem xC189 (hLn : Ln ≤ 3072) : bCok (pmRo Ln xs) ((Ln : Int), xs) kP bC189 := bO189 (kHypP hLn) (xC187 hLn)
theorem xC197 (hLn : Ln ≤ 3072) : bCok (pmRo Ln xs) ((Ln : Int), xs) kP bC197 := bO197 (kHypP hLn) (xC187 hLn) (xC199 hLn)
theorem xC201 (hLn : Ln ≤ 3072) : bCok (pmRo Ln xs) ((Ln : Int), xs) kP bC201 := bO201 (kHypP hLn)
theorem xC203 (hLn : Ln ≤ 3072) : bCok (pmRo Ln xs) ((Ln : Int), xs) kP bC203 := bO203 (kHypP hLn)
theorem xC204 (hLn : Ln ≤ 3072) : bCok (pmRo Ln xs) ((Ln : Int), xs) kP bC204 := bO204 (kHypP hLn) (xC187 hLn) (xC199 hLn)
theorem xC215 (hLn : Ln ≤ 3072) : bCok (pmRo Ln xs) ((Ln : Int), xs) kP bC215 := bO215 (kHypP hLn)
theorem xC222 (hLn : Ln ≤ 3072) : bCok (pmRo Ln xs) ((Ln : Int), xs) kP bC222 := bO222 (kHypP hLn)
theorem xC223 (hLn : Ln ≤ 3072) : bCok (pmRo Ln xs) ((Ln : Int), xs) kP bC223 := bO223 (kHypP hLn) (xC187 hLn) (xC199 hLn)
theorem xC230 (hLn : Ln ≤ 3072) : bCok (pmRo Ln xs) ((Ln : Int), xs) kP bC230 := bO230 (kHypP hLn) (xC187 hLn) (xC199 hLn)
theorem xC231 (hLn : Ln ≤ 3072) : bCok (pmRo Ln xs) ((Ln : Int), xs) kP bC231 := bO231 (kHypP hLn) (xC187 hLn) (xC199 hLn)
theorem xC232 (hLn : Ln ≤ 3072) : bCok (pmRo Ln xs) ((Ln : Int), xs) kP bC232 := bO232 (kHypP hLn) (xC187 hLn) (xC199 hLn)
theorem xC236 (hLn : Ln ≤ 3072) : bCok (pmRo Ln xs) ((Ln : Int), xs) kP bC236 := bO236 (kHypP hLn) (xC187 hLn) (xC199 hLn)
theorem xC237 (hLn : Ln ≤ 3072) : bCok (pmRo Ln xs) ((Ln : Int), xs) kP bC237 := bO237 (kHypP hLn) (xC187 hLn) (xC199 hLn)
theorem xC239 (hLn : Ln ≤ 3072) : bCok (pmRo Ln xs) ((Ln : Int), xs) kP bC239 := bO239 (kHypP hLn)
theorem xC240 (hLn : Ln ≤ 3072) : bCok (pmRo Ln xs) ((Ln : Int), xs) kP bC240 := bO240 (kHypP hLn)
theorem xC241 (hLn : Ln ≤ 3072) : bCok (pmRo Ln xs) ((Ln : Int), xs) kP bC241 := bO241 (kHypP hLn)
theorem xC243 (hLn : Ln ≤ 3072) : bCok (pmRo Ln xs) ((Ln : Int), xs) kP bC243 := bO243 (kHypP hLn)
theorem xC244 (hLn : Ln ≤ 3072) : bCok (pmRo Ln xs) ((Ln : Int), xs) kP bC244 := bO244 (kHypP hLn)
theorem xC245 (hLn : Ln ≤ 3072) : bCok (pmRo Ln xs) ((Ln : Int), xs) kP bC245 := bO245 (kHypP hLn)
theorem xC60 (hLn : Ln ≤ 3072) : bCok (pmRo Ln xs) ((Ln : Int), xs) kP bC60 := bO60 (kHypP hLn)
theorem xC63 (hLn : Ln ≤ 3072) : bCok (pmRo Ln xs) ((Ln : Int), xs) kP bC63 := bO63 (kHypP hLn)
theorem xC181 (hLn : Ln ≤ 3072) : bCok (pmRo Ln xs) ((Ln : Int), xs) kP bC181 := bO181 (kHypP hLn)
theorem xC190 (hLn : Ln ≤ 3072) : bCok (pmRo Ln xs) ((Ln : Int), xs) kP bC190 := bO190 (kHypP hLn) (xC187 hLn)
end
end
section
/-! exact: door, person, begin -/
section
set_option maxRecDepth 100000
theorem xi13 : pmInf[13]? = some pmI_13 := rfl
theorem xi15 : pmInf[15]? = some pmI_15 := rfl
theorem xi16 : pmInf[16]? = some pmI_16 := rfl
theorem xi17 : pmInf[17]? = some pmI_17 := rfl
theorem xi19 : pmInf[19]? = some pmI_19 := rfl
theorem xi57 : pmInf[57]? = some pmI_57 := rfl
theorem xi58 : pmInf[58]? = some pmI_58 := rfl
theorem xi59 : pmInf[59]? = some pmI_59 := rfl
theorem xi65 : pmInf[65]? = some pmI_65 := rfl
theorem xi66 : pmInf[66]? = some pmI_66 := rfl
theorem xi137 : pmInf[137]? = some pmI_137 := rfl
theorem xi139 : pmInf[139]? = some pmI_139 := rfl
theorem xi173 : pmInf[173]? = some pmI_173 := rfl
theorem xi174 : pmInf[174]? = some pmI_174 := rfl
theorem xi181 : pmInf[181]? = some pmI_181 := rfl
theorem xc13_0 : pmCode 13 0 = some (.aload_n 0) ∧ 0 + 1 = 1 := ⟨rfl, rfl⟩
theorem xc13_1 : pmCode 13 1 = some (.getfield 101) ∧ 1 + 3 = 4 := ⟨rfl, rfl⟩
theorem xc13_4 : pmCode 13 4 = some (.ifCond .ne 38) ∧ ((4 : Nat) : Int) + 38 = ((42 : Nat) : Int) ∧ 4 + 3 = 7 := ⟨rfl, rfl, rfl⟩
theorem xc13_7 : pmCode 13 7 = some (.iload_n 1) ∧ 7 + 1 = 8 := ⟨rfl, rfl⟩
theorem xc13_8 : pmCode 13 8 = some (.invokestatic 105) ∧ 8 + 3 = 11 := ⟨rfl, rfl⟩
theorem xc13_11 : pmCode 13 11 = some (.ifCond .eq 31) ∧ ((11 : Nat) : Int) + 31 = ((42 : Nat) : Int) ∧ 11 + 3 = 14 := ⟨rfl, rfl, rfl⟩
theorem xc13_14 : pmCode 13 14 = some (.iload_n 2) ∧ 14 + 1 = 15 := ⟨rfl, rfl⟩
theorem xc13_15 : pmCode 13 15 = some (.invokestatic 105) ∧ 15 + 3 = 18 := ⟨rfl, rfl⟩
theorem xc13_18 : pmCode 13 18 = some (.ifCond .eq 24) ∧ ((18 : Nat) : Int) + 24 = ((42 : Nat) : Int) ∧ 18 + 3 = 21 := ⟨rfl, rfl, rfl⟩
theorem xc13_21 : pmCode 13 21 = some (.iload_n 1) ∧ 21 + 1 = 22 := ⟨rfl, rfl⟩
theorem xc13_22 : pmCode 13 22 = some (.iload_n 2) ∧ 22 + 1 = 23 := ⟨rfl, rfl⟩
theorem xc13_23 : pmCode 13 23 = some (.if_icmp .eq 19) ∧ ((23 : Nat) : Int) + 19 = ((42 : Nat) : Int) ∧ 23 + 3 = 26 := ⟨rfl, rfl, rfl⟩
theorem xc13_26 : pmCode 13 26 = some (.aload_n 0) ∧ 26 + 1 = 27 := ⟨rfl, rfl⟩
theorem xc13_27 : pmCode 13 27 = some (.getfield 19) ∧ 27 + 3 = 30 := ⟨rfl, rfl⟩
theorem xc13_30 : pmCode 13 30 = some (.iload_n 1) ∧ 30 + 1 = 31 := ⟨rfl, rfl⟩
theorem xc13_31 : pmCode 13 31 = some (.iload_n 2) ∧ 31 + 1 = 32 := ⟨rfl, rfl⟩
theorem xc13_32 : pmCode 13 32 = some (.invokevirtual 109) ∧ 32 + 3 = 35 := ⟨rfl, rfl⟩
theorem xc13_35 : pmCode 13 35 = some (.ifCond .eq 7) ∧ ((35 : Nat) : Int) + 7 = ((42 : Nat) : Int) ∧ 35 + 3 = 38 := ⟨rfl, rfl, rfl⟩
theorem xc13_38 : pmCode 13 38 = some (.iconst 1) ∧ 38 + 1 = 39 := ⟨rfl, rfl⟩
theorem xc13_39 : pmCode 13 39 = some (.goto 4) ∧ ((39 : Nat) : Int) + 4 = ((43 : Nat) : Int) := ⟨rfl, rfl⟩
theorem xc13_42 : pmCode 13 42 = some (.iconst 0) ∧ 42 + 1 = 43 := ⟨rfl, rfl⟩
theorem xc13_43 : pmCode 13 43 = some .ireturn := rfl
theorem xc15_0 : pmCode 15 0 = some (.aload_n 0) ∧ 0 + 1 = 1 := ⟨rfl, rfl⟩
theorem xc15_1 : pmCode 15 1 = some (.iload_n 1) ∧ 1 + 1 = 2 := ⟨rfl, rfl⟩
theorem xc15_2 : pmCode 15 2 = some (.iload_n 2) ∧ 2 + 1 = 3 := ⟨rfl, rfl⟩
theorem xc15_3 : pmCode 15 3 = some (.invokevirtual 38) ∧ 3 + 3 = 6 := ⟨rfl, rfl⟩
theorem xc15_6 : pmCode 15 6 = some (.ifCond .eq 5) ∧ ((6 : Nat) : Int) + 5 = ((11 : Nat) : Int) ∧ 6 + 3 = 9 := ⟨rfl, rfl, rfl⟩
theorem xc15_9 : pmCode 15 9 = some (.iconst 0) ∧ 9 + 1 = 10 := ⟨rfl, rfl⟩
theorem xc15_10 : pmCode 15 10 = some .ireturn := rfl
theorem xc15_11 : pmCode 15 11 = some (.aload_n 0) ∧ 11 + 1 = 12 := ⟨rfl, rfl⟩
theorem xc15_12 : pmCode 15 12 = some .dup ∧ 12 + 1 = 13 := ⟨rfl, rfl⟩
theorem xc15_13 : pmCode 15 13 = some (.getfield 42) ∧ 13 + 3 = 16 := ⟨rfl, rfl⟩
theorem xc15_16 : pmCode 15 16 = some (.lconst 1) ∧ 16 + 1 = 17 := ⟨rfl, rfl⟩
theorem xc15_17 : pmCode 15 17 = some (.bipush 7) ∧ 17 + 2 = 19 := ⟨rfl, rfl⟩
theorem xc15_19 : pmCode 15 19 = some (.iload_n 1) ∧ 19 + 1 = 20 := ⟨rfl, rfl⟩
theorem xc15_20 : pmCode 15 20 = some .imul ∧ 20 + 1 = 21 := ⟨rfl, rfl⟩
theorem xc15_21 : pmCode 15 21 = some (.iload_n 2) ∧ 21 + 1 = 22 := ⟨rfl, rfl⟩
theorem xc15_22 : pmCode 15 22 = some .iadd ∧ 22 + 1 = 23 := ⟨rfl, rfl⟩
theorem xc15_23 : pmCode 15 23 = some .lshl ∧ 23 + 1 = 24 := ⟨rfl, rfl⟩
theorem xc15_24 : pmCode 15 24 = some (.lconst 1) ∧ 24 + 1 = 25 := ⟨rfl, rfl⟩
theorem xc15_25 : pmCode 15 25 = some (.bipush 7) ∧ 25 + 2 = 27 := ⟨rfl, rfl⟩
theorem xc15_27 : pmCode 15 27 = some (.iload_n 2) ∧ 27 + 1 = 28 := ⟨rfl, rfl⟩
theorem xc15_28 : pmCode 15 28 = some .imul ∧ 28 + 1 = 29 := ⟨rfl, rfl⟩
theorem xc15_29 : pmCode 15 29 = some (.iload_n 1) ∧ 29 + 1 = 30 := ⟨rfl, rfl⟩
theorem xc15_30 : pmCode 15 30 = some .iadd ∧ 30 + 1 = 31 := ⟨rfl, rfl⟩
theorem xc15_31 : pmCode 15 31 = some .lshl ∧ 31 + 1 = 32 := ⟨rfl, rfl⟩
theorem xc15_32 : pmCode 15 32 = some .lor ∧ 32 + 1 = 33 := ⟨rfl, rfl⟩
theorem xc15_33 : pmCode 15 33 = some .lor ∧ 33 + 1 = 34 := ⟨rfl, rfl⟩
theorem xc15_34 : pmCode 15 34 = some (.putfield 42) ∧ 34 + 3 = 37 := ⟨rfl, rfl⟩
theorem xc15_37 : pmCode 15 37 = some (.iconst 1) ∧ 37 + 1 = 38 := ⟨rfl, rfl⟩
theorem xc15_38 : pmCode 15 38 = some .ireturn := rfl
theorem xc16_0 : pmCode 16 0 = some (.aload_n 0) ∧ 0 + 1 = 1 := ⟨rfl, rfl⟩
theorem xc16_1 : pmCode 16 1 = some (.getfield 42) ∧ 1 + 3 = 4 := ⟨rfl, rfl⟩
theorem xc16_4 : pmCode 16 4 = some (.bipush 7) ∧ 4 + 2 = 6 := ⟨rfl, rfl⟩
theorem xc16_6 : pmCode 16 6 = some (.iload_n 1) ∧ 6 + 1 = 7 := ⟨rfl, rfl⟩
theorem xc16_7 : pmCode 16 7 = some .imul ∧ 7 + 1 = 8 := ⟨rfl, rfl⟩
theorem xc16_8 : pmCode 16 8 = some (.iload_n 2) ∧ 8 + 1 = 9 := ⟨rfl, rfl⟩
theorem xc16_9 : pmCode 16 9 = some .iadd ∧ 9 + 1 = 10 := ⟨rfl, rfl⟩
theorem xc16_10 : pmCode 16 10 = some .lushr ∧ 10 + 1 = 11 := ⟨rfl, rfl⟩
theorem xc16_11 : pmCode 16 11 = some (.lconst 1) ∧ 11 + 1 = 12 := ⟨rfl, rfl⟩
theorem xc16_12 : pmCode 16 12 = some .land ∧ 12 + 1 = 13 := ⟨rfl, rfl⟩
theorem xc16_13 : pmCode 16 13 = some (.lconst 0) ∧ 13 + 1 = 14 := ⟨rfl, rfl⟩
theorem xc16_14 : pmCode 16 14 = some .lcmp ∧ 14 + 1 = 15 := ⟨rfl, rfl⟩
theorem xc16_15 : pmCode 16 15 = some (.ifCond .eq 7) ∧ ((15 : Nat) : Int) + 7 = ((22 : Nat) : Int) ∧ 15 + 3 = 18 := ⟨rfl, rfl, rfl⟩
theorem xc16_18 : pmCode 16 18 = some (.iconst 1) ∧ 18 + 1 = 19 := ⟨rfl, rfl⟩
theorem xc16_19 : pmCode 16 19 = some (.goto 4) ∧ ((19 : Nat) : Int) + 4 = ((23 : Nat) : Int) := ⟨rfl, rfl⟩
theorem xc16_22 : pmCode 16 22 = some (.iconst 0) ∧ 22 + 1 = 23 := ⟨rfl, rfl⟩
theorem xc16_23 : pmCode 16 23 = some .ireturn := rfl
theorem xc17_0 : pmCode 17 0 = some (.aload_n 0) ∧ 0 + 1 = 1 := ⟨rfl, rfl⟩
theorem xc17_1 : pmCode 17 1 = some (.getfield 101) ∧ 1 + 3 = 4 := ⟨rfl, rfl⟩
theorem xc17_4 : pmCode 17 4 = some (.ifCond .ne 17) ∧ ((4 : Nat) : Int) + 17 = ((21 : Nat) : Int) ∧ 4 + 3 = 7 := ⟨rfl, rfl, rfl⟩
theorem xc17_7 : pmCode 17 7 = some (.iload_n 1) ∧ 7 + 1 = 8 := ⟨rfl, rfl⟩
theorem xc17_8 : pmCode 17 8 = some (.invokestatic 113) ∧ 8 + 3 = 11 := ⟨rfl, rfl⟩
theorem xc17_11 : pmCode 17 11 = some (.ifCond .eq 10) ∧ ((11 : Nat) : Int) + 10 = ((21 : Nat) : Int) ∧ 11 + 3 = 14 := ⟨rfl, rfl, rfl⟩
theorem xc17_14 : pmCode 17 14 = some (.iload_n 2) ∧ 14 + 1 = 15 := ⟨rfl, rfl⟩
theorem xc17_15 : pmCode 17 15 = some (.invokestatic 105) ∧ 15 + 3 = 18 := ⟨rfl, rfl⟩
theorem xc17_18 : pmCode 17 18 = some (.ifCond .ne 5) ∧ ((18 : Nat) : Int) + 5 = ((23 : Nat) : Int) ∧ 18 + 3 = 21 := ⟨rfl, rfl, rfl⟩
theorem xc17_21 : pmCode 17 21 = some (.iconst 0) ∧ 21 + 1 = 22 := ⟨rfl, rfl⟩
theorem xc17_22 : pmCode 17 22 = some .ireturn := rfl
theorem xc17_23 : pmCode 17 23 = some (.aload_n 0) ∧ 23 + 1 = 24 := ⟨rfl, rfl⟩
theorem xc17_24 : pmCode 17 24 = some (.getfield 40) ∧ 24 + 3 = 27 := ⟨rfl, rfl⟩
theorem xc17_27 : pmCode 17 27 = some (.aload_n 0) ∧ 27 + 1 = 28 := ⟨rfl, rfl⟩
theorem xc17_28 : pmCode 17 28 = some (.getfield 40) ∧ 28 + 3 = 31 := ⟨rfl, rfl⟩
theorem xc17_31 : pmCode 17 31 = some (.getfield 116) ∧ 31 + 3 = 34 := ⟨rfl, rfl⟩
theorem xc17_34 : pmCode 17 34 = some (.iload_n 1) ∧ 34 + 1 = 35 := ⟨rfl, rfl⟩
theorem xc17_35 : pmCode 17 35 = some (.iload_n 2) ∧ 35 + 1 = 36 := ⟨rfl, rfl⟩
theorem xc17_36 : pmCode 17 36 = some (.iconst 1) ∧ 36 + 1 = 37 := ⟨rfl, rfl⟩
theorem xc17_37 : pmCode 17 37 = some .iadd ∧ 37 + 1 = 38 := ⟨rfl, rfl⟩
theorem xc17_38 : pmCode 17 38 = some (.invokestatic 120) ∧ 38 + 3 = 41 := ⟨rfl, rfl⟩
theorem xc17_41 : pmCode 17 41 = some (.putfield 116) ∧ 41 + 3 = 44 := ⟨rfl, rfl⟩
theorem xc17_44 : pmCode 17 44 = some (.iconst 1) ∧ 44 + 1 = 45 := ⟨rfl, rfl⟩
theorem xc17_45 : pmCode 17 45 = some .ireturn := rfl
theorem xc19_0 : pmCode 19 0 = some (.lload_n 0) ∧ 0 + 1 = 1 := ⟨rfl, rfl⟩
theorem xc19_1 : pmCode 19 1 = some (.ldc2_w 331) ∧ 1 + 3 = 4 := ⟨rfl, rfl⟩
theorem xc19_4 : pmCode 19 4 = some (.iconst 4) ∧ 4 + 1 = 5 := ⟨rfl, rfl⟩
theorem xc19_5 : pmCode 19 5 = some (.iload_n 2) ∧ 5 + 1 = 6 := ⟨rfl, rfl⟩
theorem xc19_6 : pmCode 19 6 = some .imul ∧ 6 + 1 = 7 := ⟨rfl, rfl⟩
theorem xc19_7 : pmCode 19 7 = some .lshl ∧ 7 + 1 = 8 := ⟨rfl, rfl⟩
theorem xc19_8 : pmCode 19 8 = some (.ldc2_w 223) ∧ 8 + 3 = 11 := ⟨rfl, rfl⟩
theorem xc19_11 : pmCode 19 11 = some .lxor ∧ 11 + 1 = 12 := ⟨rfl, rfl⟩
theorem xc19_12 : pmCode 19 12 = some .land ∧ 12 + 1 = 13 := ⟨rfl, rfl⟩
theorem xc19_13 : pmCode 19 13 = some (.iload_n 3) ∧ 13 + 1 = 14 := ⟨rfl, rfl⟩
theorem xc19_14 : pmCode 19 14 = some .i2l ∧ 14 + 1 = 15 := ⟨rfl, rfl⟩
theorem xc19_15 : pmCode 19 15 = some (.iconst 4) ∧ 15 + 1 = 16 := ⟨rfl, rfl⟩
theorem xc19_16 : pmCode 19 16 = some (.iload_n 2) ∧ 16 + 1 = 17 := ⟨rfl, rfl⟩
theorem xc19_17 : pmCode 19 17 = some .imul ∧ 17 + 1 = 18 := ⟨rfl, rfl⟩
theorem xc19_18 : pmCode 19 18 = some .lshl ∧ 18 + 1 = 19 := ⟨rfl, rfl⟩
theorem xc19_19 : pmCode 19 19 = some .lor ∧ 19 + 1 = 20 := ⟨rfl, rfl⟩
theorem xc19_20 : pmCode 19 20 = some .lreturn := rfl
theorem xc57_0 : pmCode 57 0 = some (.aload_n 0) ∧ 0 + 1 = 1 := ⟨rfl, rfl⟩
theorem xc57_1 : pmCode 57 1 = some (.getfield 101) ∧ 1 + 3 = 4 := ⟨rfl, rfl⟩
theorem xc57_4 : pmCode 57 4 = some (.ifCond .eq 5) ∧ ((4 : Nat) : Int) + 5 = ((9 : Nat) : Int) ∧ 4 + 3 = 7 := ⟨rfl, rfl, rfl⟩
theorem xc57_7 : pmCode 57 7 = some (.iconst 0) ∧ 7 + 1 = 8 := ⟨rfl, rfl⟩
theorem xc57_8 : pmCode 57 8 = some .ireturn := rfl
theorem xc57_9 : pmCode 57 9 = some (.aload_n 0) ∧ 9 + 1 = 10 := ⟨rfl, rfl⟩
theorem xc57_10 : pmCode 57 10 = some (.iconst 1) ∧ 10 + 1 = 11 := ⟨rfl, rfl⟩
theorem xc57_11 : pmCode 57 11 = some (.putfield 101) ∧ 11 + 3 = 14 := ⟨rfl, rfl⟩
theorem xc57_14 : pmCode 57 14 = some (.aload_n 0) ∧ 14 + 1 = 15 := ⟨rfl, rfl⟩
theorem xc57_15 : pmCode 57 15 = some (.getfield 19) ∧ 15 + 3 = 18 := ⟨rfl, rfl⟩
theorem xc57_18 : pmCode 57 18 = some (.invokevirtual 196) ∧ 18 + 3 = 21 := ⟨rfl, rfl⟩
theorem xc57_21 : pmCode 57 21 = some (.aload_n 0) ∧ 21 + 1 = 22 := ⟨rfl, rfl⟩
theorem xc57_22 : pmCode 57 22 = some (.getfield 79) ∧ 22 + 3 = 25 := ⟨rfl, rfl⟩
theorem xc57_25 : pmCode 57 25 = some (.aload_n 0) ∧ 25 + 1 = 26 := ⟨rfl, rfl⟩
theorem xc57_26 : pmCode 57 26 = some (.getfield 40) ∧ 26 + 3 = 29 := ⟨rfl, rfl⟩
theorem xc57_29 : pmCode 57 29 = some (.invokevirtual 199) ∧ 29 + 3 = 32 := ⟨rfl, rfl⟩
theorem xc57_32 : pmCode 57 32 = some (.aload_n 0) ∧ 32 + 1 = 33 := ⟨rfl, rfl⟩
theorem xc57_33 : pmCode 57 33 = some (.getfield 97) ∧ 33 + 3 = 36 := ⟨rfl, rfl⟩
theorem xc57_36 : pmCode 57 36 = some (.aload_n 0) ∧ 36 + 1 = 37 := ⟨rfl, rfl⟩
theorem xc57_37 : pmCode 57 37 = some (.getfield 40) ∧ 37 + 3 = 40 := ⟨rfl, rfl⟩
theorem xc57_40 : pmCode 57 40 = some (.invokevirtual 203) ∧ 40 + 3 = 43 := ⟨rfl, rfl⟩
theorem xc57_43 : pmCode 57 43 = some (.iconst 1) ∧ 43 + 1 = 44 := ⟨rfl, rfl⟩
theorem xc57_44 : pmCode 57 44 = some .ireturn := rfl
theorem xc65_0 : pmCode 65 0 = some (.aload_n 0) ∧ 0 + 1 = 1 := ⟨rfl, rfl⟩
theorem xc65_1 : pmCode 65 1 = some (.getfield 12) ∧ 1 + 3 = 4 := ⟨rfl, rfl⟩
theorem xc65_4 : pmCode 65 4 = some (.aload_n 1) ∧ 4 + 1 = 5 := ⟨rfl, rfl⟩
theorem xc65_5 : pmCode 65 5 = some (.invokevirtual 37) ∧ 5 + 3 = 8 := ⟨rfl, rfl⟩
theorem xc65_8 : pmCode 65 8 = some .return_ := rfl
theorem xc137_0 : pmCode 137 0 = some (.aload_n 0) ∧ 0 + 1 = 1 := ⟨rfl, rfl⟩
theorem xc137_1 : pmCode 137 1 = some (.getfield 131) ∧ 1 + 3 = 4 := ⟨rfl, rfl⟩
theorem xc137_4 : pmCode 137 4 = some (.ifCond .ne 36) ∧ ((4 : Nat) : Int) + 36 = ((40 : Nat) : Int) ∧ 4 + 3 = 7 := ⟨rfl, rfl, rfl⟩
theorem xc137_7 : pmCode 137 7 = some (.iload_n 1) ∧ 7 + 1 = 8 := ⟨rfl, rfl⟩
theorem xc137_8 : pmCode 137 8 = some (.invokestatic 135) ∧ 8 + 3 = 11 := ⟨rfl, rfl⟩
theorem xc137_11 : pmCode 137 11 = some (.ifCond .eq 29) ∧ ((11 : Nat) : Int) + 29 = ((40 : Nat) : Int) ∧ 11 + 3 = 14 := ⟨rfl, rfl, rfl⟩
theorem xc137_14 : pmCode 137 14 = some (.iload_n 2) ∧ 14 + 1 = 15 := ⟨rfl, rfl⟩
theorem xc137_15 : pmCode 137 15 = some (.invokestatic 135) ∧ 15 + 3 = 18 := ⟨rfl, rfl⟩
theorem xc137_18 : pmCode 137 18 = some (.ifCond .eq 22) ∧ ((18 : Nat) : Int) + 22 = ((40 : Nat) : Int) ∧ 18 + 3 = 21 := ⟨rfl, rfl, rfl⟩
theorem xc137_21 : pmCode 137 21 = some (.iload_n 1) ∧ 21 + 1 = 22 := ⟨rfl, rfl⟩
theorem xc137_22 : pmCode 137 22 = some (.iload_n 2) ∧ 22 + 1 = 23 := ⟨rfl, rfl⟩
theorem xc137_23 : pmCode 137 23 = some (.if_icmp .eq 17) ∧ ((23 : Nat) : Int) + 17 = ((40 : Nat) : Int) ∧ 23 + 3 = 26 := ⟨rfl, rfl, rfl⟩
theorem xc137_26 : pmCode 137 26 = some (.aload_n 0) ∧ 26 + 1 = 27 := ⟨rfl, rfl⟩
theorem xc137_27 : pmCode 137 27 = some (.getfield 16) ∧ 27 + 3 = 30 := ⟨rfl, rfl⟩
theorem xc137_30 : pmCode 137 30 = some (.bipush 7) ∧ 30 + 2 = 32 := ⟨rfl, rfl⟩
theorem xc137_32 : pmCode 137 32 = some (.iload_n 1) ∧ 32 + 1 = 33 := ⟨rfl, rfl⟩
theorem xc137_33 : pmCode 137 33 = some .imul ∧ 33 + 1 = 34 := ⟨rfl, rfl⟩
theorem xc137_34 : pmCode 137 34 = some (.iload_n 2) ∧ 34 + 1 = 35 := ⟨rfl, rfl⟩
theorem xc137_35 : pmCode 137 35 = some .iadd ∧ 35 + 1 = 36 := ⟨rfl, rfl⟩
theorem xc137_36 : pmCode 137 36 = some .baload ∧ 36 + 1 = 37 := ⟨rfl, rfl⟩
theorem xc137_37 : pmCode 137 37 = some (.ifCond .eq 5) ∧ ((37 : Nat) : Int) + 5 = ((42 : Nat) : Int) ∧ 37 + 3 = 40 := ⟨rfl, rfl, rfl⟩
theorem xc137_40 : pmCode 137 40 = some (.iconst 0) ∧ 40 + 1 = 41 := ⟨rfl, rfl⟩
theorem xc137_41 : pmCode 137 41 = some .ireturn := rfl
theorem xc137_42 : pmCode 137 42 = some (.aload_n 0) ∧ 42 + 1 = 43 := ⟨rfl, rfl⟩
theorem xc137_43 : pmCode 137 43 = some (.getfield 16) ∧ 43 + 3 = 46 := ⟨rfl, rfl⟩
theorem xc137_46 : pmCode 137 46 = some (.bipush 7) ∧ 46 + 2 = 48 := ⟨rfl, rfl⟩
theorem xc137_48 : pmCode 137 48 = some (.iload_n 1) ∧ 48 + 1 = 49 := ⟨rfl, rfl⟩
theorem xc137_49 : pmCode 137 49 = some .imul ∧ 49 + 1 = 50 := ⟨rfl, rfl⟩
theorem xc137_50 : pmCode 137 50 = some (.iload_n 2) ∧ 50 + 1 = 51 := ⟨rfl, rfl⟩
theorem xc137_51 : pmCode 137 51 = some .iadd ∧ 51 + 1 = 52 := ⟨rfl, rfl⟩
theorem xc137_52 : pmCode 137 52 = some (.iconst 1) ∧ 52 + 1 = 53 := ⟨rfl, rfl⟩
theorem xc137_53 : pmCode 137 53 = some .bastore ∧ 53 + 1 = 54 := ⟨rfl, rfl⟩
theorem xc137_54 : pmCode 137 54 = some (.aload_n 0) ∧ 54 + 1 = 55 := ⟨rfl, rfl⟩
theorem xc137_55 : pmCode 137 55 = some (.getfield 16) ∧ 55 + 3 = 58 := ⟨rfl, rfl⟩
theorem xc137_58 : pmCode 137 58 = some (.bipush 7) ∧ 58 + 2 = 60 := ⟨rfl, rfl⟩
theorem xc137_60 : pmCode 137 60 = some (.iload_n 2) ∧ 60 + 1 = 61 := ⟨rfl, rfl⟩
theorem xc137_61 : pmCode 137 61 = some .imul ∧ 61 + 1 = 62 := ⟨rfl, rfl⟩
theorem xc137_62 : pmCode 137 62 = some (.iload_n 1) ∧ 62 + 1 = 63 := ⟨rfl, rfl⟩
theorem xc137_63 : pmCode 137 63 = some .iadd ∧ 63 + 1 = 64 := ⟨rfl, rfl⟩
theorem xc137_64 : pmCode 137 64 = some (.iconst 1) ∧ 64 + 1 = 65 := ⟨rfl, rfl⟩
theorem xc137_65 : pmCode 137 65 = some .bastore ∧ 65 + 1 = 66 := ⟨rfl, rfl⟩
theorem xc137_66 : pmCode 137 66 = some (.iconst 1) ∧ 66 + 1 = 67 := ⟨rfl, rfl⟩
theorem xc137_67 : pmCode 137 67 = some .ireturn := rfl
theorem xc139_0 : pmCode 139 0 = some (.aload_n 0) ∧ 0 + 1 = 1 := ⟨rfl, rfl⟩
theorem xc139_1 : pmCode 139 1 = some (.getfield 131) ∧ 1 + 3 = 4 := ⟨rfl, rfl⟩
theorem xc139_4 : pmCode 139 4 = some (.ifCond .ne 17) ∧ ((4 : Nat) : Int) + 17 = ((21 : Nat) : Int) ∧ 4 + 3 = 7 := ⟨rfl, rfl, rfl⟩
theorem xc139_7 : pmCode 139 7 = some (.iload_n 1) ∧ 7 + 1 = 8 := ⟨rfl, rfl⟩
theorem xc139_8 : pmCode 139 8 = some (.invokestatic 139) ∧ 8 + 3 = 11 := ⟨rfl, rfl⟩
theorem xc139_11 : pmCode 139 11 = some (.ifCond .eq 10) ∧ ((11 : Nat) : Int) + 10 = ((21 : Nat) : Int) ∧ 11 + 3 = 14 := ⟨rfl, rfl, rfl⟩
theorem xc139_14 : pmCode 139 14 = some (.iload_n 2) ∧ 14 + 1 = 15 := ⟨rfl, rfl⟩
theorem xc139_15 : pmCode 139 15 = some (.invokestatic 135) ∧ 15 + 3 = 18 := ⟨rfl, rfl⟩
theorem xc139_18 : pmCode 139 18 = some (.ifCond .ne 5) ∧ ((18 : Nat) : Int) + 5 = ((23 : Nat) : Int) ∧ 18 + 3 = 21 := ⟨rfl, rfl, rfl⟩
theorem xc139_21 : pmCode 139 21 = some (.iconst 0) ∧ 21 + 1 = 22 := ⟨rfl, rfl⟩
theorem xc139_22 : pmCode 139 22 = some .ireturn := rfl
theorem xc139_23 : pmCode 139 23 = some (.aload_n 0) ∧ 23 + 1 = 24 := ⟨rfl, rfl⟩
theorem xc139_24 : pmCode 139 24 = some (.getfield 7) ∧ 24 + 3 = 27 := ⟨rfl, rfl⟩
theorem xc139_27 : pmCode 139 27 = some (.iconst 0) ∧ 27 + 1 = 28 := ⟨rfl, rfl⟩
theorem xc139_28 : pmCode 139 28 = some (.iload_n 1) ∧ 28 + 1 = 29 := ⟨rfl, rfl⟩
theorem xc139_29 : pmCode 139 29 = some .iadd ∧ 29 + 1 = 30 := ⟨rfl, rfl⟩
theorem xc139_30 : pmCode 139 30 = some (.iload_n 2) ∧ 30 + 1 = 31 := ⟨rfl, rfl⟩
theorem xc139_31 : pmCode 139 31 = some .iastore ∧ 31 + 1 = 32 := ⟨rfl, rfl⟩
theorem xc139_32 : pmCode 139 32 = some (.iconst 1) ∧ 32 + 1 = 33 := ⟨rfl, rfl⟩
theorem xc139_33 : pmCode 139 33 = some .ireturn := rfl
theorem xc173_0 : pmCode 173 0 = some (.aload_n 0) ∧ 0 + 1 = 1 := ⟨rfl, rfl⟩
theorem xc173_1 : pmCode 173 1 = some (.getfield 131) ∧ 1 + 3 = 4 := ⟨rfl, rfl⟩
theorem xc173_4 : pmCode 173 4 = some (.ifCond .eq 5) ∧ ((4 : Nat) : Int) + 5 = ((9 : Nat) : Int) ∧ 4 + 3 = 7 := ⟨rfl, rfl, rfl⟩
theorem xc173_7 : pmCode 173 7 = some (.iconst 0) ∧ 7 + 1 = 8 := ⟨rfl, rfl⟩
theorem xc173_8 : pmCode 173 8 = some .ireturn := rfl
theorem xc173_9 : pmCode 173 9 = some (.aload_n 0) ∧ 9 + 1 = 10 := ⟨rfl, rfl⟩
theorem xc173_10 : pmCode 173 10 = some (.iconst 1) ∧ 10 + 1 = 11 := ⟨rfl, rfl⟩
theorem xc173_11 : pmCode 173 11 = some (.putfield 131) ∧ 11 + 3 = 14 := ⟨rfl, rfl⟩
theorem xc173_14 : pmCode 173 14 = some (.aload_n 0) ∧ 14 + 1 = 15 := ⟨rfl, rfl⟩
theorem xc173_15 : pmCode 173 15 = some (.invokevirtual 333) ∧ 15 + 3 = 18 := ⟨rfl, rfl⟩
theorem xc173_18 : pmCode 173 18 = some (.aload_n 0) ∧ 18 + 1 = 19 := ⟨rfl, rfl⟩
theorem xc173_19 : pmCode 173 19 = some (.iconst 0) ∧ 19 + 1 = 20 := ⟨rfl, rfl⟩
theorem xc173_20 : pmCode 173 20 = some (.invokevirtual 336) ∧ 20 + 3 = 23 := ⟨rfl, rfl⟩
theorem xc173_23 : pmCode 173 23 = some (.iconst 1) ∧ 23 + 1 = 24 := ⟨rfl, rfl⟩
theorem xc173_24 : pmCode 173 24 = some .ireturn := rfl
theorem xg16 {ro : Nat → Nat × (Nat → Int32)} {d : Nat} {Q : Option Value → pmS → Prop} {a : xA} {b : xB} {x y : Int} (h : pmWp ro d 5 16 2 0 [some (.ref 3), some (xV x), some (xV y)] [] (xS a b) Q) : pmCs ro (d + 1) 16 [.ref 3, xV x, xV y] (xS a b) Q := x_go xi16 rfl rfl rfl rfl rfl h
theorem w16 {ro : Nat → Nat × (Nat → Int32)} {d : Nat} {Q : Option Value → pmS → Prop} {x y : Int} {a : xA} {b : xB} (h_x : xR x) (h_y : xR y)
    (k1 : (xCmp ((xShr (b 3 3) (7 * x + y)) &&& (1 : Int64)) (0 : Int64) = 0) → Q (some (xV 0)) (xS a b))
    (k2 : (¬ xCmp ((xShr (b 3 3) (7 * x + y)) &&& (1 : Int64)) (0 : Int64) = 0) → Q (some (xV 1)) (xS a b)) :
    pmWp ro d 5 16 2 0 [some (.ref 3), some (xV x), some (xV y)] [] (xS a b) Q := by
  refine x_aloadn xc16_0 rfl ?_
  refine x_gfl (k := 3) xc16_1 rfl rfl rfl xz3 ?_
  refine x_bipush xc16_4 (by decide) ?_
  refine x_iloadn xc16_6 rfl ?_
  refine x_imul xc16_7 ?_
  refine x_iloadn xc16_8 rfl ?_
  refine x_iadd xc16_9 ?_
  refine x_lushr xc16_10 ?_
  refine x_lconst (l := 1) xc16_11 rfl ?_
  refine x_land xc16_12 ?_
  refine x_lconst (l := 0) xc16_13 rfl ?_
  refine x_lcmp xc16_14 ?_
  refine x_ifeq xc16_15 (xRk (by have g0 := xCmpB ((xShr (b 3 3) (7 * x + y)) &&& (1 : Int64)) (0 : Int64); omega)) (fun h0 => ?_) (fun h0 => ?_)
  · refine x_iconst xc16_22 ?_
    refine x_iret xc16_23 (Or.inr ⟨rfl, (by omega)⟩) ?_
    exact k1 h0
  · refine x_iconst xc16_18 ?_
    refine x_goto xc16_19 ?_
    refine x_iret xc16_23 (Or.inr ⟨rfl, (by omega)⟩) ?_
    exact k2 h0

theorem xk16 {ro : Nat → Nat × (Nat → Int32)} {d : Nat} {Q : Option Value → pmS → Prop} {x y : Int} {a : xA} {b : xB} (hd : 1 ≤ d) (h_x : 0 ≤ x ∧ x < 7) (h_y : 0 ≤ y ∧ y < 7) (hT : xBit (b 3 3) (7 * x + y) = true → Q (some (xV 1)) (xS a b)) (hF : xBit (b 3 3) (7 * x + y) = false → Q (some (xV 0)) (xS a b)) : pmCs ro d 16 [.ref 3, xV x, xV y] (xS a b) Q := by
  refine pmCs_deep (d := 1) (xg16 (w16 ⟨by omega, by omega⟩ ⟨by omega, by omega⟩ (fun h => hF ?_) (fun h => hT ?_))) hd
  · rw [xCmp0] at h
    exact (xBit_shr (by omega) (by omega)).mp h
  · rw [xCmp0, xBit_shr (by omega) (by omega)] at h
    simpa using h
theorem xg15 {ro : Nat → Nat × (Nat → Int32)} {d : Nat} {Q : Option Value → pmS → Prop} {a : xA} {b : xB} {x y : Int} (h : pmWp ro d 5 15 2 0 [some (.ref 3), some (xV x), some (xV y)] [] (xS a b) Q) : pmCs ro (d + 1) 15 [.ref 3, xV x, xV y] (xS a b) Q := x_go xi15 rfl rfl rfl rfl rfl h
theorem w15 {ro : Nat → Nat × (Nat → Int32)} {d : Nat} {Q : Option Value → pmS → Prop} {x y : Int} {a : xA} {b : xB} (h_x : xR x) (h_y : xR y) (h1x : 0 ≤ x ∧ x < 7) (h1y : 0 ≤ y ∧ y < 7) (hd : 1 ≤ d)
    (k1 : (xBit (b 3 3) (7 * x + y) = true) → Q (some (xV 0)) (xS a b))
    (k2 : (xBit (b 3 3) (7 * x + y) = false) → Q (some (xV 1)) (xS a (xU b 3 3 ((b 3 3) ||| ((xShL (1 : Int64) (7 * x + y)) ||| (xShL (1 : Int64) (7 * y + x))))))) :
    pmWp ro d 5 15 2 0 [some (.ref 3), some (xV x), some (xV y)] [] (xS a b) Q := by
  refine x_aloadn xc15_0 rfl ?_
  refine x_iloadn xc15_1 rfl ?_
  refine x_iloadn xc15_2 rfl ?_
  refine x_cV (as := [xV x, xV y]) (rest := []) xc15_3 rfl xi16 xz3 ⟨rfl, rfl⟩ rfl rfl ?_
  refine xk16 (by omega) (by omega) (by omega) (fun h0 => ?_) (fun h1 => ?_)
  · refine x_ifeq xc15_6 (xRk (by decide)) (fun h => absurd h (by omega)) (fun _ => ?_)
    refine x_iconst xc15_9 ?_
    refine x_iret xc15_10 (Or.inr ⟨rfl, (by omega)⟩) ?_
    exact k1 h0
  · refine x_ifeq xc15_6 (xRk (by decide)) (fun _ => ?_) (fun h => absurd h (by omega))
    refine x_aloadn xc15_11 rfl ?_
    refine x_dup xc15_12 rfl ?_
    refine x_gfl (k := 3) xc15_13 rfl rfl rfl xz3 ?_
    refine x_lconst (l := 1) xc15_16 rfl ?_
    refine x_bipush xc15_17 (by decide) ?_
    refine x_iloadn xc15_19 rfl ?_
    refine x_imul xc15_20 ?_
    refine x_iloadn xc15_21 rfl ?_
    refine x_iadd xc15_22 ?_
    refine x_lshl xc15_23 ?_
    refine x_lconst (l := 1) xc15_24 rfl ?_
    refine x_bipush xc15_25 (by decide) ?_
    refine x_iloadn xc15_27 rfl ?_
    refine x_imul xc15_28 ?_
    refine x_iloadn xc15_29 rfl ?_
    refine x_iadd xc15_30 ?_
    refine x_lshl xc15_31 ?_
    refine x_lor xc15_32 ?_
    refine x_lor xc15_33 ?_
    refine x_pfl (k := 3) xc15_34 rfl ⟨rfl, rfl⟩ rfl xz3 ?_
    refine x_iconst xc15_37 ?_
    refine x_iret xc15_38 (Or.inr ⟨rfl, (by omega)⟩) ?_
    exact k2 h1

theorem xk15 {ro : Nat → Nat × (Nat → Int32)} {d : Nat} {Q : Option Value → pmS → Prop} {x y : Int} {a : xA} {b : xB} (hd : 2 ≤ d) (h_x : 0 ≤ x ∧ x < 7) (h_y : 0 ≤ y ∧ y < 7) (hT : xBit (b 3 3) (7 * x + y) = true → Q (some (xV 0)) (xS a b)) (hF : xBit (b 3 3) (7 * x + y) = false → Q (some (xV 1)) (xS a (xU b 3 3 ((b 3 3) ||| ((xShL (1 : Int64) (7 * x + y)) ||| (xShL (1 : Int64) (7 * y + x))))))) : pmCs ro d 15 [.ref 3, xV x, xV y] (xS a b) Q := pmCs_deep (d := 2) (xg15 (w15 ⟨by omega, by omega⟩ ⟨by omega, by omega⟩ h_x h_y (by decide) hT hF)) hd
theorem xg13 {ro : Nat → Nat × (Nat → Int32)} {d : Nat} {Q : Option Value → pmS → Prop} {a : xA} {b : xB} {x y : Int} (h : pmWp ro d 11 13 2 0 [some (.ref 0), some (xV x), some (xV y)] [] (xS a b) Q) : pmCs ro (d + 1) 13 [.ref 0, xV x, xV y] (xS a b) Q := x_go xi13 rfl rfl rfl rfl rfl h
theorem w13 {ro : Nat → Nat × (Nat → Int32)} {d : Nat} {Q : Option Value → pmS → Prop} {x y : Int} {a : xA} {b : xB} (hT : kOk (xS a b)) (hA : xAr a) (h_x : xR x) (h_y : xR y) (hd : 4 ≤ d)
    (k1 : (¬ a 0 12 = 0) → Q (some (xV 0)) (xS a b))
    (k2 : (¬ ¬ a 0 12 = 0) → (0 ≤ x ∧ x < 7) → (0 ≤ y ∧ y < 7) → (x = y) → Q (some (xV 0)) (xS a b))
    (k3 : (¬ ¬ a 0 12 = 0) → (0 ≤ x ∧ x < 7) → (0 ≤ y ∧ y < 7) → (¬ x = y) → (xBit (b 3 3) (7 * x + y) = true) → Q (some (xV 0)) (xS a b))
    (k4 : (¬ ¬ a 0 12 = 0) → (0 ≤ x ∧ x < 7) → (0 ≤ y ∧ y < 7) → (¬ x = y) → (xBit (b 3 3) (7 * x + y) = false) → Q (some (xV 1)) (xS a (xU b 3 3 ((b 3 3) ||| ((xShL (1 : Int64) (7 * x + y)) ||| (xShL (1 : Int64) (7 * y + x)))))))
    (k5 : (¬ ¬ a 0 12 = 0) → (0 ≤ x ∧ x < 7) → (¬ (0 ≤ y ∧ y < 7)) → Q (some (xV 0)) (xS a b))
    (k6 : (¬ ¬ a 0 12 = 0) → (¬ (0 ≤ x ∧ x < 7)) → Q (some (xV 0)) (xS a b)) :
    pmWp ro d 11 13 2 0 [some (.ref 0), some (xV x), some (xV y)] [] (xS a b) Q := by
  refine x_aloadn xc13_0 rfl ?_
  refine x_gfi (k := 12) xc13_1 rfl (Or.inr rfl) rfl xz0 ?_
  refine x_ifne xc13_4 (xRk (by have g0 := xt0_12 hT hA; omega)) (fun h0 => ?_) (fun h0 => ?_)
  · refine x_iconst xc13_42 ?_
    refine x_iret xc13_43 (Or.inr ⟨rfl, (by omega)⟩) ?_
    exact k1 h0
  · refine x_iloadn xc13_7 rfl ?_
    refine x_cS (as := [xV x]) (rest := []) xc13_8 rfl rfl xi14 ⟨rfl, rfl⟩ rfl rfl ?_
    refine xk14 (by omega) (xRk (by have g0 := xRb h_x; omega)) (fun h1 => ?_) (fun h2 => ?_)
    · refine x_ifeq xc13_11 (xRk (by decide)) (fun h => absurd h (by omega)) (fun _ => ?_)
      refine x_iloadn xc13_14 rfl ?_
      refine x_cS (as := [xV y]) (rest := []) xc13_15 rfl rfl xi14 ⟨rfl, rfl⟩ rfl rfl ?_
      refine xk14 (by omega) (xRk (by have g0 := xRb h_y; omega)) (fun h4 => ?_) (fun h5 => ?_)
      · refine x_ifeq xc13_18 (xRk (by decide)) (fun h => absurd h (by omega)) (fun _ => ?_)
        refine x_iloadn xc13_21 rfl ?_
        refine x_iloadn xc13_22 rfl ?_
        refine x_iceq xc13_23 (xRk (by have g0 := xRb h_x; omega)) (xRk (by have g0 := xRb h_y; omega)) (fun h7 => ?_) (fun h7 => ?_)
        · refine x_iconst xc13_42 ?_
          refine x_iret xc13_43 (Or.inr ⟨rfl, (by omega)⟩) ?_
          exact k2 h0 h1 h4 h7
        · refine x_aloadn xc13_26 rfl ?_
          refine x_gfr xc13_27 rfl rfl xz0 rfl ?_
          refine x_iloadn xc13_30 rfl ?_
          refine x_iloadn xc13_31 rfl ?_
          refine x_cV (as := [xV x, xV y]) (rest := []) xc13_32 rfl xi15 xz3 ⟨rfl, rfl⟩ rfl rfl ?_
          refine xk15 (by omega) (by omega) (by omega) (fun h8 => ?_) (fun h9 => ?_)
          · refine x_ifeq xc13_35 (xRk (by decide)) (fun _ => ?_) (fun h => absurd h (by omega))
            refine x_iconst xc13_42 ?_
            refine x_iret xc13_43 (Or.inr ⟨rfl, (by omega)⟩) ?_
            exact k3 h0 h1 h4 h7 h8
          · refine x_ifeq xc13_35 (xRk (by decide)) (fun h => absurd h (by omega)) (fun _ => ?_)
            refine x_iconst xc13_38 ?_
            refine x_goto xc13_39 ?_
            refine x_iret xc13_43 (Or.inr ⟨rfl, (by omega)⟩) ?_
            exact k4 h0 h1 h4 h7 h9
      · refine x_ifeq xc13_18 (xRk (by decide)) (fun _ => ?_) (fun h => absurd h (by omega))
        refine x_iconst xc13_42 ?_
        refine x_iret xc13_43 (Or.inr ⟨rfl, (by omega)⟩) ?_
        exact k5 h0 h1 h5
    · refine x_ifeq xc13_11 (xRk (by decide)) (fun _ => ?_) (fun h => absurd h (by omega))
      refine x_iconst xc13_42 ?_
      refine x_iret xc13_43 (Or.inr ⟨rfl, (by omega)⟩) ?_
      exact k6 h0 h2

theorem xg137 {ro : Nat → Nat × (Nat → Int32)} {d : Nat} {Q : Option Value → pmS → Prop} {a : xA} {b : xB} {x y : Int} (h : pmWp ro d 12 137 2 0 [some (.ref 87), some (xV x), some (xV y)] [] (xS a b) Q) : pmCs ro (d + 1) 137 [.ref 87, xV x, xV y] (xS a b) Q := x_go xi137 rfl rfl rfl rfl rfl h
theorem w137 {ro : Nat → Nat × (Nat → Int32)} {d : Nat} {Q : Option Value → pmS → Prop} {x y : Int} {a : xA} {b : xB} (hT : kOk (xS a b)) (hA : xAr a) (h_x : xR x) (h_y : xR y) (hd : 4 ≤ d)
    (k1 : (¬ a 87 4 = 0) → Q (some (xV 0)) (xS a b))
    (k2 : (¬ ¬ a 87 4 = 0) → (0 ≤ x ∧ x < 7) → (0 ≤ y ∧ y < 7) → (x = y) → Q (some (xV 0)) (xS a b))
    (k3 : (¬ ¬ a 87 4 = 0) → (0 ≤ x ∧ x < 7) → (0 ≤ y ∧ y < 7) → (¬ x = y) → (a 90 (7 * x + y) = 0) → Q (some (xV 1)) (xS (xU (xU a 90 (7 * x + y) 1) 90 (7 * y + x) 1) b))
    (k4 : (¬ ¬ a 87 4 = 0) → (0 ≤ x ∧ x < 7) → (0 ≤ y ∧ y < 7) → (¬ x = y) → (¬ a 90 (7 * x + y) = 0) → Q (some (xV 0)) (xS a b))
    (k5 : (¬ ¬ a 87 4 = 0) → (0 ≤ x ∧ x < 7) → (¬ (0 ≤ y ∧ y < 7)) → Q (some (xV 0)) (xS a b))
    (k6 : (¬ ¬ a 87 4 = 0) → (¬ (0 ≤ x ∧ x < 7)) → Q (some (xV 0)) (xS a b)) :
    pmWp ro d 12 137 2 0 [some (.ref 87), some (xV x), some (xV y)] [] (xS a b) Q := by
  refine x_aloadn xc137_0 rfl ?_
  refine x_gfi (k := 4) xc137_1 rfl (Or.inr rfl) rfl xz87 ?_
  refine x_ifne xc137_4 (xRk (by have g0 := xt87_4 hT hA; omega)) (fun h0 => ?_) (fun h0 => ?_)
  · refine x_iconst xc137_40 ?_
    refine x_iret xc137_41 (Or.inr ⟨rfl, (by omega)⟩) ?_
    exact k1 h0
  · refine x_iloadn xc137_7 rfl ?_
    refine x_cS (as := [xV x]) (rest := []) xc137_8 rfl rfl xi138 ⟨rfl, rfl⟩ rfl rfl ?_
    refine xk138 (by omega) (xRk (by have g0 := xRb h_x; omega)) (fun h1 => ?_) (fun h2 => ?_)
    · refine x_ifeq xc137_11 (xRk (by decide)) (fun h => absurd h (by omega)) (fun _ => ?_)
      refine x_iloadn xc137_14 rfl ?_
      refine x_cS (as := [xV y]) (rest := []) xc137_15 rfl rfl xi138 ⟨rfl, rfl⟩ rfl rfl ?_
      refine xk138 (by omega) (xRk (by have g0 := xRb h_y; omega)) (fun h4 => ?_) (fun h5 => ?_)
      · refine x_ifeq xc137_18 (xRk (by decide)) (fun h => absurd h (by omega)) (fun _ => ?_)
        refine x_iloadn xc137_21 rfl ?_
        refine x_iloadn xc137_22 rfl ?_
        refine x_iceq xc137_23 (xRk (by have g0 := xRb h_x; omega)) (xRk (by have g0 := xRb h_y; omega)) (fun h7 => ?_) (fun h7 => ?_)
        · refine x_iconst xc137_40 ?_
          refine x_iret xc137_41 (Or.inr ⟨rfl, (by omega)⟩) ?_
          exact k2 h0 h1 h4 h7
        · refine x_aloadn xc137_26 rfl ?_
          refine x_gfr xc137_27 rfl rfl xz87 rfl ?_
          refine x_bipush xc137_30 (by decide) ?_
          refine x_iloadn xc137_32 rfl ?_
          refine x_imul xc137_33 ?_
          refine x_iloadn xc137_34 rfl ?_
          refine x_iadd xc137_35 ?_
          refine x_bal xc137_36 xz90 (Or.inl rfl) (by have g0 := xRb h_x; have g1 := xRb h_y; omega) (by have g0 := xRb h_x; have g1 := xRb h_y; omega) (by have g0 := xRb h_x; have g1 := xRb h_y; omega) ?_
          refine x_ifeq xc137_37 (xRk (by have g0 := xRb h_x; have g1 := xRb h_y; have g2 := xt90 hT hA (k := 7 * x + y) (by omega); omega)) (fun h8 => ?_) (fun h8 => ?_)
          · refine x_aloadn xc137_42 rfl ?_
            refine x_gfr xc137_43 rfl rfl xz87 rfl ?_
            refine x_bipush xc137_46 (by decide) ?_
            refine x_iloadn xc137_48 rfl ?_
            refine x_imul xc137_49 ?_
            refine x_iloadn xc137_50 rfl ?_
            refine x_iadd xc137_51 ?_
            refine x_iconst xc137_52 ?_
            refine x_zas (by omega) xc137_53 xz90 (by have g0 := xRb h_x; have g1 := xRb h_y; omega) (by have g0 := xRb h_x; have g1 := xRb h_y; omega) (by have g0 := xRb h_x; have g1 := xRb h_y; omega) ?_
            refine x_aloadn xc137_54 rfl ?_
            refine x_gfr xc137_55 rfl rfl xz87 rfl ?_
            refine x_bipush xc137_58 (by decide) ?_
            refine x_iloadn xc137_60 rfl ?_
            refine x_imul xc137_61 ?_
            refine x_iloadn xc137_62 rfl ?_
            refine x_iadd xc137_63 ?_
            refine x_iconst xc137_64 ?_
            refine x_zas (by omega) xc137_65 xz90 (by have g0 := xRb h_y; have g1 := xRb h_x; omega) (by have g0 := xRb h_y; have g1 := xRb h_x; omega) (by have g0 := xRb h_y; have g1 := xRb h_x; omega) ?_
            refine x_iconst xc137_66 ?_
            refine x_iret xc137_67 (Or.inr ⟨rfl, (by omega)⟩) ?_
            exact k3 h0 h1 h4 h7 h8
          · refine x_iconst xc137_40 ?_
            refine x_iret xc137_41 (Or.inr ⟨rfl, (by omega)⟩) ?_
            exact k4 h0 h1 h4 h7 h8
      · refine x_ifeq xc137_18 (xRk (by decide)) (fun _ => ?_) (fun h => absurd h (by omega))
        refine x_iconst xc137_40 ?_
        refine x_iret xc137_41 (Or.inr ⟨rfl, (by omega)⟩) ?_
        exact k5 h0 h1 h5
    · refine x_ifeq xc137_11 (xRk (by decide)) (fun _ => ?_) (fun h => absurd h (by omega))
      refine x_iconst xc137_40 ?_
      refine x_iret xc137_41 (Or.inr ⟨rfl, (by omega)⟩) ?_
      exact k6 h0 h2

theorem xg19 {ro : Nat → Nat × (Nat → Int32)} {d : Nat} {Q : Option Value → pmS → Prop} {a : xA} {b : xB} {x y : Int} {l : Int64} (h : pmWp ro d 11 19 3 0 [some (.long l), none, some (xV x), some (xV y)] [] (xS a b) Q) : pmCs ro (d + 1) 19 [.long l, xV x, xV y] (xS a b) Q := x_go xi19 rfl rfl rfl rfl rfl h
theorem w19 {ro : Nat → Nat × (Nat → Int32)} {d : Nat} {Q : Option Value → pmS → Prop} {x y : Int} {l : Int64} {a : xA} {b : xB} (h_x : xR x) (h_y : xR y)
    (k1 : Q (some (.long ((l &&& ((xShL (15 : Int64) (4 * x)) ^^^ (-1 : Int64))) ||| (xShL (Int64.ofInt y) (4 * x))))) (xS a b)) :
    pmWp ro d 11 19 3 0 [some (.long l), none, some (xV x), some (xV y)] [] (xS a b) Q := by
  refine x_lloadn xc19_0 rfl ?_
  refine x_ldc2 (l := 15) xc19_1 rfl ?_
  refine x_iconst xc19_4 ?_
  refine x_iloadn xc19_5 rfl ?_
  refine x_imul xc19_6 ?_
  refine x_lshl xc19_7 ?_
  refine x_ldc2 (l := (-1)) xc19_8 rfl ?_
  refine x_lxor xc19_11 ?_
  refine x_land xc19_12 ?_
  refine x_iloadn xc19_13 rfl ?_
  refine x_i2l (xRk (by have g0 := xRb h_y; omega)) xc19_14 ?_
  refine x_iconst xc19_15 ?_
  refine x_iloadn xc19_16 rfl ?_
  refine x_imul xc19_17 ?_
  refine x_lshl xc19_18 ?_
  refine x_lor xc19_19 ?_
  refine x_lret xc19_20 rfl ?_
  exact k1

/-- a slot written -/
def xWith (l : Int64) (x y : Int) : Int64 := (l &&& ((xShL (15 : Int64) (4 * x)) ^^^ (-1 : Int64))) ||| (xShL (Int64.ofInt y) (4 * x))
theorem xk19 {ro : Nat → Nat × (Nat → Int32)} {d : Nat} {Q : Option Value → pmS → Prop} {x y : Int} {l : Int64} {a : xA} {b : xB} (hd : 1 ≤ d) (h_x : xR x) (h_y : xR y) (hQ : Q (some (.long (xWith l x y))) (xS a b)) : pmCs ro d 19 [.long l, xV x, xV y] (xS a b) Q := pmCs_deep (d := 1) (xg19 (w19 h_x h_y hQ)) hd
theorem xg17 {ro : Nat → Nat × (Nat → Int32)} {d : Nat} {Q : Option Value → pmS → Prop} {a : xA} {b : xB} {x y : Int} (h : pmWp ro d 11 17 2 0 [some (.ref 0), some (xV x), some (xV y)] [] (xS a b) Q) : pmCs ro (d + 1) 17 [.ref 0, xV x, xV y] (xS a b) Q := x_go xi17 rfl rfl rfl rfl rfl h
theorem w17 {ro : Nat → Nat × (Nat → Int32)} {d : Nat} {Q : Option Value → pmS → Prop} {x y : Int} {a : xA} {b : xB} (hT : kOk (xS a b)) (hA : xAr a) (h_x : xR x) (h_y : xR y) (hd : 4 ≤ d)
    (k1 : (¬ a 0 12 = 0) → Q (some (xV 0)) (xS a b))
    (k2 : (¬ ¬ a 0 12 = 0) → (0 ≤ x ∧ x < 4) → (0 ≤ y ∧ y < 7) → Q (some (xV 1)) (xS a (xU b 21 4 (xWith (b 21 4) x (y + 1)))))
    (k3 : (¬ ¬ a 0 12 = 0) → (0 ≤ x ∧ x < 4) → (¬ (0 ≤ y ∧ y < 7)) → Q (some (xV 0)) (xS a b))
    (k4 : (¬ ¬ a 0 12 = 0) → (¬ (0 ≤ x ∧ x < 4)) → Q (some (xV 0)) (xS a b)) :
    pmWp ro d 11 17 2 0 [some (.ref 0), some (xV x), some (xV y)] [] (xS a b) Q := by
  refine x_aloadn xc17_0 rfl ?_
  refine x_gfi (k := 12) xc17_1 rfl (Or.inr rfl) rfl xz0 ?_
  refine x_ifne xc17_4 (xRk (by have g0 := xt0_12 hT hA; omega)) (fun h0 => ?_) (fun h0 => ?_)
  · refine x_iconst xc17_21 ?_
    refine x_iret xc17_22 (Or.inr ⟨rfl, (by omega)⟩) ?_
    exact k1 h0
  · refine x_iloadn xc17_7 rfl ?_
    refine x_cS (as := [xV x]) (rest := []) xc17_8 rfl rfl xi18 ⟨rfl, rfl⟩ rfl rfl ?_
    refine xk18 (by omega) (xRk (by have g0 := xRb h_x; omega)) (fun h1 => ?_) (fun h2 => ?_)
    · refine x_ifeq xc17_11 (xRk (by decide)) (fun h => absurd h (by omega)) (fun _ => ?_)
      refine x_iloadn xc17_14 rfl ?_
      refine x_cS (as := [xV y]) (rest := []) xc17_15 rfl rfl xi14 ⟨rfl, rfl⟩ rfl rfl ?_
      refine xk14 (by omega) (xRk (by have g0 := xRb h_y; omega)) (fun h4 => ?_) (fun h5 => ?_)
      · refine x_ifne xc17_18 (xRk (by decide)) (fun _ => ?_) (fun h => absurd h (by omega))
        refine x_aloadn xc17_23 rfl ?_
        refine x_gfr xc17_24 rfl rfl xz0 rfl ?_
        refine x_aloadn xc17_27 rfl ?_
        refine x_gfr xc17_28 rfl rfl xz0 rfl ?_
        refine x_gfl (k := 4) xc17_31 rfl rfl rfl xz21 ?_
        refine x_iloadn xc17_34 rfl ?_
        refine x_iloadn xc17_35 rfl ?_
        refine x_iconst xc17_36 ?_
        refine x_iadd xc17_37 ?_
        refine x_cS (as := [.long (b 21 4), xV x, xV (y + 1)]) (rest := [.ref 21]) xc17_38 rfl rfl xi19 ⟨rfl, rfl⟩ rfl rfl ?_
        refine xk19 (by omega) (xRk (by have g0 := xRb h_x; omega)) (xRk (by have g0 := xRb h_y; omega)) ?_
        refine x_pfl (k := 4) xc17_41 rfl ⟨rfl, rfl⟩ rfl xz21 ?_
        refine x_iconst xc17_44 ?_
        refine x_iret xc17_45 (Or.inr ⟨rfl, (by omega)⟩) ?_
        exact k2 h0 h1 h4
      · refine x_ifne xc17_18 (xRk (by decide)) (fun h => absurd h (by omega)) (fun _ => ?_)
        refine x_iconst xc17_21 ?_
        refine x_iret xc17_22 (Or.inr ⟨rfl, (by omega)⟩) ?_
        exact k3 h0 h1 h5
    · refine x_ifeq xc17_11 (xRk (by decide)) (fun _ => ?_) (fun h => absurd h (by omega))
      refine x_iconst xc17_21 ?_
      refine x_iret xc17_22 (Or.inr ⟨rfl, (by omega)⟩) ?_
      exact k4 h0 h2

theorem xg139 {ro : Nat → Nat × (Nat → Int32)} {d : Nat} {Q : Option Value → pmS → Prop} {a : xA} {b : xB} {x y : Int} (h : pmWp ro d 12 139 2 0 [some (.ref 87), some (xV x), some (xV y)] [] (xS a b) Q) : pmCs ro (d + 1) 139 [.ref 87, xV x, xV y] (xS a b) Q := x_go xi139 rfl rfl rfl rfl rfl h
theorem w139 {ro : Nat → Nat × (Nat → Int32)} {d : Nat} {Q : Option Value → pmS → Prop} {x y : Int} {a : xA} {b : xB} (hT : kOk (xS a b)) (hA : xAr a) (h_x : xR x) (h_y : xR y) (hd : 4 ≤ d)
    (k1 : (¬ a 87 4 = 0) → Q (some (xV 0)) (xS a b))
    (k2 : (¬ ¬ a 87 4 = 0) → (0 ≤ x ∧ x < 4) → (0 ≤ y ∧ y < 7) → Q (some (xV 1)) (xS (xU a 88 (0 + x) y) b))
    (k3 : (¬ ¬ a 87 4 = 0) → (0 ≤ x ∧ x < 4) → (¬ (0 ≤ y ∧ y < 7)) → Q (some (xV 0)) (xS a b))
    (k4 : (¬ ¬ a 87 4 = 0) → (¬ (0 ≤ x ∧ x < 4)) → Q (some (xV 0)) (xS a b)) :
    pmWp ro d 12 139 2 0 [some (.ref 87), some (xV x), some (xV y)] [] (xS a b) Q := by
  refine x_aloadn xc139_0 rfl ?_
  refine x_gfi (k := 4) xc139_1 rfl (Or.inr rfl) rfl xz87 ?_
  refine x_ifne xc139_4 (xRk (by have g0 := xt87_4 hT hA; omega)) (fun h0 => ?_) (fun h0 => ?_)
  · refine x_iconst xc139_21 ?_
    refine x_iret xc139_22 (Or.inr ⟨rfl, (by omega)⟩) ?_
    exact k1 h0
  · refine x_iloadn xc139_7 rfl ?_
    refine x_cS (as := [xV x]) (rest := []) xc139_8 rfl rfl xi140 ⟨rfl, rfl⟩ rfl rfl ?_
    refine xk140 (by omega) (xRk (by have g0 := xRb h_x; omega)) (fun h1 => ?_) (fun h2 => ?_)
    · refine x_ifeq xc139_11 (xRk (by decide)) (fun h => absurd h (by omega)) (fun _ => ?_)
      refine x_iloadn xc139_14 rfl ?_
      refine x_cS (as := [xV y]) (rest := []) xc139_15 rfl rfl xi138 ⟨rfl, rfl⟩ rfl rfl ?_
      refine xk138 (by omega) (xRk (by have g0 := xRb h_y; omega)) (fun h4 => ?_) (fun h5 => ?_)
      · refine x_ifne xc139_18 (xRk (by decide)) (fun _ => ?_) (fun h => absurd h (by omega))
        refine x_aloadn xc139_23 rfl ?_
        refine x_gfr xc139_24 rfl rfl xz87 rfl ?_
        refine x_iconst xc139_27 ?_
        refine x_iloadn xc139_28 rfl ?_
        refine x_iadd xc139_29 ?_
        refine x_iloadn xc139_30 rfl ?_
        refine x_ias xc139_31 xz88 (by have g0 := xRb h_x; omega) (by have g0 := xRb h_x; omega) (by have g0 := xRb h_x; omega) ?_
        refine x_iconst xc139_32 ?_
        refine x_iret xc139_33 (Or.inr ⟨rfl, (by omega)⟩) ?_
        exact k2 h0 h1 h4
      · refine x_ifne xc139_18 (xRk (by decide)) (fun h => absurd h (by omega)) (fun _ => ?_)
        refine x_iconst xc139_21 ?_
        refine x_iret xc139_22 (Or.inr ⟨rfl, (by omega)⟩) ?_
        exact k3 h0 h1 h5
    · refine x_ifeq xc139_11 (xRk (by decide)) (fun _ => ?_) (fun h => absurd h (by omega))
      refine x_iconst xc139_21 ?_
      refine x_iret xc139_22 (Or.inr ⟨rfl, (by omega)⟩) ?_
      exact k4 h0 h2

theorem xg57 {ro : Nat → Nat × (Nat → Int32)} {d : Nat} {Q : Option Value → pmS → Prop} {a : xA} {b : xB} (h : pmWp ro d 11 57 2 0 [some (.ref 0)] [] (xS a b) Q) : pmCs ro (d + 1) 57 [.ref 0] (xS a b) Q := x_go xi57 rfl rfl rfl rfl rfl h
theorem w57 {ro : Nat → Nat × (Nat → Int32)} {d : Nat} {Q : Option Value → pmS → Prop} {a : xA} {b : xB} (hT : kOk (xS a b)) (hA : xAr a) (hd : 4 ≤ d)
    (k1 : (a 0 12 = 0) → pmCs ro d 58 [.ref 3] (xS (xU a 0 12 1) b) fun r σ' => pmWp ro d 11 57 2 21 [some (.ref 0)] (r.toList ++ []) σ' Q)
    (k2 : (¬ a 0 12 = 0) → Q (some (xV 0)) (xS a b)) :
    pmWp ro d 11 57 2 0 [some (.ref 0)] [] (xS a b) Q := by
  refine x_aloadn xc57_0 rfl ?_
  refine x_gfi (k := 12) xc57_1 rfl (Or.inr rfl) rfl xz0 ?_
  refine x_ifeq xc57_4 (xRk (by have g0 := xt0_12 hT hA; omega)) (fun h0 => ?_) (fun h0 => ?_)
  · refine x_aloadn xc57_9 rfl ?_
    refine x_iconst xc57_10 ?_
    refine x_pfz (k := 12) (by omega) xc57_11 rfl ⟨rfl, rfl⟩ rfl xz0 ?_
    refine x_aloadn xc57_14 rfl ?_
    refine x_gfr xc57_15 rfl rfl xz0 rfl ?_
    refine x_cV (as := []) (rest := []) xc57_18 rfl xi58 xz3 ⟨rfl, rfl⟩ rfl rfl ?_
    exact k1 h0
  · refine x_iconst xc57_7 ?_
    refine x_iret xc57_8 (Or.inr ⟨rfl, (by omega)⟩) ?_
    exact k2 h0

theorem xg173 {ro : Nat → Nat × (Nat → Int32)} {d : Nat} {Q : Option Value → pmS → Prop} {a : xA} {b : xB} (h : pmWp ro d 12 173 2 0 [some (.ref 87)] [] (xS a b) Q) : pmCs ro (d + 1) 173 [.ref 87] (xS a b) Q := x_go xi173 rfl rfl rfl rfl rfl h
theorem w173 {ro : Nat → Nat × (Nat → Int32)} {d : Nat} {Q : Option Value → pmS → Prop} {a : xA} {b : xB} (hT : kOk (xS a b)) (hA : xAr a) (hd : 4 ≤ d)
    (k1 : (a 87 4 = 0) → pmCs ro d 174 [.ref 87] (xS (xU a 87 4 1) b) fun r σ' => pmWp ro d 12 173 2 18 [some (.ref 87)] (r.toList ++ []) σ' Q)
    (k2 : (¬ a 87 4 = 0) → Q (some (xV 0)) (xS a b)) :
    pmWp ro d 12 173 2 0 [some (.ref 87)] [] (xS a b) Q := by
  refine x_aloadn xc173_0 rfl ?_
  refine x_gfi (k := 4) xc173_1 rfl (Or.inr rfl) rfl xz87 ?_
  refine x_ifeq xc173_4 (xRk (by have g0 := xt87_4 hT hA; omega)) (fun h0 => ?_) (fun h0 => ?_)
  · refine x_aloadn xc173_9 rfl ?_
    refine x_iconst xc173_10 ?_
    refine x_pfz (k := 4) (by omega) xc173_11 rfl ⟨rfl, rfl⟩ rfl xz87 ?_
    refine x_aloadn xc173_14 rfl ?_
    refine x_cV (as := []) (rest := []) xc173_15 rfl xi174 xz87 ⟨rfl, rfl⟩ rfl rfl ?_
    exact k1 h0
  · refine x_iconst xc173_7 ?_
    refine x_iret xc173_8 (Or.inr ⟨rfl, (by omega)⟩) ?_
    exact k2 h0

theorem w57_21 {ro : Nat → Nat × (Nat → Int32)} {d : Nat} {Q : Option Value → pmS → Prop} {a : xA} {b : xB} (hT : kOk (xS a b)) (hA : xAr a) (hd : 4 ≤ d)
    (k1 : pmCs ro d 59 [.ref 43, .ref 21] (xS a b) fun r σ' => pmWp ro d 11 57 2 32 [some (.ref 0)] (r.toList ++ []) σ' Q) :
    pmWp ro d 11 57 2 21 [some (.ref 0)] [] (xS a b) Q := by
  refine x_aloadn xc57_21 rfl ?_
  refine x_gfr xc57_22 rfl rfl xz0 rfl ?_
  refine x_aloadn xc57_25 rfl ?_
  refine x_gfr xc57_26 rfl rfl xz0 rfl ?_
  refine x_cV (as := [.ref 21]) (rest := []) xc57_29 rfl xi59 xz43 ⟨rfl, rfl⟩ rfl rfl ?_
  exact k1

theorem w57_32 {ro : Nat → Nat × (Nat → Int32)} {d : Nat} {Q : Option Value → pmS → Prop} {a : xA} {b : xB} (hT : kOk (xS a b)) (hA : xAr a) (hd : 4 ≤ d)
    (k1 : pmCs ro d 65 [.ref 79, .ref 21] (xS a b) fun r σ' => pmWp ro d 11 57 2 43 [some (.ref 0)] (r.toList ++ []) σ' Q) :
    pmWp ro d 11 57 2 32 [some (.ref 0)] [] (xS a b) Q := by
  refine x_aloadn xc57_32 rfl ?_
  refine x_gfr xc57_33 rfl rfl xz0 rfl ?_
  refine x_aloadn xc57_36 rfl ?_
  refine x_gfr xc57_37 rfl rfl xz0 rfl ?_
  refine x_cV (as := [.ref 21]) (rest := []) xc57_40 rfl xi65 xz79 ⟨rfl, rfl⟩ rfl rfl ?_
  exact k1

theorem w57_43 {ro : Nat → Nat × (Nat → Int32)} {d : Nat} {Q : Option Value → pmS → Prop} {a : xA} {b : xB} (hT : kOk (xS a b)) (hA : xAr a) (hd : 4 ≤ d)
    (k1 : Q (some (xV 1)) (xS a b)) :
    pmWp ro d 11 57 2 43 [some (.ref 0)] [] (xS a b) Q := by
  refine x_iconst xc57_43 ?_
  refine x_iret xc57_44 (Or.inr ⟨rfl, (by omega)⟩) ?_
  exact k1

theorem w173_18 {ro : Nat → Nat × (Nat → Int32)} {d : Nat} {Q : Option Value → pmS → Prop} {a : xA} {b : xB} (hT : kOk (xS a b)) (hA : xAr a) (hd : 4 ≤ d)
    (k1 : pmCs ro d 181 [.ref 87, xV 0] (xS a b) fun r σ' => pmWp ro d 12 173 2 23 [some (.ref 87)] (r.toList ++ []) σ' Q) :
    pmWp ro d 12 173 2 18 [some (.ref 87)] [] (xS a b) Q := by
  refine x_aloadn xc173_18 rfl ?_
  refine x_iconst xc173_19 ?_
  refine x_cV (as := [xV 0]) (rest := []) xc173_20 rfl xi181 xz87 ⟨rfl, rfl⟩ rfl rfl ?_
  exact k1

theorem w173_23 {ro : Nat → Nat × (Nat → Int32)} {d : Nat} {Q : Option Value → pmS → Prop} {a : xA} {b : xB} (hT : kOk (xS a b)) (hA : xAr a) (hd : 4 ≤ d)
    (k1 : Q (some (xV 1)) (xS a b)) :
    pmWp ro d 12 173 2 23 [some (.ref 87)] [] (xS a b) Q := by
  refine x_iconst xc173_23 ?_
  refine x_iret xc173_24 (Or.inr ⟨rfl, (by omega)⟩) ?_
  exact k1

theorem w65_8 {ro : Nat → Nat × (Nat → Int32)} {d : Nat} {Q : Option Value → pmS → Prop} {a : xA} {b : xB} (hT : kOk (xS a b)) (hA : xAr a)
    (k1 : Q none (xS a b)) :
    pmWp ro d 0 65 0 8 [some (.ref 79), some (.ref 21)] [] (xS a b) Q := by
  refine x_ret xc65_8 rfl ?_
  exact k1

theorem xg65 {ro : Nat → Nat × (Nat → Int32)} {d : Nat} {Q : Option Value → pmS → Prop} {a : xA} {b : xB} (h : pmWp ro d 0 65 0 0 [some (.ref 79), some (.ref 21)] [] (xS a b) Q) : pmCs ro (d + 1) 65 [.ref 79, .ref 21] (xS a b) Q := x_go xi65 rfl rfl rfl rfl rfl h
theorem w65 {ro : Nat → Nat × (Nat → Int32)} {d : Nat} {Q : Option Value → pmS → Prop} {a : xA} {b : xB} (hT : kOk (xS a b)) (hA : xAr a)
    (k1 : pmCs ro d 66 [.ref 80, .ref 21] (xS a b) fun r σ' => pmWp ro d 0 65 0 8 [some (.ref 79), some (.ref 21)] (r.toList ++ []) σ' Q) :
    pmWp ro d 0 65 0 0 [some (.ref 79), some (.ref 21)] [] (xS a b) Q := by
  refine x_aloadn xc65_0 rfl ?_
  refine x_gfr xc65_1 rfl rfl xz79 rfl ?_
  refine x_aloadn xc65_4 rfl ?_
  refine x_cV (as := [.ref 21]) (rest := []) xc65_5 rfl xi66 xz80 ⟨rfl, rfl⟩ rfl rfl ?_
  exact k1

end
end
