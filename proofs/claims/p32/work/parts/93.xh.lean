/-! exact runs: the heap, calls -/
section
variable {ro : Nat → Nat × (Nat → Int32)} {d o m rt pc t f : Nat} {pl pl' : pmL} {st st' : List Value} {a a' : xA} {b b' : xB} {Q : Option Value → pmS → Prop} {z y k : Int} {i : Instr} {v w : Value} {p n j : Nat} {rs : List (Option Nat)}
theorem xUp (a : xA) (p j : Nat) (z : Int) : pmUp (fun p (k : Nat) => Int32.ofInt (a p (k : Int))) p j (Int32.ofInt z) = fun q (k : Nat) => Int32.ofInt (xU a p (j : Int) z q (k : Int)) := by
  funext q i
  unfold pmUp xU
  by_cases c : q = p ∧ i = j
  · rw [if_pos c, if_pos ⟨c.1, by rw [c.2]⟩]
  · rw [if_neg c, if_neg (fun e => c ⟨e.1, Int.ofNat.inj e.2⟩)]
theorem xUpl (b : xB) (p j : Nat) (l : Int64) : pmUp (fun p (k : Nat) => b p (k : Int)) p j l = fun q (k : Nat) => xU b p (j : Int) l q (k : Int) := by
  funext q i
  unfold pmUp xU
  by_cases c : q = p ∧ i = j
  · rw [if_pos c, if_pos ⟨c.1, by rw [c.2]⟩]
  · rw [if_neg c, if_neg (fun e => c ⟨e.1, Int.ofNat.inj e.2⟩)]
theorem xSi (h : (j : Int) = k) : ((xS a b).1, pmUp (xS a b).2.1 p j (Int32.ofInt z), (xS a b).2.2) = xS (xU a p k z) b := by
  subst h
  show (xZ, pmUp (fun p (k : Nat) => Int32.ofInt (a p (k : Int))) p j (Int32.ofInt z), fun p (k : Nat) => b p (k : Int)) = _
  rw [xUp]
  rfl
theorem xSl {l : Int64} (h : (j : Int) = k) : ((xS a b).1, (xS a b).2.1, pmUp (xS a b).2.2 p j l) = xS a (xU b p k l) := by
  subst h
  show (xZ, (fun p (k : Nat) => Int32.ofInt (a p (k : Int))), pmUp (fun p (k : Nat) => b p (k : Int)) p j l) = _
  rw [xUpl]
  rfl
/-! fields -/
theorem x_gfi {c ci wd : Nat} {nst : Bool} (hc : pmCode m pc = some (.getfield c) ∧ pc + 3 = t) (hf : pmF o c = some (ci, j, wd, nst)) (hk : pmKd ci j = 0 ∨ pmKd ci j = 3) (hj : (j : Int) = k) (hp : xZ[p]? = some (ci, n, rs)) (hw : pmWp ro d o m rt t pl (xV (a p k) :: st) (xS a b) Q) : pmWp ro d o m rt pc pl (.ref p :: st) (xS a b) Q := by
  obtain ⟨h1, rfl⟩ := hc
  refine pmWp_1 h1 (st' := xV (a p k) :: st) ?_ hw
  have hv : pmRd (xS a b) rs ci j p = some (xV (a p k)) := by
    subst hj
    unfold pmRd
    rcases hk with h | h <;> rw [h] <;> rfl
  have hp' : (xS a b).1[p]? = some (ci, n, rs) := hp
  simp only [pmStep, hf, hp', hv, if_true, pmNx]
theorem x_gfl {c ci wd : Nat} {nst : Bool} (hc : pmCode m pc = some (.getfield c) ∧ pc + 3 = t) (hf : pmF o c = some (ci, j, wd, nst)) (hk : pmKd ci j = 1) (hj : (j : Int) = k) (hp : xZ[p]? = some (ci, n, rs)) (hw : pmWp ro d o m rt t pl (.long (b p k) :: st) (xS a b) Q) : pmWp ro d o m rt pc pl (.ref p :: st) (xS a b) Q := by
  obtain ⟨h1, rfl⟩ := hc
  refine pmWp_1 h1 (st' := .long (b p k) :: st) ?_ hw
  have hv : pmRd (xS a b) rs ci j p = some (.long (b p k)) := by
    subst hj
    unfold pmRd
    rw [hk]
    rfl
  have hp' : (xS a b).1[p]? = some (ci, n, rs) := hp
  simp only [pmStep, hf, hp', hv, if_true, pmNx]
theorem x_gfr {c ci wd q : Nat} {nst : Bool} (hc : pmCode m pc = some (.getfield c) ∧ pc + 3 = t) (hf : pmF o c = some (ci, j, wd, nst)) (hk : pmKd ci j = 2) (hp : xZ[p]? = some (ci, n, rs)) (hq : rs[j]? = some (some q)) (hw : pmWp ro d o m rt t pl (.ref q :: st) (xS a b) Q) : pmWp ro d o m rt pc pl (.ref p :: st) (xS a b) Q := by
  obtain ⟨h1, rfl⟩ := hc
  refine pmWp_1 h1 (st' := .ref q :: st) ?_ hw
  have hv : pmRd (xS a b) rs ci j p = some (.ref q) := by
    unfold pmRd
    rw [hk]
    show some (va_rf (pmRf rs j)) = _
    unfold pmRf
    rw [hq]
    rfl
  have hp' : (xS a b).1[p]? = some (ci, n, rs) := hp
  simp only [pmStep, hf, hp', hv, if_true, pmNx]
theorem x_pfi {c ci wd : Nat} {nst : Bool} (hc : pmCode m pc = some (.putfield c) ∧ pc + 3 = t) (hf : pmF o c = some (ci, j, wd, nst)) (hk : pmKd ci j = 0 ∧ pmFn ci j = false) (hj : (j : Int) = k) (hp : xZ[p]? = some (ci, n, rs)) (hw : pmWp ro d o m rt t pl st (xS (xU a p k z) b) Q) : pmWp ro d o m rt pc pl (xV z :: .ref p :: st) (xS a b) Q := by
  obtain ⟨h1, rfl⟩ := hc
  refine pmWp_1 h1 (st' := st) ?_ hw
  have hv : pmWr (xS a b) ci j p (xV z) = some (xS (xU a p k z) b) := by
    rw [← xSi hj]
    unfold pmWr xV
    rw [hk.1]
    rfl
  have hp' : (xS a b).1[p]? = some (ci, n, rs) := hp
  simp only [pmStep, hf, hp', hv, pmNx]
  rw [if_pos ⟨trivial, fun e => by rw [hk.2] at e; cases e⟩]
theorem x_pfz {c ci wd : Nat} {nst : Bool} (hz : z = 0 ∨ z = 1) (hc : pmCode m pc = some (.putfield c) ∧ pc + 3 = t) (hf : pmF o c = some (ci, j, wd, nst)) (hk : pmKd ci j = 3 ∧ pmFn ci j = false) (hj : (j : Int) = k) (hp : xZ[p]? = some (ci, n, rs)) (hw : pmWp ro d o m rt t pl st (xS (xU a p k z) b) Q) : pmWp ro d o m rt pc pl (xV z :: .ref p :: st) (xS a b) Q := by
  obtain ⟨h1, rfl⟩ := hc
  refine pmWp_1 h1 (st' := st) ?_ hw
  have hv : pmWr (xS a b) ci j p (xV z) = some (xS (xU a p k z) b) := by
    rw [← xSi hj]
    unfold pmWr xV
    rw [hk.1]
    have e : Int32.ofInt z = 0 ∨ Int32.ofInt z = 1 := by
      rcases hz with h | h <;> subst h
      · exact Or.inl rfl
      · exact Or.inr rfl
    simp only [e, if_true]
  have hp' : (xS a b).1[p]? = some (ci, n, rs) := hp
  simp only [pmStep, hf, hp', hv, pmNx]
  rw [if_pos ⟨trivial, fun e => by rw [hk.2] at e; cases e⟩]
theorem x_pfl {c ci wd : Nat} {nst : Bool} {l : Int64} (hc : pmCode m pc = some (.putfield c) ∧ pc + 3 = t) (hf : pmF o c = some (ci, j, wd, nst)) (hk : pmKd ci j = 1 ∧ pmFn ci j = false) (hj : (j : Int) = k) (hp : xZ[p]? = some (ci, n, rs)) (hw : pmWp ro d o m rt t pl st (xS a (xU b p k l)) Q) : pmWp ro d o m rt pc pl (.long l :: .ref p :: st) (xS a b) Q := by
  obtain ⟨h1, rfl⟩ := hc
  refine pmWp_1 h1 (st' := st) ?_ hw
  have hv : pmWr (xS a b) ci j p (.long l) = some (xS a (xU b p k l)) := by
    rw [← xSl hj]
    unfold pmWr
    rw [hk.1]
    rfl
  have hp' : (xS a b).1[p]? = some (ci, n, rs) := hp
  simp only [pmStep, hf, hp', hv, pmNx]
  rw [if_pos ⟨trivial, fun e => by rw [hk.2] at e; cases e⟩]
theorem x_gst {c wd : Nat} (hc : pmCode m pc = some (.getstatic c) ∧ pc + 3 = t) (hf : pmG o c = some wd) (hw : pmWp ro d o m rt t pl (.ref 1000 :: st) (xS a b) Q) : pmWp ro d o m rt pc pl st (xS a b) Q := by
  obtain ⟨h1, rfl⟩ := hc
  refine pmWp_1 h1 (st' := .ref 1000 :: st) ?_ hw
  simp only [pmStep, hf, pmNx]
/-! rows -/
theorem x_ial (hc : pmCode m pc = some .iaload ∧ pc + 1 = t) (hp : xZ[p]? = some (50, n, rs)) (hpp : Nat.ble p 999 = true) (h0 : 0 ≤ k) (h1 : k < n) (h2 : k < 2147483648) (hw : pmWp ro d o m rt t pl (xV (a p k) :: st) (xS a b) Q) : pmWp ro d o m rt pc pl (xV k :: .ref p :: st) (xS a b) Q := by
  obtain ⟨g1, rfl⟩ := hc
  refine pmWp_ial g1 (by have := Nat.le_of_ble_eq_true hpp; omega) (show (xS a b).1[p]? = _ from hp) (xIn h0 h1 h2) ?_
  have e : (xS a b).2.1 p (Int32.ofInt k).toNatClampNeg = Int32.ofInt (a p k) := by
    show Int32.ofInt (a p (((Int32.ofInt k).toNatClampNeg : Nat) : Int)) = _
    rw [xIx h0 h2]
  rw [e]
  exact hw
theorem x_lal (hc : pmCode m pc = some .laload ∧ pc + 1 = t) (hp : xZ[p]? = some (51, n, rs)) (h0 : 0 ≤ k) (h1 : k < n) (h2 : k < 2147483648) (hw : pmWp ro d o m rt t pl (.long (b p k) :: st) (xS a b) Q) : pmWp ro d o m rt pc pl (xV k :: .ref p :: st) (xS a b) Q := by
  obtain ⟨g1, rfl⟩ := hc
  refine pmWp_1 g1 (st' := .long (b p k) :: st) ?_ hw
  have hp' : (xS a b).1[p]? = some (51, n, rs) := hp
  have e : (xS a b).2.2 p (Int32.ofInt k).toNatClampNeg = b p k := by
    show b p (((Int32.ofInt k).toNatClampNeg : Nat) : Int) = _
    rw [xIx h0 h2]
  simp only [pmStep, hp', xV, e, pmNx]
  rw [if_pos ⟨trivial, xIn h0 h1 h2⟩]
theorem x_bal {kd : Nat} (hc : pmCode m pc = some .baload ∧ pc + 1 = t) (hp : xZ[p]? = some (kd, n, rs)) (hkd : kd = 52 ∨ kd = 53) (h0 : 0 ≤ k) (h1 : k < n) (h2 : k < 2147483648) (hw : pmWp ro d o m rt t pl (xV (a p k) :: st) (xS a b) Q) : pmWp ro d o m rt pc pl (xV k :: .ref p :: st) (xS a b) Q := by
  obtain ⟨g1, rfl⟩ := hc
  refine pmWp_1 g1 (st' := xV (a p k) :: st) ?_ hw
  have hp' : (xS a b).1[p]? = some (kd, n, rs) := hp
  have e : (xS a b).2.1 p (Int32.ofInt k).toNatClampNeg = Int32.ofInt (a p k) := by
    show Int32.ofInt (a p (((Int32.ofInt k).toNatClampNeg : Nat) : Int)) = _
    rw [xIx h0 h2]
  simp only [pmStep, hp', xV, e, pmNx]
  rw [if_pos ⟨hkd, xIn h0 h1 h2⟩]
theorem x_ias (hc : pmCode m pc = some .iastore ∧ pc + 1 = t) (hp : xZ[p]? = some (50, n, rs)) (h0 : 0 ≤ k) (h1 : k < n) (h2 : k < 2147483648) (hw : pmWp ro d o m rt t pl st (xS (xU a p k z) b) Q) : pmWp ro d o m rt pc pl (xV z :: xV k :: .ref p :: st) (xS a b) Q := by
  obtain ⟨g1, rfl⟩ := hc
  refine pmWp_ias g1 (show (xS a b).1[p]? = _ from hp) (xIn h0 h1 h2) ?_
  rw [xSi (xIx h0 h2)]
  exact hw
theorem x_las {l : Int64} (hc : pmCode m pc = some .lastore ∧ pc + 1 = t) (hp : xZ[p]? = some (51, n, rs)) (h0 : 0 ≤ k) (h1 : k < n) (h2 : k < 2147483648) (hw : pmWp ro d o m rt t pl st (xS a (xU b p k l)) Q) : pmWp ro d o m rt pc pl (.long l :: xV k :: .ref p :: st) (xS a b) Q := by
  obtain ⟨g1, rfl⟩ := hc
  refine pmWp_las g1 (show (xS a b).1[p]? = _ from hp) (xIn h0 h1 h2) ?_
  rw [xSl (xIx h0 h2)]
  exact hw
theorem x_zas (hz : z = 0 ∨ z = 1) (hc : pmCode m pc = some .bastore ∧ pc + 1 = t) (hp : xZ[p]? = some (52, n, rs)) (h0 : 0 ≤ k) (h1 : k < n) (h2 : k < 2147483648) (hw : pmWp ro d o m rt t pl st (xS (xU a p k z) b) Q) : pmWp ro d o m rt pc pl (xV z :: xV k :: .ref p :: st) (xS a b) Q := by
  obtain ⟨g1, rfl⟩ := hc
  refine pmWp_1 g1 (st' := st) ?_ hw
  have hp' : (xS a b).1[p]? = some (52, n, rs) := hp
  have e : vp_nar .boolean (Int32.ofInt z) = Int32.ofInt z := by
    rcases hz with h | h <;> subst h <;> rfl
  simp only [pmStep, hp', xV, e, pmNx]
  rw [if_pos ⟨trivial, xIn h0 h1 h2⟩, xSi (xIx h0 h2)]
theorem x_call {mm : Nat} {as rest : List Value} (hc : pmCode m pc = some i ∧ pc + 3 = t) (hcat : Nat.ble (pmCats rest) 8 = true) (hs : ∀ call, pmStep ro call o m rt pc i pl st (xS a b) = pmRt call mm as pc pl rest (xS a b)) (hw : pmCs ro d mm as (xS a b) fun r σ' => pmWp ro d o m rt t pl (r.toList ++ rest) σ' Q) : pmWp ro d o m rt pc pl st (xS a b) Q := by
  obtain ⟨h1, rfl⟩ := hc
  exact (pmWp_call h1 (Nat.le_of_ble_eq_true hcat) hs).mpr hw
theorem x_cS {mm c wd : Nat} {nst : Bool} {as rest : List Value} {q : pmIt} (hc : pmCode m pc = some (.invokestatic c) ∧ pc + 3 = t) (hm : pmM o c = some (mm, wd, nst)) (h9 : Nat.ble mm 8999 = true) (hi : pmInf[mm]? = some q) (hq : q.2.2.2.1 = 1 ∧ q.2.2.1.2.1 = as.length) (hst : as.reverse ++ rest = st) (hcat : Nat.ble (pmCats rest) 8 = true) (hw : pmCs ro d mm as (xS a b) fun r σ' => pmWp ro d o m rt t pl (r.toList ++ rest) σ' Q) : pmWp ro d o m rt pc pl st (xS a b) Q := by
  refine x_call hc hcat (fun call => ?_) hw
  have h9 := Nat.le_of_ble_eq_true h9
  obtain ⟨y, bb, ⟨oo, n, mx, r⟩, kind, ev⟩ := q
  obtain ⟨q1, q2⟩ := hq
  have q1 : kind = 1 := q1
  have q2 : n = as.length := q2
  subst q1 q2 hst
  simp only [pmStep, hm, hi]
  rw [if_neg (by omega), if_neg (by omega), if_neg (by omega), if_pos (by simp)]
  have e1 : (as.reverse ++ rest).take as.length = as.reverse := by simp [List.take_append]
  have e2 : (as.reverse ++ rest).drop as.length = rest := by simp [List.drop_append]
  rw [e1, e2, List.reverse_reverse]
theorem x_cV {mm c wd : Nat} {nst : Bool} {as rest : List Value} {q : pmIt} (hc : pmCode m pc = some (.invokevirtual c) ∧ pc + 3 = t) (hm : pmM o c = some (mm, wd, nst)) (hi : pmInf[mm]? = some q) (hp : xZ[p]? = some (q.2.2.1.1, n, rs)) (hq : q.2.2.2.1 = 0 ∧ q.2.2.1.2.1 = as.length) (hst : as.reverse ++ .ref p :: rest = st) (hcat : Nat.ble (pmCats rest) 8 = true) (hw : pmCs ro d mm (.ref p :: as) (xS a b) fun r σ' => pmWp ro d o m rt t pl (r.toList ++ rest) σ' Q) : pmWp ro d o m rt pc pl st (xS a b) Q := by
  refine x_call hc hcat (fun call => ?_) hw
  obtain ⟨y, bb, ⟨oo, n', mx, r⟩, kind, ev⟩ := q
  obtain ⟨q1, q2⟩ := hq
  have q1 : kind = 0 := q1
  have q2 : n' = as.length := q2
  have hp' : (xS a b).1[p]? = some (oo, n, rs) := hp
  subst q1 q2 hst
  have e1 : (as.reverse ++ Value.ref p :: rest).take as.length = as.reverse := by simp [List.take_append]
  have e2 : (as.reverse ++ Value.ref p :: rest).drop as.length = Value.ref p :: rest := by simp [List.drop_append]
  simp only [pmStep, hm, hi, e1, e2, hp', List.reverse_reverse, if_true]
/-- going in -/
theorem x_go {mm : Nat} {q : pmIt} {as : List Value} {pl0 : pmL} (hi : pmInf[mm]? = some q) (h1 : Nat.ble (pmPl as).length q.2.2.1.2.2.1 = true) (h2 : Nat.ble q.2.2.1.2.2.1 40 = true) (h3 : Nat.ble q.2.2.2.1 2 = true) (h4 : pmEl mm (pmPl as) = true) (h5 : pmPl as ++ List.replicate (q.2.2.1.2.2.1 - (pmPl as).length) none = pl0) (hw : pmWp ro d q.2.2.1.1 mm (pmRk q.2.2.1.2.2.2 q.2.2.2.1) 0 pl0 [] (xS a b) Q) : pmCs ro (d + 1) mm as (xS a b) Q := by
  obtain ⟨y, bb, ⟨oo, n', mx, r⟩, kind, ev⟩ := q
  refine (pmCs_go hi ⟨Nat.le_of_ble_eq_true h1, Nat.le_of_ble_eq_true h2, Nat.lt_succ_of_le (Nat.le_of_ble_eq_true h3), h4⟩).mpr ?_
  have h5 : pmPl as ++ List.replicate (mx - (pmPl as).length) none = pl0 := h5
  rw [h5]
  exact hw
/-- Math.max, Math.min -/
theorem x_max {c wd : Nat} {nst : Bool} (hc : pmCode m pc = some (.invokestatic c) ∧ pc + 3 = t) (hm : pmM o c = some (9002, wd, nst)) (hz : xR z) (hy : xR y) (hcat : Nat.ble (pmCats st) 8 = true) (hw : pmWp ro d o m rt t pl (xV (if z < y then y else z) :: st) (xS a b) Q) : pmWp ro d o m rt pc pl (xV y :: xV z :: st) (xS a b) Q := by
  obtain ⟨h1, rfl⟩ := hc
  refine pmWp_1 h1 (st' := xV (if z < y then y else z) :: st) ?_ hw
  simp only [pmStep, hm, xV]
  rw [if_neg (by decide), if_pos trivial, if_pos (Nat.le_of_ble_eq_true hcat)]
  by_cases c : z < y
  · rw [if_pos ((xLt hz hy).mpr c), if_pos c]
    rfl
  · rw [if_neg (fun e => c ((xLt hz hy).mp e)), if_neg c]
    rfl
theorem x_min {c wd : Nat} {nst : Bool} (hc : pmCode m pc = some (.invokestatic c) ∧ pc + 3 = t) (hm : pmM o c = some (9003, wd, nst)) (hz : xR z) (hy : xR y) (hcat : Nat.ble (pmCats st) 8 = true) (hw : pmWp ro d o m rt t pl (xV (if y < z then y else z) :: st) (xS a b) Q) : pmWp ro d o m rt pc pl (xV y :: xV z :: st) (xS a b) Q := by
  obtain ⟨h1, rfl⟩ := hc
  refine pmWp_1 h1 (st' := xV (if y < z then y else z) :: st) ?_ hw
  simp only [pmStep, hm, xV]
  rw [if_neg (by decide), if_neg (by decide), if_pos trivial, if_pos (Nat.le_of_ble_eq_true hcat)]
  by_cases c : y < z
  · rw [if_pos ((xLt hy hz).mpr c), if_pos c]
    rfl
  · rw [if_neg (fun e => c ((xLt hy hz).mp e)), if_neg c]
    rfl
end
/-! longs -/
section
variable {ro : Nat → Nat × (Nat → Int32)} {d o m rt pc t f : Nat} {pl pl' : pmL} {st st' : List Value} {a a' : xA} {b b' : xB} {Q : Option Value → pmS → Prop} {z y k : Int} {i : Instr} {x l : Int64}
def xShr (l : Int64) (y : Int) : Int64 := (l.toUInt64 >>> ((Int32.ofInt y).toInt64.toUInt64 &&& Int64.toUInt64 63)).toInt64
def xShL (l : Int64) (y : Int) : Int64 := l <<< ((Int32.ofInt y).toInt64 &&& 63)
def xCmp (x y : Int64) : Int := (lg_cmp x y).toInt
def xL2 (l : Int64) : Int := l.toInt32.toInt
def xByte (z : Int) : Int := (Int32.ofInt z).toInt8.toInt32.toInt
def xUs (z y : Int) : Int := ((Int32.ofInt z).toUInt32 >>> ((Int32.ofInt y).toUInt32 &&& Int32.toUInt32 31)).toInt32.toInt
theorem x_lconst {n : Fin 2} (hc : pmCode m pc = some (.lconst n) ∧ pc + 1 = t) (hl : Int64.ofNat n.val = l) (hw : pmWp ro d o m rt t pl (.long l :: st) (xS a b) Q) : pmWp ro d o m rt pc pl st (xS a b) Q := by
  obtain ⟨h1, rfl⟩ := hc
  subst hl
  exact pmWp_1 h1 rfl hw
theorem x_ldc2 {n wd : Nat} (hc : pmCode m pc = some (.ldc2_w n) ∧ pc + 3 = t) (hl : pmCL o n = some (l, wd)) (hw : pmWp ro d o m rt t pl (.long l :: st) (xS a b) Q) : pmWp ro d o m rt pc pl st (xS a b) Q := by
  obtain ⟨h1, rfl⟩ := hc
  refine pmWp_1 h1 (st' := .long l :: st) ?_ hw
  simp only [pmStep, hl, pmNx]
theorem x_land (hc : pmCode m pc = some .land ∧ pc + 1 = t) (hw : pmWp ro d o m rt t pl (.long (x &&& l) :: st) (xS a b) Q) : pmWp ro d o m rt pc pl (.long l :: .long x :: st) (xS a b) Q := by
  obtain ⟨h1, rfl⟩ := hc
  exact pmWp_1 h1 rfl hw
theorem x_lor (hc : pmCode m pc = some .lor ∧ pc + 1 = t) (hw : pmWp ro d o m rt t pl (.long (x ||| l) :: st) (xS a b) Q) : pmWp ro d o m rt pc pl (.long l :: .long x :: st) (xS a b) Q := by
  obtain ⟨h1, rfl⟩ := hc
  exact pmWp_1 h1 rfl hw
theorem x_lxor (hc : pmCode m pc = some .lxor ∧ pc + 1 = t) (hw : pmWp ro d o m rt t pl (.long (x ^^^ l) :: st) (xS a b) Q) : pmWp ro d o m rt pc pl (.long l :: .long x :: st) (xS a b) Q := by
  obtain ⟨h1, rfl⟩ := hc
  exact pmWp_1 h1 rfl hw
theorem x_ladd (hc : pmCode m pc = some .ladd ∧ pc + 1 = t) (hw : pmWp ro d o m rt t pl (.long (x + l) :: st) (xS a b) Q) : pmWp ro d o m rt pc pl (.long l :: .long x :: st) (xS a b) Q := by
  obtain ⟨h1, rfl⟩ := hc
  exact pmWp_1 h1 rfl hw
theorem x_lmul (hc : pmCode m pc = some .lmul ∧ pc + 1 = t) (hw : pmWp ro d o m rt t pl (.long (x * l) :: st) (xS a b) Q) : pmWp ro d o m rt pc pl (.long l :: .long x :: st) (xS a b) Q := by
  obtain ⟨h1, rfl⟩ := hc
  exact pmWp_1 h1 rfl hw
theorem x_lrem (hc : pmCode m pc = some .lrem ∧ pc + 1 = t) (hl : l ≠ 0) (hw : pmWp ro d o m rt t pl (.long (x - x / l * l) :: st) (xS a b) Q) : pmWp ro d o m rt pc pl (.long l :: .long x :: st) (xS a b) Q := by
  obtain ⟨h1, rfl⟩ := hc
  refine pmWp_1 h1 (st' := .long (x - x / l * l) :: st) ?_ hw
  simp only [pmStep]
  rw [if_neg hl]
  rfl
theorem x_lushr (hc : pmCode m pc = some .lushr ∧ pc + 1 = t) (hw : pmWp ro d o m rt t pl (.long (xShr x y) :: st) (xS a b) Q) : pmWp ro d o m rt pc pl (xV y :: .long x :: st) (xS a b) Q := by
  obtain ⟨h1, rfl⟩ := hc
  exact pmWp_1 h1 rfl hw
theorem x_lshl (hc : pmCode m pc = some .lshl ∧ pc + 1 = t) (hw : pmWp ro d o m rt t pl (.long (xShL x y) :: st) (xS a b) Q) : pmWp ro d o m rt pc pl (xV y :: .long x :: st) (xS a b) Q := by
  obtain ⟨h1, rfl⟩ := hc
  exact pmWp_1 h1 rfl hw
theorem x_lcmp (hc : pmCode m pc = some .lcmp ∧ pc + 1 = t) (hw : pmWp ro d o m rt t pl (xV (xCmp x l) :: st) (xS a b) Q) : pmWp ro d o m rt pc pl (.long l :: .long x :: st) (xS a b) Q := by
  obtain ⟨h1, rfl⟩ := hc
  refine pmWp_1 h1 (st' := xV (xCmp x l) :: st) ?_ hw
  simp only [pmStep, pmNx, xV, xCmp, Int32.ofInt_toInt]
theorem xI64 (hz : xR z) : (Int32.ofInt z).toInt64 = Int64.ofInt z := by
  apply Int64.toInt.inj
  have := hz.1
  have := hz.2
  rw [Int32.toInt_toInt64, xI hz, Int64.toInt_ofInt_of_le (by omega) (by omega)]
theorem x_i2l (hz : xR z) (hc : pmCode m pc = some .i2l ∧ pc + 1 = t) (hw : pmWp ro d o m rt t pl (.long (Int64.ofInt z) :: st) (xS a b) Q) : pmWp ro d o m rt pc pl (xV z :: st) (xS a b) Q := by
  obtain ⟨h1, rfl⟩ := hc
  refine pmWp_1 h1 (st' := .long (Int64.ofInt z) :: st) ?_ hw
  simp only [pmStep, pmNx, xV, xI64 hz]
theorem x_l2i (hc : pmCode m pc = some .l2i ∧ pc + 1 = t) (hw : pmWp ro d o m rt t pl (xV (xL2 l) :: st) (xS a b) Q) : pmWp ro d o m rt pc pl (.long l :: st) (xS a b) Q := by
  obtain ⟨h1, rfl⟩ := hc
  refine pmWp_1 h1 (st' := xV (xL2 l) :: st) ?_ hw
  simp only [pmStep, pmNx, xV, xL2, Int32.ofInt_toInt]
theorem x_i2b (hc : pmCode m pc = some .i2b ∧ pc + 1 = t) (hw : pmWp ro d o m rt t pl (xV (xByte z) :: st) (xS a b) Q) : pmWp ro d o m rt pc pl (xV z :: st) (xS a b) Q := by
  obtain ⟨h1, rfl⟩ := hc
  refine pmWp_1 h1 (st' := xV (xByte z) :: st) ?_ hw
  simp only [pmStep, pmNx, xV, xByte, Int32.ofInt_toInt]
theorem x_iushr (hc : pmCode m pc = some .iushr ∧ pc + 1 = t) (hw : pmWp ro d o m rt t pl (xV (xUs z y) :: st) (xS a b) Q) : pmWp ro d o m rt pc pl (xV y :: xV z :: st) (xS a b) Q := by
  obtain ⟨h1, rfl⟩ := hc
  refine pmWp_1 h1 (st' := xV (xUs z y) :: st) ?_ hw
  simp only [pmStep, pmNx, xV, xUs, Int32.ofInt_toInt]
theorem xUsB (z y : Int) : -2147483648 ≤ xUs z y ∧ xUs z y ≤ 2147483647 := aB32 _
theorem xByteB (z : Int) : -128 ≤ xByte z ∧ xByte z ≤ 127 := by
  unfold xByte
  rw [Int8.toInt_toInt32]
  have h1 := Int8.le_toInt (Int32.ofInt z).toInt8
  have h2 := Int8.toInt_lt (Int32.ofInt z).toInt8
  omega
theorem xL2B (l : Int64) : -2147483648 ≤ xL2 l ∧ xL2 l ≤ 2147483647 := aB32 _
theorem xCmp0 (x y : Int64) : xCmp x y = 0 ↔ x = y := by
  unfold xCmp lg_cmp
  split
  · rename_i h
    refine ⟨fun e => absurd e (by decide), fun e => ?_⟩
    rw [e, gt_iff_lt, Int64.lt_iff_toInt_lt] at h
    omega
  · split
    · rename_i h
      exact ⟨fun _ => by first | exact h | simpa using h, fun _ => rfl⟩
    · rename_i h
      exact ⟨fun e => absurd e (by decide), fun e => absurd (by first | exact e | simpa using e) h⟩
end
/-! the script -/
section
variable {Ln : Nat} {xs : Nat → Int32} {d o m rt pc t : Nat} {pl : pmL} {st : List Value} {a : xA} {b : xB} {Q : Option Value → pmS → Prop} {k : Int}
theorem x_salen (hc : pmCode m pc = some .arraylength ∧ pc + 1 = t) (hLn : Ln ≤ 3072) (hw : pmWp (pmRo Ln xs) d o m rt t pl (xV (Ln : Int) :: st) (xS a b) Q) : pmWp (pmRo Ln xs) d o m rt pc pl (.ref 1001 :: st) (xS a b) Q := by
  obtain ⟨h1, rfl⟩ := hc
  refine pmWp_1 h1 (st' := xV (Ln : Int) :: st) ?_ hw
  simp only [pmStep]
  rw [if_pos ⟨trivial, rfl⟩]
  rfl
theorem x_sld (hc : pmCode m pc = some .iaload ∧ pc + 1 = t) (h0 : 0 ≤ k) (h1 : k < Ln) (h2 : k < 2147483648) (hw : pmWp (pmRo Ln xs) d o m rt t pl (xV (xs k.toNat).toInt :: st) (xS a b) Q) : pmWp (pmRo Ln xs) d o m rt pc pl (xV k :: .ref 1001 :: st) (xS a b) Q := by
  obtain ⟨g1, rfl⟩ := hc
  refine pmWp_1 g1 (st' := xV (xs k.toNat).toInt :: st) ?_ hw
  have e : (Int32.ofInt k).toNatClampNeg = k.toNat := by
    have := xIx h0 h2
    omega
  have hin : pmIn (Int32.ofInt k) (pmRo Ln xs 1001).1 := xIn h0 h1 h2
  simp only [pmStep, xV]
  rw [if_pos (by decide), if_pos hin, e, Int32.ofInt_toInt]
  rfl
end
/-! reads told otherwise -/
section
variable {ro : Nat → Nat × (Nat → Int32)} {d o m rt pc t : Nat} {pl : pmL} {st : List Value} {a : xA} {b : xB} {Q : Option Value → pmS → Prop} {z y k v : Int} {p n j : Nat} {rs : List (Option Nat)}
theorem x_gfi' {c ci wd : Nat} {nst : Bool} (hc : pmCode m pc = some (.getfield c) ∧ pc + 3 = t) (hf : pmF o c = some (ci, j, wd, nst)) (hk : pmKd ci j = 0 ∨ pmKd ci j = 3) (hj : (j : Int) = k) (hp : xZ[p]? = some (ci, n, rs)) (hv : a p k = v) (hw : pmWp ro d o m rt t pl (xV v :: st) (xS a b) Q) : pmWp ro d o m rt pc pl (.ref p :: st) (xS a b) Q := by
  subst hv
  exact x_gfi hc hf hk hj hp hw
theorem x_gfl' {c ci wd : Nat} {nst : Bool} {v : Int64} (hc : pmCode m pc = some (.getfield c) ∧ pc + 3 = t) (hf : pmF o c = some (ci, j, wd, nst)) (hk : pmKd ci j = 1) (hj : (j : Int) = k) (hp : xZ[p]? = some (ci, n, rs)) (hv : b p k = v) (hw : pmWp ro d o m rt t pl (.long v :: st) (xS a b) Q) : pmWp ro d o m rt pc pl (.ref p :: st) (xS a b) Q := by
  subst hv
  exact x_gfl hc hf hk hj hp hw
theorem x_ial' (hc : pmCode m pc = some .iaload ∧ pc + 1 = t) (hp : xZ[p]? = some (50, n, rs)) (hpp : Nat.ble p 999 = true) (h0 : 0 ≤ k) (h1 : k < n) (h2 : k < 2147483648) (hv : a p k = v) (hw : pmWp ro d o m rt t pl (xV v :: st) (xS a b) Q) : pmWp ro d o m rt pc pl (xV k :: .ref p :: st) (xS a b) Q := by
  subst hv
  exact x_ial hc hp hpp h0 h1 h2 hw
theorem x_lal' {v : Int64} (hc : pmCode m pc = some .laload ∧ pc + 1 = t) (hp : xZ[p]? = some (51, n, rs)) (h0 : 0 ≤ k) (h1 : k < n) (h2 : k < 2147483648) (hv : b p k = v) (hw : pmWp ro d o m rt t pl (.long v :: st) (xS a b) Q) : pmWp ro d o m rt pc pl (xV k :: .ref p :: st) (xS a b) Q := by
  subst hv
  exact x_lal hc hp h0 h1 h2 hw
theorem x_bal' {kd : Nat} (hc : pmCode m pc = some .baload ∧ pc + 1 = t) (hp : xZ[p]? = some (kd, n, rs)) (hkd : kd = 52 ∨ kd = 53) (h0 : 0 ≤ k) (h1 : k < n) (h2 : k < 2147483648) (hv : a p k = v) (hw : pmWp ro d o m rt t pl (xV v :: st) (xS a b) Q) : pmWp ro d o m rt pc pl (xV k :: .ref p :: st) (xS a b) Q := by
  subst hv
  exact x_bal hc hp hkd h0 h1 h2 hw
theorem x_bas (hz : -128 ≤ z ∧ z ≤ 127) (hc : pmCode m pc = some .bastore ∧ pc + 1 = t) (hp : xZ[p]? = some (53, n, rs)) (h0 : 0 ≤ k) (h1 : k < n) (h2 : k < 2147483648) (hw : pmWp ro d o m rt t pl st (xS (xU a p k z) b) Q) : pmWp ro d o m rt pc pl (xV z :: xV k :: .ref p :: st) (xS a b) Q := by
  obtain ⟨g1, rfl⟩ := hc
  refine pmWp_1 g1 (st' := st) ?_ hw
  have hp' : (xS a b).1[p]? = some (53, n, rs) := hp
  have e : vp_nar .byte (Int32.ofInt z) = Int32.ofInt z := by
    show (Int32.ofInt z).toInt8.toInt32 = _
    apply Int32.toInt.inj
    rw [Int8.toInt_toInt32, Int32.toInt_toInt8, xI ⟨by omega, by omega⟩]
    exact Int.bmod_eq_of_le (by omega) (by omega)
  simp only [pmStep, hp', xV, e, pmNx]
  rw [if_neg (fun h => absurd h.1 (by decide)), if_pos ⟨trivial, xIn h0 h1 h2⟩, xSi (xIx h0 h2)]
end
