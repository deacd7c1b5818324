/-! a contract is checked: from the entry and from each node -/
section
abbrev bFq : Type := Nat × Nat × bL × List bV
/-- depth, method, place, locals, stack, frames, (environment, differences), (heap, regions), rank -/
abbrev bNq : Type := Nat × Nat × Nat × bL × List bV × List bFq × (aE × aC) × (bH × Nat) × bLn
noncomputable def bMk (spl : Nat → aSs) (m : Nat) : aK := match pmAll[m]? with
  | some q => (q.1.2.2.1.1, m, pmRk q.1.2.2.1.2.2.2 q.1.2.2.2.1, q.2, spl m)
  | none => (0, m, 0, [], [])
noncomputable def bMq (spl : Nat → aSs) (f : bFq) : bFr := (bMk spl f.1, f.2)
noncomputable def bMd (spl : Nat → aSs) (r : bNq) : bNd := (r.1, bMk spl r.2.1, r.2.2.1, r.2.2.2.1, r.2.2.2.2.1, r.2.2.2.2.2.1.map (bMq spl), r.2.2.2.2.2.2)
noncomputable def bNg (spl : Nat → aSs) (nC : Nat) (rk : Option bLn) (raws : List bNq) : bNod := fun d K pc pl st fs X M =>
  bif raws.any fun r => Nat.beq r.2.2.1 pc && (Nat.beq r.2.1 K.2.1 && bNk d K pc fs (bMd spl r)) then some (raws.any fun r => Nat.beq r.2.2.1 pc && (Nat.beq r.2.1 K.2.1 && (bNk d K pc fs (bMd spl r) && bNm1 nC rk (bMd spl r) pl st fs X M))) else none
noncomputable def bCr (nC : Nat) (a b : Option bV) : bSu := match a, b with
  | some a, some b => bCvs nC a b []
  | _, _ => []
noncomputable def bFi (nC : Nat) (alts : List bAl) (W : Nat) : Option bV → aX → bM → Bool := fun r X M => bTi X.2.1 X fun X => alts.any fun al => aFw (bCh nC M.1 al.2.2 (bCr nC al.1 r)) fun S => aFn (fLen al.2.1) fun nB => Nat.ble nC nB && ((match al.1, r with
    | none, none => true
    | some a, some b => bMv X.1 nC nB S a b
    | _, _ => false) && (bMe X.1 nC S 0 al.2.1 && (bMh X.1 nC nB S al.2.2 M.1 && Nat.beq (Nat.lor M.2.2 W) W)))
noncomputable def bIs (m : Nat) : Bool := match pmAll[m]? with
  | some _ => true
  | none => false
noncomputable def bNc (spl : Nat → aSs) (con : bCon) (fin : Option bV → aX → bM → Bool) (fuel nC : Nat) (raws : List bNq) (r : bNq) : Bool := match r with
  | (d, m, pc, pl, st, fs, (E, C), (H, W), rk) => bIs m && (fs.all (fun f => bIs f.1) && (aFn (fLen E) fun n => Nat.ble nC n && (Nat.blt 1 n && (bRz E rk && (rk.2.all (fun q => Nat.blt q.1 n) && bGo spl (bNg spl nC (some rk) raws) con fin fuel d true (bMk spl m) pc pl st (fs.map (bMq spl)) (E, C, []) (H, [], W))))))
noncomputable def bEt (spl : Nat → aSs) (go : bRec) (d mm : Nat) (args : List bV) (X : aX) (M : bM) : Bool := match d, pmAll[mm]? with
  | d + 1, some q => bif decide ((bPl args).length ≤ q.1.2.2.1.2.2.1) && (decide (q.1.2.2.1.2.2.1 ≤ 40) && (decide (q.1.2.2.2.1 < 3) && bEl mm (bPl args))) then
      aFl (bPl args ++ List.replicate (q.1.2.2.1.2.2.1 - (bPl args).length) none) fun cl => aFn q.1.2.2.1.1 fun oo => aFn (pmRk q.1.2.2.1.2.2.2 q.1.2.2.2.1) fun rk => aFw (spl mm) fun sp => go d false (oo, mm, rk, q.2, sp) 0 cl [] [] X M else false
  | _, _ => false
noncomputable def bCk (spl : Nat → aSs) (con : bCon) (fuel : Nat) (raws : List bNq) (c : bCt) : Bool := match c with
  | (mm, aB, E0, H0, alts, W, D) => aFn (fLen E0) fun nC => Nat.ble 2 nC && (raws.all (bNc spl con (bFi nC alts W) fuel nC raws) && bEt spl (bGo spl (bNg spl nC none raws) con (bFi nC alts W) fuel) D mm aB (E0, [], []) (H0, [], 0))
variable {L : aLa} {Ln : Nat} {xs : Nat → Int32} {ρ ρ' ρ0 ρe : Nat → Int} {E E0 : aE} {X : aX} {M : bM} {nC nB nE m n0 d mm : Nat} {S : bSu} {f g : aF} {x z : Int} {Kp : pmS → Prop} {σ0 σ σ' : pmS} {ro : Nat → Nat × (Nat → Int32)} {spl : Nat → aSs} {con : bCon}
theorem bIs_ok (h : bIs m = true) : aKok (bMk spl m) := by
  unfold bIs at h
  unfold bMk
  split at h
  · rename_i q hq
    exact ⟨q.1, hq⟩
  · cases h
theorem bNg_ok {raws : List bNq} {rk : Option bLn} {Q0 : Option Value → pmS → Prop} (h : bNodOk ro L n0 ρ0 Kp σ0 (bNh nC rk (raws.map (bMd spl))) Q0) : bNodOk ro L n0 ρ0 Kp σ0 (bNg spl nC rk raws) Q0 := by
  intro d K pc pl st fs X M ρ cl cs cfs σ hh
  refine h d K pc pl st fs X M ρ cl cs cfs σ ?_
  unfold bNg at hh
  unfold bNh
  cases hc : raws.any fun r => Nat.beq r.2.2.1 pc && (Nat.beq r.2.1 K.2.1 && bNk d K pc fs (bMd spl r)) with
  | false => rw [hc] at hh; cases hh
  | true =>
    rw [hc] at hh
    simp only [cond_true, Option.some.injEq] at hh
    obtain ⟨r, hr, hh⟩ := List.any_eq_true.mp hh
    simp only [Bool.and_eq_true] at hh
    have h1 : (raws.map (bMd spl)).any (bNk d K pc fs) = true := List.any_eq_true.mpr ⟨_, List.mem_map_of_mem hr, hh.2.2.1⟩
    rw [h1]
    simp only [cond_true, Option.some.injEq]
    exact List.any_eq_true.mpr ⟨_, List.mem_map_of_mem hr, by rw [Bool.and_eq_true]; exact hh.2.2⟩
theorem bFi_ok {alts : List bAl} {W : Nat} (hC : 2 ≤ nC) (hE0 : E0.length = nC) (hn : nC ≤ n0) (he : aExt nC ρe ρ0) : bFinOk L n0 ρ0 Kp σ0 (bFi nC alts W) fun v σ' => ∃ al ∈ alts, bAlOk L ρe E0 Kp σ0 W al v σ' := by
  intro r X M ρ v σ h hA hr
  obtain ⟨hX, hM, hn0, he0⟩ := hA
  unfold bFi at h
  obtain ⟨Y, y1, hX, h2⟩ := bTi_ok X.2.1 X hX hX.2.1 h
  clear h
  have h := h2
  clear h2
  rw [← y1] at hM hn0 hr
  have hE := hX.1
  obtain ⟨al, hm, h2⟩ := List.any_eq_true.mp h
  clear h
  have h := h2
  clear h2
  simp only [aFw_eq, aFn_eq, fLen_eq, Bool.and_eq_true] at h
  obtain ⟨h0, h1, h2, h3, h4⟩ := h
  have h0 := Nat.le_of_ble_eq_true h0
  generalize bCh nC M.1 al.2.2 (bCr nC al.1 r) = S at h1 h2 h3
  have hl : 1 < al.2.1.length := by omega
  refine ⟨al, hm, bRo nC _ ρ, fun w hw => ?_, by omega, bMe_env hE hC hl h2, ?_, hM.1, bMh_ok hE h3 hM.2.1, fun q hq => absurd hq List.not_mem_nil, fun p k hp => ?_, fun hw => hM.2.2.2.2 (bFg_lor (m := W) (by rw [show Nat.lor M.2.2 W = W from Nat.eq_of_beq_eq_true h4]; exact hw)).1⟩
  · rw [hE0] at hw
    rw [bRo_lt hw, he0 w (by omega), he w hw]
  · split at h1
    · rename_i e1
      rw [e1]
      match v, hr with
      | none, _ => trivial
    · rename_i a b e1
      rw [e1]
      match v, hr with
      | some v, hr => exact bMv_ok hE h1 hr
    · cases h1
  · refine hM.2.2.2.1 p k ?_
    have e : M.2.2 ||| W = W := Nat.eq_of_beq_eq_true h4
    have hp : W.testBit (bRg p k) = false := hp
    rw [← e, Nat.testBit_or, Bool.or_eq_false_iff] at hp
    exact hp.1
theorem bNds_ok {fuel : Nat} {raws : List bNq} {fin : Option bV → aX → bM → Bool} {Q0 : Option Value → pmS → Prop} (hKp : bKfr Kp) (hro : ro = pmRo Ln xs) (hL : L = ((Ln : Int), xs)) (hLn : Ln ≤ 3072) (hcon : ∀ σ0, bConOk ro L Kp σ0 con) (hC : 2 ≤ nC) (hfin : ∀ n0 ρ0, nC ≤ n0 → aExt nC ρe ρ0 → bFinOk L n0 ρ0 Kp σ0 fin Q0) (h : raws.all (bNc spl con fin fuel nC raws) = true) :
    (∀ nd ∈ raws.map (bMd spl), bNdK nd) ∧ ∀ (n : Nat) (nd : bNd), nd ∈ raws.map (bMd spl) → bNdP ro L nC ρe Kp σ0 Q0 n nd := by
  have hall := List.all_eq_true.mp h
  have hkey : ∀ nd ∈ raws.map (bMd spl), bNdK nd := by
    intro nd hnd
    obtain ⟨r, hr, rfl⟩ := List.mem_map.mp hnd
    have h := hall r hr
    obtain ⟨d, m, pc, pl, st, fs, ⟨E, C⟩, ⟨H, W⟩, rk⟩ := r
    unfold bNc at h
    simp only [aFn_eq, fLen_eq, Bool.and_eq_true] at h
    obtain ⟨h1, h2, h3, h4, -⟩ := h
    refine ⟨bIs_ok h1, fun f hf => ?_, bBlt h4⟩
    obtain ⟨f0, hf0, rfl⟩ := List.mem_map.mp hf
    exact bIs_ok (List.all_eq_true.mp h2 f0 hf0)
  refine ⟨hkey, ?_⟩
  intro n
  induction n with
  | zero =>
    intro nd hnd ρ cl cs cfs σ hA hl hs hfs hb
    exfalso
    obtain ⟨r, hr, rfl⟩ := List.mem_map.mp hnd
    have h := hall r hr
    obtain ⟨d, m, pc, pl, st, fs, ⟨E, C⟩, ⟨H, W⟩, rk⟩ := r
    unfold bNc at h
    simp only [aFn_eq, fLen_eq, Bool.and_eq_true] at h
    obtain ⟨-, -, -, -, h5, -⟩ := h
    have := bRz_ok hA.1.1 h5
    change bRv ρ rk < 0 at hb
    omega
  | succ n ih =>
    intro nd hnd ρ cl cs cfs σ hA hl hs hfs hb
    obtain ⟨r, hr, rfl⟩ := List.mem_map.mp hnd
    have h := hall r hr
    obtain ⟨d, m, pc, pl, st, fs, ⟨E, C⟩, ⟨H, W⟩, rk⟩ := r
    unfold bNc at h
    simp only [aFn_eq, fLen_eq, Bool.and_eq_true] at h
    obtain ⟨h1, h2, h3, h4, h5, h6, h7⟩ := h
    have h3 := Nat.le_of_ble_eq_true h3
    change bAllK L nC ρe ρ Kp σ0 (E, C, []) (H, [], W) σ at hA
    refine bGo_ok (n0 := E.length) (ρ0 := ρ) hKp hro hL hLn (hfin _ _ h3 hA.2.2.2) (bNg_ok (bNh_ok (nC := nC) (ρe := ρe) (b := n) hC hkey h3 hA.2.2.2 ?_ ?_)) (hcon σ0) fuel d true (bMk spl m) pc pl st (fs.map (bMq spl)) (E, C, []) (H, [], W) ρ cl cs cfs σ h7 (bIs_ok h1) ⟨hA.1, hA.2.1, Nat.le_refl _, aExt.rf⟩ hl hs hfs
    · intro rA ρ2 e hx
      cases e
      have hv : ∀ l : List (Nat × Int), (l.all fun q => Nat.blt q.1 E.length) = true → bLv ρ2 l = bLv ρ l := by
        intro l
        induction l with
        | nil => intro _; rfl
        | cons q t iht =>
          intro ha
          rw [List.all_cons, Bool.and_eq_true] at ha
          show q.2 * ρ2 q.1 + bLv ρ2 t = q.2 * ρ q.1 + bLv ρ t
          rw [iht ha.2, hx q.1 (bBlt ha.1)]
      have e2 : bRv ρ2 rk = bRv ρ rk := by
        unfold bRv
        rw [hv _ h6]
      rw [e2]
      change bRv ρ rk < ((n + 1 : Nat) : Int) at hb
      omega
    · intro nd hnd
      exact ⟨fun e => (by cases e), ih nd hnd⟩
theorem bCk_ok {fuel : Nat} {raws : List bNq} {c : bCt} (hKp : bKfr Kp) (hro : ro = pmRo Ln xs) (hL : L = ((Ln : Int), xs)) (hLn : Ln ≤ 3072) (hcon : ∀ σ0, bConOk ro L Kp σ0 con) (h : bCk spl con fuel raws c = true) : bCok ro L Kp c := by
  obtain ⟨mm, aB, E0, H0, alts, W, D⟩ := c
  intro ρ vs σ hE hM hs
  unfold bCk at h
  simp only [aFn_eq, fLen_eq, Bool.and_eq_true] at h
  obtain ⟨h1, h2, h3⟩ := h
  have h1 := Nat.le_of_ble_eq_true h1
  have hfin : ∀ n0 ρ0, E0.length ≤ n0 → aExt E0.length ρ ρ0 → bFinOk L n0 ρ0 Kp σ (bFi E0.length alts W) fun v σ' => ∃ al ∈ alts, bAlOk L ρ E0 Kp σ W al v σ' := fun n0 ρ0 hn he => bFi_ok h1 rfl hn he
  obtain ⟨k1, k2⟩ := bNds_ok (σ0 := σ) hKp hro hL hLn hcon h1 hfin h2
  have k3 : ∀ (b : Int) (nd : bNd), nd ∈ raws.map (bMd spl) → bNdP ro L E0.length ρ Kp σ (fun v σ' => ∃ al ∈ alts, bAlOk L ρ E0 Kp σ W al v σ') b nd := fun b nd hnd ρ' cl cs cfs σ' a1 a2 a3 a4 a5 => k2 b.toNat nd hnd ρ' cl cs cfs σ' a1 a2 a3 a4 (by omega)
  unfold bEt at h3
  split at h3
  · rename_i d' q hq
    obtain ⟨⟨y, bb, ⟨oo, nn, mx, rr⟩, ⟨kind, ev⟩⟩, code⟩ := q
    obtain ⟨hc2, h⟩ := aBif h3
    simp only [Bool.and_eq_true, decide_eq_true_eq] at hc2
    obtain ⟨z1, z2, z3, z4⟩ := hc2
    simp only [aFl_eq, aFn_eq, aFw_eq] at h
    rw [bPl_len hs] at z1 h
    have z5 : pmEl mm (pmPl vs) = true := (bEl_ok (mm := mm) (bPl aB) (pmPl vs) 0 (bPl_cat hs)).symm.trans z4
    refine (pmCs_go (aInf_ok hq) ⟨z1, z2, z3, z5⟩).mpr ?_
    exact bGo_ok (n0 := E0.length) (ρ0 := ρ) hKp hro hL hLn (hfin _ _ (Nat.le_refl _) aExt.rf) (bNg_ok (bNh_ok (nC := E0.length) (ρe := ρ) (b := 0) h1 k1 (Nat.le_refl _) aExt.rf (rk := none) (fun rA ρ2 e => by cases e) (fun nd hnd => ⟨fun _ b => k3 b nd hnd, k3 0 nd hnd⟩))) (hcon σ) fuel d' false (oo, mm, pmRk rr kind, code, spl mm) 0 _ [] [] (E0, [], []) (H0, [], 0) ρ _ [] [] σ h ⟨_, hq⟩ ⟨⟨hE, ⟨fun q hq => absurd hq List.not_mem_nil, fun q hq => absurd hq List.not_mem_nil⟩⟩, hM, Nat.le_refl _, aExt.rf⟩ (bLok_app (bPl_ok hs) (bLok_rep _)) trivial trivial
  · cases h3
end
