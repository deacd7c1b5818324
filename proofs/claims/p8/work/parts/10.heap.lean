section
/-! instructions that touch the cells -/
section
variable {p : Program} {l : Launch} {e : Env} {R : Room} {s : State} {m : MethodId} {args : Array Value} {below : List Frame} {meth : Method} {c : Code} {Q : State → Prop}
variable {base n0 t0 nL o mth rt : Nat} {E : Nat → Nat} {cA : Nat → ClassId} {D : va_G} {ro : Nat → Nat × (Nat → Int32)} {cc : ByteArray}
def pmFs (E : Nat → Nat) (σ : pmS) (rs : List (Option Nat)) (p ci : Nat) : List Value := (List.range ((pmNf[ci]?).getD 0)).map fun k => pv E ((pmRd σ rs ci k p).getD .null)
theorem pmCell_obj {E : Nat → Nat} {cA : Nat → ClassId} {σ : pmS} {q ci n : Nat} {rs : List (Option Nat)} (h : ci < 13) : pmCell E cA σ q (ci, n, rs) = .inr (ci, pmFs E σ rs q ci) := by
  unfold pmCell
  rw [if_pos (show ci < 50 by omega)]
  rfl
theorem pmCell_int {E : Nat → Nat} {cA : Nat → ClassId} {σ : pmS} {q n : Nat} {rs : List (Option Nat)} : pmCell E cA σ q (50, n, rs) = .inl (cA 50, n, .inl (σ.2.1 q)) := rfl
theorem pmCell_long {E : Nat → Nat} {cA : Nat → ClassId} {σ : pmS} {q n : Nat} {rs : List (Option Nat)} : pmCell E cA σ q (51, n, rs) = .inl (cA 51, n, .inr (.inl (σ.2.2 q))) := rfl
theorem pmCell_bool {E : Nat → Nat} {cA : Nat → ClassId} {σ : pmS} {q n : Nat} {rs : List (Option Nat)} : pmCell E cA σ q (52, n, rs) = .inl (cA 52, n, .inl (σ.2.1 q)) := rfl
theorem pmCell_byte {E : Nat → Nat} {cA : Nat → ClassId} {σ : pmS} {q n : Nat} {rs : List (Option Nat)} : pmCell E cA σ q (53, n, rs) = .inl (cA 53, n, .inl (σ.2.1 q)) := rfl
theorem pmCell_ref {E : Nat → Nat} {cA : Nat → ClassId} {σ : pmS} {q n : Nat} {rs : List (Option Nat)} : pmCell E cA σ q (54, n, rs) = .inl (cA 54, n, .inr (.inr (.inr (.inr (fun j => (pmRf rs j).map E))))) := rfl
theorem pmFs_at {E : Nat → Nat} {σ : pmS} {rs : List (Option Nat)} {p ci j N : Nat} {v : Value} (hN : (pmNf[ci]?).getD 0 = N) (hj : j < N) (h : pmRd σ rs ci j p = some v) : (pmFs E σ rs p ci)[j]? = some (pv E v) := by
  unfold pmFs
  rw [List.getElem?_map, List.getElem?_range (by omega), Option.map_some, h]
  rfl
theorem pmWr_ok {σ σ' : pmS} {ci j p c n : Nat} {rs : List (Option Nat)} {v : Value} (hs : σ.1[p]? = some (c, n, rs)) (h : pmWr σ ci j p v = some σ') : ∃ rs', σ'.1 = σ.1.set p (c, n, rs') ∧ pmRd σ' rs' ci j p = some v ∧ (∀ k, k ≠ j → pmRd σ' rs' ci k p = pmRd σ rs ci k p) ∧ (∀ q, q ≠ p → σ'.2.1 q = σ.2.1 q ∧ σ'.2.2 q = σ.2.2 q) := by
  unfold pmWr at h
  split at h
  · rename_i hk; cases h
    refine ⟨rs, pmSet_self hs, by simp [pmRd, hk, pmUp], fun k hkj => ?_, fun q hq => ⟨pmUp_ne _ _ _ hq, rfl⟩⟩
    unfold pmRd; simp [pmUp, hkj]
  · rename_i hk
    split at h
    · cases h
      refine ⟨rs, pmSet_self hs, by simp [pmRd, hk, pmUp], fun k hkj => ?_, fun q hq => ⟨pmUp_ne _ _ _ hq, rfl⟩⟩
      unfold pmRd; simp [pmUp, hkj]
    · cases h
  · rename_i hk; cases h
    refine ⟨rs, pmSet_self hs, by simp [pmRd, hk, pmUp], fun k hkj => ?_, fun q hq => ⟨rfl, pmUp_ne _ _ _ hq⟩⟩
    unfold pmRd; simp [pmUp, hkj]
  · rename_i q0 hk
    rw [hs] at h
    change (if j < rs.length then some (σ.1.set p (c, n, rs.set j (some q0)), σ.2.1, σ.2.2) else none) = some σ' at h
    split at h
    · rename_i hl
      cases h
      refine ⟨rs.set j (some q0), rfl, ?_, fun k hkj => ?_, fun q hq => ⟨rfl, rfl⟩⟩
      · unfold pmRd pmRf
        rw [List.getElem?_set_self hl]
        simp [hk, va_rf]
      · unfold pmRd pmRf
        rw [List.getElem?_set_ne (Ne.symm hkj)]
    · cases h
  · cases h
theorem pmFs_wr {E : Nat → Nat} {σ σ' : pmS} {rs rs' : List (Option Nat)} {ci j p : Nat} {v : Value} (h2 : pmRd σ' rs' ci j p = some v) (h3 : ∀ k, k ≠ j → pmRd σ' rs' ci k p = pmRd σ rs ci k p) : pmFs E σ' rs' p ci = (pmFs E σ rs p ci).set j (pv E v) := by
  apply List.ext_getElem?
  intro k
  by_cases hk : k < (pmNf[ci]?).getD 0
  · by_cases hkj : k = j
    · subst hkj
      rw [List.getElem?_set_self (by simp [pmFs]; exact hk), pmFs_at rfl hk h2]
    · rw [List.getElem?_set_ne (Ne.symm hkj)]
      unfold pmFs
      rw [List.getElem?_map, List.getElem?_map, List.getElem?_range hk, Option.map_some, Option.map_some, h3 k hkj]
  · rw [List.getElem?_eq_none (by simp [pmFs]; omega), List.getElem?_eq_none (by simp [pmFs]; omega)]
theorem pmW_wr {E : Nat → Nat} {cA : Nat → ClassId} {σ σ' : pmS} {ci j p n : Nat} {rs : List (Option Nat)} {v : Value} (hci : ci < 13) (hs : σ.1[p]? = some (ci, n, rs)) (h : pmWr σ ci j p v = some σ') : pmW E cA σ' = (pmW E cA σ).set p (E p, .inr (ci, (pmFs E σ rs p ci).set j (pv E v))) := by
  obtain ⟨rs', h1, h2, h3, h4⟩ := pmWr_ok hs h
  rw [pmW_set h1 hs (fun q hq z => pmCell_congr (h4 q hq).1 (h4 q hq).2 z), pmCell_obj hci, pmFs_wr h2 h3]
theorem pmWr_shape {σ σ' : pmS} {ci j p : Nat} {s : pmZ} {v : Value} (hs : σ.1[p]? = some s) (h : pmWr σ ci j p v = some σ') : σ'.1.length = σ.1.length ∧ pmTot σ'.1 = pmTot σ.1 := by
  obtain ⟨c, n, rs⟩ := s
  obtain ⟨rs', h1, -⟩ := pmWr_ok hs h
  rw [h1]
  refine ⟨by simp, ?_⟩
  unfold pmTot
  rw [List.map_set]
  have : (σ.1.map fun s => s.2.1)[p]? = some n := by rw [List.getElem?_map, hs]; rfl
  exact congrArg List.sum (pmSet_self this).symm
/-- the value fits the field -/
theorem pmWr_fit {σ σ' : pmS} {ci j p : Nat} {v : Value} {ty : FieldType} (E : Nat → Nat) (h : pmWr σ ci j p v = some σ') (hk : pmKd ci j = pmKind ty) : narrow ty (pv E v) = pv E v ∧ fits ty (pv E v) = true := by
  unfold pmWr at h
  rw [hk] at h
  cases ty with
  | int => cases v <;> first | exact ⟨rfl, rfl⟩ | (simp [pmKind] at h; done)
  | long => cases v <;> first | exact ⟨rfl, rfl⟩ | (simp [pmKind] at h; done)
  | object C => cases v <;> first | exact ⟨rfl, rfl⟩ | (simp [pmKind] at h; done)
  | array t => cases v <;> first | exact ⟨rfl, rfl⟩ | (simp [pmKind] at h; done)
  | boolean =>
    cases v with
    | int x =>
      simp only [pmKind] at h
      split at h
      · rename_i hx
        rcases hx with rfl | rfl <;> exact ⟨rfl, rfl⟩
      · cases h
    | _ => simp [pmKind] at h
  | _ => cases v <;> simp [pmKind] at h
theorem pmW_ist {E : Nat → Nat} {cA : Nat → ClassId} {σ : pmS} {a k0 n i : Nat} {rs : List (Option Nat)} {x : Int32} (h : σ.1[a]? = some (k0, n, rs)) (hk : k0 = 50 ∨ k0 = 52 ∨ k0 = 53) : pmW E cA (σ.1, pmUp σ.2.1 a i x, σ.2.2) = (pmW E cA σ).set a (E a, .inl (cA k0, n, .inl (upd (σ.2.1 a) i x))) := by
  rw [pmW_set (σ := σ) (σ' := (σ.1, pmUp σ.2.1 a i x, σ.2.2)) (pmSet_self h) h (fun q hq z => pmCell_congr (σ := σ) (σ' := (σ.1, pmUp σ.2.1 a i x, σ.2.2)) (pmUp_ne _ _ _ hq) rfl z)]
  have e : pmUp σ.2.1 a i x a = upd (σ.2.1 a) i x := pmUp_eq _ _ _ _
  rcases hk with rfl | rfl | rfl
  · rw [pmCell_int]; simp only [e]
  · rw [pmCell_bool]; simp only [e]
  · rw [pmCell_byte]; simp only [e]
theorem pmW_lst {E : Nat → Nat} {cA : Nat → ClassId} {σ : pmS} {a n i : Nat} {rs : List (Option Nat)} {x : Int64} (h : σ.1[a]? = some (51, n, rs)) : pmW E cA (σ.1, σ.2.1, pmUp σ.2.2 a i x) = (pmW E cA σ).set a (E a, .inl (cA 51, n, .inr (.inl (vp_updL (σ.2.2 a) i x)))) := by
  rw [pmW_set (σ := σ) (σ' := (σ.1, σ.2.1, pmUp σ.2.2 a i x)) (pmSet_self h) h (fun q hq z => pmCell_congr (σ := σ) (σ' := (σ.1, σ.2.1, pmUp σ.2.2 a i x)) rfl (pmUp_ne _ _ _ hq) z)]
  have e : pmUp σ.2.2 a i x a = vp_updL (σ.2.2 a) i x := pmUp_eq _ _ _ _
  rw [pmCell_long]; simp only [e]
theorem pmW_rst {E : Nat → Nat} {cA : Nat → ClassId} {σ : pmS} {a n i b : Nat} {rs : List (Option Nat)} (h : σ.1[a]? = some (54, n, rs)) (hi : i < rs.length) : pmW E cA (σ.1.set a (54, n, rs.set i (some b)), σ.2.1, σ.2.2) = (pmW E cA σ).set a (E a, .inl (cA 54, n, .inr (.inr (.inr (.inr (va_up (fun j => (pmRf rs j).map E) i (some (E b)))))))) := by
  rw [pmW_set (σ := σ) (σ' := (σ.1.set a (54, n, rs.set i (some b)), σ.2.1, σ.2.2)) rfl h (fun q hq z => pmCell_congr (σ := σ) (σ' := (σ.1.set a (54, n, rs.set i (some b)), σ.2.1, σ.2.2)) rfl rfl z)]
  have e : (fun j => (pmRf (rs.set i (some b)) j).map E) = va_up (fun j => (pmRf rs j).map E) i (some (E b)) := by
    funext j
    unfold pmRf
    by_cases hj : j = i
    · subst hj
      rw [List.getElem?_set_self hi]
      simp [va_up]
    · rw [List.getElem?_set_ne (Ne.symm hj)]
      simp [va_up, hj]
  rw [pmCell_ref]; simp only [e]
theorem pmTot_set {S : List pmZ} {p c n : Nat} {rs rs' : List (Option Nat)} (h : S[p]? = some (c, n, rs)) : pmTot (S.set p (c, n, rs')) = pmTot S := by
  unfold pmTot
  rw [List.map_set]
  have : (S.map fun s => s.2.1)[p]? = some n := by rw [List.getElem?_map, h]; rfl
  exact congrArg List.sum (pmSet_self this).symm

theorem pmx_getfield {z : Nat} {pc pc' : Nat} {pl pl' : pmL} {st st' : List Value} {σ σ' : pmS} {call : Nat → List Value → pmS → pmA} (hC : pmCx p R s m args meth c cc base n0 nL o rt E cA D ro) (hd : decode cc pc = .ok (.getfield z, 3))
    (hs : pmStep ro call o mth rt pc (.getfield z) pl st σ = some (.inr (pc', pl', st', σ'))) (k : pmWt p l e R s m args below meth c Q base n0 t0 nL mth E cA D pc' pl' st' σ') : pmWt p l e R s m args below meth c Q base n0 t0 nL mth E cA D pc pl st σ := by
  obtain ⟨hx, hb, hml, ⟨own, ho, hown⟩, hts, hsu, hsz, hin, hfr, hlo⟩ := hC
  intro H locs ls cells slots h1 h2 h3 h4 h5 hL
  have hE := hsu.2.2.2.2.2
  have hD := pmW_D (cA := cA) (σ := σ) hE h5
  simp only [pmStep] at hs
  split at hs
  · rename_i ci j w nst hf
    split at hs
    · rename_i a r
      split at hs
      · rename_i cl n rs hsh
        split at hs
        · rename_i hcl
          subst hcl
          split at hs
          · rename_i v hv
            simp only [pmNx, Option.some.injEq, Sum.inr.injEq, Prod.mk.injEq] at hs
            obtain ⟨rfl, rfl, rfl, rfl⟩ := hs
            obtain ⟨C, T, N, hC, hj, hT, g1, g2⟩ := pmF_ok ho hf
            obtain ⟨hci, -, ty, hN, hw, -, -, -, -⟩ := pmK_ok hC
            have he := pmW_get (E := E) (cA := cA) hsh
            rw [pmCell_obj hci] at he
            cases nst with
            | false => exact va_get hx hb hts hw hown hsu.1 h1 a he hC j hj (hts _ (g1 rfl)) (fun x h => by rw [hT] at h; exact h) (pmFs_at hN hj hv) hd (k H locs ls cells slots h1 h2 h3 h4 h5 hL)
            | true => exact va_getN hx hb hts hw hown hsu.1 h1 a he hC j hj (va_Nw.use rfl (hsu.2.1 _ (g2 rfl) rfl)) (fun x h => by rw [hT] at h; exact h) (pmFs_at hN hj hv) hd (k H locs ls cells slots h1 h2 h3 h4 h5 hL)
          · cases hs
        · cases hs
      · cases hs
    · cases hs
  · cases hs
theorem pmx_putfield {z : Nat} {pc pc' : Nat} {pl pl' : pmL} {st st' : List Value} {σ σ' : pmS} {call : Nat → List Value → pmS → pmA} (hC : pmCx p R s m args meth c cc base n0 nL o rt E cA D ro) (hd : decode cc pc = .ok (.putfield z, 3))
    (hs : pmStep ro call o mth rt pc (.putfield z) pl st σ = some (.inr (pc', pl', st', σ'))) (k : pmWt p l e R s m args below meth c Q base n0 t0 nL mth E cA D pc' pl' st' σ') : pmWt p l e R s m args below meth c Q base n0 t0 nL mth E cA D pc pl st σ := by
  obtain ⟨hx, hb, hml, ⟨own, ho, hown⟩, hts, hsu, hsz, hin, hfr, hlo⟩ := hC
  intro H locs ls cells slots h1 h2 h3 h4 h5 hL
  have hE := hsu.2.2.2.2.2
  have hD := pmW_D (cA := cA) (σ := σ) hE h5
  simp only [pmStep] at hs
  split at hs
  · rename_i ci j w nst hf
    split at hs
    · rename_i v a r
      split at hs
      · rename_i cl n rs hsh
        split at hs
        · rename_i hcl
          obtain ⟨hcl, hfi⟩ := hcl
          subst hcl
          split at hs
          · rename_i σ2 hw2
            simp only [pmNx, Option.some.injEq, Sum.inr.injEq, Prod.mk.injEq] at hs
            obtain ⟨rfl, rfl, rfl, rfl⟩ := hs
            obtain ⟨C, T, N, hC, hj, hT, g1, g2⟩ := pmF_ok ho hf
            obtain ⟨hci, hoc, ty, hN, hw, -, -, hty, hnm⟩ := pmK_ok hC
            have he := pmW_get (E := E) (cA := cA) hsh
            rw [pmCell_obj hci] at he
            obtain ⟨t1, t2, -, t4⟩ := hty j hj
            obtain ⟨f1, f2⟩ := pmWr_fit E hw2 t2
            obtain ⟨w1, w2⟩ := pmWr_shape hsh hw2
            have hl : j < (pmFs E σ rs a cl).length := by simp [pmFs]; omega
            have kk : ∀ (H1 : Heap) (locs1 : List Loc), va_P D pmCl ((pmW E cA σ).set a (E a, .inr (cl, (pmFs E σ rs a cl).set j (pv E v)))) H1 → va_D (fun q => base ≤ q) ((pmW E cA σ).set a (E a, .inr (cl, (pmFs E σ rs a cl).set j (pv E v)))) → va_S (fun q => base ≤ q) s.heap H1 locs1 → W p l e R s m args below meth c H1 locs1 cells slots Q (F0 m (pc + 3) ls (r.map (pv E))) := by
              intro H1 locs1 hP1 _ hS1
              rw [← pmW_wr hci hsh hw2] at hP1
              exact k H1 locs1 ls cells slots hP1 hS1 (by rw [w1]; exact h3) (by rw [w2]; exact h4) (by rw [w1]; exact h5) hL
            cases hfn : pmFn cl j with
            | true =>
              obtain ⟨q1, q2, q3⟩ := hfi hfn
              subst q1; subst q2
              rw [ho] at hoc
              cases hoc
              exact va_putF hx hb hts hw ty (fun k hk => (hty k hk).1) hnm hown hsu.1 h1 hD h2 a he hC j hj (hts _ (g1 rfl)) (fun x h => by rw [hT] at h; exact h) (by rw [← t4]; exact hfn) (hin q3) hT t1 f1 f2 hl hd kk
            | false =>
              cases nst with
              | false => exact va_put hx hb hts hw ty (fun k hk => (hty k hk).1) hnm hown hsu.1 h1 hD h2 a he hC j hj (hts _ (g1 rfl)) (fun x h => by rw [hT] at h; exact h) (by rw [← t4]; exact hfn) t1 f1 f2 hl hd kk
              | true => exact va_putN hx hb hts hw ty (fun k hk => (hty k hk).1) hnm hown hsu.1 h1 hD h2 a he hC j hj (va_Nw.use rfl (hsu.2.1 _ (g2 rfl) rfl)) (fun x h => by rw [hT] at h; exact h) (by rw [← t4]; exact hfn) t1 f1 f2 hl hd kk
          · cases hs
        · cases hs
      · cases hs
    · cases hs
  · cases hs
theorem pmx_getstatic {z : Nat} {pc pc' : Nat} {pl pl' : pmL} {st st' : List Value} {σ σ' : pmS} {call : Nat → List Value → pmS → pmA} (hC : pmCx p R s m args meth c cc base n0 nL o rt E cA D ro) (hd : decode cc pc = .ok (.getstatic z, 3))
    (hs : pmStep ro call o mth rt pc (.getstatic z) pl st σ = some (.inr (pc', pl', st', σ'))) (k : pmWt p l e R s m args below meth c Q base n0 t0 nL mth E cA D pc' pl' st' σ') : pmWt p l e R s m args below meth c Q base n0 t0 nL mth E cA D pc pl st σ := by
  obtain ⟨hx, hb, hml, ⟨own, ho, hown⟩, hts, hsu, hsz, hin, hfr, hlo⟩ := hC
  intro H locs ls cells slots h1 h2 h3 h4 h5 hL
  have hE := hsu.2.2.2.2.2
  have hD := pmW_D (cA := cA) (σ := σ) hE h5
  simp only [pmStep] at hs
  split at hs
  · rename_i w hg
    simp only [pmNx, Option.some.injEq, Sum.inr.injEq, Prod.mk.injEq] at hs
    obtain ⟨rfl, rfl, rfl, rfl⟩ := hs
    exact va_gets hx hb hsu.2.2.2.1 h2 hown (hts _ (pmG_ok ho hg)) (fun x h => h) hd (k H locs ls cells slots h1 h2 h3 h4 h5 hL)
  · cases hs
theorem pmx_laload  {pc pc' : Nat} {pl pl' : pmL} {st st' : List Value} {σ σ' : pmS} {call : Nat → List Value → pmS → pmA} (hC : pmCx p R s m args meth c cc base n0 nL o rt E cA D ro) (hd : decode cc pc = .ok (.laload, 1))
    (hs : pmStep ro call o mth rt pc (.laload) pl st σ = some (.inr (pc', pl', st', σ'))) (k : pmWt p l e R s m args below meth c Q base n0 t0 nL mth E cA D pc' pl' st' σ') : pmWt p l e R s m args below meth c Q base n0 t0 nL mth E cA D pc pl st σ := by
  obtain ⟨hx, hb, hml, ⟨own, ho, hown⟩, hts, hsu, hsz, hin, hfr, hlo⟩ := hC
  intro H locs ls cells slots h1 h2 h3 h4 h5 hL
  have hE := hsu.2.2.2.2.2
  have hD := pmW_D (cA := cA) (σ := σ) hE h5
  simp only [pmStep] at hs
  split at hs
  · rename_i i a r
    split at hs
    · rename_i kk n rs hsh
      split at hs
      · rename_i hk
        obtain ⟨hk, hi⟩ := hk
        subst hk
        simp only [pmNx, Option.some.injEq, Sum.inr.injEq, Prod.mk.injEq] at hs
        obtain ⟨rfl, rfl, rfl, rfl⟩ := hs
        have he := pmW_get (E := E) (cA := cA) hsh
        exact va_lald hx hb hsu.1 h1 a 1 he rfl hi hd (k H locs ls cells slots h1 h2 h3 h4 h5 hL)
      · cases hs
    · cases hs
  · cases hs
theorem pmx_iaload  {pc pc' : Nat} {pl pl' : pmL} {st st' : List Value} {σ σ' : pmS} {call : Nat → List Value → pmS → pmA} (hC : pmCx p R s m args meth c cc base n0 nL o rt E cA D ro) (hd : decode cc pc = .ok (.iaload, 1))
    (hs : pmStep ro call o mth rt pc (.iaload) pl st σ = some (.inr (pc', pl', st', σ'))) (k : pmWt p l e R s m args below meth c Q base n0 t0 nL mth E cA D pc' pl' st' σ') : pmWt p l e R s m args below meth c Q base n0 t0 nL mth E cA D pc pl st σ := by
  obtain ⟨hx, hb, hml, ⟨own, ho, hown⟩, hts, hsu, hsz, hin, hfr, hlo⟩ := hC
  intro H locs ls cells slots h1 h2 h3 h4 h5 hL
  have hE := hsu.2.2.2.2.2
  have hD := pmW_D (cA := cA) (σ := σ) hE h5
  simp only [pmStep] at hs
  split at hs
  · rename_i i a r
    split at hs
    · rename_i ha
      split at hs
      · rename_i hi
        simp only [pmNx, Option.some.injEq, Sum.inr.injEq, Prod.mk.injEq] at hs
        obtain ⟨rfl, rfl, rfl, rfl⟩ := hs
        have hpos : 0 < (ro a).1 := by
          rcases Nat.eq_zero_or_pos (ro a).1 with z | z
          · exact absurd (Or.inr (by rw [z]; exact Nat.zero_le _)) hi
          · exact z
        exact va_ti hx hb (hsu.2.2.2.2.1 a ha (Or.inr hpos)) h2 hi rfl hd (k H locs ls cells slots h1 h2 h3 h4 h5 hL)
      · cases hs
    · split at hs
      · rename_i kk n rs hsh
        split at hs
        · rename_i hk
          obtain ⟨hk, hi⟩ := hk
          subst hk
          simp only [pmNx, Option.some.injEq, Sum.inr.injEq, Prod.mk.injEq] at hs
          obtain ⟨rfl, rfl, rfl, rfl⟩ := hs
          have he := pmW_get (E := E) (cA := cA) hsh
          exact va_iald hx hb hsu.1 h1 a 0 he rfl hi hd (k H locs ls cells slots h1 h2 h3 h4 h5 hL)
        · cases hs
      · cases hs
  · cases hs
theorem pmx_baload  {pc pc' : Nat} {pl pl' : pmL} {st st' : List Value} {σ σ' : pmS} {call : Nat → List Value → pmS → pmA} (hC : pmCx p R s m args meth c cc base n0 nL o rt E cA D ro) (hd : decode cc pc = .ok (.baload, 1))
    (hs : pmStep ro call o mth rt pc (.baload) pl st σ = some (.inr (pc', pl', st', σ'))) (k : pmWt p l e R s m args below meth c Q base n0 t0 nL mth E cA D pc' pl' st' σ') : pmWt p l e R s m args below meth c Q base n0 t0 nL mth E cA D pc pl st σ := by
  obtain ⟨hx, hb, hml, ⟨own, ho, hown⟩, hts, hsu, hsz, hin, hfr, hlo⟩ := hC
  intro H locs ls cells slots h1 h2 h3 h4 h5 hL
  have hE := hsu.2.2.2.2.2
  have hD := pmW_D (cA := cA) (σ := σ) hE h5
  simp only [pmStep] at hs
  split at hs
  · rename_i i a r
    split at hs
    · rename_i kk n rs hsh
      split at hs
      · rename_i hk
        obtain ⟨hk, hi⟩ := hk
        simp only [pmNx, Option.some.injEq, Sum.inr.injEq, Prod.mk.injEq] at hs
        obtain ⟨rfl, rfl, rfl, rfl⟩ := hs
        have he := pmW_get (E := E) (cA := cA) hsh
        rcases hk with rfl | rfl
        · exact va_zald hx hb hsu.1 h1 a 2 he rfl hi hd (k H locs ls cells slots h1 h2 h3 h4 h5 hL)
        · exact va_bald hx hb hsu.1 h1 a 3 he rfl hi hd (k H locs ls cells slots h1 h2 h3 h4 h5 hL)
      · cases hs
    · cases hs
  · cases hs
theorem pmx_aaload  {pc pc' : Nat} {pl pl' : pmL} {st st' : List Value} {σ σ' : pmS} {call : Nat → List Value → pmS → pmA} (hC : pmCx p R s m args meth c cc base n0 nL o rt E cA D ro) (hd : decode cc pc = .ok (.aaload, 1))
    (hs : pmStep ro call o mth rt pc (.aaload) pl st σ = some (.inr (pc', pl', st', σ'))) (k : pmWt p l e R s m args below meth c Q base n0 t0 nL mth E cA D pc' pl' st' σ') : pmWt p l e R s m args below meth c Q base n0 t0 nL mth E cA D pc pl st σ := by
  obtain ⟨hx, hb, hml, ⟨own, ho, hown⟩, hts, hsu, hsz, hin, hfr, hlo⟩ := hC
  intro H locs ls cells slots h1 h2 h3 h4 h5 hL
  have hE := hsu.2.2.2.2.2
  have hD := pmW_D (cA := cA) (σ := σ) hE h5
  simp only [pmStep] at hs
  split at hs
  · rename_i i a r
    split at hs
    · rename_i kk n rs hsh
      split at hs
      · rename_i hk
        obtain ⟨hk, hi⟩ := hk
        subst hk
        simp only [pmNx, Option.some.injEq, Sum.inr.injEq, Prod.mk.injEq] at hs
        obtain ⟨rfl, rfl, rfl, rfl⟩ := hs
        have he := pmW_get (E := E) (cA := cA) hsh
        refine va_aldq hx hb hsu.1 h1 a 4 he rfl hi hd ?_
        have := (k H locs ls cells slots h1 h2 h3 h4 h5 hL)
        rw [List.map_cons, pv_rf] at this
        exact this
      · cases hs
    · cases hs
  · cases hs
theorem pmx_iastore  {pc pc' : Nat} {pl pl' : pmL} {st st' : List Value} {σ σ' : pmS} {call : Nat → List Value → pmS → pmA} (hC : pmCx p R s m args meth c cc base n0 nL o rt E cA D ro) (hd : decode cc pc = .ok (.iastore, 1))
    (hs : pmStep ro call o mth rt pc (.iastore) pl st σ = some (.inr (pc', pl', st', σ'))) (k : pmWt p l e R s m args below meth c Q base n0 t0 nL mth E cA D pc' pl' st' σ') : pmWt p l e R s m args below meth c Q base n0 t0 nL mth E cA D pc pl st σ := by
  obtain ⟨hx, hb, hml, ⟨own, ho, hown⟩, hts, hsu, hsz, hin, hfr, hlo⟩ := hC
  intro H locs ls cells slots h1 h2 h3 h4 h5 hL
  have hE := hsu.2.2.2.2.2
  have hD := pmW_D (cA := cA) (σ := σ) hE h5
  simp only [pmStep] at hs
  split at hs
  · rename_i x i a r
    split at hs
    · rename_i kk n rs hsh
      split at hs
      · rename_i hk
        obtain ⟨hk, hi⟩ := hk
        subst hk
        simp only [pmNx, Option.some.injEq, Sum.inr.injEq, Prod.mk.injEq] at hs
        obtain ⟨rfl, rfl, rfl, rfl⟩ := hs
        have he := pmW_get (E := E) (cA := cA) hsh
        exact va_iast hx hb hsu.1 h1 hD h2 a 0 he rfl hi hd (fun H1 locs1 hP1 _ hS1 => k H1 locs1 ls cells slots (by rw [pmW_ist hsh (Or.inl rfl)]; exact hP1) hS1 h3 h4 h5 hL)
      · cases hs
    · cases hs
  · cases hs
theorem pmx_lastore  {pc pc' : Nat} {pl pl' : pmL} {st st' : List Value} {σ σ' : pmS} {call : Nat → List Value → pmS → pmA} (hC : pmCx p R s m args meth c cc base n0 nL o rt E cA D ro) (hd : decode cc pc = .ok (.lastore, 1))
    (hs : pmStep ro call o mth rt pc (.lastore) pl st σ = some (.inr (pc', pl', st', σ'))) (k : pmWt p l e R s m args below meth c Q base n0 t0 nL mth E cA D pc' pl' st' σ') : pmWt p l e R s m args below meth c Q base n0 t0 nL mth E cA D pc pl st σ := by
  obtain ⟨hx, hb, hml, ⟨own, ho, hown⟩, hts, hsu, hsz, hin, hfr, hlo⟩ := hC
  intro H locs ls cells slots h1 h2 h3 h4 h5 hL
  have hE := hsu.2.2.2.2.2
  have hD := pmW_D (cA := cA) (σ := σ) hE h5
  simp only [pmStep] at hs
  split at hs
  · rename_i x i a r
    split at hs
    · rename_i kk n rs hsh
      split at hs
      · rename_i hk
        obtain ⟨hk, hi⟩ := hk
        subst hk
        simp only [pmNx, Option.some.injEq, Sum.inr.injEq, Prod.mk.injEq] at hs
        obtain ⟨rfl, rfl, rfl, rfl⟩ := hs
        have he := pmW_get (E := E) (cA := cA) hsh
        exact va_last hx hb hsu.1 h1 hD h2 a 1 he rfl hi hd (fun H1 locs1 hP1 _ hS1 => k H1 locs1 ls cells slots (by rw [pmW_lst hsh]; exact hP1) hS1 h3 h4 h5 hL)
      · cases hs
    · cases hs
  · cases hs
theorem pmx_bastore  {pc pc' : Nat} {pl pl' : pmL} {st st' : List Value} {σ σ' : pmS} {call : Nat → List Value → pmS → pmA} (hC : pmCx p R s m args meth c cc base n0 nL o rt E cA D ro) (hd : decode cc pc = .ok (.bastore, 1))
    (hs : pmStep ro call o mth rt pc (.bastore) pl st σ = some (.inr (pc', pl', st', σ'))) (k : pmWt p l e R s m args below meth c Q base n0 t0 nL mth E cA D pc' pl' st' σ') : pmWt p l e R s m args below meth c Q base n0 t0 nL mth E cA D pc pl st σ := by
  obtain ⟨hx, hb, hml, ⟨own, ho, hown⟩, hts, hsu, hsz, hin, hfr, hlo⟩ := hC
  intro H locs ls cells slots h1 h2 h3 h4 h5 hL
  have hE := hsu.2.2.2.2.2
  have hD := pmW_D (cA := cA) (σ := σ) hE h5
  simp only [pmStep] at hs
  split at hs
  · rename_i x i a r
    split at hs
    · rename_i kk n rs hsh
      split at hs
      · rename_i hk
        obtain ⟨hk, hi⟩ := hk
        subst hk
        simp only [pmNx, Option.some.injEq, Sum.inr.injEq, Prod.mk.injEq] at hs
        obtain ⟨rfl, rfl, rfl, rfl⟩ := hs
        have he := pmW_get (E := E) (cA := cA) hsh
        exact va_zast hx hb hsu.1 h1 hD h2 a 2 he rfl hi hd (fun H1 locs1 hP1 _ hS1 => k H1 locs1 ls cells slots (by rw [pmW_ist hsh (Or.inr (Or.inl rfl))]; exact hP1) hS1 h3 h4 h5 hL)
      · split at hs
        · rename_i hk
          obtain ⟨hk, hi⟩ := hk
          subst hk
          simp only [pmNx, Option.some.injEq, Sum.inr.injEq, Prod.mk.injEq] at hs
          obtain ⟨rfl, rfl, rfl, rfl⟩ := hs
          have he := pmW_get (E := E) (cA := cA) hsh
          exact va_bast hx hb hsu.1 h1 hD h2 a 3 he rfl hi hd (fun H1 locs1 hP1 _ hS1 => k H1 locs1 ls cells slots (by rw [pmW_ist hsh (Or.inr (Or.inr rfl))]; exact hP1) hS1 h3 h4 h5 hL)
        · cases hs
    · cases hs
  · cases hs
theorem pmx_aastore  {pc pc' : Nat} {pl pl' : pmL} {st st' : List Value} {σ σ' : pmS} {call : Nat → List Value → pmS → pmA} (hC : pmCx p R s m args meth c cc base n0 nL o rt E cA D ro) (hd : decode cc pc = .ok (.aastore, 1))
    (hs : pmStep ro call o mth rt pc (.aastore) pl st σ = some (.inr (pc', pl', st', σ'))) (k : pmWt p l e R s m args below meth c Q base n0 t0 nL mth E cA D pc' pl' st' σ') : pmWt p l e R s m args below meth c Q base n0 t0 nL mth E cA D pc pl st σ := by
  obtain ⟨hx, hb, hml, ⟨own, ho, hown⟩, hts, hsu, hsz, hin, hfr, hlo⟩ := hC
  intro H locs ls cells slots h1 h2 h3 h4 h5 hL
  have hE := hsu.2.2.2.2.2
  have hD := pmW_D (cA := cA) (σ := σ) hE h5
  simp only [pmStep] at hs
  split at hs
  · rename_i q0 i a r
    split at hs
    · rename_i kk n rs cl nn rq hsh hsq
      split at hs
      · rename_i hk
        obtain ⟨hk, hi, hcl, hil⟩ := hk
        subst hk; subst hcl
        simp only [pmNx, Option.some.injEq, Sum.inr.injEq, Prod.mk.injEq] at hs
        obtain ⟨rfl, rfl, rfl, rfl⟩ := hs
        have he := pmW_get (E := E) (cA := cA) hsh
        have hq := pmW_get (E := E) (cA := cA) hsq
        rw [pmCell_obj (by omega)] at hq
        exact va_astq hx hb hsu.1 h1 hD h2 a 4 q0 10 (r := (RX10, TX10, 13)) he rfl hq rfl hi hd (fun H1 locs1 hP1 _ hS1 => k H1 locs1 ls cells slots (by rw [pmW_rst hsh hil]; exact hP1) hS1 (by show _ = (σ.1.set a _).length; rw [List.length_set]; exact h3) (by show _ = pmTot (σ.1.set a _); rw [pmTot_set hsh]; exact h4) (by show (σ.1.set a _).length ≤ _; rw [List.length_set]; exact h5) hL)
      · cases hs
    · cases hs
  · cases hs
theorem pmx_arraylength  {pc pc' : Nat} {pl pl' : pmL} {st st' : List Value} {σ σ' : pmS} {call : Nat → List Value → pmS → pmA} (hC : pmCx p R s m args meth c cc base n0 nL o rt E cA D ro) (hd : decode cc pc = .ok (.arraylength, 1))
    (hs : pmStep ro call o mth rt pc (.arraylength) pl st σ = some (.inr (pc', pl', st', σ'))) (k : pmWt p l e R s m args below meth c Q base n0 t0 nL mth E cA D pc' pl' st' σ') : pmWt p l e R s m args below meth c Q base n0 t0 nL mth E cA D pc pl st σ := by
  obtain ⟨hx, hb, hml, ⟨own, ho, hown⟩, hts, hsu, hsz, hin, hfr, hlo⟩ := hC
  intro H locs ls cells slots h1 h2 h3 h4 h5 hL
  have hE := hsu.2.2.2.2.2
  have hD := pmW_D (cA := cA) (σ := σ) hE h5
  simp only [pmStep] at hs
  split at hs
  · rename_i a r
    split at hs
    · rename_i ha
      simp only [pmNx, Option.some.injEq, Sum.inr.injEq, Prod.mk.injEq] at hs
      obtain ⟨rfl, rfl, rfl, rfl⟩ := hs
      exact va_tlen hx hb (hsu.2.2.2.2.1 a (by rw [ha.1]; exact Nat.le_of_ble_eq_true rfl) (Or.inl ha.1)) h2 rfl hd (k H locs ls cells slots h1 h2 h3 h4 h5 hL)
    · cases hs
  · cases hs
end
end
section
/-! new cells -/
section
variable {p : Program} {l : Launch} {e : Env} {R : Room} {s : State} {m : MethodId} {args : Array Value} {below : List Frame} {meth : Method} {c : Code} {Q : State → Prop}
variable {base n0 t0 nL o mth rt : Nat} {E : Nat → Nat} {cA : Nat → ClassId} {D : va_G} {ro : Nat → Nat × (Nat → Int32)} {cc : ByteArray}
/-- where a new cell stands -/
theorem pmAddr {n : Nat} {ws : va_W} {q : Nat} {x : va_E} {H : Heap} (hE : ∀ k, k < 1000 → E k = base + k) (hn : n ≤ 901) (hlen : ws.length = n) (hws : ∀ k, k < n → ∃ y, ws[k]? = some (E k, y))
    (hP : va_P D pmCl (ws ++ [(q, x)]) H) (hD : va_D (fun q => base ≤ q) (ws ++ [(q, x)])) (hz : H.size ≤ base + n + 1) : q = E n := by
  have hq : (ws ++ [(q, x)])[n]? = some (q, x) := by rw [List.getElem?_append_right (by omega), hlen, Nat.sub_self]; rfl
  have h1 : q < H.size := (hP n _ hq).lt
  have h2 : base ≤ q := hD.2 n _ hq
  have h3 : ∀ k, k < n → q ≠ base + k := by
    intro k hk he
    obtain ⟨y, hy⟩ := hws k hk
    have h4 : (ws ++ [(q, x)])[k]? = some (E k, y) := by rw [List.getElem?_append_left (by omega)]; exact hy
    have := hD.1 n k _ _ hq h4 (by show q = E k; rw [hE k (by omega)]; exact he)
    omega
  rw [hE n (by omega)]
  rcases Nat.lt_or_ge q (base + n) with h | h
  · exact absurd (by omega) (h3 (q - base) (by omega))
  · omega
theorem pmW_all {σ : pmS} : ∀ k, k < σ.1.length → ∃ y, (pmW E cA σ)[k]? = some (E k, y) := by
  intro k hk
  exact ⟨_, pmW_get (List.getElem?_eq_getElem hk)⟩
theorem pmTot_app (S : List pmZ) (z : pmZ) : pmTot (S ++ [z]) = pmTot S + z.2.1 := by simp [pmTot]
/-- the walk goes on with the new cell in the picture -/
theorem pmNewGo {σ : pmS} {z : pmZ} {pc' : Nat} {pl : pmL} {r : List Value} (hE : ∀ k, k < 1000 → E k = base + k) (hsz : s.heap.size = base + n0) {x : va_E} {H1 : Heap} {q cells slots : Nat} {locs : List Loc} {ls : Array Slot}
    (hl : σ.1.length < 900) (hx : x = pmCell E cA (pmFresh σ z) σ.1.length z) (k : pmWt p l e R s m args below meth c Q base n0 t0 nL mth E cA D pc' pl (.ref σ.1.length :: r) (pmFresh σ z)) (h3 : n0 + cells = σ.1.length) (h4 : t0 + slots = pmTot σ.1) (hL : pmLr E mth nL ls pl)
    (hP : va_P D pmCl (pmW E cA σ ++ [(q, x)]) H1) (hD : va_D (fun q => base ≤ q) (pmW E cA σ ++ [(q, x)])) (hS : va_S (fun q => base ≤ q) s.heap H1 locs) :
    W p l e R s m args below meth c H1 locs (cells + 1) (slots + z.2.1) Q (F0 m pc' ls (.ref q :: r.map (pv E))) := by
  intro T hT X
  have hz := X.heapSize
  rw [hT, hsz] at hz
  have hq : q = E σ.1.length := pmAddr hE (by omega) (pmW_len E cA σ) pmW_all hP hD (by omega)
  subst hq
  subst hx
  rw [← pmW_fresh] at hP
  exact k H1 locs ls (cells + 1) (slots + z.2.1) hP hS (by show n0 + (cells + 1) = (σ.1 ++ [z]).length; simp; omega) (by show t0 + (slots + z.2.1) = pmTot (σ.1 ++ [z]); rw [pmTot_app]; omega) (by show (σ.1 ++ [z]).length ≤ 901; simp; omega) hL T hT X
theorem pmRf_none (n k : Nat) : pmRf (List.replicate n none) k = none := by
  unfold pmRf
  rw [List.getElem?_replicate]
  split <;> rfl
theorem pmRd_fresh {σ : pmS} {z : pmZ} {ci N k : Nat} {ty : FieldType} (h : pmKd ci k = pmKind ty) (h3 : pmKd ci k ≤ 3) : pv E ((pmRd (pmFresh σ z) (List.replicate N none) ci k σ.1.length).getD .null) = defaultValue ty := by
  unfold pmRd
  rw [h] at h3 ⊢
  cases ty <;> first
    | (simp [pmKind] at h3; done)
    | (simp [pmKind, pmFresh, pmRow, pv, defaultValue, va_rf, pmRf_none]; done)
theorem pmx_new {z : Nat} {pc pc' : Nat} {pl pl' : pmL} {st st' : List Value} {σ σ' : pmS} {call : Nat → List Value → pmS → pmA} (hC : pmCx p R s m args meth c cc base n0 nL o rt E cA D ro) (hd : decode cc pc = .ok (.new z, 3))
    (hs : pmStep ro call o mth rt pc (.new z) pl st σ = some (.inr (pc', pl', st', σ'))) (hroom : σ'.1.length ≤ n0 + R.cells ∧ pmTot σ'.1 ≤ t0 + R.slots) (k : pmWt p l e R s m args below meth c Q base n0 t0 nL mth E cA D pc' pl' st' σ') : pmWt p l e R s m args below meth c Q base n0 t0 nL mth E cA D pc pl st σ := by
  obtain ⟨hx, hb, hml, ⟨own, ho, hown⟩, hts, hsu, hsz, hin, hfr, hlo⟩ := hC
  intro H locs ls cells slots h1 h2 h3 h4 h5 hL
  have hE := hsu.2.2.2.2.2
  have hD := pmW_D (cA := cA) (σ := σ) hE h5
  simp only [pmStep] at hs
  split at hs
  · rename_i ci w hn
    split at hs
    · rename_i N hN
      split at hs
      · rename_i hlen
        simp only [pmNx, Option.some.injEq, Sum.inr.injEq, Prod.mk.injEq] at hs
        obtain ⟨rfl, rfl, rfl, rfl⟩ := hs
        obtain ⟨C, T, N', hC, g1⟩ := pmN_ok ho hn
        obtain ⟨hci, -, ty, hN', hw, hi1, hi2, hty, -⟩ := pmK_ok hC
        rw [hN] at hN'
        change N = N' at hN'
        subst hN'
        have hr1 : σ.1.length + 1 ≤ n0 + R.cells := by have := hroom.1; simp [pmFresh] at this; exact this
        have hr2 : pmTot σ.1 + N ≤ t0 + R.slots := by have := hroom.2; simp only [pmFresh, pmTot_app] at this; exact this
        refine va_new (cl := pmCl) (fs := pmFs E (pmFresh σ (ci, N, List.replicate N none)) (List.replicate N none) σ.1.length ci) hx hb hts hw ty (fun k hk => (hty k hk).1) hown (hts _ g1) (hts _ hi1) (hts _ hi2) hsu.1 h1 hD h2 (fun q hq => by show base ≤ q; omega) hC ?_ (by omega) (by omega) hd (fun q H1 hP1 hD1 hS1 => ?_)
        · intro j hj
          obtain ⟨-, t2, t3, -⟩ := hty j hj
          unfold vp_V pmFs
          rw [List.getD_eq_getElem?_getD, List.getElem?_map, hN, List.getElem?_range (by exact hj), Option.map_some]
          exact (pmRd_fresh t2 t3).symm
        · exact pmNewGo (z := (ci, N, List.replicate N none)) hE hsz hlen (by rw [pmCell_obj hci]) k h3 h4 hL hP1 hD1 hS1
      · cases hs
    · cases hs
  · cases hs
theorem pmT5_at {U : State} (h : va_K D pmCl (pmT5 cA) U) {t : Nat} {q : ClassId} {ty : FieldType} (ht : (pmT5 cA)[t]? = some (q, ty)) {q' : ClassId} {tys : List (ClassId × FieldType)} (h' : va_K D pmCl (pmT5 cA ++ [(q', ty)]) U) : q' = q := by
  have a := (h.2 t _ ht).2
  have b := (h'.2 5 (q', ty) rfl).2
  cases ty with
  | object C =>
    obtain ⟨-, -, -, -, -, a⟩ := a
    obtain ⟨-, -, -, -, -, b⟩ := b
    exact Option.some.inj (b.symm.trans a)
  | _ => exact Option.some.inj (b.symm.trans a)
theorem pmx_newarray {z : ArrayType} {pc pc' : Nat} {pl pl' : pmL} {st st' : List Value} {σ σ' : pmS} {call : Nat → List Value → pmS → pmA} (hC : pmCx p R s m args meth c cc base n0 nL o rt E cA D ro) (hd : decode cc pc = .ok (.newarray z, 2))
    (hs : pmStep ro call o mth rt pc (.newarray z) pl st σ = some (.inr (pc', pl', st', σ'))) (hroom : σ'.1.length ≤ n0 + R.cells ∧ pmTot σ'.1 ≤ t0 + R.slots) (k : pmWt p l e R s m args below meth c Q base n0 t0 nL mth E cA D pc' pl' st' σ') : pmWt p l e R s m args below meth c Q base n0 t0 nL mth E cA D pc pl st σ := by
  obtain ⟨hx, hb, hml, ⟨own, ho, hown⟩, hts, hsu, hsz, hin, hfr, hlo⟩ := hC
  intro H locs ls cells slots h1 h2 h3 h4 h5 hL
  have hE := hsu.2.2.2.2.2
  have hD := pmW_D (cA := cA) (σ := σ) hE h5
  simp only [pmStep] at hs
  split at hs
  · rename_i n r
    split at hs
    · rename_i hcond
      obtain ⟨hak, hn0, hn1, hlen⟩ := hcond
      simp only [pmNx, Option.some.injEq, Sum.inr.injEq, Prod.mk.injEq] at hs
      obtain ⟨rfl, rfl, rfl, rfl⟩ := hs
      have hr1 : σ.1.length + 1 ≤ n0 + R.cells := by have := hroom.1; simp [pmFresh] at this; exact this
      have hr2 : pmTot σ.1 + n.toNatClampNeg ≤ t0 + R.slots := by have := hroom.2; simp only [pmFresh, pmTot_app] at this; exact this
      have hA : ∀ q : Nat, s.heap.size ≤ q → base ≤ q := fun q hq => by omega
      cases z with
      | int =>
        refine va_newa (a0 := (n.toNatClampNeg, .inl (fun _ => 0))) (atype := .int) (ty := .int) hx hb (hts _ (pmG_mem pmw_int rfl)) rfl hsu.1 h1 hD h2 hA (fun _ => rfl) hn0 rfl (by show n.toNatClampNeg * 4 ≤ _; omega) (by omega) (by omega) hd (fun q cq H1 hK1 hP1 hD1 hS1 => ?_)
        obtain rfl := pmT5_at (tys := []) hsu.1 (t := 0) rfl hK1
        exact pmNewGo (z := (50, n.toNatClampNeg, [])) hE hsz hlen (by rw [pmCell_int]; simp only [pmFresh, pmRow_eq]) k h3 h4 hL hP1 hD1 hS1
      | long =>
        refine va_newa (a0 := (n.toNatClampNeg, .inr (.inl (fun _ => 0)))) (atype := .long) (ty := .long) hx hb (hts _ (pmG_mem pmw_long rfl)) rfl hsu.1 h1 hD h2 hA (fun _ => rfl) hn0 rfl (by show n.toNatClampNeg * 8 ≤ _; omega) (by omega) (by omega) hd (fun q cq H1 hK1 hP1 hD1 hS1 => ?_)
        obtain rfl := pmT5_at (tys := []) hsu.1 (t := 1) rfl hK1
        exact pmNewGo (z := (51, n.toNatClampNeg, [])) hE hsz hlen (by rw [pmCell_long]; simp only [pmFresh, pmRow_eq]) k h3 h4 hL hP1 hD1 hS1
      | boolean =>
        refine va_newa (a0 := (n.toNatClampNeg, .inl (fun _ => 0))) (atype := .boolean) (ty := .boolean) hx hb (hts _ (pmG_mem pmw_boolean rfl)) rfl hsu.1 h1 hD h2 hA (fun _ => rfl) hn0 rfl (by show n.toNatClampNeg * 1 ≤ _; omega) (by omega) (by omega) hd (fun q cq H1 hK1 hP1 hD1 hS1 => ?_)
        obtain rfl := pmT5_at (tys := []) hsu.1 (t := 2) rfl hK1
        exact pmNewGo (z := (52, n.toNatClampNeg, [])) hE hsz hlen (by rw [pmCell_bool]; simp only [pmFresh, pmRow_eq]) k h3 h4 hL hP1 hD1 hS1
      | byte =>
        refine va_newa (a0 := (n.toNatClampNeg, .inl (fun _ => 0))) (atype := .byte) (ty := .byte) hx hb (hts _ (pmG_mem pmw_byte rfl)) rfl hsu.1 h1 hD h2 hA (fun _ => rfl) hn0 rfl (by show n.toNatClampNeg * 1 ≤ _; omega) (by omega) (by omega) hd (fun q cq H1 hK1 hP1 hD1 hS1 => ?_)
        obtain rfl := pmT5_at (tys := []) hsu.1 (t := 3) rfl hK1
        exact pmNewGo (z := (53, n.toNatClampNeg, [])) hE hsz hlen (by rw [pmCell_byte]; simp only [pmFresh, pmRow_eq]) k h3 h4 hL hP1 hD1 hS1
      | char => exact absurd hak (by decide)
      | short => exact absurd hak (by decide)
      | float => exact absurd hak (by decide)
      | double => exact absurd hak (by decide)
    · cases hs
  · cases hs
theorem pmx_anewarray {z : Nat} {pc pc' : Nat} {pl pl' : pmL} {st st' : List Value} {σ σ' : pmS} {call : Nat → List Value → pmS → pmA} (hC : pmCx p R s m args meth c cc base n0 nL o rt E cA D ro) (hd : decode cc pc = .ok (.anewarray z, 3))
    (hs : pmStep ro call o mth rt pc (.anewarray z) pl st σ = some (.inr (pc', pl', st', σ'))) (hroom : σ'.1.length ≤ n0 + R.cells ∧ pmTot σ'.1 ≤ t0 + R.slots) (k : pmWt p l e R s m args below meth c Q base n0 t0 nL mth E cA D pc' pl' st' σ') : pmWt p l e R s m args below meth c Q base n0 t0 nL mth E cA D pc pl st σ := by
  obtain ⟨hx, hb, hml, ⟨own, ho, hown⟩, hts, hsu, hsz, hin, hfr, hlo⟩ := hC
  intro H locs ls cells slots h1 h2 h3 h4 h5 hL
  have hE := hsu.2.2.2.2.2
  have hD := pmW_D (cA := cA) (σ := σ) hE h5
  simp only [pmStep] at hs
  split at hs
  · rename_i ci w hn
    split at hs
    · rename_i n r
      split at hs
      · rename_i hcond
        obtain ⟨hci, hn0, hn1, hlen⟩ := hcond
        subst hci
        simp only [pmNx, Option.some.injEq, Sum.inr.injEq, Prod.mk.injEq] at hs
        obtain ⟨rfl, rfl, rfl, rfl⟩ := hs
        have hr1 : σ.1.length + 1 ≤ n0 + R.cells := by have := hroom.1; simp [pmFresh] at this; exact this
        have hr2 : pmTot σ.1 + n.toNatClampNeg ≤ t0 + R.slots := by have := hroom.2; simp only [pmFresh, pmTot_app] at this; exact this
        have hA : ∀ q : Nat, s.heap.size ≤ q → base ≤ q := fun q hq => by omega
        obtain ⟨C, T, N', hC, g1⟩ := pmN_ok ho hn
        cases hC
        refine va_newq (C := RX10) hx hb hown (hts _ g1) hsu.2.2.1 hsu.1 h1 hD h2 hA hn0 rfl (by omega) (by omega) (by omega) hd (fun q cq H1 hK1 hP1 hD1 hS1 => ?_)
        obtain rfl := pmT5_at (tys := []) hsu.1 (t := 4) rfl hK1
        refine pmNewGo (z := (54, n.toNatClampNeg, List.replicate n.toNatClampNeg none)) hE hsz hlen ?_ k h3 h4 hL hP1 hD1 hS1
        rw [pmCell_ref]
        simp only [pmRf_none]
        rfl
      · cases hs
    · cases hs
  · cases hs
end
end
section
/-! calls -/
section
variable {p : Program} {l : Launch} {e : Env} {R : Room} {s : State} {m : MethodId} {args : Array Value} {below : List Frame} {meth : Method} {c : Code} {Q : State → Prop}
variable {base n0 t0 nL o mth rt : Nat} {E : Nat → Nat} {cA : Nat → ClassId} {D : va_G} {ro : Nat → Nat × (Nat → Int32)} {cc : ByteArray}
theorem pmW_icp {E : Nat → Nat} {cA : Nat → ClassId} {σ : pmS} {b n : Nat} {rs : List (Option Nat)} {r : Nat → Int32} (h : σ.1[b]? = some (50, n, rs)) : pmW E cA (σ.1, pmRow σ.2.1 b r, σ.2.2) = (pmW E cA σ).set b (E b, .inl (cA 50, n, .inl r)) := by
  rw [pmW_set (σ := σ) (σ' := (σ.1, pmRow σ.2.1 b r, σ.2.2)) (pmSet_self h) h (fun q hq z => pmCell_congr (σ := σ) (σ' := (σ.1, pmRow σ.2.1 b r, σ.2.2)) (pmRow_ne _ _ hq) rfl z)]
  rw [pmCell_int]; simp only [pmRow_eq]
theorem pmW_lcp {E : Nat → Nat} {cA : Nat → ClassId} {σ : pmS} {b n : Nat} {rs : List (Option Nat)} {r : Nat → Int64} (h : σ.1[b]? = some (51, n, rs)) : pmW E cA (σ.1, σ.2.1, pmRow σ.2.2 b r) = (pmW E cA σ).set b (E b, .inl (cA 51, n, .inr (.inl r))) := by
  rw [pmW_set (σ := σ) (σ' := (σ.1, σ.2.1, pmRow σ.2.2 b r)) (pmSet_self h) h (fun q hq z => pmCell_congr (σ := σ) (σ' := (σ.1, σ.2.1, pmRow σ.2.2 b r)) rfl (pmRow_ne _ _ hq) z)]
  rw [pmCell_long]; simp only [pmRow_eq]
def pmWs (q : pmIt) : List Jvm.Cond := .code q.1 q.2.1 q.2.2.1.2.2.1 (pmRetT q.2.2.1.2.2.2) :: pmGood
def pmQc (base : Nat) (E : Nat → Nat) (cA : Nat → ClassId) (D : va_G) (σ' : pmS) (r : Option Value) : Array Value → State → Outcome → State → Prop := fun _ st oc t => (oc = .returned r ∧ va_P D pmCl (pmW E cA σ') t.heap) ∧ va_F (fun q => base ≤ q) st t
def pmPre (base : Nat) (E : Nat → Nat) (cA : Nat → ClassId) (D : va_G) (ro : Nat → Nat × (Nat → Int32)) (σ : pmS) (U : State) : Prop := U.heap.size = base + σ.1.length ∧ va_P D pmCl (pmW E cA σ) U.heap ∧ pmSur base E cA D ro U U.heap
/-- a run of the pure machine is a contract of the method -/
def pmMet (l : Launch) (base : Nat) (E : Nat → Nat) (cA : Nat → ClassId) (D : va_G) (ro : Nat → Nat × (Nat → Int32)) (d : Nat) (q : pmIt) (as : List Value) (σ : pmS) (r : Option Value) (σ' : pmS) : Prop :=
  Met l q.1 (pmWs q) { frames := d, cells := σ'.1.length - σ.1.length, slots := pmTot σ'.1 - pmTot σ.1, locals := 60 * d } (va_Pc (as.map (pv E)) (pmPre base E cA D ro σ)) (pmQc base E cA D σ' (r.map (pv E))) (σ'.1.length - σ.1.length) (pmTot σ'.1 - pmTot σ.1) (fun q => base ≤ q)
def pmCan (l : Launch) (base : Nat) (E : Nat → Nat) (cA : Nat → ClassId) (D : va_G) (ro : Nat → Nat × (Nat → Int32)) (d : Nat) (call : Nat → List Value → pmS → pmA) : Prop :=
  ∀ (mm : Nat) (as : List Value) (σ : pmS) (r : Option Value) (σ' : pmS), σ.1.length ≤ 901 → call mm as σ = some (r, σ') → ∃ q, pmInf[mm]? = some q ∧ pmMet l base E cA D ro d q as σ r σ' ∧ σ.1.length ≤ σ'.1.length ∧ pmTot σ.1 ≤ pmTot σ'.1 ∧ σ'.1.length ≤ 901 ∧ q.2.2.1.2.2.1 ≤ 40 ∧ q.2.2.2.1 ≠ 3
theorem pmPre_blind {as : List Value} {σ : pmS} : FrameBlind (va_Pc as (pmPre base E cA D ro σ)) := by
  intro a U g mk h
  obtain ⟨h1, h2, h3, h4⟩ := h
  refine ⟨h1, h2, h3, ?_⟩
  obtain ⟨a1, a2, a3, a4, a5, a6⟩ := h4
  exact ⟨va_K.moved (u := U) (U := U.calling g mk a) (Vm.Alike.refl U.vm) a1, fun w hw hn => pmNest_warm hn (State.WarmedH.refl U) (a2 w hw hn), va_AO.moved (u := U) (U := U.calling g mk a) (Vm.Alike.refl U.vm) a3,
    va_Z.moved (u := U) (U := U.calling g mk a) (Vm.Alike.refl U.vm) a4, fun p hp h0 => va_T.moved (u := U) (U := U.calling g mk a) (Vm.Alike.refl U.vm) (a5 p hp h0), a6⟩
theorem pmGoodIn (q : pmIt) (h : Jvm.Cond.code q.1 q.2.1 q.2.2.1.2.2.1 (pmRetT q.2.2.1.2.2.2) ∈ pmGood) : GoodIn pmGood (pmWs q) := by
  intro w hw
  have hm : w ∈ pmGood := by
    rcases List.mem_cons.mp hw with rfl | hw
    · exact h
    · exact hw
  exact ⟨hm, good_of_word (List.mem_filter.mp hm).2⟩
/-- behind a call -/
theorem pmAfter {σ1 : pmS} {mc ms pc : Nat} {r : Option Value} {a : Array Value} {pl : pmL} {rest st0 : List Value} {H : Heap} {locs : List Loc} {ls : Array Slot} {cells slots : Nat}
    (hr : va_Run p l e R s m args below meth c H locs cells slots mc ms (F0 m pc ls st0) (rest.map (pv E)) (pmQc base E cA D σ1 (r.map (pv E)) a) (fun q => base ≤ q))
    (k : pmWt p l e R s m args below meth c Q base n0 t0 nL mth E cA D (pc + 3) pl (r.toList ++ rest) σ1) (h2 : va_S (fun q => base ≤ q) s.heap H locs) (hsz : base ≤ s.heap.size) (hc : n0 + (cells + mc) = σ1.1.length) (ht : t0 + (slots + ms) = pmTot σ1.1) (h5 : σ1.1.length ≤ 901) (hL : pmLr E mth nL ls pl) :
    W p l e R s m args below meth c H locs cells slots Q (F0 m pc ls st0) := by
  intro T hT X
  obtain ⟨v, st₀, t, T', L, h0, X', hL2, e1, e2, ⟨⟨hv, hP⟩, hz, hk⟩, st⟩ := hr T hT X
  cases hv
  rw [h0] at hz hk
  obtain ⟨t2, a1, b1⟩ := k T'.heap (locs ++ L) ls (cells + mc) (slots + ms) (by rw [e1]; exact hP)
    ⟨Nat.le_trans h2.1 (by rw [e1]; exact hz), fun q g1 g2 => by rw [e1, hk q (Nat.lt_of_lt_of_le g1 h2.1) g2]; exact h2.2.1 q g1 g2, fun q hq => by
      rcases List.mem_append.mp hq with h | h
      · exact h2.2.2 q h
      · exact hL2 q h⟩ hc ht h5 hL T' rfl X'
  refine ⟨t2, st t2 ?_, b1⟩
  have e3 : List.map (pv E) (r.toList ++ rest) = (r.map (pv E)).toList ++ rest.map (pv E) := by cases r <;> simp
  rw [e3] at a1
  exact a1
theorem pmSize {σ : pmS} {H : Heap} {T : State} {locs : List Loc} {cells slots : Nat} (hE : ∀ k, k < 1000 → E k = base + k) (h1 : va_P D pmCl (pmW E cA σ) H) (h2 : va_S (fun q => base ≤ q) s.heap H locs) (h3 : n0 + cells = σ.1.length) (h5 : σ.1.length ≤ 901) (hsz : s.heap.size = base + n0) (hT : T.heap = H) (X : Stand p l e R s m args below meth c T locs cells slots) : H.size = base + σ.1.length := by
  have hz := X.heapSize
  rw [hT, hsz] at hz
  have hlow : base + σ.1.length ≤ H.size := by
    rcases Nat.eq_zero_or_pos σ.1.length with h0 | h0
    · have := h2.1
      omega
    · have hlt : σ.1.length - 1 < σ.1.length := by omega
      have h4 := (h1 _ _ (pmW_get (E := E) (cA := cA) (List.getElem?_eq_getElem hlt))).lt
      change E (σ.1.length - 1) < H.size at h4
      rw [hE _ (by omega)] at h4
      omega
  omega
theorem pmWithSize {σ : pmS} {H : Heap} {locs : List Loc} {cells slots : Nat} {g : JFrame} (hE : ∀ k, k < 1000 → E k = base + k) (h1 : va_P D pmCl (pmW E cA σ) H) (h2 : va_S (fun q => base ≤ q) s.heap H locs) (h3 : n0 + cells = σ.1.length) (h5 : σ.1.length ≤ 901) (hsz : s.heap.size = base + n0)
    (kk : H.size = base + σ.1.length → W p l e R s m args below meth c H locs cells slots Q g) : W p l e R s m args below meth c H locs cells slots Q g :=
  fun T hT X => kk (pmSize hE h1 h2 h3 h5 hsz hT X) T hT X
theorem pmPreS {σ : pmS} {H : Heap} {locs : List Loc} {as : List Value} (hsu : pmSur base E cA D ro s s.heap) (hH : H.size = base + σ.1.length) (h1 : va_P D pmCl (pmW E cA σ) H) (h2 : va_S (fun q => base ≤ q) s.heap H locs) (hb : base ≤ s.heap.size) : PreS s H (va_Pc as (pmPre base E cA D ro σ)) as :=
  ⟨pmPre_blind, fun U hU hW => ⟨rfl, by rw [hU]; exact hH, by rw [hU]; exact h1, by rw [hU]; exact pmSur.moved hsu hW (fun q g1 g2 => h2.2.1 q g1 g2)⟩⟩
theorem pmLen_ok {q : pmIt} (h : (parseMethodDescriptor q.1.desc).map (fun d => d.parameters.length) = some q.2.2.1.2.1) : ∀ sig, parseMethodDescriptor q.1.desc = some sig → q.2.2.1.2.1 = sig.parameters.length := by
  intro sig h1
  rw [h1] at h
  exact (Option.some.inj h).symm
theorem pmCB {q : pmIt} {own : String} {idx d mc ms : Nat} (hts : ∀ w ∈ pmGood, w.before args s = true) (hp : pmIp q) (hk3 : q.2.2.2.1 ≠ 3) (hmx : q.2.2.1.2.2.1 ≤ 40) (hd1 : d + 1 ≤ R.frames) (hd2 : 60 * (d + 1) ≤ R.locals) (hlink : Jvm.Cond.methodLink own idx q.1 ∈ pmGood) :
    CallB R s args own idx q.1 q.2.1 q.2.2.1.2.2.1 (pmRetT q.2.2.1.2.2.2) (pmWs q) { frames := d, cells := mc, slots := ms, locals := 60 * d } mc ms q.2.2.1.2.1 := by
  obtain ⟨i1, i2, i3, i4, i5⟩ := hp
  rcases i5 with i5 | ⟨i5, i6, i7⟩
  · exact absurd i5 hk3
  obtain ⟨own2, k1, k2, k3, k4⟩ := pmOp_all _ i2
  cases i1.symm.trans k1
  exact ⟨rfl, rfl, hd1, by show 8 + (_ + 11) + 60 * d ≤ _; omega, pay_in hts (pmGoodIn q (pmG_mem i5 rfl)), List.mem_cons_self, hts _ (pmG_mem i5 rfl), hts _ (pmG_mem i6 rfl), ⟨k3, k4⟩, pmLen_ok i3, hts _ hlink⟩
theorem pmCN {q : pmIt} {own : String} {idx d mc ms : Nat} (hts : ∀ w ∈ pmGood, w.before args s = true) (hnw : ∀ w ∈ lw_tbl, pmNest w = true → va_Nw w s) (hp : pmIp q) (hk3 : q.2.2.2.1 ≠ 3) (hmx : q.2.2.1.2.2.1 ≤ 40) (hd1 : d + 1 ≤ R.frames) (hd2 : 60 * (d + 1) ≤ R.locals) (hlink : Jvm.Cond.methodLinkNest own idx q.1 "BentTale" ∈ lw_tbl) :
    va_CN R s args own idx q.1 "BentTale" q.2.1 q.2.2.1.2.2.1 (pmRetT q.2.2.1.2.2.2) (pmWs q) { frames := d, cells := mc, slots := ms, locals := 60 * d } mc ms q.2.2.1.2.1 := by
  obtain ⟨i1, i2, i3, i4, i5⟩ := hp
  rcases i5 with i5 | ⟨i5, i6, i7⟩
  · exact absurd i5 hk3
  obtain ⟨own2, k1, k2, k3, k4⟩ := pmOp_all _ i2
  cases i1.symm.trans k1
  exact ⟨⟨rfl, rfl, hd1, by show 8 + (_ + 11) + 60 * d ≤ _; omega, pay_in hts (pmGoodIn q (pmG_mem i5 rfl)), List.mem_cons_self⟩, hts _ (pmG_mem i5 rfl), hts _ (pmG_mem i6 rfl), ⟨k3, k4⟩, pmLen_ok i3, va_Nw.use rfl (hnw _ hlink rfl)⟩
theorem pmKind_of {q : pmIt} (hp : pmIp q) (hk3 : q.2.2.2.1 ≠ 3) : (q.2.2.2.1 = 0 → Jvm.Cond.instanceMethod q.1 ∈ pmGood ∧ Jvm.Cond.selects q.1.cls q.1 q.1 ∈ pmGood ∧ q.2.2.1.1 ≤ 12) ∧ (q.2.2.2.1 = 1 → Jvm.Cond.static q.1 ∈ pmGood) ∧ (q.2.2.2.1 = 2 → Jvm.Cond.instanceMethod q.1 ∈ pmGood ∧ q.1.name = "<init>" ∧ pmRetT q.2.2.1.2.2.2 = none) := by
  obtain ⟨i1, i2, i3, i4, i5⟩ := hp
  rcases i5 with i5 | ⟨i5, i6, i7⟩
  · exact absurd i5 hk3
  rcases i7 with ⟨z, j1, j2, j3⟩ | ⟨z, j1⟩ | ⟨z, j1, j2, j3⟩
  · exact ⟨fun _ => ⟨pmG_mem j1 rfl, pmG_mem j2 rfl, j3⟩, fun h => by omega, fun h => by omega⟩
  · exact ⟨fun h => by omega, fun _ => pmG_mem j1 rfl, fun h => by omega⟩
  · exact ⟨fun h => by omega, fun h => by omega, fun _ => ⟨pmG_mem j1 rfl, j2, by rw [j3]; rfl⟩⟩
theorem pmNo {mm : Nat} {q : pmIt} (h : pmInf[mm]? = some q) : mm < 9000 := by
  obtain ⟨t, ha, -⟩ := pmI_at h
  have h1 := (List.getElem?_eq_some_iff.mp ha).1
  have h2 : pmAll.length ≤ 9000 := by decide +kernel
  omega
theorem pmTake (E : Nat → Nat) (st : List Value) (n : Nat) : st.map (pv E) = (((st.take n).reverse).map (pv E)).reverse ++ (st.drop n).map (pv E) := by
  rw [← List.map_reverse, List.reverse_reverse, ← List.map_append, List.take_append_drop]
theorem pmx_invokestatic {z d : Nat} {pc pc' : Nat} {pl pl' : pmL} {st st' : List Value} {σ σ' : pmS} {call : Nat → List Value → pmS → pmA} (hC : pmCx p R s m args meth c cc base n0 nL o rt E cA D ro) (hd : decode cc pc = .ok (.invokestatic z, 3)) (hcall : pmCan l base E cA D ro d call) (hd1 : d + 1 ≤ R.frames) (hd2 : 60 * (d + 1) ≤ R.locals)
    (hs : pmStep ro call o mth rt pc (.invokestatic z) pl st σ = some (.inr (pc', pl', st', σ'))) (hroom : σ'.1.length ≤ n0 + R.cells ∧ pmTot σ'.1 ≤ t0 + R.slots) (k : pmWt p l e R s m args below meth c Q base n0 t0 nL mth E cA D pc' pl' st' σ') : pmWt p l e R s m args below meth c Q base n0 t0 nL mth E cA D pc pl st σ := by
  obtain ⟨hx, hb, hml, ⟨own, ho, hown⟩, hts, hsu, hsz, hin, hfr, hlo⟩ := hC
  intro H locs ls cells slots h1 h2 h3 h4 h5 hL
  have hE := hsu.2.2.2.2.2
  have hD := pmW_D (cA := cA) (σ := σ) hE h5
  have hls : c.maxLocals = ls.size := by rw [hml]; exact hL.2.1.symm
  simp only [pmStep] at hs
  split at hs
  · rename_i mm w nst hm
    obtain ⟨-, g1, g2, g3, g4⟩ := pmM_ok ho hm
    split at hs
    · rename_i hmm
      split at hs
      · rename_i n dp b sp a r
        split at hs
        · rename_i hcat
          split at hs
          · rename_i σ2 hcp
            simp only [pmNx, Option.some.injEq, Sum.inr.injEq, Prod.mk.injEq] at hs
            obtain ⟨rfl, rfl, rfl, rfl⟩ := hs
            unfold pmCopy at hcp
            split at hcp
            · rename_i ka na ra kb nb rb hsa hsb
              split at hcp
              · rename_i hcond
                obtain ⟨c1, c2, c3, c4, c5⟩ := hcond
                have hwords : ((r.map (pv E)).map fun v => v.category).sum + (nativeFrameWords "java/lang/System" "arraycopy" 5 + 11) ≤ R.locals := by
                  rw [pv_cats]
                  exact Nat.le_trans (Nat.add_le_add_right hcat _) (Nat.le_trans (Nat.le_of_ble_eq_true rfl) hlo)
                have hea := pmW_get (E := E) (cA := cA) hsa
                have heb := pmW_get (E := E) (cA := cA) hsb
                split at hcp
                · rename_i hk
                  obtain ⟨rfl, rfl⟩ := hk
                  cases hcp
                  exact va_copyi hx hb hls hown (hts _ (g1 hmm)) (hts _ (pmG_mem pmw_native rfl)) (hts _ (pmG_mem pmw_cpst rfl)) (hts _ (pmG_mem pmw_sysi rfl)) hsu.1 h1 hD h2 a b 0 0 hea heb rfl rfl rfl c1 c2 c3 c4 c5 (fun _ _ => rfl) hfr hwords hd
                    (fun H1 locs1 hP1 _ hS1 => k H1 locs1 ls cells slots (by rw [pmW_icp hsb]; exact hP1) hS1 h3 h4 h5 hL)
                · split at hcp
                  · rename_i hk
                    obtain ⟨rfl, rfl⟩ := hk
                    cases hcp
                    exact va_copyl hx hb hls hown (hts _ (g1 hmm)) (hts _ (pmG_mem pmw_native rfl)) (hts _ (pmG_mem pmw_cpst rfl)) (hts _ (pmG_mem pmw_sysi rfl)) hsu.1 h1 hD h2 a b 1 1 hea heb rfl rfl rfl c1 c2 c3 c4 c5 (fun _ _ => rfl) hfr hwords hd
                      (fun H1 locs1 hP1 _ hS1 => k H1 locs1 ls cells slots (by rw [pmW_lcp hsb]; exact hP1) hS1 h3 h4 h5 hL)
                  · cases hcp
              · cases hcp
            · cases hcp
          · cases hs
        · cases hs
      · cases hs
    · rename_i e0
      split at hs
      · rename_i hmm
        split at hs
        · rename_i y x r
          split at hs
          · rename_i hcat
            simp only [pmNx, Option.some.injEq, Sum.inr.injEq, Prod.mk.injEq] at hs
            obtain ⟨rfl, rfl, rfl, rfl⟩ := hs
            exact va_mmax hx hb hls hown (hts _ (g2 hmm)) (hts _ (pmG_mem pmw_maxs rfl)) (hts _ (pmG_mem pmw_mathi rfl)) (hts _ (pmG_mem pmw_maxc rfl)) hfr (by rw [pv_cats]; omega) (by omega) (by omega) hd (k H locs ls cells slots h1 h2 h3 h4 h5 hL)
          · cases hs
        · cases hs
      · rename_i e2
        split at hs
        · rename_i hmm
          split at hs
          · rename_i y x r
            split at hs
            · rename_i hcat
              simp only [pmNx, Option.some.injEq, Sum.inr.injEq, Prod.mk.injEq] at hs
              obtain ⟨rfl, rfl, rfl, rfl⟩ := hs
              exact va_mmin hx hb hls hown (hts _ (g3 hmm)) (hts _ (pmG_mem pmw_mins rfl)) (hts _ (pmG_mem pmw_mathi rfl)) (hts _ (pmG_mem pmw_minc rfl)) hfr (by rw [pv_cats]; omega) (by omega) (by omega) hd (k H locs ls cells slots h1 h2 h3 h4 h5 hL)
            · cases hs
          · cases hs
        · rename_i e3
          split at hs
          · rename_i y b oo n mx rr ev hq
            split at hs
            · rename_i hn
              unfold pmRt at hs
              split at hs
              · rename_i hcat
                split at hs
                · rename_i r σ1 hr
                  simp only [pmNx, Option.some.injEq, Sum.inr.injEq, Prod.mk.injEq] at hs
                  obtain ⟨rfl, rfl, rfl, rfl⟩ := hs
                  obtain ⟨q, hq2, hM, hle, hle2, h901, hmx, hk3⟩ := hcall mm _ σ r σ1 h5 hr
                  obtain ⟨t, ha, hp⟩ := pmI_at hq2
                  cases hq.symm.trans hq2
                  have hno := pmNo hq2
                  obtain ⟨j1, j2⟩ := g4 _ (by omega) (by omega) (by omega) (by omega) hq2
                  have hkd := (pmKind_of hp hk3).2.1 rfl
                  refine pmWithSize hE h1 h2 h3 h5 hsz (fun hH => ?_)
                  have hP := pmPreS (as := ((st.take n).reverse).map (pv E)) hsu hH h1 h2 (by omega)
                  have hAs : (((st.take n).reverse).map (pv E)).length = n := by simp; omega
                  rw [pmTake E st n]
                  cases nst with
                  | false => exact pmAfter (va_runS ⟨hx, hb, hml, hown, hts⟩ hM ⟨pmCB hts hp hk3 hmx hd1 hd2 (j1 rfl), hts _ hkd⟩ hP rfl hAs hL.2.1 rfl (lv_room (by rw [pv_cats]; exact hcat)) hd ⟨by omega, by omega⟩) k h2 (by omega) (by omega) (by omega) h901 hL
                  | true => exact pmAfter (va_runSN ⟨hx, hb, hml, hown, hts⟩ hM ⟨pmCN hts hsu.2.1 hp hk3 hmx hd1 hd2 (j2 rfl), hts _ hkd, trivial⟩ hP rfl hAs hL.2.1 rfl (lv_room (by rw [pv_cats]; exact hcat)) hd ⟨by omega, by omega⟩) k h2 (by omega) (by omega) (by omega) h901 hL
                · cases hs
              · cases hs
            · cases hs
          · cases hs
  · cases hs
theorem pmx_invokevirtual {z d : Nat} {pc pc' : Nat} {pl pl' : pmL} {st st' : List Value} {σ σ' : pmS} {call : Nat → List Value → pmS → pmA} (hC : pmCx p R s m args meth c cc base n0 nL o rt E cA D ro) (hd : decode cc pc = .ok (.invokevirtual z, 3)) (hcall : pmCan l base E cA D ro d call) (hd1 : d + 1 ≤ R.frames) (hd2 : 60 * (d + 1) ≤ R.locals)
    (hs : pmStep ro call o mth rt pc (.invokevirtual z) pl st σ = some (.inr (pc', pl', st', σ'))) (hroom : σ'.1.length ≤ n0 + R.cells ∧ pmTot σ'.1 ≤ t0 + R.slots) (k : pmWt p l e R s m args below meth c Q base n0 t0 nL mth E cA D pc' pl' st' σ') : pmWt p l e R s m args below meth c Q base n0 t0 nL mth E cA D pc pl st σ := by
  obtain ⟨hx, hb, hml, ⟨own, ho, hown⟩, hts, hsu, hsz, hin, hfr, hlo⟩ := hC
  intro H locs ls cells slots h1 h2 h3 h4 h5 hL
  have hE := hsu.2.2.2.2.2
  have hD := pmW_D (cA := cA) (σ := σ) hE h5
  have hls : c.maxLocals = ls.size := by rw [hml]; exact hL.2.1.symm
  simp only [pmStep] at hs
  split at hs
  · rename_i mm w nst hm
    obtain ⟨-, -, -, -, g4⟩ := pmM_ok ho hm
    split at hs
    · rename_i y b oo n mx rr ev hq
      split at hs
      · rename_i a rest hdr
        split at hs
        · rename_i ca na ra hsa
          split at hs
          · rename_i hca
            subst hca
            unfold pmRt at hs
            split at hs
            · rename_i hcat
              split at hs
              · rename_i r σ1 hr
                simp only [pmNx, Option.some.injEq, Sum.inr.injEq, Prod.mk.injEq] at hs
                obtain ⟨rfl, rfl, rfl, rfl⟩ := hs
                obtain ⟨q, hq2, hM, hle, hle2, h901, hmx, hk3⟩ := hcall mm _ σ r σ1 h5 hr
                obtain ⟨t, ha, hp⟩ := pmI_at hq2
                cases hq.symm.trans hq2
                have hno := pmNo hq2
                obtain ⟨j1, j2⟩ := g4 _ (by omega) (by omega) (by omega) (by omega) hq2
                obtain ⟨kd1, kd2, kd3⟩ := (pmKind_of hp hk3).1 rfl
                change ca ≤ 12 at kd3
                refine pmWithSize hE h1 h2 h3 h5 hsz (fun hH => ?_)
                have hP := pmPreS (as := Value.ref (E a) :: ((st.take n).reverse).map (pv E)) hsu hH h1 h2 (by omega)
                have hnl : n ≤ st.length := by
                  rcases Nat.lt_or_ge st.length n with q | q
                  · rw [List.drop_eq_nil_of_le (by omega)] at hdr; cases hdr
                  · exact q
                have hAs : (((st.take n).reverse).map (pv E)).length = n := by simp; omega
                obtain ⟨C, T, N, hCl⟩ : ∃ C T N, pmCl[ca]? = some (C, T, N) := ⟨_, _, _, List.getElem?_eq_getElem (show ca < pmCl.length by show ca < 13; omega)⟩
                have hoC := (pmK_ok hCl).2.1
                have he := pmW_get (E := E) (cA := cA) hsa
                rw [pmCell_obj (by omega)] at he
                have hrec := va_recv hsu.1 h1 hCl he
                have hcls : C = y.cls := Option.some.inj (hoC.symm.trans hp.1)
                subst hcls
                have hPV : PreV s H y.cls (E a) (va_Pc (Value.ref (E a) :: ((st.take n).reverse).map (pv E)) (pmPre base E cA D ro σ)) (((st.take n).reverse).map (pv E)) := ⟨hP.1, hrec, hP.2⟩
                have hst : st.map (pv E) = (((st.take n).reverse).map (pv E)).reverse ++ Value.ref (E a) :: rest.map (pv E) := by rw [pmTake E st n, hdr]; rfl
                rw [hst]
                cases nst with
                | false => exact pmAfter (va_runV ⟨hx, hb, hml, hown, hts⟩ hM ⟨pmCB hts hp hk3 hmx hd1 hd2 (j1 rfl), hts _ kd1, hts _ kd2⟩ hPV rfl hAs hL.2.1 rfl (lv_room (by rw [pv_cats]; exact hcat)) hd ⟨by omega, by omega⟩) k h2 (by omega) (by omega) (by omega) h901 hL
                | true => exact pmAfter (va_runVN ⟨hx, hb, hml, hown, hts⟩ hM ⟨pmCN hts hsu.2.1 hp hk3 hmx hd1 hd2 (j2 rfl), hts _ kd1, hts _ kd2⟩ hPV rfl hAs hL.2.1 rfl (lv_room (by rw [pv_cats]; exact hcat)) hd ⟨by omega, by omega⟩) k h2 (by omega) (by omega) (by omega) h901 hL
              · cases hs
            · cases hs
          · cases hs
        · cases hs
      · cases hs
    · cases hs
  · cases hs
theorem pmx_invokespecial {z d : Nat} {pc pc' : Nat} {pl pl' : pmL} {st st' : List Value} {σ σ' : pmS} {call : Nat → List Value → pmS → pmA} (hC : pmCx p R s m args meth c cc base n0 nL o rt E cA D ro) (hd : decode cc pc = .ok (.invokespecial z, 3)) (hcall : pmCan l base E cA D ro d call) (hd1 : d + 1 ≤ R.frames) (hd2 : 60 * (d + 1) ≤ R.locals)
    (hs : pmStep ro call o mth rt pc (.invokespecial z) pl st σ = some (.inr (pc', pl', st', σ'))) (hroom : σ'.1.length ≤ n0 + R.cells ∧ pmTot σ'.1 ≤ t0 + R.slots) (k : pmWt p l e R s m args below meth c Q base n0 t0 nL mth E cA D pc' pl' st' σ') : pmWt p l e R s m args below meth c Q base n0 t0 nL mth E cA D pc pl st σ := by
  obtain ⟨hx, hb, hml, ⟨own, ho, hown⟩, hts, hsu, hsz, hin, hfr, hlo⟩ := hC
  intro H locs ls cells slots h1 h2 h3 h4 h5 hL
  have hE := hsu.2.2.2.2.2
  have hD := pmW_D (cA := cA) (σ := σ) hE h5
  have hls : c.maxLocals = ls.size := by rw [hml]; exact hL.2.1.symm
  simp only [pmStep] at hs
  split at hs
  · rename_i mm w nst hm
    obtain ⟨g0, -, -, -, g4⟩ := pmM_ok ho hm
    split at hs
    · rename_i hmm
      split at hs
      · rename_i a r
        split at hs
        · rename_i hcat
          simp only [pmNx, Option.some.injEq, Sum.inr.injEq, Prod.mk.injEq] at hs
          obtain ⟨rfl, rfl, rfl, rfl⟩ := hs
          refine W.objInit hx hb hown (hts _ (g0 hmm)) (hts _ (pmG_mem pmw_obji rfl)) (hts _ (pmG_mem pmw_objc rfl)) rfl (by rw [hml]; exact hL.2.1) rfl hd hfr (by show 2 * 0 + _ + 12 ≤ _; rw [pv_cats]; omega) (k H locs ls cells slots h1 h2 h3 h4 h5 hL)
        · cases hs
      · cases hs
    · split at hs
      · rename_i y b oo n mx rr ev hq
        split at hs
        · rename_i a rest hdr
          unfold pmRt at hs
          split at hs
          · rename_i hcat
            split at hs
            · rename_i r σ1 hr
              simp only [pmNx, Option.some.injEq, Sum.inr.injEq, Prod.mk.injEq] at hs
              obtain ⟨rfl, rfl, rfl, rfl⟩ := hs
              obtain ⟨q, hq2, hM, hle, hle2, h901, hmx, hk3⟩ := hcall mm _ σ r σ1 h5 hr
              obtain ⟨t, ha, hp⟩ := pmI_at hq2
              cases hq.symm.trans hq2
              have hno := pmNo hq2
              obtain ⟨j1, j2⟩ := g4 _ (by omega) (by omega) (by omega) (by omega) hq2
              obtain ⟨kd1, kd2, kd3⟩ := (pmKind_of hp hk3).2.2 rfl
              refine pmWithSize hE h1 h2 h3 h5 hsz (fun hH => ?_)
              have hP := pmPreS (as := Value.ref (E a) :: ((st.take n).reverse).map (pv E)) hsu hH h1 h2 (by omega)
              have hnl : n ≤ st.length := by
                rcases Nat.lt_or_ge st.length n with q | q
                · rw [List.drop_eq_nil_of_le (by omega)] at hdr; cases hdr
                · exact q
              have hAs : (((st.take n).reverse).map (pv E)).length = n := by simp; omega
              have hst : st.map (pv E) = (((st.take n).reverse).map (pv E)).reverse ++ Value.ref (E a) :: rest.map (pv E) := by rw [pmTake E st n, hdr]; rfl
              rw [hst]
              cases nst with
              | false =>
                have hcb := pmCB (mc := σ1.1.length - σ.1.length) (ms := pmTot σ1.1 - pmTot σ.1) hts hp hk3 hmx hd1 hd2 (j1 rfl)
                rw [kd3] at hcb
                exact pmAfter (va_runI ⟨hx, hb, hml, hown, hts⟩ hM ⟨hcb, kd2, hts _ kd1⟩ hP rfl hAs hL.2.1 rfl (lv_room (by rw [pv_cats]; exact hcat)) hd ⟨by omega, by omega⟩) k h2 (by omega) (by omega) (by omega) h901 hL
              | true =>
                have hcb := pmCN (mc := σ1.1.length - σ.1.length) (ms := pmTot σ1.1 - pmTot σ.1) hts hsu.2.1 hp hk3 hmx hd1 hd2 (j2 rfl)
                rw [kd3] at hcb
                exact pmAfter (va_runIN ⟨hx, hb, hml, hown, hts⟩ hM ⟨hcb, kd2, hts _ kd1⟩ hP rfl hAs hL.2.1 rfl (lv_room (by rw [pv_cats]; exact hcat)) hd ⟨by omega, by omega⟩) k h2 (by omega) (by omega) (by omega) h901 hL
            · cases hs
          · cases hs
        · cases hs
      · cases hs
  · cases hs
end
end
