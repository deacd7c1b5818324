/-! instructions that touch the cells -/
section
variable {p : Program} {l : Launch} {e : Env} {R : Room} {s : State} {m : MethodId} {args : Array Value} {below : List Frame} {meth : Method} {c : Code} {Q : State → Prop}
variable {base n0 t0 nL o mth rt : Nat} {E : Nat → Nat} {cA : Nat → ClassId} {D : va_G} {ro : Nat → Nat × (Nat → Int32)} {cc : ByteArray}
def pmFs (E : Nat → Nat) (σ : pmS) (rs : List (Option Nat)) (p ci : Nat) : List Value := (List.range ((pmNf[ci]?).getD 0)).map fun k => pv E ((pmRd σ rs ci k p).getD .null)
theorem pmCell_obj {E : Nat → Nat} {cA : Nat → ClassId} {σ : pmS} {q ci n : Nat} {rs : List (Option Nat)} (h : ci < 13) : pmCell E cA σ q (ci, n, rs) = .inr (ci, pmFs E σ rs q ci) := by
  unfold pmCell
  rw [if_pos (show ci < 50 by omega)]
  rfl
theorem pmCell_int {E : Nat → Nat} {cA : Nat → ClassId} {σ : pmS} {q n : Nat} {rs : List (Option Nat)} : pmCell E cA σ q (50, n, rs) = .inl (cA 50, n, .inl (σ.2.1 q)) := rfl
theorem pmCell_long {E : Nat → Nat} {cA : Nat → ClassId} {σ : pmS} {q n : Nat} {rs : List (Option Nat)} : pmCell E cA σ q (51, n, rs) = .inl (cA 51, n, .inr (.inl (σ.2.2 q))) := rfl
theorem pmCell_bool {E : Nat → Nat} {cA : Nat → ClassId} {σ : pmS} {q n : Nat} {rs : List (Option Nat)} : pmCell E cA σ q (52, n, rs) = .inl (cA 52, n, .inl (σ.2.1 q)) := rfl
theorem pmCell_byte {E : Nat → Nat} {cA : Nat → ClassId} {σ : pmS} {q n : Nat} {rs : List (Option Nat)} : pmCell E cA σ q (53, n, rs) = .inl (cA 53, n, .inl (σ.2.1 q)) := rfl
theorem pmCell_ref {E : Nat → Nat} {cA : Nat → ClassId} {σ : pmS} {q n : Nat} {rs : List (Option Nat)} : pmCell E cA σ q (54, n, rs) = .inl (cA 54, n, .inr (.inr (.inr (.inr (fun j => (pmRf rs j).map E))))) := rfl
theorem pmFs_at {E : Nat → Nat} {σ : pmS} {rs : List (Option Nat)} {p ci j N : Nat} {v : Value} (hN : (pmNf[ci]?).getD 0 = N) (hj : j < N) (h : pmRd σ rs ci j p = some v) : (pmFs E σ rs p ci)[j]? = some (pv E v) := by
  unfold pmFs
  rw [List.getElem?_map, List.getElem?_range (by omega), Option.map_some, h]
  rfl
theorem pmWr_ok {σ σ' : pmS} {ci j p c n : Nat} {rs : List (Option Nat)} {v : Value} (hs : σ.1[p]? = some (c, n, rs)) (h : pmWr σ ci j p v = some σ') : ∃ rs', σ'.1 = σ.1.set p (c, n, rs') ∧ pmRd σ' rs' ci j p = some v ∧ (∀ k, k ≠ j → pmRd σ' rs' ci k p = pmRd σ rs ci k p) ∧ (∀ q, q ≠ p → σ'.2.1 q = σ.2.1 q ∧ σ'.2.2 q = σ.2.2 q) := by
  unfold pmWr at h
  split at h
  · rename_i hk; cases h
    refine ⟨rs, pmSet_self hs, by simp [pmRd, hk, pmUp], fun k hkj => ?_, fun q hq => ⟨pmUp_ne _ _ _ hq, rfl⟩⟩
    unfold pmRd; simp [pmUp, hkj]
  · rename_i hk
    split at h
    · cases h
      refine ⟨rs, pmSet_self hs, by simp [pmRd, hk, pmUp], fun k hkj => ?_, fun q hq => ⟨pmUp_ne _ _ _ hq, rfl⟩⟩
      unfold pmRd; simp [pmUp, hkj]
    · cases h
  · rename_i hk; cases h
    refine ⟨rs, pmSet_self hs, by simp [pmRd, hk, pmUp], fun k hkj => ?_, fun q hq => ⟨rfl, pmUp_ne _ _ _ hq⟩⟩
    unfold pmRd; simp [pmUp, hkj]
  · rename_i q0 hk
    rw [hs] at h
    change (if j < rs.length then some (σ.1.set p (c, n, rs.set j (some q0)), σ.2.1, σ.2.2) else none) = some σ' at h
    split at h
    · rename_i hl
      cases h
      refine ⟨rs.set j (some q0), rfl, ?_, fun k hkj => ?_, fun q hq => ⟨rfl, rfl⟩⟩
      · unfold pmRd pmRf
        rw [List.getElem?_set_self hl]
        simp [hk, va_rf]
      · unfold pmRd pmRf
        rw [List.getElem?_set_ne (Ne.symm hkj)]
    · cases h
  · cases h
theorem pmFs_wr {E : Nat → Nat} {σ σ' : pmS} {rs rs' : List (Option Nat)} {ci j p : Nat} {v : Value} (h2 : pmRd σ' rs' ci j p = some v) (h3 : ∀ k, k ≠ j → pmRd σ' rs' ci k p = pmRd σ rs ci k p) : pmFs E σ' rs' p ci = (pmFs E σ rs p ci).set j (pv E v) := by
  apply List.ext_getElem?
  intro k
  by_cases hk : k < (pmNf[ci]?).getD 0
  · by_cases hkj : k = j
    · subst hkj
      rw [List.getElem?_set_self (by simp [pmFs]; exact hk), pmFs_at rfl hk h2]
    · rw [List.getElem?_set_ne (Ne.symm hkj)]
      unfold pmFs
      rw [List.getElem?_map, List.getElem?_map, List.getElem?_range hk, Option.map_some, Option.map_some, h3 k hkj]
  · rw [List.getElem?_eq_none (by simp [pmFs]; omega), List.getElem?_eq_none (by simp [pmFs]; omega)]
theorem pmW_wr {E : Nat → Nat} {cA : Nat → ClassId} {σ σ' : pmS} {ci j p n : Nat} {rs : List (Option Nat)} {v : Value} (hci : ci < 13) (hs : σ.1[p]? = some (ci, n, rs)) (h : pmWr σ ci j p v = some σ') : pmW E cA σ' = (pmW E cA σ).set p (E p, .inr (ci, (pmFs E σ rs p ci).set j (pv E v))) := by
  obtain ⟨rs', h1, h2, h3, h4⟩ := pmWr_ok hs h
  rw [pmW_set h1 hs (fun q hq z => pmCell_congr (h4 q hq).1 (h4 q hq).2 z), pmCell_obj hci, pmFs_wr h2 h3]
theorem pmWr_shape {σ σ' : pmS} {ci j p : Nat} {s : pmZ} {v : Value} (hs : σ.1[p]? = some s) (h : pmWr σ ci j p v = some σ') : σ'.1.length = σ.1.length ∧ pmTot σ'.1 = pmTot σ.1 := by
  obtain ⟨c, n, rs⟩ := s
  obtain ⟨rs', h1, -⟩ := pmWr_ok hs h
  rw [h1]
  refine ⟨by simp, ?_⟩
  unfold pmTot
  rw [List.map_set]
  have : (σ.1.map fun s => s.2.1)[p]? = some n := by rw [List.getElem?_map, hs]; rfl
  exact congrArg List.sum (pmSet_self this).symm
/-- the value fits the field -/
theorem pmWr_fit {σ σ' : pmS} {ci j p : Nat} {v : Value} {ty : FieldType} (E : Nat → Nat) (h : pmWr σ ci j p v = some σ') (hk : pmKd ci j = pmKind ty) : narrow ty (pv E v) = pv E v ∧ fits ty (pv E v) = true := by
  unfold pmWr at h
  rw [hk] at h
  cases ty with
  | int => cases v <;> first | exact ⟨rfl, rfl⟩ | (simp [pmKind] at h; done)
  | long => cases v <;> first | exact ⟨rfl, rfl⟩ | (simp [pmKind] at h; done)
  | object C => cases v <;> first | exact ⟨rfl, rfl⟩ | (simp [pmKind] at h; done)
  | array t => cases v <;> first | exact ⟨rfl, rfl⟩ | (simp [pmKind] at h; done)
  | boolean =>
    cases v with
    | int x =>
      simp only [pmKind] at h
      split at h
      · rename_i hx
        rcases hx with rfl | rfl <;> exact ⟨rfl, rfl⟩
      · cases h
    | _ => simp [pmKind] at h
  | _ => cases v <;> simp [pmKind] at h
theorem pmW_ist {E : Nat → Nat} {cA : Nat → ClassId} {σ : pmS} {a k0 n i : Nat} {rs : List (Option Nat)} {x : Int32} (h : σ.1[a]? = some (k0, n, rs)) (hk : k0 = 50 ∨ k0 = 52 ∨ k0 = 53) : pmW E cA (σ.1, pmUp σ.2.1 a i x, σ.2.2) = (pmW E cA σ).set a (E a, .inl (cA k0, n, .inl (upd (σ.2.1 a) i x))) := by
  rw [pmW_set (σ := σ) (σ' := (σ.1, pmUp σ.2.1 a i x, σ.2.2)) (pmSet_self h) h (fun q hq z => pmCell_congr (σ := σ) (σ' := (σ.1, pmUp σ.2.1 a i x, σ.2.2)) (pmUp_ne _ _ _ hq) rfl z)]
  have e : pmUp σ.2.1 a i x a = upd (σ.2.1 a) i x := pmUp_eq _ _ _ _
  rcases hk with rfl | rfl | rfl
  · rw [pmCell_int]; simp only [e]
  · rw [pmCell_bool]; simp only [e]
  · rw [pmCell_byte]; simp only [e]
theorem pmW_lst {E : Nat → Nat} {cA : Nat → ClassId} {σ : pmS} {a n i : Nat} {rs : List (Option Nat)} {x : Int64} (h : σ.1[a]? = some (51, n, rs)) : pmW E cA (σ.1, σ.2.1, pmUp σ.2.2 a i x) = (pmW E cA σ).set a (E a, .inl (cA 51, n, .inr (.inl (vp_updL (σ.2.2 a) i x)))) := by
  rw [pmW_set (σ := σ) (σ' := (σ.1, σ.2.1, pmUp σ.2.2 a i x)) (pmSet_self h) h (fun q hq z => pmCell_congr (σ := σ) (σ' := (σ.1, σ.2.1, pmUp σ.2.2 a i x)) rfl (pmUp_ne _ _ _ hq) z)]
  have e : pmUp σ.2.2 a i x a = vp_updL (σ.2.2 a) i x := pmUp_eq _ _ _ _
  rw [pmCell_long]; simp only [e]
theorem pmW_rst {E : Nat → Nat} {cA : Nat → ClassId} {σ : pmS} {a n i b : Nat} {rs : List (Option Nat)} (h : σ.1[a]? = some (54, n, rs)) (hi : i < rs.length) : pmW E cA (σ.1.set a (54, n, rs.set i (some b)), σ.2.1, σ.2.2) = (pmW E cA σ).set a (E a, .inl (cA 54, n, .inr (.inr (.inr (.inr (va_up (fun j => (pmRf rs j).map E) i (some (E b)))))))) := by
  rw [pmW_set (σ := σ) (σ' := (σ.1.set a (54, n, rs.set i (some b)), σ.2.1, σ.2.2)) rfl h (fun q hq z => pmCell_congr (σ := σ) (σ' := (σ.1.set a (54, n, rs.set i (some b)), σ.2.1, σ.2.2)) rfl rfl z)]
  have e : (fun j => (pmRf (rs.set i (some b)) j).map E) = va_up (fun j => (pmRf rs j).map E) i (some (E b)) := by
    funext j
    unfold pmRf
    by_cases hj : j = i
    · subst hj
      rw [List.getElem?_set_self hi]
      simp [va_up]
    · rw [List.getElem?_set_ne (Ne.symm hj)]
      simp [va_up, hj]
  rw [pmCell_ref]; simp only [e]
theorem pmTot_set {S : List pmZ} {p c n : Nat} {rs rs' : List (Option Nat)} (h : S[p]? = some (c, n, rs)) : pmTot (S.set p (c, n, rs')) = pmTot S := by
  unfold pmTot
  rw [List.map_set]
  have : (S.map fun s => s.2.1)[p]? = some n := by rw [List.getElem?_map, h]; rfl
  exact congrArg List.sum (pmSet_self this).symm

theorem pmx_getfield {z : Nat} {pc pc' : Nat} {pl pl' : pmL} {st st' : List Value} {σ σ' : pmS} {call : Nat → List Value → pmS → pmA} (hC : pmCx p R s m args meth c cc base n0 nL o rt E cA D ro) (hd : decode cc pc = .ok (.getfield z, 3))
    (hs : pmStep ro call o mth rt pc (.getfield z) pl st σ = some (.inr (pc', pl', st', σ'))) (k : pmWt p l e R s m args below meth c Q base n0 t0 nL mth E cA D pc' pl' st' σ') : pmWt p l e R s m args below meth c Q base n0 t0 nL mth E cA D pc pl st σ := by
  obtain ⟨hx, hb, hml, ⟨own, ho, hown⟩, hts, hsu, hsz, hin, hfr, hlo⟩ := hC
  intro H locs ls cells slots h1 h2 h3 h4 h5 hL
  have hE := hsu.2.2.2.2.2
  have hD := pmW_D (cA := cA) (σ := σ) hE h5
  simp only [pmStep] at hs
  split at hs
  · rename_i ci j w nst hf
    split at hs
    · rename_i a r
      split at hs
      · rename_i cl n rs hsh
        split at hs
        · rename_i hcl
          subst hcl
          split at hs
          · rename_i v hv
            simp only [pmNx, Option.some.injEq, Sum.inr.injEq, Prod.mk.injEq] at hs
            obtain ⟨rfl, rfl, rfl, rfl⟩ := hs
            obtain ⟨C, T, N, hC, hj, hT, g1, g2⟩ := pmF_ok ho hf
            obtain ⟨hci, -, ty, hN, hw, -, -, -, -⟩ := pmK_ok hC
            have he := pmW_get (E := E) (cA := cA) hsh
            rw [pmCell_obj hci] at he
            cases nst with
            | false => exact va_get hx hb hts hw hown hsu.1 h1 a he hC j hj (hts _ (g1 rfl)) (fun x h => by rw [hT] at h; exact h) (pmFs_at hN hj hv) hd (k H locs ls cells slots h1 h2 h3 h4 h5 hL)
            | true => exact va_getN hx hb hts hw hown hsu.1 h1 a he hC j hj (va_Nw.use rfl (hsu.2.1 _ (g2 rfl) rfl)) (fun x h => by rw [hT] at h; exact h) (pmFs_at hN hj hv) hd (k H locs ls cells slots h1 h2 h3 h4 h5 hL)
          · cases hs
        · cases hs
      · cases hs
    · cases hs
  · cases hs
theorem pmx_putfield {z : Nat} {pc pc' : Nat} {pl pl' : pmL} {st st' : List Value} {σ σ' : pmS} {call : Nat → List Value → pmS → pmA} (hC : pmCx p R s m args meth c cc base n0 nL o rt E cA D ro) (hd : decode cc pc = .ok (.putfield z, 3))
    (hs : pmStep ro call o mth rt pc (.putfield z) pl st σ = some (.inr (pc', pl', st', σ'))) (k : pmWt p l e R s m args below meth c Q base n0 t0 nL mth E cA D pc' pl' st' σ') : pmWt p l e R s m args below meth c Q base n0 t0 nL mth E cA D pc pl st σ := by
  obtain ⟨hx, hb, hml, ⟨own, ho, hown⟩, hts, hsu, hsz, hin, hfr, hlo⟩ := hC
  intro H locs ls cells slots h1 h2 h3 h4 h5 hL
  have hE := hsu.2.2.2.2.2
  have hD := pmW_D (cA := cA) (σ := σ) hE h5
  simp only [pmStep] at hs
  split at hs
  · rename_i ci j w nst hf
    split at hs
    · rename_i v a r
      split at hs
      · rename_i cl n rs hsh
        split at hs
        · rename_i hcl
          obtain ⟨hcl, hfi⟩ := hcl
          subst hcl
          split at hs
          · rename_i σ2 hw2
            simp only [pmNx, Option.some.injEq, Sum.inr.injEq, Prod.mk.injEq] at hs
            obtain ⟨rfl, rfl, rfl, rfl⟩ := hs
            obtain ⟨C, T, N, hC, hj, hT, g1, g2⟩ := pmF_ok ho hf
            obtain ⟨hci, hoc, ty, hN, hw, -, -, hty, hnm⟩ := pmK_ok hC
            have he := pmW_get (E := E) (cA := cA) hsh
            rw [pmCell_obj hci] at he
            obtain ⟨t1, t2, -, t4⟩ := hty j hj
            obtain ⟨f1, f2⟩ := pmWr_fit E hw2 t2
            obtain ⟨w1, w2⟩ := pmWr_shape hsh hw2
            have hl : j < (pmFs E σ rs a cl).length := by simp [pmFs]; omega
            have kk : ∀ (H1 : Heap) (locs1 : List Loc), va_P D pmCl ((pmW E cA σ).set a (E a, .inr (cl, (pmFs E σ rs a cl).set j (pv E v)))) H1 → va_D (fun q => base ≤ q) ((pmW E cA σ).set a (E a, .inr (cl, (pmFs E σ rs a cl).set j (pv E v)))) → va_S (fun q => base ≤ q) s.heap H1 locs1 → W p l e R s m args below meth c H1 locs1 cells slots Q (F0 m (pc + 3) ls (r.map (pv E))) := by
              intro H1 locs1 hP1 _ hS1
              rw [← pmW_wr hci hsh hw2] at hP1
              exact k H1 locs1 ls cells slots hP1 hS1 (by rw [w1]; exact h3) (by rw [w2]; exact h4) (by rw [w1]; exact h5) hL
            cases hfn : pmFn cl j with
            | true =>
              obtain ⟨q1, q2, q3⟩ := hfi hfn
              subst q1; subst q2
              rw [ho] at hoc
              cases hoc
              exact va_putF hx hb hts hw ty (fun k hk => (hty k hk).1) hnm hown hsu.1 h1 hD h2 a he hC j hj (hts _ (g1 rfl)) (fun x h => by rw [hT] at h; exact h) (by rw [← t4]; exact hfn) (hin q3) hT t1 f1 f2 hl hd kk
            | false =>
              cases nst with
              | false => exact va_put hx hb hts hw ty (fun k hk => (hty k hk).1) hnm hown hsu.1 h1 hD h2 a he hC j hj (hts _ (g1 rfl)) (fun x h => by rw [hT] at h; exact h) (by rw [← t4]; exact hfn) t1 f1 f2 hl hd kk
              | true => exact va_putN hx hb hts hw ty (fun k hk => (hty k hk).1) hnm hown hsu.1 h1 hD h2 a he hC j hj (va_Nw.use rfl (hsu.2.1 _ (g2 rfl) rfl)) (fun x h => by rw [hT] at h; exact h) (by rw [← t4]; exact hfn) t1 f1 f2 hl hd kk
          · cases hs
        · cases hs
      · cases hs
    · cases hs
  · cases hs
theorem pmx_getstatic {z : Nat} {pc pc' : Nat} {pl pl' : pmL} {st st' : List Value} {σ σ' : pmS} {call : Nat → List Value → pmS → pmA} (hC : pmCx p R s m args meth c cc base n0 nL o rt E cA D ro) (hd : decode cc pc = .ok (.getstatic z, 3))
    (hs : pmStep ro call o mth rt pc (.getstatic z) pl st σ = some (.inr (pc', pl', st', σ'))) (k : pmWt p l e R s m args below meth c Q base n0 t0 nL mth E cA D pc' pl' st' σ') : pmWt p l e R s m args below meth c Q base n0 t0 nL mth E cA D pc pl st σ := by
  obtain ⟨hx, hb, hml, ⟨own, ho, hown⟩, hts, hsu, hsz, hin, hfr, hlo⟩ := hC
  intro H locs ls cells slots h1 h2 h3 h4 h5 hL
  have hE := hsu.2.2.2.2.2
  have hD := pmW_D (cA := cA) (σ := σ) hE h5
  simp only [pmStep] at hs
  split at hs
  · rename_i w hg
    simp only [pmNx, Option.some.injEq, Sum.inr.injEq, Prod.mk.injEq] at hs
    obtain ⟨rfl, rfl, rfl, rfl⟩ := hs
    exact va_gets hx hb hsu.2.2.2.1 h2 hown (hts _ (pmG_ok ho hg)) (fun x h => h) hd (k H locs ls cells slots h1 h2 h3 h4 h5 hL)
  · cases hs
theorem pmx_laload  {pc pc' : Nat} {pl pl' : pmL} {st st' : List Value} {σ σ' : pmS} {call : Nat → List Value → pmS → pmA} (hC : pmCx p R s m args meth c cc base n0 nL o rt E cA D ro) (hd : decode cc pc = .ok (.laload, 1))
    (hs : pmStep ro call o mth rt pc (.laload) pl st σ = some (.inr (pc', pl', st', σ'))) (k : pmWt p l e R s m args below meth c Q base n0 t0 nL mth E cA D pc' pl' st' σ') : pmWt p l e R s m args below meth c Q base n0 t0 nL mth E cA D pc pl st σ := by
  obtain ⟨hx, hb, hml, ⟨own, ho, hown⟩, hts, hsu, hsz, hin, hfr, hlo⟩ := hC
  intro H locs ls cells slots h1 h2 h3 h4 h5 hL
  have hE := hsu.2.2.2.2.2
  have hD := pmW_D (cA := cA) (σ := σ) hE h5
  simp only [pmStep] at hs
  split at hs
  · rename_i i a r
    split at hs
    · rename_i kk n rs hsh
      split at hs
      · rename_i hk
        obtain ⟨hk, hi⟩ := hk
        subst hk
        simp only [pmNx, Option.some.injEq, Sum.inr.injEq, Prod.mk.injEq] at hs
        obtain ⟨rfl, rfl, rfl, rfl⟩ := hs
        have he := pmW_get (E := E) (cA := cA) hsh
        exact va_lald hx hb hsu.1 h1 a 1 he rfl hi hd (k H locs ls cells slots h1 h2 h3 h4 h5 hL)
      · cases hs
    · cases hs
  · cases hs
theorem pmx_iaload  {pc pc' : Nat} {pl pl' : pmL} {st st' : List Value} {σ σ' : pmS} {call : Nat → List Value → pmS → pmA} (hC : pmCx p R s m args meth c cc base n0 nL o rt E cA D ro) (hd : decode cc pc = .ok (.iaload, 1))
    (hs : pmStep ro call o mth rt pc (.iaload) pl st σ = some (.inr (pc', pl', st', σ'))) (k : pmWt p l e R s m args below meth c Q base n0 t0 nL mth E cA D pc' pl' st' σ') : pmWt p l e R s m args below meth c Q base n0 t0 nL mth E cA D pc pl st σ := by
  obtain ⟨hx, hb, hml, ⟨own, ho, hown⟩, hts, hsu, hsz, hin, hfr, hlo⟩ := hC
  intro H locs ls cells slots h1 h2 h3 h4 h5 hL
  have hE := hsu.2.2.2.2.2
  have hD := pmW_D (cA := cA) (σ := σ) hE h5
  simp only [pmStep] at hs
  split at hs
  · rename_i i a r
    split at hs
    · rename_i ha
      split at hs
      · rename_i hi
        simp only [pmNx, Option.some.injEq, Sum.inr.injEq, Prod.mk.injEq] at hs
        obtain ⟨rfl, rfl, rfl, rfl⟩ := hs
        have hpos : 0 < (ro a).1 := by
          rcases Nat.eq_zero_or_pos (ro a).1 with z | z
          · exact absurd (Or.inr (by rw [z]; exact Nat.zero_le _)) hi
          · exact z
        exact va_ti hx hb (hsu.2.2.2.2.1 a ha (Or.inr hpos)) h2 hi rfl hd (k H locs ls cells slots h1 h2 h3 h4 h5 hL)
      · cases hs
    · split at hs
      · rename_i kk n rs hsh
        split at hs
        · rename_i hk
          obtain ⟨hk, hi⟩ := hk
          subst hk
          simp only [pmNx, Option.some.injEq, Sum.inr.injEq, Prod.mk.injEq] at hs
          obtain ⟨rfl, rfl, rfl, rfl⟩ := hs
          have he := pmW_get (E := E) (cA := cA) hsh
          exact va_iald hx hb hsu.1 h1 a 0 he rfl hi hd (k H locs ls cells slots h1 h2 h3 h4 h5 hL)
        · cases hs
      · cases hs
  · cases hs
theorem pmx_baload  {pc pc' : Nat} {pl pl' : pmL} {st st' : List Value} {σ σ' : pmS} {call : Nat → List Value → pmS → pmA} (hC : pmCx p R s m args meth c cc base n0 nL o rt E cA D ro) (hd : decode cc pc = .ok (.baload, 1))
    (hs : pmStep ro call o mth rt pc (.baload) pl st σ = some (.inr (pc', pl', st', σ'))) (k : pmWt p l e R s m args below meth c Q base n0 t0 nL mth E cA D pc' pl' st' σ') : pmWt p l e R s m args below meth c Q base n0 t0 nL mth E cA D pc pl st σ := by
  obtain ⟨hx, hb, hml, ⟨own, ho, hown⟩, hts, hsu, hsz, hin, hfr, hlo⟩ := hC
  intro H locs ls cells slots h1 h2 h3 h4 h5 hL
  have hE := hsu.2.2.2.2.2
  have hD := pmW_D (cA := cA) (σ := σ) hE h5
  simp only [pmStep] at hs
  split at hs
  · rename_i i a r
    split at hs
    · rename_i kk n rs hsh
      split at hs
      · rename_i hk
        obtain ⟨hk, hi⟩ := hk
        simp only [pmNx, Option.some.injEq, Sum.inr.injEq, Prod.mk.injEq] at hs
        obtain ⟨rfl, rfl, rfl, rfl⟩ := hs
        have he := pmW_get (E := E) (cA := cA) hsh
        rcases hk with rfl | rfl
        · exact va_zald hx hb hsu.1 h1 a 2 he rfl hi hd (k H locs ls cells slots h1 h2 h3 h4 h5 hL)
        · exact va_bald hx hb hsu.1 h1 a 3 he rfl hi hd (k H locs ls cells slots h1 h2 h3 h4 h5 hL)
      · cases hs
    · cases hs
  · cases hs
theorem pmx_aaload  {pc pc' : Nat} {pl pl' : pmL} {st st' : List Value} {σ σ' : pmS} {call : Nat → List Value → pmS → pmA} (hC : pmCx p R s m args meth c cc base n0 nL o rt E cA D ro) (hd : decode cc pc = .ok (.aaload, 1))
    (hs : pmStep ro call o mth rt pc (.aaload) pl st σ = some (.inr (pc', pl', st', σ'))) (k : pmWt p l e R s m args below meth c Q base n0 t0 nL mth E cA D pc' pl' st' σ') : pmWt p l e R s m args below meth c Q base n0 t0 nL mth E cA D pc pl st σ := by
  obtain ⟨hx, hb, hml, ⟨own, ho, hown⟩, hts, hsu, hsz, hin, hfr, hlo⟩ := hC
  intro H locs ls cells slots h1 h2 h3 h4 h5 hL
  have hE := hsu.2.2.2.2.2
  have hD := pmW_D (cA := cA) (σ := σ) hE h5
  simp only [pmStep] at hs
  split at hs
  · rename_i i a r
    split at hs
    · rename_i kk n rs hsh
      split at hs
      · rename_i hk
        obtain ⟨hk, hi⟩ := hk
        subst hk
        simp only [pmNx, Option.some.injEq, Sum.inr.injEq, Prod.mk.injEq] at hs
        obtain ⟨rfl, rfl, rfl, rfl⟩ := hs
        have he := pmW_get (E := E) (cA := cA) hsh
        refine va_aldq hx hb hsu.1 h1 a 4 he rfl hi hd ?_
        have := (k H locs ls cells slots h1 h2 h3 h4 h5 hL)
        rw [List.map_cons, pv_rf] at this
        exact this
      · cases hs
    · cases hs
  · cases hs
theorem pmx_iastore  {pc pc' : Nat} {pl pl' : pmL} {st st' : List Value} {σ σ' : pmS} {call : Nat → List Value → pmS → pmA} (hC : pmCx p R s m args meth c cc base n0 nL o rt E cA D ro) (hd : decode cc pc = .ok (.iastore, 1))
    (hs : pmStep ro call o mth rt pc (.iastore) pl st σ = some (.inr (pc', pl', st', σ'))) (k : pmWt p l e R s m args below meth c Q base n0 t0 nL mth E cA D pc' pl' st' σ') : pmWt p l e R s m args below meth c Q base n0 t0 nL mth E cA D pc pl st σ := by
  obtain ⟨hx, hb, hml, ⟨own, ho, hown⟩, hts, hsu, hsz, hin, hfr, hlo⟩ := hC
  intro H locs ls cells slots h1 h2 h3 h4 h5 hL
  have hE := hsu.2.2.2.2.2
  have hD := pmW_D (cA := cA) (σ := σ) hE h5
  simp only [pmStep] at hs
  split at hs
  · rename_i x i a r
    split at hs
    · rename_i kk n rs hsh
      split at hs
      · rename_i hk
        obtain ⟨hk, hi⟩ := hk
        subst hk
        simp only [pmNx, Option.some.injEq, Sum.inr.injEq, Prod.mk.injEq] at hs
        obtain ⟨rfl, rfl, rfl, rfl⟩ := hs
        have he := pmW_get (E := E) (cA := cA) hsh
        exact va_iast hx hb hsu.1 h1 hD h2 a 0 he rfl hi hd (fun H1 locs1 hP1 _ hS1 => k H1 locs1 ls cells slots (by rw [pmW_ist hsh (Or.inl rfl)]; exact hP1) hS1 h3 h4 h5 hL)
      · cases hs
    · cases hs
  · cases hs
theorem pmx_lastore  {pc pc' : Nat} {pl pl' : pmL} {st st' : List Value} {σ σ' : pmS} {call : Nat → List Value → pmS → pmA} (hC : pmCx p R s m args meth c cc base n0 nL o rt E cA D ro) (hd : decode cc pc = .ok (.lastore, 1))
    (hs : pmStep ro call o mth rt pc (.lastore) pl st σ = some (.inr (pc', pl', st', σ'))) (k : pmWt p l e R s m args below meth c Q base n0 t0 nL mth E cA D pc' pl' st' σ') : pmWt p l e R s m args below meth c Q base n0 t0 nL mth E cA D pc pl st σ := by
  obtain ⟨hx, hb, hml, ⟨own, ho, hown⟩, hts, hsu, hsz, hin, hfr, hlo⟩ := hC
  intro H locs ls cells slots h1 h2 h3 h4 h5 hL
  have hE := hsu.2.2.2.2.2
  have hD := pmW_D (cA := cA) (σ := σ) hE h5
  simp only [pmStep] at hs
  split at hs
  · rename_i x i a r
    split at hs
    · rename_i kk n rs hsh
      split at hs
      · rename_i hk
        obtain ⟨hk, hi⟩ := hk
        subst hk
        simp only [pmNx, Option.some.injEq, Sum.inr.injEq, Prod.mk.injEq] at hs
        obtain ⟨rfl, rfl, rfl, rfl⟩ := hs
        have he := pmW_get (E := E) (cA := cA) hsh
        exact va_last hx hb hsu.1 h1 hD h2 a 1 he rfl hi hd (fun H1 locs1 hP1 _ hS1 => k H1 locs1 ls cells slots (by rw [pmW_lst hsh]; exact hP1) hS1 h3 h4 h5 hL)
      · cases hs
    · cases hs
  · cases hs
theorem pmx_bastore  {pc pc' : Nat} {pl pl' : pmL} {st st' : List Value} {σ σ' : pmS} {call : Nat → List Value → pmS → pmA} (hC : pmCx p R s m args meth c cc base n0 nL o rt E cA D ro) (hd : decode cc pc = .ok (.bastore, 1))
    (hs : pmStep ro call o mth rt pc (.bastore) pl st σ = some (.inr (pc', pl', st', σ'))) (k : pmWt p l e R s m args below meth c Q base n0 t0 nL mth E cA D pc' pl' st' σ') : pmWt p l e R s m args below meth c Q base n0 t0 nL mth E cA D pc pl st σ := by
  obtain ⟨hx, hb, hml, ⟨own, ho, hown⟩, hts, hsu, hsz, hin, hfr, hlo⟩ := hC
  intro H locs ls cells slots h1 h2 h3 h4 h5 hL
  have hE := hsu.2.2.2.2.2
  have hD := pmW_D (cA := cA) (σ := σ) hE h5
  simp only [pmStep] at hs
  split at hs
  · rename_i x i a r
    split at hs
    · rename_i kk n rs hsh
      split at hs
      · rename_i hk
        obtain ⟨hk, hi⟩ := hk
        subst hk
        simp only [pmNx, Option.some.injEq, Sum.inr.injEq, Prod.mk.injEq] at hs
        obtain ⟨rfl, rfl, rfl, rfl⟩ := hs
        have he := pmW_get (E := E) (cA := cA) hsh
        exact va_zast hx hb hsu.1 h1 hD h2 a 2 he rfl hi hd (fun H1 locs1 hP1 _ hS1 => k H1 locs1 ls cells slots (by rw [pmW_ist hsh (Or.inr (Or.inl rfl))]; exact hP1) hS1 h3 h4 h5 hL)
      · split at hs
        · rename_i hk
          obtain ⟨hk, hi⟩ := hk
          subst hk
          simp only [pmNx, Option.some.injEq, Sum.inr.injEq, Prod.mk.injEq] at hs
          obtain ⟨rfl, rfl, rfl, rfl⟩ := hs
          have he := pmW_get (E := E) (cA := cA) hsh
          exact va_bast hx hb hsu.1 h1 hD h2 a 3 he rfl hi hd (fun H1 locs1 hP1 _ hS1 => k H1 locs1 ls cells slots (by rw [pmW_ist hsh (Or.inr (Or.inr rfl))]; exact hP1) hS1 h3 h4 h5 hL)
        · cases hs
    · cases hs
  · cases hs
theorem pmx_aastore  {pc pc' : Nat} {pl pl' : pmL} {st st' : List Value} {σ σ' : pmS} {call : Nat → List Value → pmS → pmA} (hC : pmCx p R s m args meth c cc base n0 nL o rt E cA D ro) (hd : decode cc pc = .ok (.aastore, 1))
    (hs : pmStep ro call o mth rt pc (.aastore) pl st σ = some (.inr (pc', pl', st', σ'))) (k : pmWt p l e R s m args below meth c Q base n0 t0 nL mth E cA D pc' pl' st' σ') : pmWt p l e R s m args below meth c Q base n0 t0 nL mth E cA D pc pl st σ := by
  obtain ⟨hx, hb, hml, ⟨own, ho, hown⟩, hts, hsu, hsz, hin, hfr, hlo⟩ := hC
  intro H locs ls cells slots h1 h2 h3 h4 h5 hL
  have hE := hsu.2.2.2.2.2
  have hD := pmW_D (cA := cA) (σ := σ) hE h5
  simp only [pmStep] at hs
  split at hs
  · rename_i q0 i a r
    split at hs
    · rename_i kk n rs cl nn rq hsh hsq
      split at hs
      · rename_i hk
        obtain ⟨hk, hi, hcl, hil⟩ := hk
        subst hk; subst hcl
        simp only [pmNx, Option.some.injEq, Sum.inr.injEq, Prod.mk.injEq] at hs
        obtain ⟨rfl, rfl, rfl, rfl⟩ := hs
        have he := pmW_get (E := E) (cA := cA) hsh
        have hq := pmW_get (E := E) (cA := cA) hsq
        rw [pmCell_obj (by omega)] at hq
        exact va_astq hx hb hsu.1 h1 hD h2 a 4 q0 10 (r := (RX10, TX10, 13)) he rfl hq rfl hi hd (fun H1 locs1 hP1 _ hS1 => k H1 locs1 ls cells slots (by rw [pmW_rst hsh hil]; exact hP1) hS1 (by show _ = (σ.1.set a _).length; rw [List.length_set]; exact h3) (by show _ = pmTot (σ.1.set a _); rw [pmTot_set hsh]; exact h4) (by show (σ.1.set a _).length ≤ _; rw [List.length_set]; exact h5) hL)
      · cases hs
    · cases hs
  · cases hs
theorem pmx_arraylength  {pc pc' : Nat} {pl pl' : pmL} {st st' : List Value} {σ σ' : pmS} {call : Nat → List Value → pmS → pmA} (hC : pmCx p R s m args meth c cc base n0 nL o rt E cA D ro) (hd : decode cc pc = .ok (.arraylength, 1))
    (hs : pmStep ro call o mth rt pc (.arraylength) pl st σ = some (.inr (pc', pl', st', σ'))) (k : pmWt p l e R s m args below meth c Q base n0 t0 nL mth E cA D pc' pl' st' σ') : pmWt p l e R s m args below meth c Q base n0 t0 nL mth E cA D pc pl st σ := by
  obtain ⟨hx, hb, hml, ⟨own, ho, hown⟩, hts, hsu, hsz, hin, hfr, hlo⟩ := hC
  intro H locs ls cells slots h1 h2 h3 h4 h5 hL
  have hE := hsu.2.2.2.2.2
  have hD := pmW_D (cA := cA) (σ := σ) hE h5
  simp only [pmStep] at hs
  split at hs
  · rename_i a r
    split at hs
    · rename_i ha
      simp only [pmNx, Option.some.injEq, Sum.inr.injEq, Prod.mk.injEq] at hs
      obtain ⟨rfl, rfl, rfl, rfl⟩ := hs
      exact va_tlen hx hb (hsu.2.2.2.2.1 a (by rw [ha.1]; exact Nat.le_of_ble_eq_true rfl) (Or.inl ha.1)) h2 rfl hd (k H locs ls cells slots h1 h2 h3 h4 h5 hL)
    · cases hs
  · cases hs
end
