/-! new cells -/
section
variable {p : Program} {l : Launch} {e : Env} {R : Room} {s : State} {m : MethodId} {args : Array Value} {below : List Frame} {meth : Method} {c : Code} {Q : State → Prop}
variable {base n0 t0 nL o mth rt : Nat} {E : Nat → Nat} {cA : Nat → ClassId} {D : va_G} {ro : Nat → Nat × (Nat → Int32)} {cc : ByteArray}
/-- where a new cell stands -/
theorem pmAddr {n : Nat} {ws : va_W} {q : Nat} {x : va_E} {H : Heap} (hE : ∀ k, k < 1000 → E k = base + k) (hn : n ≤ 901) (hlen : ws.length = n) (hws : ∀ k, k < n → ∃ y, ws[k]? = some (E k, y))
    (hP : va_P D pmCl (ws ++ [(q, x)]) H) (hD : va_D (fun q => base ≤ q) (ws ++ [(q, x)])) (hz : H.size ≤ base + n + 1) : q = E n := by
  have hq : (ws ++ [(q, x)])[n]? = some (q, x) := by rw [List.getElem?_append_right (by omega), hlen, Nat.sub_self]; rfl
  have h1 : q < H.size := (hP n _ hq).lt
  have h2 : base ≤ q := hD.2 n _ hq
  have h3 : ∀ k, k < n → q ≠ base + k := by
    intro k hk he
    obtain ⟨y, hy⟩ := hws k hk
    have h4 : (ws ++ [(q, x)])[k]? = some (E k, y) := by rw [List.getElem?_append_left (by omega)]; exact hy
    have := hD.1 n k _ _ hq h4 (by show q = E k; rw [hE k (by omega)]; exact he)
    omega
  rw [hE n (by omega)]
  rcases Nat.lt_or_ge q (base + n) with h | h
  · exact absurd (by omega) (h3 (q - base) (by omega))
  · omega
theorem pmW_all {σ : pmS} : ∀ k, k < σ.1.length → ∃ y, (pmW E cA σ)[k]? = some (E k, y) := by
  intro k hk
  exact ⟨_, pmW_get (List.getElem?_eq_getElem hk)⟩
theorem pmTot_app (S : List pmZ) (z : pmZ) : pmTot (S ++ [z]) = pmTot S + z.2.1 := by simp [pmTot]
/-- the walk goes on with the new cell in the picture -/
theorem pmNewGo {σ : pmS} {z : pmZ} {pc' : Nat} {pl : pmL} {r : List Value} (hE : ∀ k, k < 1000 → E k = base + k) (hsz : s.heap.size = base + n0) {x : va_E} {H1 : Heap} {q cells slots : Nat} {locs : List Loc} {ls : Array Slot}
    (hl : σ.1.length < 900) (hx : x = pmCell E cA (pmFresh σ z) σ.1.length z) (k : pmWt p l e R s m args below meth c Q base n0 t0 nL mth E cA D pc' pl (.ref σ.1.length :: r) (pmFresh σ z)) (h3 : n0 + cells = σ.1.length) (h4 : t0 + slots = pmTot σ.1) (hL : pmLr E mth nL ls pl)
    (hP : va_P D pmCl (pmW E cA σ ++ [(q, x)]) H1) (hD : va_D (fun q => base ≤ q) (pmW E cA σ ++ [(q, x)])) (hS : va_S (fun q => base ≤ q) s.heap H1 locs) :
    W p l e R s m args below meth c H1 locs (cells + 1) (slots + z.2.1) Q (F0 m pc' ls (.ref q :: r.map (pv E))) := by
  intro T hT X
  have hz := X.heapSize
  rw [hT, hsz] at hz
  have hq : q = E σ.1.length := pmAddr hE (by omega) (pmW_len E cA σ) pmW_all hP hD (by omega)
  subst hq
  subst hx
  rw [← pmW_fresh] at hP
  exact k H1 locs ls (cells + 1) (slots + z.2.1) hP hS (by show n0 + (cells + 1) = (σ.1 ++ [z]).length; simp; omega) (by show t0 + (slots + z.2.1) = pmTot (σ.1 ++ [z]); rw [pmTot_app]; omega) (by show (σ.1 ++ [z]).length ≤ 901; simp; omega) hL T hT X
theorem pmRf_none (n k : Nat) : pmRf (List.replicate n none) k = none := by
  unfold pmRf
  rw [List.getElem?_replicate]
  split <;> rfl
theorem pmRd_fresh {σ : pmS} {z : pmZ} {ci N k : Nat} {ty : FieldType} (h : pmKd ci k = pmKind ty) (h3 : pmKd ci k ≤ 3) : pv E ((pmRd (pmFresh σ z) (List.replicate N none) ci k σ.1.length).getD .null) = defaultValue ty := by
  unfold pmRd
  rw [h] at h3 ⊢
  cases ty <;> first
    | (simp [pmKind] at h3; done)
    | (simp [pmKind, pmFresh, pmRow, pv, defaultValue, va_rf, pmRf_none]; done)
theorem pmx_new {z : Nat} {pc pc' : Nat} {pl pl' : pmL} {st st' : List Value} {σ σ' : pmS} {call : Nat → List Value → pmS → pmA} (hC : pmCx p R s m args meth c cc base n0 nL o rt E cA D ro) (hd : decode cc pc = .ok (.new z, 3))
    (hs : pmStep ro call o mth rt pc (.new z) pl st σ = some (.inr (pc', pl', st', σ'))) (hroom : σ'.1.length ≤ n0 + R.cells ∧ pmTot σ'.1 ≤ t0 + R.slots) (k : pmWt p l e R s m args below meth c Q base n0 t0 nL mth E cA D pc' pl' st' σ') : pmWt p l e R s m args below meth c Q base n0 t0 nL mth E cA D pc pl st σ := by
  obtain ⟨hx, hb, hml, ⟨own, ho, hown⟩, hts, hsu, hsz, hin, hfr, hlo⟩ := hC
  intro H locs ls cells slots h1 h2 h3 h4 h5 hL
  have hE := hsu.2.2.2.2.2
  have hD := pmW_D (cA := cA) (σ := σ) hE h5
  simp only [pmStep] at hs
  split at hs
  · rename_i ci w hn
    split at hs
    · rename_i N hN
      split at hs
      · rename_i hlen
        simp only [pmNx, Option.some.injEq, Sum.inr.injEq, Prod.mk.injEq] at hs
        obtain ⟨rfl, rfl, rfl, rfl⟩ := hs
        obtain ⟨C, T, N', hC, g1⟩ := pmN_ok ho hn
        obtain ⟨hci, -, ty, hN', hw, hi1, hi2, hty, -⟩ := pmK_ok hC
        rw [hN] at hN'
        change N = N' at hN'
        subst hN'
        have hr1 : σ.1.length + 1 ≤ n0 + R.cells := by have := hroom.1; simp [pmFresh] at this; exact this
        have hr2 : pmTot σ.1 + N ≤ t0 + R.slots := by have := hroom.2; simp only [pmFresh, pmTot_app] at this; exact this
        refine va_new (cl := pmCl) (fs := pmFs E (pmFresh σ (ci, N, List.replicate N none)) (List.replicate N none) σ.1.length ci) hx hb hts hw ty (fun k hk => (hty k hk).1) hown (hts _ g1) (hts _ hi1) (hts _ hi2) hsu.1 h1 hD h2 (fun q hq => by show base ≤ q; omega) hC ?_ (by omega) (by omega) hd (fun q H1 hP1 hD1 hS1 => ?_)
        · intro j hj
          obtain ⟨-, t2, t3, -⟩ := hty j hj
          unfold vp_V pmFs
          rw [List.getD_eq_getElem?_getD, List.getElem?_map, hN, List.getElem?_range (by exact hj), Option.map_some]
          exact (pmRd_fresh t2 t3).symm
        · exact pmNewGo (z := (ci, N, List.replicate N none)) hE hsz hlen (by rw [pmCell_obj hci]) k h3 h4 hL hP1 hD1 hS1
      · cases hs
    · cases hs
  · cases hs
theorem pmT5_at {U : State} (h : va_K D pmCl (pmT5 cA) U) {t : Nat} {q : ClassId} {ty : FieldType} (ht : (pmT5 cA)[t]? = some (q, ty)) {q' : ClassId} {tys : List (ClassId × FieldType)} (h' : va_K D pmCl (pmT5 cA ++ [(q', ty)]) U) : q' = q := by
  have a := (h.2 t _ ht).2
  have b := (h'.2 5 (q', ty) rfl).2
  cases ty with
  | object C =>
    obtain ⟨-, -, -, -, -, a⟩ := a
    obtain ⟨-, -, -, -, -, b⟩ := b
    exact Option.some.inj (b.symm.trans a)
  | _ => exact Option.some.inj (b.symm.trans a)
theorem pmx_newarray {z : ArrayType} {pc pc' : Nat} {pl pl' : pmL} {st st' : List Value} {σ σ' : pmS} {call : Nat → List Value → pmS → pmA} (hC : pmCx p R s m args meth c cc base n0 nL o rt E cA D ro) (hd : decode cc pc = .ok (.newarray z, 2))
    (hs : pmStep ro call o mth rt pc (.newarray z) pl st σ = some (.inr (pc', pl', st', σ'))) (hroom : σ'.1.length ≤ n0 + R.cells ∧ pmTot σ'.1 ≤ t0 + R.slots) (k : pmWt p l e R s m args below meth c Q base n0 t0 nL mth E cA D pc' pl' st' σ') : pmWt p l e R s m args below meth c Q base n0 t0 nL mth E cA D pc pl st σ := by
  obtain ⟨hx, hb, hml, ⟨own, ho, hown⟩, hts, hsu, hsz, hin, hfr, hlo⟩ := hC
  intro H locs ls cells slots h1 h2 h3 h4 h5 hL
  have hE := hsu.2.2.2.2.2
  have hD := pmW_D (cA := cA) (σ := σ) hE h5
  simp only [pmStep] at hs
  split at hs
  · rename_i n r
    split at hs
    · rename_i hcond
      obtain ⟨hak, hn0, hn1, hlen⟩ := hcond
      simp only [pmNx, Option.some.injEq, Sum.inr.injEq, Prod.mk.injEq] at hs
      obtain ⟨rfl, rfl, rfl, rfl⟩ := hs
      have hr1 : σ.1.length + 1 ≤ n0 + R.cells := by have := hroom.1; simp [pmFresh] at this; exact this
      have hr2 : pmTot σ.1 + n.toNatClampNeg ≤ t0 + R.slots := by have := hroom.2; simp only [pmFresh, pmTot_app] at this; exact this
      have hA : ∀ q : Nat, s.heap.size ≤ q → base ≤ q := fun q hq => by omega
      cases z with
      | int =>
        refine va_newa (a0 := (n.toNatClampNeg, .inl (fun _ => 0))) (atype := .int) (ty := .int) hx hb (hts _ (pmG_mem pmw_int rfl)) rfl hsu.1 h1 hD h2 hA (fun _ => rfl) hn0 rfl (by show n.toNatClampNeg * 4 ≤ _; omega) (by omega) (by omega) hd (fun q cq H1 hK1 hP1 hD1 hS1 => ?_)
        obtain rfl := pmT5_at (tys := []) hsu.1 (t := 0) rfl hK1
        exact pmNewGo (z := (50, n.toNatClampNeg, [])) hE hsz hlen (by rw [pmCell_int]; simp only [pmFresh, pmRow_eq]) k h3 h4 hL hP1 hD1 hS1
      | long =>
        refine va_newa (a0 := (n.toNatClampNeg, .inr (.inl (fun _ => 0)))) (atype := .long) (ty := .long) hx hb (hts _ (pmG_mem pmw_long rfl)) rfl hsu.1 h1 hD h2 hA (fun _ => rfl) hn0 rfl (by show n.toNatClampNeg * 8 ≤ _; omega) (by omega) (by omega) hd (fun q cq H1 hK1 hP1 hD1 hS1 => ?_)
        obtain rfl := pmT5_at (tys := []) hsu.1 (t := 1) rfl hK1
        exact pmNewGo (z := (51, n.toNatClampNeg, [])) hE hsz hlen (by rw [pmCell_long]; simp only [pmFresh, pmRow_eq]) k h3 h4 hL hP1 hD1 hS1
      | boolean =>
        refine va_newa (a0 := (n.toNatClampNeg, .inl (fun _ => 0))) (atype := .boolean) (ty := .boolean) hx hb (hts _ (pmG_mem pmw_boolean rfl)) rfl hsu.1 h1 hD h2 hA (fun _ => rfl) hn0 rfl (by show n.toNatClampNeg * 1 ≤ _; omega) (by omega) (by omega) hd (fun q cq H1 hK1 hP1 hD1 hS1 => ?_)
        obtain rfl := pmT5_at (tys := []) hsu.1 (t := 2) rfl hK1
        exact pmNewGo (z := (52, n.toNatClampNeg, [])) hE hsz hlen (by rw [pmCell_bool]; simp only [pmFresh, pmRow_eq]) k h3 h4 hL hP1 hD1 hS1
      | byte =>
        refine va_newa (a0 := (n.toNatClampNeg, .inl (fun _ => 0))) (atype := .byte) (ty := .byte) hx hb (hts _ (pmG_mem pmw_byte rfl)) rfl hsu.1 h1 hD h2 hA (fun _ => rfl) hn0 rfl (by show n.toNatClampNeg * 1 ≤ _; omega) (by omega) (by omega) hd (fun q cq H1 hK1 hP1 hD1 hS1 => ?_)
        obtain rfl := pmT5_at (tys := []) hsu.1 (t := 3) rfl hK1
        exact pmNewGo (z := (53, n.toNatClampNeg, [])) hE hsz hlen (by rw [pmCell_byte]; simp only [pmFresh, pmRow_eq]) k h3 h4 hL hP1 hD1 hS1
      | char => exact absurd hak (by decide)
      | short => exact absurd hak (by decide)
      | float => exact absurd hak (by decide)
      | double => exact absurd hak (by decide)
    · cases hs
  · cases hs
theorem pmx_anewarray {z : Nat} {pc pc' : Nat} {pl pl' : pmL} {st st' : List Value} {σ σ' : pmS} {call : Nat → List Value → pmS → pmA} (hC : pmCx p R s m args meth c cc base n0 nL o rt E cA D ro) (hd : decode cc pc = .ok (.anewarray z, 3))
    (hs : pmStep ro call o mth rt pc (.anewarray z) pl st σ = some (.inr (pc', pl', st', σ'))) (hroom : σ'.1.length ≤ n0 + R.cells ∧ pmTot σ'.1 ≤ t0 + R.slots) (k : pmWt p l e R s m args below meth c Q base n0 t0 nL mth E cA D pc' pl' st' σ') : pmWt p l e R s m args below meth c Q base n0 t0 nL mth E cA D pc pl st σ := by
  obtain ⟨hx, hb, hml, ⟨own, ho, hown⟩, hts, hsu, hsz, hin, hfr, hlo⟩ := hC
  intro H locs ls cells slots h1 h2 h3 h4 h5 hL
  have hE := hsu.2.2.2.2.2
  have hD := pmW_D (cA := cA) (σ := σ) hE h5
  simp only [pmStep] at hs
  split at hs
  · rename_i ci w hn
    split at hs
    · rename_i n r
      split at hs
      · rename_i hcond
        obtain ⟨hci, hn0, hn1, hlen⟩ := hcond
        subst hci
        simp only [pmNx, Option.some.injEq, Sum.inr.injEq, Prod.mk.injEq] at hs
        obtain ⟨rfl, rfl, rfl, rfl⟩ := hs
        have hr1 : σ.1.length + 1 ≤ n0 + R.cells := by have := hroom.1; simp [pmFresh] at this; exact this
        have hr2 : pmTot σ.1 + n.toNatClampNeg ≤ t0 + R.slots := by have := hroom.2; simp only [pmFresh, pmTot_app] at this; exact this
        have hA : ∀ q : Nat, s.heap.size ≤ q → base ≤ q := fun q hq => by omega
        obtain ⟨C, T, N', hC, g1⟩ := pmN_ok ho hn
        cases hC
        refine va_newq (C := RX10) hx hb hown (hts _ g1) hsu.2.2.1 hsu.1 h1 hD h2 hA hn0 rfl (by omega) (by omega) (by omega) hd (fun q cq H1 hK1 hP1 hD1 hS1 => ?_)
        obtain rfl := pmT5_at (tys := []) hsu.1 (t := 4) rfl hK1
        refine pmNewGo (z := (54, n.toNatClampNeg, List.replicate n.toNatClampNeg none)) hE hsz hlen ?_ k h3 h4 hL hP1 hD1 hS1
        rw [pmCell_ref]
        simp only [pmRf_none]
        rfl
      · cases hs
    · cases hs
  · cases hs
end
