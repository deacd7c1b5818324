/-! one instruction -/
section
variable {p : Program} {l : Launch} {e : Env} {R : Room} {s : State} {m : MethodId} {args : Array Value} {below : List Frame} {meth : Method} {c : Code} {Q : State → Prop}
variable {base n0 t0 nL o mth rt : Nat} {E : Nat → Nat} {cA : Nat → ClassId} {D : va_G} {ro : Nat → Nat × (Nat → Int32)} {cc : ByteArray}
def pmCx (p : Program) (R : Room) (s : State) (m : MethodId) (args : Array Value) (meth : Method) (c : Code) (cc : ByteArray) (base n0 nL o rt : Nat) (E : Nat → Nat) (cA : Nat → ClassId) (D : va_G) (ro : Nat → Nat × (Nat → Int32)) : Prop :=
  p.tables.exec = Jvm.exec ∧ c.code = cc ∧ c.maxLocals = nL ∧ (∃ own, pmOwn[o]? = some own ∧ s.vm.findClass own = some m.cls) ∧ (∀ w ∈ pmGood, w.before args s = true) ∧ pmSur base E cA D ro s s.heap ∧ s.heap.size = base + n0 ∧ (rt = 4 → meth.name = "<init>") ∧ 1 ≤ R.frames ∧ 60 ≤ R.locals
/-- from every heap that the picture tells, the machine at this place comes to Q -/
def pmWt (p : Program) (l : Launch) (e : Env) (R : Room) (s : State) (m : MethodId) (args : Array Value) (below : List Frame) (meth : Method) (c : Code) (Q : State → Prop) (base n0 t0 nL mth : Nat) (E : Nat → Nat) (cA : Nat → ClassId) (D : va_G) (pc : Nat) (pl : pmL) (st : List Value) (σ : pmS) : Prop :=
  ∀ (H : Heap) (locs : List Loc) (ls : Array Slot) (cells slots : Nat), va_P D pmCl (pmW E cA σ) H → va_S (fun q => base ≤ q) s.heap H locs → n0 + cells = σ.1.length → t0 + slots = pmTot σ.1 → σ.1.length ≤ 901 → pmLr E mth nL ls pl → W p l e R s m args below meth c H locs cells slots Q (F0 m pc ls (st.map (pv E)))
theorem pmBr_go {C : Prop} {hC : Decidable C} {pc : Nat} {off : Int} {pl pl' : pmL} {st st' : List Value} {σ σ' : pmS} {pc' : Nat} (h : pmBr pc off C pl st σ = some (.inr (pc', pl', st', σ'))) : ∃ t : Nat, (pc : Int) + off = (t : Int) ∧ (C → pc' = t) ∧ (¬ C → pc' = pc + 3) ∧ pl = pl' ∧ st = st' ∧ σ = σ' := by
  unfold pmBr at h
  split at h
  · rename_i t ht
    split at h
    · rename_i hc
      simp only [pmNx, Option.some.injEq, Sum.inr.injEq, Prod.mk.injEq] at h
      exact ⟨t, ht, fun _ => h.1.symm, fun q => absurd hc q, h.2⟩
    · rename_i hc
      simp only [pmNx, Option.some.injEq, Sum.inr.injEq, Prod.mk.injEq] at h
      exact ⟨t, ht, fun q => absurd q hc, fun _ => h.1.symm, h.2⟩
  · cases h
theorem pmJp_go {pc : Nat} {off : Int} {pl pl' : pmL} {st st' : List Value} {σ σ' : pmS} {pc' : Nat} (h : pmJp pc off pl st σ = some (.inr (pc', pl', st', σ'))) : (pc : Int) + off = (pc' : Int) ∧ pl = pl' ∧ st = st' ∧ σ = σ' := by
  unfold pmJp at h
  split at h
  · rename_i t ht
    simp only [pmNx, Option.some.injEq, Sum.inr.injEq, Prod.mk.injEq] at h
    exact ⟨by rw [ht, h.1]; rfl, h.2⟩
  · cases h

theorem pmx_iconst {z : Int} {pc pc' : Nat} {pl pl' : pmL} {st st' : List Value} {σ σ' : pmS} {call : Nat → List Value → pmS → pmA} (hC : pmCx p R s m args meth c cc base n0 nL o rt E cA D ro) (hd : decode cc pc = .ok (.iconst z, 1))
    (hs : pmStep ro call o mth rt pc (.iconst z) pl st σ = some (.inr (pc', pl', st', σ'))) (k : pmWt p l e R s m args below meth c Q base n0 t0 nL mth E cA D pc' pl' st' σ') : pmWt p l e R s m args below meth c Q base n0 t0 nL mth E cA D pc pl st σ := by
  obtain ⟨hx, hb, hml, ⟨own, ho, hown⟩, hts, hsu, hsz, hin, hfr, hlo⟩ := hC
  intro H locs ls cells slots h1 h2 h3 h4 h5 hL
  simp only [pmStep] at hs
  simp only [pmNx, Option.some.injEq, Sum.inr.injEq, Prod.mk.injEq] at hs
  obtain ⟨rfl, rfl, rfl, rfl⟩ := hs
  exact lv_iconst hx hb hd rfl (k H locs ls cells slots h1 h2 h3 h4 h5 hL)
theorem pmx_bipush {z : Int} {pc pc' : Nat} {pl pl' : pmL} {st st' : List Value} {σ σ' : pmS} {call : Nat → List Value → pmS → pmA} (hC : pmCx p R s m args meth c cc base n0 nL o rt E cA D ro) (hd : decode cc pc = .ok (.bipush z, 2))
    (hs : pmStep ro call o mth rt pc (.bipush z) pl st σ = some (.inr (pc', pl', st', σ'))) (k : pmWt p l e R s m args below meth c Q base n0 t0 nL mth E cA D pc' pl' st' σ') : pmWt p l e R s m args below meth c Q base n0 t0 nL mth E cA D pc pl st σ := by
  obtain ⟨hx, hb, hml, ⟨own, ho, hown⟩, hts, hsu, hsz, hin, hfr, hlo⟩ := hC
  intro H locs ls cells slots h1 h2 h3 h4 h5 hL
  simp only [pmStep] at hs
  simp only [pmNx, Option.some.injEq, Sum.inr.injEq, Prod.mk.injEq] at hs
  obtain ⟨rfl, rfl, rfl, rfl⟩ := hs
  exact lv_bipush hx hb hd rfl (k H locs ls cells slots h1 h2 h3 h4 h5 hL)
theorem pmx_sipush {z : Int} {pc pc' : Nat} {pl pl' : pmL} {st st' : List Value} {σ σ' : pmS} {call : Nat → List Value → pmS → pmA} (hC : pmCx p R s m args meth c cc base n0 nL o rt E cA D ro) (hd : decode cc pc = .ok (.sipush z, 3))
    (hs : pmStep ro call o mth rt pc (.sipush z) pl st σ = some (.inr (pc', pl', st', σ'))) (k : pmWt p l e R s m args below meth c Q base n0 t0 nL mth E cA D pc' pl' st' σ') : pmWt p l e R s m args below meth c Q base n0 t0 nL mth E cA D pc pl st σ := by
  obtain ⟨hx, hb, hml, ⟨own, ho, hown⟩, hts, hsu, hsz, hin, hfr, hlo⟩ := hC
  intro H locs ls cells slots h1 h2 h3 h4 h5 hL
  simp only [pmStep] at hs
  simp only [pmNx, Option.some.injEq, Sum.inr.injEq, Prod.mk.injEq] at hs
  obtain ⟨rfl, rfl, rfl, rfl⟩ := hs
  exact lv_sipush hx hb hd rfl (k H locs ls cells slots h1 h2 h3 h4 h5 hL)
theorem pmx_lconst {z : Fin 2} {pc pc' : Nat} {pl pl' : pmL} {st st' : List Value} {σ σ' : pmS} {call : Nat → List Value → pmS → pmA} (hC : pmCx p R s m args meth c cc base n0 nL o rt E cA D ro) (hd : decode cc pc = .ok (.lconst z, 1))
    (hs : pmStep ro call o mth rt pc (.lconst z) pl st σ = some (.inr (pc', pl', st', σ'))) (k : pmWt p l e R s m args below meth c Q base n0 t0 nL mth E cA D pc' pl' st' σ') : pmWt p l e R s m args below meth c Q base n0 t0 nL mth E cA D pc pl st σ := by
  obtain ⟨hx, hb, hml, ⟨own, ho, hown⟩, hts, hsu, hsz, hin, hfr, hlo⟩ := hC
  intro H locs ls cells slots h1 h2 h3 h4 h5 hL
  simp only [pmStep] at hs
  simp only [pmNx, Option.some.injEq, Sum.inr.injEq, Prod.mk.injEq] at hs
  obtain ⟨rfl, rfl, rfl, rfl⟩ := hs
  exact lv_lconst hx hb hd rfl (k H locs ls cells slots h1 h2 h3 h4 h5 hL)
theorem pmx_ldc {z : Nat} {pc pc' : Nat} {pl pl' : pmL} {st st' : List Value} {σ σ' : pmS} {call : Nat → List Value → pmS → pmA} (hC : pmCx p R s m args meth c cc base n0 nL o rt E cA D ro) (hd : decode cc pc = .ok (.ldc z, 2))
    (hs : pmStep ro call o mth rt pc (.ldc z) pl st σ = some (.inr (pc', pl', st', σ'))) (k : pmWt p l e R s m args below meth c Q base n0 t0 nL mth E cA D pc' pl' st' σ') : pmWt p l e R s m args below meth c Q base n0 t0 nL mth E cA D pc pl st σ := by
  obtain ⟨hx, hb, hml, ⟨own, ho, hown⟩, hts, hsu, hsz, hin, hfr, hlo⟩ := hC
  intro H locs ls cells slots h1 h2 h3 h4 h5 hL
  simp only [pmStep] at hs
  split at hs
  · rename_i v w hv
    simp only [pmNx, Option.some.injEq, Sum.inr.injEq, Prod.mk.injEq] at hs
    obtain ⟨rfl, rfl, rfl, rfl⟩ := hs
    exact lv_ldc hx hb hown (hts _ (pmC_ok ho hv)) hd (k H locs ls cells slots h1 h2 h3 h4 h5 hL)
  · cases hs
theorem pmx_ldc_w {z : Nat} {pc pc' : Nat} {pl pl' : pmL} {st st' : List Value} {σ σ' : pmS} {call : Nat → List Value → pmS → pmA} (hC : pmCx p R s m args meth c cc base n0 nL o rt E cA D ro) (hd : decode cc pc = .ok (.ldc_w z, 3))
    (hs : pmStep ro call o mth rt pc (.ldc_w z) pl st σ = some (.inr (pc', pl', st', σ'))) (k : pmWt p l e R s m args below meth c Q base n0 t0 nL mth E cA D pc' pl' st' σ') : pmWt p l e R s m args below meth c Q base n0 t0 nL mth E cA D pc pl st σ := by
  obtain ⟨hx, hb, hml, ⟨own, ho, hown⟩, hts, hsu, hsz, hin, hfr, hlo⟩ := hC
  intro H locs ls cells slots h1 h2 h3 h4 h5 hL
  simp only [pmStep] at hs
  split at hs
  · rename_i v w hv
    simp only [pmNx, Option.some.injEq, Sum.inr.injEq, Prod.mk.injEq] at hs
    obtain ⟨rfl, rfl, rfl, rfl⟩ := hs
    exact lv_ldcw hx hb hown (hts _ (pmC_ok ho hv)) hd (k H locs ls cells slots h1 h2 h3 h4 h5 hL)
  · cases hs
theorem pmx_ldc2_w {z : Nat} {pc pc' : Nat} {pl pl' : pmL} {st st' : List Value} {σ σ' : pmS} {call : Nat → List Value → pmS → pmA} (hC : pmCx p R s m args meth c cc base n0 nL o rt E cA D ro) (hd : decode cc pc = .ok (.ldc2_w z, 3))
    (hs : pmStep ro call o mth rt pc (.ldc2_w z) pl st σ = some (.inr (pc', pl', st', σ'))) (k : pmWt p l e R s m args below meth c Q base n0 t0 nL mth E cA D pc' pl' st' σ') : pmWt p l e R s m args below meth c Q base n0 t0 nL mth E cA D pc pl st σ := by
  obtain ⟨hx, hb, hml, ⟨own, ho, hown⟩, hts, hsu, hsz, hin, hfr, hlo⟩ := hC
  intro H locs ls cells slots h1 h2 h3 h4 h5 hL
  simp only [pmStep] at hs
  split at hs
  · rename_i v w hv
    simp only [pmNx, Option.some.injEq, Sum.inr.injEq, Prod.mk.injEq] at hs
    obtain ⟨rfl, rfl, rfl, rfl⟩ := hs
    exact lv_ldc2 hx hb hown (hts _ (pmCL_ok ho hv)) hd (k H locs ls cells slots h1 h2 h3 h4 h5 hL)
  · cases hs
theorem pmx_iload {z : Nat} {pc pc' : Nat} {pl pl' : pmL} {st st' : List Value} {σ σ' : pmS} {call : Nat → List Value → pmS → pmA} (hC : pmCx p R s m args meth c cc base n0 nL o rt E cA D ro) (hd : decode cc pc = .ok (.iload z, 2))
    (hs : pmStep ro call o mth rt pc (.iload z) pl st σ = some (.inr (pc', pl', st', σ'))) (k : pmWt p l e R s m args below meth c Q base n0 t0 nL mth E cA D pc' pl' st' σ') : pmWt p l e R s m args below meth c Q base n0 t0 nL mth E cA D pc pl st σ := by
  obtain ⟨hx, hb, hml, ⟨own, ho, hown⟩, hts, hsu, hsz, hin, hfr, hlo⟩ := hC
  intro H locs ls cells slots h1 h2 h3 h4 h5 hL
  simp only [pmStep] at hs
  split at hs
  · rename_i x hv
    simp only [pmNx, Option.some.injEq, Sum.inr.injEq, Prod.mk.injEq] at hs
    obtain ⟨rfl, rfl, rfl, rfl⟩ := hs
    exact lv_iload hx hb hd (hL.2.2.2.1 _ _ hv) (k H locs ls cells slots h1 h2 h3 h4 h5 hL)
  · cases hs
theorem pmx_iload_n {z : Fin 4} {pc pc' : Nat} {pl pl' : pmL} {st st' : List Value} {σ σ' : pmS} {call : Nat → List Value → pmS → pmA} (hC : pmCx p R s m args meth c cc base n0 nL o rt E cA D ro) (hd : decode cc pc = .ok (.iload_n z, 1))
    (hs : pmStep ro call o mth rt pc (.iload_n z) pl st σ = some (.inr (pc', pl', st', σ'))) (k : pmWt p l e R s m args below meth c Q base n0 t0 nL mth E cA D pc' pl' st' σ') : pmWt p l e R s m args below meth c Q base n0 t0 nL mth E cA D pc pl st σ := by
  obtain ⟨hx, hb, hml, ⟨own, ho, hown⟩, hts, hsu, hsz, hin, hfr, hlo⟩ := hC
  intro H locs ls cells slots h1 h2 h3 h4 h5 hL
  simp only [pmStep] at hs
  split at hs
  · rename_i x hv
    simp only [pmNx, Option.some.injEq, Sum.inr.injEq, Prod.mk.injEq] at hs
    obtain ⟨rfl, rfl, rfl, rfl⟩ := hs
    exact lv_iload_n hx hb hd rfl (hL.2.2.2.1 _ _ hv) (k H locs ls cells slots h1 h2 h3 h4 h5 hL)
  · cases hs
theorem pmx_lload {z : Nat} {pc pc' : Nat} {pl pl' : pmL} {st st' : List Value} {σ σ' : pmS} {call : Nat → List Value → pmS → pmA} (hC : pmCx p R s m args meth c cc base n0 nL o rt E cA D ro) (hd : decode cc pc = .ok (.lload z, 2))
    (hs : pmStep ro call o mth rt pc (.lload z) pl st σ = some (.inr (pc', pl', st', σ'))) (k : pmWt p l e R s m args below meth c Q base n0 t0 nL mth E cA D pc' pl' st' σ') : pmWt p l e R s m args below meth c Q base n0 t0 nL mth E cA D pc pl st σ := by
  obtain ⟨hx, hb, hml, ⟨own, ho, hown⟩, hts, hsu, hsz, hin, hfr, hlo⟩ := hC
  intro H locs ls cells slots h1 h2 h3 h4 h5 hL
  simp only [pmStep] at hs
  split at hs
  · rename_i x hv
    simp only [pmNx, Option.some.injEq, Sum.inr.injEq, Prod.mk.injEq] at hs
    obtain ⟨rfl, rfl, rfl, rfl⟩ := hs
    exact lv_lload hx hb hd (hL.2.2.2.1 _ _ hv) (k H locs ls cells slots h1 h2 h3 h4 h5 hL)
  · cases hs
theorem pmx_lload_n {z : Fin 4} {pc pc' : Nat} {pl pl' : pmL} {st st' : List Value} {σ σ' : pmS} {call : Nat → List Value → pmS → pmA} (hC : pmCx p R s m args meth c cc base n0 nL o rt E cA D ro) (hd : decode cc pc = .ok (.lload_n z, 1))
    (hs : pmStep ro call o mth rt pc (.lload_n z) pl st σ = some (.inr (pc', pl', st', σ'))) (k : pmWt p l e R s m args below meth c Q base n0 t0 nL mth E cA D pc' pl' st' σ') : pmWt p l e R s m args below meth c Q base n0 t0 nL mth E cA D pc pl st σ := by
  obtain ⟨hx, hb, hml, ⟨own, ho, hown⟩, hts, hsu, hsz, hin, hfr, hlo⟩ := hC
  intro H locs ls cells slots h1 h2 h3 h4 h5 hL
  simp only [pmStep] at hs
  split at hs
  · rename_i x hv
    simp only [pmNx, Option.some.injEq, Sum.inr.injEq, Prod.mk.injEq] at hs
    obtain ⟨rfl, rfl, rfl, rfl⟩ := hs
    exact lv_lload_n hx hb hd rfl (hL.2.2.2.1 _ _ hv) (k H locs ls cells slots h1 h2 h3 h4 h5 hL)
  · cases hs
theorem pmx_aload {z : Nat} {pc pc' : Nat} {pl pl' : pmL} {st st' : List Value} {σ σ' : pmS} {call : Nat → List Value → pmS → pmA} (hC : pmCx p R s m args meth c cc base n0 nL o rt E cA D ro) (hd : decode cc pc = .ok (.aload z, 2))
    (hs : pmStep ro call o mth rt pc (.aload z) pl st σ = some (.inr (pc', pl', st', σ'))) (k : pmWt p l e R s m args below meth c Q base n0 t0 nL mth E cA D pc' pl' st' σ') : pmWt p l e R s m args below meth c Q base n0 t0 nL mth E cA D pc pl st σ := by
  obtain ⟨hx, hb, hml, ⟨own, ho, hown⟩, hts, hsu, hsz, hin, hfr, hlo⟩ := hC
  intro H locs ls cells slots h1 h2 h3 h4 h5 hL
  simp only [pmStep] at hs
  split at hs
  · rename_i x hv
    simp only [pmNx, Option.some.injEq, Sum.inr.injEq, Prod.mk.injEq] at hs
    obtain ⟨rfl, rfl, rfl, rfl⟩ := hs
    exact lv_aload hx hb hd (hL.2.2.2.1 _ _ hv) (k H locs ls cells slots h1 h2 h3 h4 h5 hL)
  · cases hs
theorem pmx_aload_n {z : Fin 4} {pc pc' : Nat} {pl pl' : pmL} {st st' : List Value} {σ σ' : pmS} {call : Nat → List Value → pmS → pmA} (hC : pmCx p R s m args meth c cc base n0 nL o rt E cA D ro) (hd : decode cc pc = .ok (.aload_n z, 1))
    (hs : pmStep ro call o mth rt pc (.aload_n z) pl st σ = some (.inr (pc', pl', st', σ'))) (k : pmWt p l e R s m args below meth c Q base n0 t0 nL mth E cA D pc' pl' st' σ') : pmWt p l e R s m args below meth c Q base n0 t0 nL mth E cA D pc pl st σ := by
  obtain ⟨hx, hb, hml, ⟨own, ho, hown⟩, hts, hsu, hsz, hin, hfr, hlo⟩ := hC
  intro H locs ls cells slots h1 h2 h3 h4 h5 hL
  simp only [pmStep] at hs
  split at hs
  · rename_i x hv
    simp only [pmNx, Option.some.injEq, Sum.inr.injEq, Prod.mk.injEq] at hs
    obtain ⟨rfl, rfl, rfl, rfl⟩ := hs
    exact lv_aload_n hx hb hd rfl (hL.2.2.2.1 _ _ hv) (k H locs ls cells slots h1 h2 h3 h4 h5 hL)
  · cases hs
theorem pmx_istore {z : Nat} {pc pc' : Nat} {pl pl' : pmL} {st st' : List Value} {σ σ' : pmS} {call : Nat → List Value → pmS → pmA} (hC : pmCx p R s m args meth c cc base n0 nL o rt E cA D ro) (hd : decode cc pc = .ok (.istore z, 2))
    (hs : pmStep ro call o mth rt pc (.istore z) pl st σ = some (.inr (pc', pl', st', σ'))) (k : pmWt p l e R s m args below meth c Q base n0 t0 nL mth E cA D pc' pl' st' σ') : pmWt p l e R s m args below meth c Q base n0 t0 nL mth E cA D pc pl st σ := by
  obtain ⟨hx, hb, hml, ⟨own, ho, hown⟩, hts, hsu, hsz, hin, hfr, hlo⟩ := hC
  intro H locs ls cells slots h1 h2 h3 h4 h5 hL
  simp only [pmStep] at hs
  split at hs
  · split at hs
    · rename_i x r hi
      simp only [pmNx, Option.some.injEq, Sum.inr.injEq, Prod.mk.injEq] at hs
      obtain ⟨rfl, rfl, rfl, rfl⟩ := hs
      exact lv_istore hx hb hd hL.has (by rw [← hL.1]; exact hi) rfl (fun ls2 hl2 => k H locs ls2 cells slots h1 h2 h3 h4 h5 (pmS1_lr (v := .int x) hL (by rw [← hL.1]; exact hi) (by show (1 : Nat) ≠ 2; decide) hl2))
    · cases hs
  · cases hs
theorem pmx_istore_n {z : Fin 4} {pc pc' : Nat} {pl pl' : pmL} {st st' : List Value} {σ σ' : pmS} {call : Nat → List Value → pmS → pmA} (hC : pmCx p R s m args meth c cc base n0 nL o rt E cA D ro) (hd : decode cc pc = .ok (.istore_n z, 1))
    (hs : pmStep ro call o mth rt pc (.istore_n z) pl st σ = some (.inr (pc', pl', st', σ'))) (k : pmWt p l e R s m args below meth c Q base n0 t0 nL mth E cA D pc' pl' st' σ') : pmWt p l e R s m args below meth c Q base n0 t0 nL mth E cA D pc pl st σ := by
  obtain ⟨hx, hb, hml, ⟨own, ho, hown⟩, hts, hsu, hsz, hin, hfr, hlo⟩ := hC
  intro H locs ls cells slots h1 h2 h3 h4 h5 hL
  simp only [pmStep] at hs
  split at hs
  · split at hs
    · rename_i x r hi
      simp only [pmNx, Option.some.injEq, Sum.inr.injEq, Prod.mk.injEq] at hs
      obtain ⟨rfl, rfl, rfl, rfl⟩ := hs
      exact lv_istore_n hx hb hd rfl hL.has (by rw [← hL.1]; exact hi) rfl (fun ls2 hl2 => k H locs ls2 cells slots h1 h2 h3 h4 h5 (pmS1_lr (v := .int x) hL (by rw [← hL.1]; exact hi) (by show (1 : Nat) ≠ 2; decide) hl2))
    · cases hs
  · cases hs
theorem pmx_lstore {z : Nat} {pc pc' : Nat} {pl pl' : pmL} {st st' : List Value} {σ σ' : pmS} {call : Nat → List Value → pmS → pmA} (hC : pmCx p R s m args meth c cc base n0 nL o rt E cA D ro) (hd : decode cc pc = .ok (.lstore z, 2))
    (hs : pmStep ro call o mth rt pc (.lstore z) pl st σ = some (.inr (pc', pl', st', σ'))) (k : pmWt p l e R s m args below meth c Q base n0 t0 nL mth E cA D pc' pl' st' σ') : pmWt p l e R s m args below meth c Q base n0 t0 nL mth E cA D pc pl st σ := by
  obtain ⟨hx, hb, hml, ⟨own, ho, hown⟩, hts, hsu, hsz, hin, hfr, hlo⟩ := hC
  intro H locs ls cells slots h1 h2 h3 h4 h5 hL
  simp only [pmStep] at hs
  split at hs
  · split at hs
    · rename_i x r hi
      simp only [pmNx, Option.some.injEq, Sum.inr.injEq, Prod.mk.injEq] at hs
      obtain ⟨rfl, rfl, rfl, rfl⟩ := hs
      exact lv_lstore hx hb hd hL.has (by rw [← hL.1]; exact hi.1) rfl (fun ls2 hl2 => k H locs ls2 cells slots h1 h2 h3 h4 h5 (pmS2_lr (v := .long x) hL (by rw [← hL.1]; exact hi.1) hi.2 hl2))
    · cases hs
  · cases hs
theorem pmx_lstore_n {z : Fin 4} {pc pc' : Nat} {pl pl' : pmL} {st st' : List Value} {σ σ' : pmS} {call : Nat → List Value → pmS → pmA} (hC : pmCx p R s m args meth c cc base n0 nL o rt E cA D ro) (hd : decode cc pc = .ok (.lstore_n z, 1))
    (hs : pmStep ro call o mth rt pc (.lstore_n z) pl st σ = some (.inr (pc', pl', st', σ'))) (k : pmWt p l e R s m args below meth c Q base n0 t0 nL mth E cA D pc' pl' st' σ') : pmWt p l e R s m args below meth c Q base n0 t0 nL mth E cA D pc pl st σ := by
  obtain ⟨hx, hb, hml, ⟨own, ho, hown⟩, hts, hsu, hsz, hin, hfr, hlo⟩ := hC
  intro H locs ls cells slots h1 h2 h3 h4 h5 hL
  simp only [pmStep] at hs
  split at hs
  · split at hs
    · rename_i x r hi
      simp only [pmNx, Option.some.injEq, Sum.inr.injEq, Prod.mk.injEq] at hs
      obtain ⟨rfl, rfl, rfl, rfl⟩ := hs
      exact lv_lstore_n hx hb hd rfl hL.has (by rw [← hL.1]; exact hi.1) rfl (fun ls2 hl2 => k H locs ls2 cells slots h1 h2 h3 h4 h5 (pmS2_lr (v := .long x) hL (by rw [← hL.1]; exact hi.1) hi.2 hl2))
    · cases hs
  · cases hs
theorem pmx_astore {z : Nat} {pc pc' : Nat} {pl pl' : pmL} {st st' : List Value} {σ σ' : pmS} {call : Nat → List Value → pmS → pmA} (hC : pmCx p R s m args meth c cc base n0 nL o rt E cA D ro) (hd : decode cc pc = .ok (.astore z, 2))
    (hs : pmStep ro call o mth rt pc (.astore z) pl st σ = some (.inr (pc', pl', st', σ'))) (k : pmWt p l e R s m args below meth c Q base n0 t0 nL mth E cA D pc' pl' st' σ') : pmWt p l e R s m args below meth c Q base n0 t0 nL mth E cA D pc pl st σ := by
  obtain ⟨hx, hb, hml, ⟨own, ho, hown⟩, hts, hsu, hsz, hin, hfr, hlo⟩ := hC
  intro H locs ls cells slots h1 h2 h3 h4 h5 hL
  simp only [pmStep] at hs
  split at hs
  · split at hs
    · rename_i x r hi
      simp only [pmNx, Option.some.injEq, Sum.inr.injEq, Prod.mk.injEq] at hs
      obtain ⟨rfl, rfl, rfl, rfl⟩ := hs
      exact lv_astore hx hb hd hL.has (by rw [← hL.1]; exact hi) rfl (fun ls2 hl2 => k H locs ls2 cells slots h1 h2 h3 h4 h5 (pmS1_lr (v := .ref x) hL (by rw [← hL.1]; exact hi) (by show (1 : Nat) ≠ 2; decide) hl2))
    · cases hs
  · cases hs
theorem pmx_astore_n {z : Fin 4} {pc pc' : Nat} {pl pl' : pmL} {st st' : List Value} {σ σ' : pmS} {call : Nat → List Value → pmS → pmA} (hC : pmCx p R s m args meth c cc base n0 nL o rt E cA D ro) (hd : decode cc pc = .ok (.astore_n z, 1))
    (hs : pmStep ro call o mth rt pc (.astore_n z) pl st σ = some (.inr (pc', pl', st', σ'))) (k : pmWt p l e R s m args below meth c Q base n0 t0 nL mth E cA D pc' pl' st' σ') : pmWt p l e R s m args below meth c Q base n0 t0 nL mth E cA D pc pl st σ := by
  obtain ⟨hx, hb, hml, ⟨own, ho, hown⟩, hts, hsu, hsz, hin, hfr, hlo⟩ := hC
  intro H locs ls cells slots h1 h2 h3 h4 h5 hL
  simp only [pmStep] at hs
  split at hs
  · split at hs
    · rename_i x r hi
      simp only [pmNx, Option.some.injEq, Sum.inr.injEq, Prod.mk.injEq] at hs
      obtain ⟨rfl, rfl, rfl, rfl⟩ := hs
      exact lv_astore_n hx hb hd rfl hL.has (by rw [← hL.1]; exact hi) rfl (fun ls2 hl2 => k H locs ls2 cells slots h1 h2 h3 h4 h5 (pmS1_lr (v := .ref x) hL (by rw [← hL.1]; exact hi) (by show (1 : Nat) ≠ 2; decide) hl2))
    · cases hs
  · cases hs
theorem pmx_iinc {z : Nat} {w : Int} {pc pc' : Nat} {pl pl' : pmL} {st st' : List Value} {σ σ' : pmS} {call : Nat → List Value → pmS → pmA} (hC : pmCx p R s m args meth c cc base n0 nL o rt E cA D ro) (hd : decode cc pc = .ok (.iinc z w, 3))
    (hs : pmStep ro call o mth rt pc (.iinc z w) pl st σ = some (.inr (pc', pl', st', σ'))) (k : pmWt p l e R s m args below meth c Q base n0 t0 nL mth E cA D pc' pl' st' σ') : pmWt p l e R s m args below meth c Q base n0 t0 nL mth E cA D pc pl st σ := by
  obtain ⟨hx, hb, hml, ⟨own, ho, hown⟩, hts, hsu, hsz, hin, hfr, hlo⟩ := hC
  intro H locs ls cells slots h1 h2 h3 h4 h5 hL
  simp only [pmStep] at hs
  split at hs
  · rename_i x hv
    simp only [pmNx, Option.some.injEq, Sum.inr.injEq, Prod.mk.injEq] at hs
    obtain ⟨rfl, rfl, rfl, rfl⟩ := hs
    have hz : z < nL := by rw [← hL.1]; exact (List.getElem?_eq_some_iff.mp hv).1
    obtain ⟨q, hq⟩ := List.getElem?_of_mem (pmLv_in (E := E) hv)
    exact lv_iinc (v := x + Int32.ofInt w) hx hb hd hL.has hq rfl hz rfl (fun ls2 hl2 => k H locs ls2 cells slots h1 h2 h3 h4 h5 (pmS1_lr (v := .int (x + Int32.ofInt w)) hL hz (by show (1 : Nat) ≠ 2; decide) hl2))
  · cases hs
theorem pmx_iadd  {pc pc' : Nat} {pl pl' : pmL} {st st' : List Value} {σ σ' : pmS} {call : Nat → List Value → pmS → pmA} (hC : pmCx p R s m args meth c cc base n0 nL o rt E cA D ro) (hd : decode cc pc = .ok (.iadd, 1))
    (hs : pmStep ro call o mth rt pc (.iadd) pl st σ = some (.inr (pc', pl', st', σ'))) (k : pmWt p l e R s m args below meth c Q base n0 t0 nL mth E cA D pc' pl' st' σ') : pmWt p l e R s m args below meth c Q base n0 t0 nL mth E cA D pc pl st σ := by
  obtain ⟨hx, hb, hml, ⟨own, ho, hown⟩, hts, hsu, hsz, hin, hfr, hlo⟩ := hC
  intro H locs ls cells slots h1 h2 h3 h4 h5 hL
  simp only [pmStep] at hs
  split at hs
  · simp only [pmNx, Option.some.injEq, Sum.inr.injEq, Prod.mk.injEq] at hs
    obtain ⟨rfl, rfl, rfl, rfl⟩ := hs
    exact lv_iadd hx hb hd (k H locs ls cells slots h1 h2 h3 h4 h5 hL)
  · cases hs
theorem pmx_isub  {pc pc' : Nat} {pl pl' : pmL} {st st' : List Value} {σ σ' : pmS} {call : Nat → List Value → pmS → pmA} (hC : pmCx p R s m args meth c cc base n0 nL o rt E cA D ro) (hd : decode cc pc = .ok (.isub, 1))
    (hs : pmStep ro call o mth rt pc (.isub) pl st σ = some (.inr (pc', pl', st', σ'))) (k : pmWt p l e R s m args below meth c Q base n0 t0 nL mth E cA D pc' pl' st' σ') : pmWt p l e R s m args below meth c Q base n0 t0 nL mth E cA D pc pl st σ := by
  obtain ⟨hx, hb, hml, ⟨own, ho, hown⟩, hts, hsu, hsz, hin, hfr, hlo⟩ := hC
  intro H locs ls cells slots h1 h2 h3 h4 h5 hL
  simp only [pmStep] at hs
  split at hs
  · simp only [pmNx, Option.some.injEq, Sum.inr.injEq, Prod.mk.injEq] at hs
    obtain ⟨rfl, rfl, rfl, rfl⟩ := hs
    exact lv_isub hx hb hd (k H locs ls cells slots h1 h2 h3 h4 h5 hL)
  · cases hs
theorem pmx_imul  {pc pc' : Nat} {pl pl' : pmL} {st st' : List Value} {σ σ' : pmS} {call : Nat → List Value → pmS → pmA} (hC : pmCx p R s m args meth c cc base n0 nL o rt E cA D ro) (hd : decode cc pc = .ok (.imul, 1))
    (hs : pmStep ro call o mth rt pc (.imul) pl st σ = some (.inr (pc', pl', st', σ'))) (k : pmWt p l e R s m args below meth c Q base n0 t0 nL mth E cA D pc' pl' st' σ') : pmWt p l e R s m args below meth c Q base n0 t0 nL mth E cA D pc pl st σ := by
  obtain ⟨hx, hb, hml, ⟨own, ho, hown⟩, hts, hsu, hsz, hin, hfr, hlo⟩ := hC
  intro H locs ls cells slots h1 h2 h3 h4 h5 hL
  simp only [pmStep] at hs
  split at hs
  · simp only [pmNx, Option.some.injEq, Sum.inr.injEq, Prod.mk.injEq] at hs
    obtain ⟨rfl, rfl, rfl, rfl⟩ := hs
    exact lv_imul hx hb hd (k H locs ls cells slots h1 h2 h3 h4 h5 hL)
  · cases hs
theorem pmx_iand  {pc pc' : Nat} {pl pl' : pmL} {st st' : List Value} {σ σ' : pmS} {call : Nat → List Value → pmS → pmA} (hC : pmCx p R s m args meth c cc base n0 nL o rt E cA D ro) (hd : decode cc pc = .ok (.iand, 1))
    (hs : pmStep ro call o mth rt pc (.iand) pl st σ = some (.inr (pc', pl', st', σ'))) (k : pmWt p l e R s m args below meth c Q base n0 t0 nL mth E cA D pc' pl' st' σ') : pmWt p l e R s m args below meth c Q base n0 t0 nL mth E cA D pc pl st σ := by
  obtain ⟨hx, hb, hml, ⟨own, ho, hown⟩, hts, hsu, hsz, hin, hfr, hlo⟩ := hC
  intro H locs ls cells slots h1 h2 h3 h4 h5 hL
  simp only [pmStep] at hs
  split at hs
  · simp only [pmNx, Option.some.injEq, Sum.inr.injEq, Prod.mk.injEq] at hs
    obtain ⟨rfl, rfl, rfl, rfl⟩ := hs
    exact lv_iand hx hb hd (k H locs ls cells slots h1 h2 h3 h4 h5 hL)
  · cases hs
theorem pmx_ior  {pc pc' : Nat} {pl pl' : pmL} {st st' : List Value} {σ σ' : pmS} {call : Nat → List Value → pmS → pmA} (hC : pmCx p R s m args meth c cc base n0 nL o rt E cA D ro) (hd : decode cc pc = .ok (.ior, 1))
    (hs : pmStep ro call o mth rt pc (.ior) pl st σ = some (.inr (pc', pl', st', σ'))) (k : pmWt p l e R s m args below meth c Q base n0 t0 nL mth E cA D pc' pl' st' σ') : pmWt p l e R s m args below meth c Q base n0 t0 nL mth E cA D pc pl st σ := by
  obtain ⟨hx, hb, hml, ⟨own, ho, hown⟩, hts, hsu, hsz, hin, hfr, hlo⟩ := hC
  intro H locs ls cells slots h1 h2 h3 h4 h5 hL
  simp only [pmStep] at hs
  split at hs
  · simp only [pmNx, Option.some.injEq, Sum.inr.injEq, Prod.mk.injEq] at hs
    obtain ⟨rfl, rfl, rfl, rfl⟩ := hs
    exact lv_ior hx hb hd (k H locs ls cells slots h1 h2 h3 h4 h5 hL)
  · cases hs
theorem pmx_ixor  {pc pc' : Nat} {pl pl' : pmL} {st st' : List Value} {σ σ' : pmS} {call : Nat → List Value → pmS → pmA} (hC : pmCx p R s m args meth c cc base n0 nL o rt E cA D ro) (hd : decode cc pc = .ok (.ixor, 1))
    (hs : pmStep ro call o mth rt pc (.ixor) pl st σ = some (.inr (pc', pl', st', σ'))) (k : pmWt p l e R s m args below meth c Q base n0 t0 nL mth E cA D pc' pl' st' σ') : pmWt p l e R s m args below meth c Q base n0 t0 nL mth E cA D pc pl st σ := by
  obtain ⟨hx, hb, hml, ⟨own, ho, hown⟩, hts, hsu, hsz, hin, hfr, hlo⟩ := hC
  intro H locs ls cells slots h1 h2 h3 h4 h5 hL
  simp only [pmStep] at hs
  split at hs
  · simp only [pmNx, Option.some.injEq, Sum.inr.injEq, Prod.mk.injEq] at hs
    obtain ⟨rfl, rfl, rfl, rfl⟩ := hs
    exact lv_ixor hx hb hd (k H locs ls cells slots h1 h2 h3 h4 h5 hL)
  · cases hs
theorem pmx_ishl  {pc pc' : Nat} {pl pl' : pmL} {st st' : List Value} {σ σ' : pmS} {call : Nat → List Value → pmS → pmA} (hC : pmCx p R s m args meth c cc base n0 nL o rt E cA D ro) (hd : decode cc pc = .ok (.ishl, 1))
    (hs : pmStep ro call o mth rt pc (.ishl) pl st σ = some (.inr (pc', pl', st', σ'))) (k : pmWt p l e R s m args below meth c Q base n0 t0 nL mth E cA D pc' pl' st' σ') : pmWt p l e R s m args below meth c Q base n0 t0 nL mth E cA D pc pl st σ := by
  obtain ⟨hx, hb, hml, ⟨own, ho, hown⟩, hts, hsu, hsz, hin, hfr, hlo⟩ := hC
  intro H locs ls cells slots h1 h2 h3 h4 h5 hL
  simp only [pmStep] at hs
  split at hs
  · simp only [pmNx, Option.some.injEq, Sum.inr.injEq, Prod.mk.injEq] at hs
    obtain ⟨rfl, rfl, rfl, rfl⟩ := hs
    exact lv_ishl hx hb hd (k H locs ls cells slots h1 h2 h3 h4 h5 hL)
  · cases hs
theorem pmx_ishr  {pc pc' : Nat} {pl pl' : pmL} {st st' : List Value} {σ σ' : pmS} {call : Nat → List Value → pmS → pmA} (hC : pmCx p R s m args meth c cc base n0 nL o rt E cA D ro) (hd : decode cc pc = .ok (.ishr, 1))
    (hs : pmStep ro call o mth rt pc (.ishr) pl st σ = some (.inr (pc', pl', st', σ'))) (k : pmWt p l e R s m args below meth c Q base n0 t0 nL mth E cA D pc' pl' st' σ') : pmWt p l e R s m args below meth c Q base n0 t0 nL mth E cA D pc pl st σ := by
  obtain ⟨hx, hb, hml, ⟨own, ho, hown⟩, hts, hsu, hsz, hin, hfr, hlo⟩ := hC
  intro H locs ls cells slots h1 h2 h3 h4 h5 hL
  simp only [pmStep] at hs
  split at hs
  · simp only [pmNx, Option.some.injEq, Sum.inr.injEq, Prod.mk.injEq] at hs
    obtain ⟨rfl, rfl, rfl, rfl⟩ := hs
    exact lv_ishr hx hb hd (k H locs ls cells slots h1 h2 h3 h4 h5 hL)
  · cases hs
theorem pmx_ladd  {pc pc' : Nat} {pl pl' : pmL} {st st' : List Value} {σ σ' : pmS} {call : Nat → List Value → pmS → pmA} (hC : pmCx p R s m args meth c cc base n0 nL o rt E cA D ro) (hd : decode cc pc = .ok (.ladd, 1))
    (hs : pmStep ro call o mth rt pc (.ladd) pl st σ = some (.inr (pc', pl', st', σ'))) (k : pmWt p l e R s m args below meth c Q base n0 t0 nL mth E cA D pc' pl' st' σ') : pmWt p l e R s m args below meth c Q base n0 t0 nL mth E cA D pc pl st σ := by
  obtain ⟨hx, hb, hml, ⟨own, ho, hown⟩, hts, hsu, hsz, hin, hfr, hlo⟩ := hC
  intro H locs ls cells slots h1 h2 h3 h4 h5 hL
  simp only [pmStep] at hs
  split at hs
  · simp only [pmNx, Option.some.injEq, Sum.inr.injEq, Prod.mk.injEq] at hs
    obtain ⟨rfl, rfl, rfl, rfl⟩ := hs
    exact lv_ladd hx hb hd (k H locs ls cells slots h1 h2 h3 h4 h5 hL)
  · cases hs
theorem pmx_lmul  {pc pc' : Nat} {pl pl' : pmL} {st st' : List Value} {σ σ' : pmS} {call : Nat → List Value → pmS → pmA} (hC : pmCx p R s m args meth c cc base n0 nL o rt E cA D ro) (hd : decode cc pc = .ok (.lmul, 1))
    (hs : pmStep ro call o mth rt pc (.lmul) pl st σ = some (.inr (pc', pl', st', σ'))) (k : pmWt p l e R s m args below meth c Q base n0 t0 nL mth E cA D pc' pl' st' σ') : pmWt p l e R s m args below meth c Q base n0 t0 nL mth E cA D pc pl st σ := by
  obtain ⟨hx, hb, hml, ⟨own, ho, hown⟩, hts, hsu, hsz, hin, hfr, hlo⟩ := hC
  intro H locs ls cells slots h1 h2 h3 h4 h5 hL
  simp only [pmStep] at hs
  split at hs
  · simp only [pmNx, Option.some.injEq, Sum.inr.injEq, Prod.mk.injEq] at hs
    obtain ⟨rfl, rfl, rfl, rfl⟩ := hs
    exact lv_lmul hx hb hd (k H locs ls cells slots h1 h2 h3 h4 h5 hL)
  · cases hs
theorem pmx_land  {pc pc' : Nat} {pl pl' : pmL} {st st' : List Value} {σ σ' : pmS} {call : Nat → List Value → pmS → pmA} (hC : pmCx p R s m args meth c cc base n0 nL o rt E cA D ro) (hd : decode cc pc = .ok (.land, 1))
    (hs : pmStep ro call o mth rt pc (.land) pl st σ = some (.inr (pc', pl', st', σ'))) (k : pmWt p l e R s m args below meth c Q base n0 t0 nL mth E cA D pc' pl' st' σ') : pmWt p l e R s m args below meth c Q base n0 t0 nL mth E cA D pc pl st σ := by
  obtain ⟨hx, hb, hml, ⟨own, ho, hown⟩, hts, hsu, hsz, hin, hfr, hlo⟩ := hC
  intro H locs ls cells slots h1 h2 h3 h4 h5 hL
  simp only [pmStep] at hs
  split at hs
  · simp only [pmNx, Option.some.injEq, Sum.inr.injEq, Prod.mk.injEq] at hs
    obtain ⟨rfl, rfl, rfl, rfl⟩ := hs
    exact lv_land hx hb hd (k H locs ls cells slots h1 h2 h3 h4 h5 hL)
  · cases hs
theorem pmx_lor  {pc pc' : Nat} {pl pl' : pmL} {st st' : List Value} {σ σ' : pmS} {call : Nat → List Value → pmS → pmA} (hC : pmCx p R s m args meth c cc base n0 nL o rt E cA D ro) (hd : decode cc pc = .ok (.lor, 1))
    (hs : pmStep ro call o mth rt pc (.lor) pl st σ = some (.inr (pc', pl', st', σ'))) (k : pmWt p l e R s m args below meth c Q base n0 t0 nL mth E cA D pc' pl' st' σ') : pmWt p l e R s m args below meth c Q base n0 t0 nL mth E cA D pc pl st σ := by
  obtain ⟨hx, hb, hml, ⟨own, ho, hown⟩, hts, hsu, hsz, hin, hfr, hlo⟩ := hC
  intro H locs ls cells slots h1 h2 h3 h4 h5 hL
  simp only [pmStep] at hs
  split at hs
  · simp only [pmNx, Option.some.injEq, Sum.inr.injEq, Prod.mk.injEq] at hs
    obtain ⟨rfl, rfl, rfl, rfl⟩ := hs
    exact lv_lor hx hb hd (k H locs ls cells slots h1 h2 h3 h4 h5 hL)
  · cases hs
theorem pmx_lxor  {pc pc' : Nat} {pl pl' : pmL} {st st' : List Value} {σ σ' : pmS} {call : Nat → List Value → pmS → pmA} (hC : pmCx p R s m args meth c cc base n0 nL o rt E cA D ro) (hd : decode cc pc = .ok (.lxor, 1))
    (hs : pmStep ro call o mth rt pc (.lxor) pl st σ = some (.inr (pc', pl', st', σ'))) (k : pmWt p l e R s m args below meth c Q base n0 t0 nL mth E cA D pc' pl' st' σ') : pmWt p l e R s m args below meth c Q base n0 t0 nL mth E cA D pc pl st σ := by
  obtain ⟨hx, hb, hml, ⟨own, ho, hown⟩, hts, hsu, hsz, hin, hfr, hlo⟩ := hC
  intro H locs ls cells slots h1 h2 h3 h4 h5 hL
  simp only [pmStep] at hs
  split at hs
  · simp only [pmNx, Option.some.injEq, Sum.inr.injEq, Prod.mk.injEq] at hs
    obtain ⟨rfl, rfl, rfl, rfl⟩ := hs
    exact lv_lxor hx hb hd (k H locs ls cells slots h1 h2 h3 h4 h5 hL)
  · cases hs
theorem pmx_iushr  {pc pc' : Nat} {pl pl' : pmL} {st st' : List Value} {σ σ' : pmS} {call : Nat → List Value → pmS → pmA} (hC : pmCx p R s m args meth c cc base n0 nL o rt E cA D ro) (hd : decode cc pc = .ok (.iushr, 1))
    (hs : pmStep ro call o mth rt pc (.iushr) pl st σ = some (.inr (pc', pl', st', σ'))) (k : pmWt p l e R s m args below meth c Q base n0 t0 nL mth E cA D pc' pl' st' σ') : pmWt p l e R s m args below meth c Q base n0 t0 nL mth E cA D pc pl st σ := by
  obtain ⟨hx, hb, hml, ⟨own, ho, hown⟩, hts, hsu, hsz, hin, hfr, hlo⟩ := hC
  intro H locs ls cells slots h1 h2 h3 h4 h5 hL
  simp only [pmStep] at hs
  split at hs
  · simp only [pmNx, Option.some.injEq, Sum.inr.injEq, Prod.mk.injEq] at hs
    obtain ⟨rfl, rfl, rfl, rfl⟩ := hs
    exact lv_iushr hx hb hd rfl (k H locs ls cells slots h1 h2 h3 h4 h5 hL)
  · cases hs
theorem pmx_lshl  {pc pc' : Nat} {pl pl' : pmL} {st st' : List Value} {σ σ' : pmS} {call : Nat → List Value → pmS → pmA} (hC : pmCx p R s m args meth c cc base n0 nL o rt E cA D ro) (hd : decode cc pc = .ok (.lshl, 1))
    (hs : pmStep ro call o mth rt pc (.lshl) pl st σ = some (.inr (pc', pl', st', σ'))) (k : pmWt p l e R s m args below meth c Q base n0 t0 nL mth E cA D pc' pl' st' σ') : pmWt p l e R s m args below meth c Q base n0 t0 nL mth E cA D pc pl st σ := by
  obtain ⟨hx, hb, hml, ⟨own, ho, hown⟩, hts, hsu, hsz, hin, hfr, hlo⟩ := hC
  intro H locs ls cells slots h1 h2 h3 h4 h5 hL
  simp only [pmStep] at hs
  split at hs
  · simp only [pmNx, Option.some.injEq, Sum.inr.injEq, Prod.mk.injEq] at hs
    obtain ⟨rfl, rfl, rfl, rfl⟩ := hs
    exact lv_lshl hx hb hd rfl (k H locs ls cells slots h1 h2 h3 h4 h5 hL)
  · cases hs
theorem pmx_lushr  {pc pc' : Nat} {pl pl' : pmL} {st st' : List Value} {σ σ' : pmS} {call : Nat → List Value → pmS → pmA} (hC : pmCx p R s m args meth c cc base n0 nL o rt E cA D ro) (hd : decode cc pc = .ok (.lushr, 1))
    (hs : pmStep ro call o mth rt pc (.lushr) pl st σ = some (.inr (pc', pl', st', σ'))) (k : pmWt p l e R s m args below meth c Q base n0 t0 nL mth E cA D pc' pl' st' σ') : pmWt p l e R s m args below meth c Q base n0 t0 nL mth E cA D pc pl st σ := by
  obtain ⟨hx, hb, hml, ⟨own, ho, hown⟩, hts, hsu, hsz, hin, hfr, hlo⟩ := hC
  intro H locs ls cells slots h1 h2 h3 h4 h5 hL
  simp only [pmStep] at hs
  split at hs
  · simp only [pmNx, Option.some.injEq, Sum.inr.injEq, Prod.mk.injEq] at hs
    obtain ⟨rfl, rfl, rfl, rfl⟩ := hs
    exact lv_lushr hx hb hd rfl (k H locs ls cells slots h1 h2 h3 h4 h5 hL)
  · cases hs
theorem pmx_i2l  {pc pc' : Nat} {pl pl' : pmL} {st st' : List Value} {σ σ' : pmS} {call : Nat → List Value → pmS → pmA} (hC : pmCx p R s m args meth c cc base n0 nL o rt E cA D ro) (hd : decode cc pc = .ok (.i2l, 1))
    (hs : pmStep ro call o mth rt pc (.i2l) pl st σ = some (.inr (pc', pl', st', σ'))) (k : pmWt p l e R s m args below meth c Q base n0 t0 nL mth E cA D pc' pl' st' σ') : pmWt p l e R s m args below meth c Q base n0 t0 nL mth E cA D pc pl st σ := by
  obtain ⟨hx, hb, hml, ⟨own, ho, hown⟩, hts, hsu, hsz, hin, hfr, hlo⟩ := hC
  intro H locs ls cells slots h1 h2 h3 h4 h5 hL
  simp only [pmStep] at hs
  split at hs
  · simp only [pmNx, Option.some.injEq, Sum.inr.injEq, Prod.mk.injEq] at hs
    obtain ⟨rfl, rfl, rfl, rfl⟩ := hs
    exact lv_i2l hx hb hd rfl (k H locs ls cells slots h1 h2 h3 h4 h5 hL)
  · cases hs
theorem pmx_l2i  {pc pc' : Nat} {pl pl' : pmL} {st st' : List Value} {σ σ' : pmS} {call : Nat → List Value → pmS → pmA} (hC : pmCx p R s m args meth c cc base n0 nL o rt E cA D ro) (hd : decode cc pc = .ok (.l2i, 1))
    (hs : pmStep ro call o mth rt pc (.l2i) pl st σ = some (.inr (pc', pl', st', σ'))) (k : pmWt p l e R s m args below meth c Q base n0 t0 nL mth E cA D pc' pl' st' σ') : pmWt p l e R s m args below meth c Q base n0 t0 nL mth E cA D pc pl st σ := by
  obtain ⟨hx, hb, hml, ⟨own, ho, hown⟩, hts, hsu, hsz, hin, hfr, hlo⟩ := hC
  intro H locs ls cells slots h1 h2 h3 h4 h5 hL
  simp only [pmStep] at hs
  split at hs
  · simp only [pmNx, Option.some.injEq, Sum.inr.injEq, Prod.mk.injEq] at hs
    obtain ⟨rfl, rfl, rfl, rfl⟩ := hs
    exact lv_l2i hx hb hd rfl (k H locs ls cells slots h1 h2 h3 h4 h5 hL)
  · cases hs
theorem pmx_i2b  {pc pc' : Nat} {pl pl' : pmL} {st st' : List Value} {σ σ' : pmS} {call : Nat → List Value → pmS → pmA} (hC : pmCx p R s m args meth c cc base n0 nL o rt E cA D ro) (hd : decode cc pc = .ok (.i2b, 1))
    (hs : pmStep ro call o mth rt pc (.i2b) pl st σ = some (.inr (pc', pl', st', σ'))) (k : pmWt p l e R s m args below meth c Q base n0 t0 nL mth E cA D pc' pl' st' σ') : pmWt p l e R s m args below meth c Q base n0 t0 nL mth E cA D pc pl st σ := by
  obtain ⟨hx, hb, hml, ⟨own, ho, hown⟩, hts, hsu, hsz, hin, hfr, hlo⟩ := hC
  intro H locs ls cells slots h1 h2 h3 h4 h5 hL
  simp only [pmStep] at hs
  split at hs
  · simp only [pmNx, Option.some.injEq, Sum.inr.injEq, Prod.mk.injEq] at hs
    obtain ⟨rfl, rfl, rfl, rfl⟩ := hs
    exact lv_i2b hx hb hd rfl (k H locs ls cells slots h1 h2 h3 h4 h5 hL)
  · cases hs
theorem pmx_lcmp  {pc pc' : Nat} {pl pl' : pmL} {st st' : List Value} {σ σ' : pmS} {call : Nat → List Value → pmS → pmA} (hC : pmCx p R s m args meth c cc base n0 nL o rt E cA D ro) (hd : decode cc pc = .ok (.lcmp, 1))
    (hs : pmStep ro call o mth rt pc (.lcmp) pl st σ = some (.inr (pc', pl', st', σ'))) (k : pmWt p l e R s m args below meth c Q base n0 t0 nL mth E cA D pc' pl' st' σ') : pmWt p l e R s m args below meth c Q base n0 t0 nL mth E cA D pc pl st σ := by
  obtain ⟨hx, hb, hml, ⟨own, ho, hown⟩, hts, hsu, hsz, hin, hfr, hlo⟩ := hC
  intro H locs ls cells slots h1 h2 h3 h4 h5 hL
  simp only [pmStep] at hs
  split at hs
  · simp only [pmNx, Option.some.injEq, Sum.inr.injEq, Prod.mk.injEq] at hs
    obtain ⟨rfl, rfl, rfl, rfl⟩ := hs
    exact W.lcmp hx hb hd (k H locs ls cells slots h1 h2 h3 h4 h5 hL)
  · cases hs
theorem pmx_idiv  {pc pc' : Nat} {pl pl' : pmL} {st st' : List Value} {σ σ' : pmS} {call : Nat → List Value → pmS → pmA} (hC : pmCx p R s m args meth c cc base n0 nL o rt E cA D ro) (hd : decode cc pc = .ok (.idiv, 1))
    (hs : pmStep ro call o mth rt pc (.idiv) pl st σ = some (.inr (pc', pl', st', σ'))) (k : pmWt p l e R s m args below meth c Q base n0 t0 nL mth E cA D pc' pl' st' σ') : pmWt p l e R s m args below meth c Q base n0 t0 nL mth E cA D pc pl st σ := by
  obtain ⟨hx, hb, hml, ⟨own, ho, hown⟩, hts, hsu, hsz, hin, hfr, hlo⟩ := hC
  intro H locs ls cells slots h1 h2 h3 h4 h5 hL
  simp only [pmStep] at hs
  split at hs
  · split at hs
    · cases hs
    · rename_i hne
      simp only [pmNx, Option.some.injEq, Sum.inr.injEq, Prod.mk.injEq] at hs
      obtain ⟨rfl, rfl, rfl, rfl⟩ := hs
      exact lv_idiv hx hb hd hne (k H locs ls cells slots h1 h2 h3 h4 h5 hL)
  · cases hs
theorem pmx_irem  {pc pc' : Nat} {pl pl' : pmL} {st st' : List Value} {σ σ' : pmS} {call : Nat → List Value → pmS → pmA} (hC : pmCx p R s m args meth c cc base n0 nL o rt E cA D ro) (hd : decode cc pc = .ok (.irem, 1))
    (hs : pmStep ro call o mth rt pc (.irem) pl st σ = some (.inr (pc', pl', st', σ'))) (k : pmWt p l e R s m args below meth c Q base n0 t0 nL mth E cA D pc' pl' st' σ') : pmWt p l e R s m args below meth c Q base n0 t0 nL mth E cA D pc pl st σ := by
  obtain ⟨hx, hb, hml, ⟨own, ho, hown⟩, hts, hsu, hsz, hin, hfr, hlo⟩ := hC
  intro H locs ls cells slots h1 h2 h3 h4 h5 hL
  simp only [pmStep] at hs
  split at hs
  · split at hs
    · cases hs
    · rename_i hne
      simp only [pmNx, Option.some.injEq, Sum.inr.injEq, Prod.mk.injEq] at hs
      obtain ⟨rfl, rfl, rfl, rfl⟩ := hs
      exact lv_irem hx hb hd hne (k H locs ls cells slots h1 h2 h3 h4 h5 hL)
  · cases hs
theorem pmx_lrem  {pc pc' : Nat} {pl pl' : pmL} {st st' : List Value} {σ σ' : pmS} {call : Nat → List Value → pmS → pmA} (hC : pmCx p R s m args meth c cc base n0 nL o rt E cA D ro) (hd : decode cc pc = .ok (.lrem, 1))
    (hs : pmStep ro call o mth rt pc (.lrem) pl st σ = some (.inr (pc', pl', st', σ'))) (k : pmWt p l e R s m args below meth c Q base n0 t0 nL mth E cA D pc' pl' st' σ') : pmWt p l e R s m args below meth c Q base n0 t0 nL mth E cA D pc pl st σ := by
  obtain ⟨hx, hb, hml, ⟨own, ho, hown⟩, hts, hsu, hsz, hin, hfr, hlo⟩ := hC
  intro H locs ls cells slots h1 h2 h3 h4 h5 hL
  simp only [pmStep] at hs
  split at hs
  · split at hs
    · cases hs
    · rename_i hne
      simp only [pmNx, Option.some.injEq, Sum.inr.injEq, Prod.mk.injEq] at hs
      obtain ⟨rfl, rfl, rfl, rfl⟩ := hs
      exact lv_lrem hx hb hd hne (k H locs ls cells slots h1 h2 h3 h4 h5 hL)
  · cases hs
theorem pmx_dup  {pc pc' : Nat} {pl pl' : pmL} {st st' : List Value} {σ σ' : pmS} {call : Nat → List Value → pmS → pmA} (hC : pmCx p R s m args meth c cc base n0 nL o rt E cA D ro) (hd : decode cc pc = .ok (.dup, 1))
    (hs : pmStep ro call o mth rt pc (.dup) pl st σ = some (.inr (pc', pl', st', σ'))) (k : pmWt p l e R s m args below meth c Q base n0 t0 nL mth E cA D pc' pl' st' σ') : pmWt p l e R s m args below meth c Q base n0 t0 nL mth E cA D pc pl st σ := by
  obtain ⟨hx, hb, hml, ⟨own, ho, hown⟩, hts, hsu, hsz, hin, hfr, hlo⟩ := hC
  intro H locs ls cells slots h1 h2 h3 h4 h5 hL
  simp only [pmStep] at hs
  split at hs
  · split at hs
    · rename_i hc
      simp only [pmNx, Option.some.injEq, Sum.inr.injEq, Prod.mk.injEq] at hs
      obtain ⟨rfl, rfl, rfl, rfl⟩ := hs
      exact lv_dup hx hb hd ((pv_cat E _).trans hc) (k H locs ls cells slots h1 h2 h3 h4 h5 hL)
    · cases hs
  · cases hs
theorem pmx_pop  {pc pc' : Nat} {pl pl' : pmL} {st st' : List Value} {σ σ' : pmS} {call : Nat → List Value → pmS → pmA} (hC : pmCx p R s m args meth c cc base n0 nL o rt E cA D ro) (hd : decode cc pc = .ok (.pop, 1))
    (hs : pmStep ro call o mth rt pc (.pop) pl st σ = some (.inr (pc', pl', st', σ'))) (k : pmWt p l e R s m args below meth c Q base n0 t0 nL mth E cA D pc' pl' st' σ') : pmWt p l e R s m args below meth c Q base n0 t0 nL mth E cA D pc pl st σ := by
  obtain ⟨hx, hb, hml, ⟨own, ho, hown⟩, hts, hsu, hsz, hin, hfr, hlo⟩ := hC
  intro H locs ls cells slots h1 h2 h3 h4 h5 hL
  simp only [pmStep] at hs
  split at hs
  · split at hs
    · rename_i hc
      simp only [pmNx, Option.some.injEq, Sum.inr.injEq, Prod.mk.injEq] at hs
      obtain ⟨rfl, rfl, rfl, rfl⟩ := hs
      exact lv_pop hx hb hd ((pv_cat E _).trans hc) (k H locs ls cells slots h1 h2 h3 h4 h5 hL)
    · cases hs
  · cases hs
theorem pmx_dup2  {pc pc' : Nat} {pl pl' : pmL} {st st' : List Value} {σ σ' : pmS} {call : Nat → List Value → pmS → pmA} (hC : pmCx p R s m args meth c cc base n0 nL o rt E cA D ro) (hd : decode cc pc = .ok (.dup2, 1))
    (hs : pmStep ro call o mth rt pc (.dup2) pl st σ = some (.inr (pc', pl', st', σ'))) (k : pmWt p l e R s m args below meth c Q base n0 t0 nL mth E cA D pc' pl' st' σ') : pmWt p l e R s m args below meth c Q base n0 t0 nL mth E cA D pc pl st σ := by
  obtain ⟨hx, hb, hml, ⟨own, ho, hown⟩, hts, hsu, hsz, hin, hfr, hlo⟩ := hC
  intro H locs ls cells slots h1 h2 h3 h4 h5 hL
  simp only [pmStep] at hs
  split at hs
  · split at hs
    · rename_i hc
      simp only [pmNx, Option.some.injEq, Sum.inr.injEq, Prod.mk.injEq] at hs
      obtain ⟨rfl, rfl, rfl, rfl⟩ := hs
      exact lv_dup2_11 hx hb hd ((pv_cat E _).trans hc.1) ((pv_cat E _).trans hc.2) (k H locs ls cells slots h1 h2 h3 h4 h5 hL)
    · cases hs
  · cases hs
theorem pmx_goto {z : Int} {pc pc' : Nat} {pl pl' : pmL} {st st' : List Value} {σ σ' : pmS} {call : Nat → List Value → pmS → pmA} (hC : pmCx p R s m args meth c cc base n0 nL o rt E cA D ro) (hd : decode cc pc = .ok (.goto z, 3))
    (hs : pmStep ro call o mth rt pc (.goto z) pl st σ = some (.inr (pc', pl', st', σ'))) (k : pmWt p l e R s m args below meth c Q base n0 t0 nL mth E cA D pc' pl' st' σ') : pmWt p l e R s m args below meth c Q base n0 t0 nL mth E cA D pc pl st σ := by
  obtain ⟨hx, hb, hml, ⟨own, ho, hown⟩, hts, hsu, hsz, hin, hfr, hlo⟩ := hC
  intro H locs ls cells slots h1 h2 h3 h4 h5 hL
  simp only [pmStep] at hs
  obtain ⟨ht, rfl, rfl, rfl⟩ := pmJp_go hs
  exact lv_goto hx hb hd ht (k H locs ls cells slots h1 h2 h3 h4 h5 hL)
theorem pmx_ifCond {cnd : Jvm.ClassFile.Cond} {z : Int} {pc pc' : Nat} {pl pl' : pmL} {st st' : List Value} {σ σ' : pmS} {call : Nat → List Value → pmS → pmA} (hC : pmCx p R s m args meth c cc base n0 nL o rt E cA D ro) (hd : decode cc pc = .ok (.ifCond cnd z, 3))
    (hs : pmStep ro call o mth rt pc (.ifCond cnd z) pl st σ = some (.inr (pc', pl', st', σ'))) (k : pmWt p l e R s m args below meth c Q base n0 t0 nL mth E cA D pc' pl' st' σ') : pmWt p l e R s m args below meth c Q base n0 t0 nL mth E cA D pc pl st σ := by
  obtain ⟨hx, hb, hml, ⟨own, ho, hown⟩, hts, hsu, hsz, hin, hfr, hlo⟩ := hC
  intro H locs ls cells slots h1 h2 h3 h4 h5 hL
  simp only [pmStep] at hs
  split at hs
  · cases cnd
    · obtain ⟨t, ht, hT, hF, rfl, rfl, rfl⟩ := pmBr_go hs
      exact lv_if_eq hx hb hd ht (fun hP => hT hP ▸ (k H locs ls cells slots h1 h2 h3 h4 h5 hL)) (fun hP => hF hP ▸ (k H locs ls cells slots h1 h2 h3 h4 h5 hL))
    · obtain ⟨t, ht, hT, hF, rfl, rfl, rfl⟩ := pmBr_go hs
      exact lv_if_ne hx hb hd ht (fun hP => hT hP ▸ (k H locs ls cells slots h1 h2 h3 h4 h5 hL)) (fun hP => hF (fun q => q hP) ▸ (k H locs ls cells slots h1 h2 h3 h4 h5 hL))
    · obtain ⟨t, ht, hT, hF, rfl, rfl, rfl⟩ := pmBr_go hs
      exact lv_if_lt hx hb hd ht (fun hP => hT hP ▸ (k H locs ls cells slots h1 h2 h3 h4 h5 hL)) (fun hP => hF hP ▸ (k H locs ls cells slots h1 h2 h3 h4 h5 hL))
    · obtain ⟨t, ht, hT, hF, rfl, rfl, rfl⟩ := pmBr_go hs
      exact lv_if_ge hx hb hd ht (fun hP => hT hP ▸ (k H locs ls cells slots h1 h2 h3 h4 h5 hL)) (fun hP => hF hP ▸ (k H locs ls cells slots h1 h2 h3 h4 h5 hL))
    · obtain ⟨t, ht, hT, hF, rfl, rfl, rfl⟩ := pmBr_go hs
      exact lv_if_gt hx hb hd ht (fun hP => hT hP ▸ (k H locs ls cells slots h1 h2 h3 h4 h5 hL)) (fun hP => hF hP ▸ (k H locs ls cells slots h1 h2 h3 h4 h5 hL))
    · obtain ⟨t, ht, hT, hF, rfl, rfl, rfl⟩ := pmBr_go hs
      exact lv_if_le hx hb hd ht (fun hP => hT hP ▸ (k H locs ls cells slots h1 h2 h3 h4 h5 hL)) (fun hP => hF hP ▸ (k H locs ls cells slots h1 h2 h3 h4 h5 hL))
  · cases hs
theorem pmx_if_icmp {cnd : Jvm.ClassFile.Cond} {z : Int} {pc pc' : Nat} {pl pl' : pmL} {st st' : List Value} {σ σ' : pmS} {call : Nat → List Value → pmS → pmA} (hC : pmCx p R s m args meth c cc base n0 nL o rt E cA D ro) (hd : decode cc pc = .ok (.if_icmp cnd z, 3))
    (hs : pmStep ro call o mth rt pc (.if_icmp cnd z) pl st σ = some (.inr (pc', pl', st', σ'))) (k : pmWt p l e R s m args below meth c Q base n0 t0 nL mth E cA D pc' pl' st' σ') : pmWt p l e R s m args below meth c Q base n0 t0 nL mth E cA D pc pl st σ := by
  obtain ⟨hx, hb, hml, ⟨own, ho, hown⟩, hts, hsu, hsz, hin, hfr, hlo⟩ := hC
  intro H locs ls cells slots h1 h2 h3 h4 h5 hL
  simp only [pmStep] at hs
  split at hs
  · cases cnd
    · obtain ⟨t, ht, hT, hF, rfl, rfl, rfl⟩ := pmBr_go hs
      exact lv_icmp_eq hx hb hd ht (fun hP => hT hP ▸ (k H locs ls cells slots h1 h2 h3 h4 h5 hL)) (fun hP => hF hP ▸ (k H locs ls cells slots h1 h2 h3 h4 h5 hL))
    · obtain ⟨t, ht, hT, hF, rfl, rfl, rfl⟩ := pmBr_go hs
      exact lv_icmp_ne hx hb hd ht (fun hP => hT hP ▸ (k H locs ls cells slots h1 h2 h3 h4 h5 hL)) (fun hP => hF (fun q => q hP) ▸ (k H locs ls cells slots h1 h2 h3 h4 h5 hL))
    · obtain ⟨t, ht, hT, hF, rfl, rfl, rfl⟩ := pmBr_go hs
      exact lv_icmp_lt hx hb hd ht (fun hP => hT hP ▸ (k H locs ls cells slots h1 h2 h3 h4 h5 hL)) (fun hP => hF hP ▸ (k H locs ls cells slots h1 h2 h3 h4 h5 hL))
    · obtain ⟨t, ht, hT, hF, rfl, rfl, rfl⟩ := pmBr_go hs
      exact lv_icmp_ge hx hb hd ht (fun hP => hT hP ▸ (k H locs ls cells slots h1 h2 h3 h4 h5 hL)) (fun hP => hF hP ▸ (k H locs ls cells slots h1 h2 h3 h4 h5 hL))
    · obtain ⟨t, ht, hT, hF, rfl, rfl, rfl⟩ := pmBr_go hs
      exact lv_icmp_gt hx hb hd ht (fun hP => hT hP ▸ (k H locs ls cells slots h1 h2 h3 h4 h5 hL)) (fun hP => hF hP ▸ (k H locs ls cells slots h1 h2 h3 h4 h5 hL))
    · obtain ⟨t, ht, hT, hF, rfl, rfl, rfl⟩ := pmBr_go hs
      exact lv_icmp_le hx hb hd ht (fun hP => hT hP ▸ (k H locs ls cells slots h1 h2 h3 h4 h5 hL)) (fun hP => hF hP ▸ (k H locs ls cells slots h1 h2 h3 h4 h5 hL))
  · cases hs
end
