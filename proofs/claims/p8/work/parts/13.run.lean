/-! runs -/
section
def pmLen : Instr → Nat
  | .bipush _ => 2
  | .ldc _ => 2
  | .iload _ => 2
  | .lload _ => 2
  | .aload _ => 2
  | .istore _ => 2
  | .lstore _ => 2
  | .astore _ => 2
  | .newarray _ => 2
  | .sipush _ => 3
  | .ldc_w _ => 3
  | .ldc2_w _ => 3
  | .iinc _ _ => 3
  | .ifCond _ _ => 3
  | .if_icmp _ _ => 3
  | .goto _ => 3
  | .getfield _ => 3
  | .putfield _ => 3
  | .getstatic _ => 3
  | .invokestatic _ => 3
  | .invokevirtual _ => 3
  | .invokespecial _ => 3
  | .new _ => 3
  | .anewarray _ => 3
  | .tableswitch _ _ _ _ => 0
  | .lookupswitch _ _ => 0
  | _ => 1
def pmDec (b : ByteArray) (pc : Nat) (i : Instr) : Bool := match decode b pc with
  | .ok (j, n) => decide (j = i) && (Nat.beq n (pmLen i) || Nat.beq (pmLen i) 0)
  | _ => false
def pmDc (q : pmIt × List (List (Nat × Instr))) : Prop := ∀ l ∈ q.2, l.all (fun e => pmDec q.1.2.1 e.1 e.2) = true
variable {p : Program} {l : Launch} {e : Env} {R : Room} {s : State} {m : MethodId} {args : Array Value} {below : List Frame} {meth : Method} {c : Code} {Q : State → Prop}
variable {base n0 t0 nL o mth rt : Nat} {E : Nat → Nat} {cA : Nat → ClassId} {D : va_G} {ro : Nat → Nat × (Nat → Int32)} {cc : ByteArray}
theorem pmDec_ok {b : ByteArray} {pc : Nat} {i : Instr} (h : pmDec b pc i = true) : (pmLen i ≠ 0 → decode b pc = .ok (i, pmLen i)) ∧ ∃ n, decode b pc = .ok (i, n) := by
  unfold pmDec at h
  split at h
  · rename_i j n hd
    simp only [Bool.and_eq_true, decide_eq_true_eq, Bool.or_eq_true, Nat.beq_eq] at h
    obtain ⟨rfl, h2⟩ := h
    refine ⟨fun h0 => ?_, n, hd⟩
    rcases h2 with h2 | h2
    · rw [← h2]; exact hd
    · exact absurd h2 h0
  · cases h
theorem pmx_tableswitch {dd lo hi : Int} {offs : Array Int} {n pc pc' : Nat} {pl pl' : pmL} {st st' : List Value} {σ σ' : pmS} {call : Nat → List Value → pmS → pmA} (hC : pmCx p R s m args meth c cc base n0 nL o rt E cA D ro) (hd : decode cc pc = .ok (.tableswitch dd lo hi offs, n))
    (hs : pmStep ro call o mth rt pc (.tableswitch dd lo hi offs) pl st σ = some (.inr (pc', pl', st', σ'))) (k : pmWt p l e R s m args below meth c Q base n0 t0 nL mth E cA D pc' pl' st' σ') : pmWt p l e R s m args below meth c Q base n0 t0 nL mth E cA D pc pl st σ := by
  obtain ⟨hx, hb, hml, ⟨own, ho, hown⟩, hts, hsu, hsz, hin, hfr, hlo⟩ := hC
  intro H locs ls cells slots h1 h2 h3 h4 h5 hL
  simp only [pmStep] at hs
  split at hs
  · rename_i x r
    split at hs
    · rename_i hout
      obtain ⟨ht, rfl, rfl, rfl⟩ := pmJp_go hs
      exact lv_tableOut hx hb hd hout ht (k H locs ls cells slots h1 h2 h3 h4 h5 hL)
    · rename_i hin2
      split at hs
      · rename_i off hoff
        obtain ⟨ht, rfl, rfl, rfl⟩ := pmJp_go hs
        exact lv_tableIn hx hb hd (fun q => hin2 (Or.inl q)) (fun q => hin2 (Or.inr q)) hoff ht (k H locs ls cells slots h1 h2 h3 h4 h5 hL)
      · cases hs
  · cases hs
theorem pmx_lookupswitch {dd : Int} {ps : Array (Int × Int)} {n pc pc' : Nat} {pl pl' : pmL} {st st' : List Value} {σ σ' : pmS} {call : Nat → List Value → pmS → pmA} (hC : pmCx p R s m args meth c cc base n0 nL o rt E cA D ro) (hd : decode cc pc = .ok (.lookupswitch dd ps, n))
    (hs : pmStep ro call o mth rt pc (.lookupswitch dd ps) pl st σ = some (.inr (pc', pl', st', σ'))) (k : pmWt p l e R s m args below meth c Q base n0 t0 nL mth E cA D pc' pl' st' σ') : pmWt p l e R s m args below meth c Q base n0 t0 nL mth E cA D pc pl st σ := by
  obtain ⟨hx, hb, hml, ⟨own, ho, hown⟩, hts, hsu, hsz, hin, hfr, hlo⟩ := hC
  intro H locs ls cells slots h1 h2 h3 h4 h5 hL
  simp only [pmStep] at hs
  split at hs
  · rename_i x r
    split at hs
    · rename_i hall
      obtain ⟨ht, rfl, rfl, rfl⟩ := pmJp_go hs
      exact lv_lookup hx hb hd hall rfl ht (k H locs ls cells slots h1 h2 h3 h4 h5 hL)
    · cases hs
  · cases hs
theorem pmStep_go {d pc pc' : Nat} {i : Instr} {pl pl' : pmL} {st st' : List Value} {σ σ' : pmS} {call : Nat → List Value → pmS → pmA} (hC : pmCx p R s m args meth c cc base n0 nL o rt E cA D ro) (hd : (pmLen i ≠ 0 → decode cc pc = .ok (i, pmLen i)) ∧ ∃ n, decode cc pc = .ok (i, n)) (hcall : pmCan l base E cA D ro d call) (hd1 : d + 1 ≤ R.frames) (hd2 : 60 * (d + 1) ≤ R.locals)
    (hs : pmStep ro call o mth rt pc i pl st σ = some (.inr (pc', pl', st', σ'))) (hroom : σ'.1.length ≤ n0 + R.cells ∧ pmTot σ'.1 ≤ t0 + R.slots) (k : pmWt p l e R s m args below meth c Q base n0 t0 nL mth E cA D pc' pl' st' σ') : pmWt p l e R s m args below meth c Q base n0 t0 nL mth E cA D pc pl st σ := by
  obtain ⟨hd, nn, hdn⟩ := hd
  cases i with
  | iconst z => exact pmx_iconst hC (hd (by simp [pmLen])) hs k
  | bipush z => exact pmx_bipush hC (hd (by simp [pmLen])) hs k
  | sipush z => exact pmx_sipush hC (hd (by simp [pmLen])) hs k
  | ldc z => exact pmx_ldc hC (hd (by simp [pmLen])) hs k
  | ldc_w z => exact pmx_ldc_w hC (hd (by simp [pmLen])) hs k
  | lconst z => exact pmx_lconst hC (hd (by simp [pmLen])) hs k
  | ldc2_w z => exact pmx_ldc2_w hC (hd (by simp [pmLen])) hs k
  | iload z => exact pmx_iload hC (hd (by simp [pmLen])) hs k
  | iload_n z => exact pmx_iload_n hC (hd (by simp [pmLen])) hs k
  | lload z => exact pmx_lload hC (hd (by simp [pmLen])) hs k
  | lload_n z => exact pmx_lload_n hC (hd (by simp [pmLen])) hs k
  | aload z => exact pmx_aload hC (hd (by simp [pmLen])) hs k
  | aload_n z => exact pmx_aload_n hC (hd (by simp [pmLen])) hs k
  | istore z => exact pmx_istore hC (hd (by simp [pmLen])) hs k
  | istore_n z => exact pmx_istore_n hC (hd (by simp [pmLen])) hs k
  | lstore z => exact pmx_lstore hC (hd (by simp [pmLen])) hs k
  | lstore_n z => exact pmx_lstore_n hC (hd (by simp [pmLen])) hs k
  | astore z => exact pmx_astore hC (hd (by simp [pmLen])) hs k
  | astore_n z => exact pmx_astore_n hC (hd (by simp [pmLen])) hs k
  | iadd => exact pmx_iadd hC (hd (by simp [pmLen])) hs k
  | isub => exact pmx_isub hC (hd (by simp [pmLen])) hs k
  | imul => exact pmx_imul hC (hd (by simp [pmLen])) hs k
  | iand => exact pmx_iand hC (hd (by simp [pmLen])) hs k
  | ior => exact pmx_ior hC (hd (by simp [pmLen])) hs k
  | ixor => exact pmx_ixor hC (hd (by simp [pmLen])) hs k
  | ishl => exact pmx_ishl hC (hd (by simp [pmLen])) hs k
  | ishr => exact pmx_ishr hC (hd (by simp [pmLen])) hs k
  | iushr => exact pmx_iushr hC (hd (by simp [pmLen])) hs k
  | ladd => exact pmx_ladd hC (hd (by simp [pmLen])) hs k
  | lmul => exact pmx_lmul hC (hd (by simp [pmLen])) hs k
  | land => exact pmx_land hC (hd (by simp [pmLen])) hs k
  | lor => exact pmx_lor hC (hd (by simp [pmLen])) hs k
  | lxor => exact pmx_lxor hC (hd (by simp [pmLen])) hs k
  | lshl => exact pmx_lshl hC (hd (by simp [pmLen])) hs k
  | lushr => exact pmx_lushr hC (hd (by simp [pmLen])) hs k
  | i2l => exact pmx_i2l hC (hd (by simp [pmLen])) hs k
  | l2i => exact pmx_l2i hC (hd (by simp [pmLen])) hs k
  | i2b => exact pmx_i2b hC (hd (by simp [pmLen])) hs k
  | lcmp => exact pmx_lcmp hC (hd (by simp [pmLen])) hs k
  | idiv => exact pmx_idiv hC (hd (by simp [pmLen])) hs k
  | irem => exact pmx_irem hC (hd (by simp [pmLen])) hs k
  | lrem => exact pmx_lrem hC (hd (by simp [pmLen])) hs k
  | dup => exact pmx_dup hC (hd (by simp [pmLen])) hs k
  | pop => exact pmx_pop hC (hd (by simp [pmLen])) hs k
  | dup2 => exact pmx_dup2 hC (hd (by simp [pmLen])) hs k
  | goto z => exact pmx_goto hC (hd (by simp [pmLen])) hs k
  | getfield z => exact pmx_getfield hC (hd (by simp [pmLen])) hs k
  | putfield z => exact pmx_putfield hC (hd (by simp [pmLen])) hs k
  | getstatic z => exact pmx_getstatic hC (hd (by simp [pmLen])) hs k
  | iaload => exact pmx_iaload hC (hd (by simp [pmLen])) hs k
  | laload => exact pmx_laload hC (hd (by simp [pmLen])) hs k
  | baload => exact pmx_baload hC (hd (by simp [pmLen])) hs k
  | aaload => exact pmx_aaload hC (hd (by simp [pmLen])) hs k
  | iastore => exact pmx_iastore hC (hd (by simp [pmLen])) hs k
  | lastore => exact pmx_lastore hC (hd (by simp [pmLen])) hs k
  | bastore => exact pmx_bastore hC (hd (by simp [pmLen])) hs k
  | aastore => exact pmx_aastore hC (hd (by simp [pmLen])) hs k
  | arraylength => exact pmx_arraylength hC (hd (by simp [pmLen])) hs k
  | iinc z w => exact pmx_iinc hC (hd (by simp [pmLen])) hs k
  | ifCond cnd z => exact pmx_ifCond hC (hd (by simp [pmLen])) hs k
  | if_icmp cnd z => exact pmx_if_icmp hC (hd (by simp [pmLen])) hs k
  | new z => exact pmx_new hC (hd (by simp [pmLen])) hs hroom k
  | newarray z => exact pmx_newarray hC (hd (by simp [pmLen])) hs hroom k
  | anewarray z => exact pmx_anewarray hC (hd (by simp [pmLen])) hs hroom k
  | invokestatic z => exact pmx_invokestatic hC (hd (by simp [pmLen])) hcall hd1 hd2 hs hroom k
  | invokevirtual z => exact pmx_invokevirtual hC (hd (by simp [pmLen])) hcall hd1 hd2 hs hroom k
  | invokespecial z => exact pmx_invokespecial hC (hd (by simp [pmLen])) hcall hd1 hd2 hs hroom k
  | tableswitch a b f g => exact pmx_tableswitch hC hdn hs k
  | lookupswitch a b => exact pmx_lookupswitch hC hdn hs k
  | ireturn =>
    simp only [pmStep] at hs
    split at hs
    · split at hs <;> cases hs
    · cases hs
  | lreturn =>
    simp only [pmStep] at hs
    split at hs
    · split at hs <;> cases hs
    · cases hs
  | return_ =>
    simp only [pmStep] at hs
    split at hs
    · split at hs <;> cases hs
    · cases hs
  | _ => simp [pmStep] at hs
theorem pmCopy_same {σ σ' : pmS} {a b : Nat} {sp dp n : Int32} (h : pmCopy σ a sp b dp n = some σ') : σ'.1 = σ.1 := by
  unfold pmCopy at h
  split at h
  · split at h
    · split at h
      · cases h; rfl
      · split at h
        · cases h; rfl
        · cases h
    · cases h
  · cases h
def pmMono (σ σ' : pmS) : Prop := σ.1.length ≤ σ'.1.length ∧ pmTot σ.1 ≤ pmTot σ'.1 ∧ σ'.1.length ≤ 901
theorem pmMono_of {σ σ' : pmS} (hl : σ.1.length ≤ 901) (h : σ'.1 = σ.1) : pmMono σ σ' := by unfold pmMono; rw [h]; exact ⟨Nat.le_refl _, Nat.le_refl _, hl⟩
theorem pmMono_fresh {σ : pmS} {z : pmZ} (hl : σ.1.length < 900) : pmMono σ (pmFresh σ z) := by
  unfold pmMono
  simp only [pmFresh, pmTot_app, List.length_append, List.length_cons, List.length_nil]
  omega
def pmCallMono (call : Nat → List Value → pmS → pmA) : Prop := ∀ mm as σ r σ', σ.1.length ≤ 901 → call mm as σ = some (r, σ') → pmMono σ σ'
theorem pmRt_mono {call : Nat → List Value → pmS → pmA} {mm pc pc' : Nat} {as rest st' : List Value} {pl pl' : pmL} {σ σ' : pmS} (hc : pmCallMono call) (hl : σ.1.length ≤ 901) (h : pmRt call mm as pc pl rest σ = some (.inr (pc', pl', st', σ'))) : pmMono σ σ' := by
  unfold pmRt at h
  split at h
  · split at h
    · rename_i r σ1 hr
      simp only [pmNx, Option.some.injEq, Sum.inr.injEq, Prod.mk.injEq] at h
      obtain ⟨-, -, -, rfl⟩ := h
      exact hc _ _ _ _ _ hl hr
    · cases h
  · cases h
theorem pmNx_mono {pc pc' : Nat} {pl pl' : pmL} {st st' : List Value} {σ σ1 σ' : pmS} (hl : σ.1.length ≤ 901) (h : pmNx pc pl st σ1 = some (.inr (pc', pl', st', σ'))) (h1 : σ1.1 = σ.1) : pmMono σ σ' := by
  simp only [pmNx, Option.some.injEq, Sum.inr.injEq, Prod.mk.injEq] at h
  obtain ⟨-, -, -, rfl⟩ := h
  exact pmMono_of hl h1
theorem pmNx_fresh {pc pc' : Nat} {pl pl' : pmL} {st st' : List Value} {σ σ' : pmS} {z : pmZ} (hl : σ.1.length < 900) (h : pmNx pc pl st (pmFresh σ z) = some (.inr (pc', pl', st', σ'))) : pmMono σ σ' := by
  simp only [pmNx, Option.some.injEq, Sum.inr.injEq, Prod.mk.injEq] at h
  obtain ⟨-, -, -, rfl⟩ := h
  exact pmMono_fresh hl
theorem pmStep_mono {pc pc' : Nat} {i : Instr} {pl pl' : pmL} {st st' : List Value} {σ σ' : pmS} {call : Nat → List Value → pmS → pmA} (hc : pmCallMono call) (hl : σ.1.length ≤ 901) (h : pmStep ro call o mth rt pc i pl st σ = some (.inr (pc', pl', st', σ'))) : pmMono σ σ' := by
  cases i <;> simp only [pmStep] at h <;> (try cases h; done) <;> (repeat' split at h) <;> first
    | (cases h; done)
    | exact pmNx_mono hl h rfl
    | exact pmMono_of hl (by obtain ⟨-, -, -, rfl⟩ := pmJp_go h; rfl)
    | exact pmMono_of hl (by obtain ⟨t, -, -, -, -, -, rfl⟩ := pmBr_go h; rfl)
    | exact pmRt_mono hc hl h
    | (simp only [pmNx, Option.some.injEq, Sum.inr.injEq, Prod.mk.injEq] at h; obtain ⟨-, -, -, rfl⟩ := h; rename_i hsh _ _ _ hwr; obtain ⟨w1, w2⟩ := pmWr_shape hsh hwr; exact ⟨by omega, by omega, by omega⟩)
    | exact pmNx_mono hl h (pmCopy_same (by assumption))
    | (simp only [pmNx, Option.some.injEq, Sum.inr.injEq, Prod.mk.injEq] at h; obtain ⟨-, -, -, rfl⟩ := h; rename_i hsh _ _; exact ⟨by show _ ≤ (σ.1.set _ _).length; rw [List.length_set]; exact Nat.le_refl _, by show _ ≤ pmTot (σ.1.set _ _); rw [pmTot_set hsh]; exact Nat.le_refl _, by show (σ.1.set _ _).length ≤ _; rw [List.length_set]; exact hl⟩)
    | exact pmNx_fresh (by assumption) h
    | exact pmNx_fresh (by omega) h
theorem pmStep_inl {pc : Nat} {i : Instr} {pl : pmL} {st : List Value} {σ σ' : pmS} {r : Option Value} {call : Nat → List Value → pmS → pmA} (h : pmStep ro call o mth rt pc i pl st σ = some (.inl (r, σ'))) : σ' = σ ∧ (i = .ireturn ∧ (∃ x, st = [.int x] ∧ r = some (.int x) ∧ (rt = 1 ∨ (rt = 2 ∧ (x = 0 ∨ x = 1)))) ∨ i = .lreturn ∧ (∃ x, st = [.long x] ∧ r = some (.long x) ∧ rt = 3) ∨ i = .return_ ∧ st = [] ∧ r = none ∧ (rt = 0 ∨ rt = 4)) := by
  cases i <;> simp only [pmStep] at h <;> (try cases h; done) <;> (repeat' split at h) <;> first
    | (cases h; done)
    | (simp [pmNx] at h; done)
    | (simp [pmJp] at h; split at h <;> simp [pmNx] at h; done)
    | (simp [pmBr] at h; split at h <;> (try split at h) <;> simp [pmNx] at h; done)
    | (unfold pmRt at h; split at h <;> (try split at h) <;> simp [pmNx] at h; done)
    | (simp only [Option.some.injEq, Sum.inl.injEq, Prod.mk.injEq] at h; obtain ⟨rfl, rfl⟩ := h; exact ⟨rfl, Or.inl ⟨rfl, _, rfl, rfl, by assumption⟩⟩)
    | (simp only [Option.some.injEq, Sum.inl.injEq, Prod.mk.injEq] at h; obtain ⟨rfl, rfl⟩ := h; exact ⟨rfl, Or.inr (Or.inl ⟨rfl, _, rfl, rfl, by assumption⟩)⟩)
    | (simp only [Option.some.injEq, Sum.inl.injEq, Prod.mk.injEq] at h; obtain ⟨rfl, rfl⟩ := h; exact ⟨rfl, Or.inr (Or.inr ⟨rfl, rfl, rfl, by assumption⟩)⟩)
theorem pmRun_mono {call : Nat → List Value → pmS → pmA} (hc : pmCallMono call) : ∀ (N pc : Nat) (pl : pmL) (st : List Value) (σ : pmS) (r : Option Value) (σf : pmS), σ.1.length ≤ 901 → pmRun ro call o mth rt N pc pl st σ = some (r, σf) → pmMono σ σf
  | 0, _, _, _, _, _, _, _, h => by cases h
  | N + 1, pc, pl, st, σ, r, σf, hl, h => by
    unfold pmRun at h
    split at h
    · cases h
    · split at h
      · cases h
      · rename_i i hi x hx
        cases h
        obtain ⟨rfl, -⟩ := pmStep_inl hx
        exact pmMono_of hl rfl
      · rename_i i hi pc' pl' st' σ' hx
        have h1 := pmStep_mono hc hl hx
        have h2 := pmRun_mono hc N pc' pl' st' σ' r σf h1.2.2 h
        exact ⟨Nat.le_trans h1.1 h2.1, Nat.le_trans h1.2.1 h2.2.1, h2.2.2⟩
theorem pmRun_go {call : Nat → List Value → pmS → pmA} {d : Nat} {r : Option Value} {σf : pmS} (hC : pmCx p R s m args meth c cc base n0 nL o rt E cA D ro) (hdec : ∀ pc i, pmCode mth pc = some i → (pmLen i ≠ 0 → decode cc pc = .ok (i, pmLen i)) ∧ ∃ n, decode cc pc = .ok (i, n)) (hcall : pmCan l base E cA D ro d call) (hcm : pmCallMono call) (hd1 : d + 1 ≤ R.frames) (hd2 : 60 * (d + 1) ≤ R.locals)
    (hroom : σf.1.length ≤ n0 + R.cells ∧ pmTot σf.1 ≤ t0 + R.slots) (hQ : ∀ pc pl st i, pmCode mth pc = some i → pmStep ro call o mth rt pc i pl st σf = some (.inl (r, σf)) → pmWt p l e R s m args below meth c Q base n0 t0 nL mth E cA D pc pl st σf) :
    ∀ (N pc : Nat) (pl : pmL) (st : List Value) (σ : pmS), σ.1.length ≤ 901 → pmRun ro call o mth rt N pc pl st σ = some (r, σf) → pmWt p l e R s m args below meth c Q base n0 t0 nL mth E cA D pc pl st σ
  | 0, _, _, _, _, _, h => by cases h
  | N + 1, pc, pl, st, σ, hl, h => by
    unfold pmRun at h
    split at h
    · cases h
    · split at h
      · cases h
      · rename_i i hi x r' hx
        cases h
        obtain ⟨e1, -⟩ := pmStep_inl hx
        subst e1
        exact hQ pc pl st i hi hx
      · rename_i i hi x pc' pl' st' σ' hx
        have h1 := pmStep_mono hcm hl hx
        have h2 := pmRun_mono hcm N pc' pl' st' σ' r σf h1.2.2 h
        exact pmStep_go hC (hdec pc i hi) hcall hd1 hd2 hx ⟨Nat.le_trans h2.1 hroom.1, Nat.le_trans h2.2.1 hroom.2⟩ (pmRun_go hC hdec hcall hcm hd1 hd2 hroom hQ N pc' pl' st' σ' h1.2.2 h)
theorem pmCode_dec (hDa : ∀ q ∈ pmAll, pmDc q) {mth pc : Nat} {i : Instr} {q : pmIt} {t : List (List (Nat × Instr))} (hq : pmAll[mth]? = some (q, t)) (h : pmCode mth pc = some i) : (pmLen i ≠ 0 → decode q.2.1 pc = .ok (i, pmLen i)) ∧ ∃ n, decode q.2.1 pc = .ok (i, n) := by
  unfold pmCode at h
  rw [hq] at h
  change ((t[pc / 32]?).bind fun l => pmLk l pc) = some i at h
  cases hl : t[pc / 32]? with
  | none => rw [hl] at h; cases h
  | some l =>
    rw [hl] at h
    have hm : l ∈ t := List.mem_of_getElem? hl
    have h0 : (q, t) ∈ pmAll := List.mem_of_getElem? hq
    have h1 : l.all (fun e => pmDec q.2.1 e.1 e.2) = true := hDa (q, t) h0 l hm
    have h2 : pmDec q.2.1 pc i = true := List.all_eq_true.mp h1 (pc, i) (pmLk_mem l pc i h)
    exact pmDec_ok h2
def pmRtT (rt : Nat) : Option FieldType := if rt = 4 then none else pmRetT rt
theorem pmRet_met {call : Nat → List Value → pmS → pmA} {r : Option Value} {σf : pmS} {pc : Nat} {pl : pmL} {st : List Value} {i : Instr} (hC : pmCx p R s m args meth c cc base n0 nL o rt E cA D ro) (hr : meth.sig.returnType = pmRtT rt) (hlk : meth.locks = false) (hd : pmLen i ≠ 0 → decode cc pc = .ok (i, pmLen i))
    (hs : pmStep ro call o mth rt pc i pl st σf = some (.inl (r, σf))) : pmWt p l e R s m args below meth c (MQ below (pmQc base E cA D σf (r.map (pv E))) args s (σf.1.length - n0) (pmTot σf.1 - t0) (fun q => base ≤ q)) base n0 t0 nL mth E cA D pc pl st σf := by
  obtain ⟨hx, hb, hml, ⟨own, ho, hown⟩, hts, hsu, hsz, hin, hfr, hlo⟩ := hC
  intro H locs ls cells slots h1 h2 h3 h4 h5 hL
  obtain ⟨-, hk⟩ := pmStep_inl hs
  have e1 : σf.1.length - n0 = cells := by omega
  have e2 : pmTot σf.1 - t0 = slots := by omega
  rw [e1, e2]
  have hq : ∀ v : Option Value, ∀ t : State, t.heap = H → s.WarmedH t.vm → pmQc base E cA D σf v args s (.returned v) t := fun v t ht _ => ⟨⟨rfl, by rw [ht]; exact h1⟩, by rw [ht]; exact h2.1, fun q g1 g2 => by rw [ht]; exact h2.2.1 q g1 g2⟩
  rcases hk with ⟨rfl, x, rfl, rfl, hrt⟩ | ⟨rfl, x, rfl, rfl, hrt⟩ | ⟨rfl, rfl, rfl, hrt⟩
  · rcases hrt with rfl | ⟨rfl, hxx⟩
    · exact W.iret hx hb hr (hq _) h2.2.2 (hd (by simp [pmLen])) hlk
    · exact W.zret (ty := .boolean) hx hb hr (by rcases hxx with rfl | rfl <;> rfl) (hq _) h2.2.2 (hd (by simp [pmLen])) hlk
  · subst hrt
    exact W.lret hx hb hr (hq _) h2.2.2 (hd (by simp [pmLen])) hlk
  · rcases hrt with rfl | rfl
    · exact W.vret hx hb hr (hq _) h2.2.2 (hd (by simp [pmLen])) hlk
    · exact W.vret hx hb hr (hq _) h2.2.2 (hd (by simp [pmLen])) hlk
theorem pmCall_mono {N : Nat} : ∀ d, pmCallMono (pmCall ro N d)
  | 0 => fun _ _ _ _ _ _ h => by cases h
  | d + 1 => fun mm as σ r σ' hl h => by
    unfold pmCall at h
    split at h
    · split at h
      · exact pmRun_mono (pmCall_mono d) _ _ _ _ _ _ _ hl h
      · cases h
    · cases h
theorem pmCall_can (hDa : ∀ q ∈ pmAll, pmDc q) {l : Launch} {N : Nat} : ∀ d, pmCan l base E cA D ro d (pmCall ro N d)
  | 0 => fun _ _ _ _ _ _ h => by cases h
  | d + 1 => fun mm as σ r σ' hl h => by
    have hmono := pmCall_mono (d + 1) mm as σ r σ' hl h
    unfold pmCall at h
    split at h
    · rename_i y b oo n mx rr kind ev hq
      split at h
      · rename_i hcond
        obtain ⟨hpl, hmx, hk3, hel⟩ := hcond
        obtain ⟨t, ha, hp⟩ := pmI_at hq
        refine ⟨_, hq, ?_, hmono.1, hmono.2.1, hmono.2.2, hmx, by show kind ≠ 3; omega⟩
        obtain ⟨own2, k1, k2, k3, k4⟩ := pmOp_all _ hp.2.1
        cases hp.1.symm.trans k1
        refine Met.ofW (cc := b) (maxL := mx) (ret := pmRetT rr) k2 rfl ?_
        intro p e s m args below meth c s₁ B hml hv
        obtain ⟨rfl, hsz, hP, hsu⟩ := hv
        have hts := atoms_spec (ws := pmWs (y, b, (oo, n, mx, rr), kind, ev)) B.pre
        have hb : base ≤ s.heap.size := by omega
        have hkd : kind = 2 → rr = 0 ∧ y.name = "<init>" := by
          intro hk
          rcases hp.2.2.2.2 with z | ⟨-, -, z⟩
          · change kind = 3 at z; omega
          · rcases z with ⟨z, -⟩ | ⟨z, -⟩ | ⟨-, -, z1, z2⟩
            · change kind = 0 at z; omega
            · change kind = 1 at z; omega
            · exact ⟨z2, z1⟩
        have hC : pmCx p (headSpec (pmWs (y, b, (oo, n, mx, rr), kind, ev)) { frames := d + 1, cells := σ'.1.length - σ.1.length, slots := pmTot σ'.1 - pmTot σ.1, locals := 60 * (d + 1) }).room s m (as.map (pv E)).toArray meth c b base σ.1.length mx oo (pmRk rr kind) E cA D ro :=
          ⟨B.exec, B.bytes, hml, ⟨y.cls, hp.1, findClass_of_methodNamed B.named⟩, fun w hw => hts w (List.mem_cons_of_mem _ hw), hsu, hsz, fun h4 => by
            have hk2 : kind = 2 := by
              unfold pmRk at h4
              split at h4
              · assumption
              · have := hp.2.2.2.1; change rr ≤ 3 at this; omega
            rw [(name_of_methodNamed B.named B.method).1]
            exact (hkd hk2).2, by show 1 ≤ d + 1; omega, by show 60 ≤ 60 * (d + 1); omega⟩
        have hr : meth.sig.returnType = pmRtT (pmRk rr kind) := by
          rw [B.returns]
          unfold pmRtT pmRk
          by_cases hk : kind = 2
          · rw [if_pos hk, if_pos rfl, (hkd hk).1]; rfl
          · have := hp.2.2.2.1
            change rr ≤ 3 at this
            rw [if_neg hk, if_neg (by omega)]
        have hdec := fun pc i hi => pmCode_dec hDa ha (pc := pc) (i := i) hi
        have hwt := pmRun_go (l := l) (t0 := pmTot σ.1) (below := below) (e := e) (Q := MQ below (pmQc base E cA D σ' (r.map (pv E))) (as.map (pv E)).toArray s (σ'.1.length - σ.1.length) (pmTot σ'.1 - pmTot σ.1) (fun q => base ≤ q)) hC hdec (pmCall_can hDa d) (pmCall_mono d) (Nat.le_refl _) (Nat.le_refl _) (by have := hmono.1; have := hmono.2.1; constructor <;> (show _ ≤ _ + (_ - _); omega))
          (fun pc pl st i hi hs => pmRet_met (l := l) hC hr B.notSynchronized (hdec pc i hi).1 hs) N 0 _ [] σ hl h
        rw [lg_entry_eq]
        exact hwt s.heap [] _ 0 0 hP va_S.rf (by omega) (by omega) hl (pmEntry E mm as hpl hel)
      · cases h
    · cases h
end
