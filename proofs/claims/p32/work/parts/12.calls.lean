/-! calls -/
section
variable {p : Program} {l : Launch} {e : Env} {R : Room} {s : State} {m : MethodId} {args : Array Value} {below : List Frame} {meth : Method} {c : Code} {Q : State → Prop}
variable {base n0 t0 nL o mth rt : Nat} {E : Nat → Nat} {cA : Nat → ClassId} {D : va_G} {ro : Nat → Nat × (Nat → Int32)} {cc : ByteArray}
theorem pmW_icp {E : Nat → Nat} {cA : Nat → ClassId} {σ : pmS} {b n : Nat} {rs : List (Option Nat)} {r : Nat → Int32} (h : σ.1[b]? = some (50, n, rs)) : pmW E cA (σ.1, pmRow σ.2.1 b r, σ.2.2) = (pmW E cA σ).set b (E b, .inl (cA 50, n, .inl r)) := by
  rw [pmW_set (σ := σ) (σ' := (σ.1, pmRow σ.2.1 b r, σ.2.2)) (pmSet_self h) h (fun q hq z => pmCell_congr (σ := σ) (σ' := (σ.1, pmRow σ.2.1 b r, σ.2.2)) (pmRow_ne _ _ hq) rfl z)]
  rw [pmCell_int]; simp only [pmRow_eq]
theorem pmW_lcp {E : Nat → Nat} {cA : Nat → ClassId} {σ : pmS} {b n : Nat} {rs : List (Option Nat)} {r : Nat → Int64} (h : σ.1[b]? = some (51, n, rs)) : pmW E cA (σ.1, σ.2.1, pmRow σ.2.2 b r) = (pmW E cA σ).set b (E b, .inl (cA 51, n, .inr (.inl r))) := by
  rw [pmW_set (σ := σ) (σ' := (σ.1, σ.2.1, pmRow σ.2.2 b r)) (pmSet_self h) h (fun q hq z => pmCell_congr (σ := σ) (σ' := (σ.1, σ.2.1, pmRow σ.2.2 b r)) rfl (pmRow_ne _ _ hq) z)]
  rw [pmCell_long]; simp only [pmRow_eq]
def pmWs (q : pmIt) : List Jvm.Cond := .code q.1 q.2.1 q.2.2.1.2.2.1 (pmRetT q.2.2.1.2.2.2) :: pmGood
def pmQc (base : Nat) (E : Nat → Nat) (cA : Nat → ClassId) (D : va_G) (σ' : pmS) (r : Option Value) : Array Value → State → Outcome → State → Prop := fun _ st oc t => (oc = .returned r ∧ va_P D pmCl (pmW E cA σ') t.heap) ∧ va_F (fun q => base ≤ q) st t
def pmPre (base : Nat) (E : Nat → Nat) (cA : Nat → ClassId) (D : va_G) (ro : Nat → Nat × (Nat → Int32)) (σ : pmS) (U : State) : Prop := U.heap.size = base + σ.1.length ∧ va_P D pmCl (pmW E cA σ) U.heap ∧ pmSur base E cA D ro U U.heap
/-- a run of the pure machine is a contract of the method -/
def pmMet (l : Launch) (base : Nat) (E : Nat → Nat) (cA : Nat → ClassId) (D : va_G) (ro : Nat → Nat × (Nat → Int32)) (d : Nat) (q : pmIt) (as : List Value) (σ : pmS) (r : Option Value) (σ' : pmS) : Prop :=
  Met l q.1 (pmWs q) { frames := d, cells := σ'.1.length - σ.1.length, slots := pmTot σ'.1 - pmTot σ.1, locals := 60 * d } (va_Pc (as.map (pv E)) (pmPre base E cA D ro σ)) (pmQc base E cA D σ' (r.map (pv E))) (σ'.1.length - σ.1.length) (pmTot σ'.1 - pmTot σ.1) (fun q => base ≤ q)
def pmCan (l : Launch) (base : Nat) (E : Nat → Nat) (cA : Nat → ClassId) (D : va_G) (ro : Nat → Nat × (Nat → Int32)) (d : Nat) (call : Nat → List Value → pmS → pmA) : Prop :=
  ∀ (mm : Nat) (as : List Value) (σ : pmS) (r : Option Value) (σ' : pmS), σ.1.length ≤ 901 → call mm as σ = some (r, σ') → ∃ q, pmInf[mm]? = some q ∧ pmMet l base E cA D ro d q as σ r σ' ∧ σ.1.length ≤ σ'.1.length ∧ pmTot σ.1 ≤ pmTot σ'.1 ∧ σ'.1.length ≤ 901 ∧ q.2.2.1.2.2.1 ≤ 40 ∧ q.2.2.2.1 ≠ 3
theorem pmPre_blind {as : List Value} {σ : pmS} : FrameBlind (va_Pc as (pmPre base E cA D ro σ)) := by
  intro a U g mk h
  obtain ⟨h1, h2, h3, h4⟩ := h
  refine ⟨h1, h2, h3, ?_⟩
  obtain ⟨a1, a2, a3, a4, a5, a6⟩ := h4
  exact ⟨va_K.moved (u := U) (U := U.calling g mk a) (Vm.Alike.refl U.vm) a1, fun w hw hn => pmNest_warm hn (State.WarmedH.refl U) (a2 w hw hn), va_AO.moved (u := U) (U := U.calling g mk a) (Vm.Alike.refl U.vm) a3,
    va_Z.moved (u := U) (U := U.calling g mk a) (Vm.Alike.refl U.vm) a4, fun p hp h0 => va_T.moved (u := U) (U := U.calling g mk a) (Vm.Alike.refl U.vm) (a5 p hp h0), a6⟩
theorem pmGoodIn (q : pmIt) (h : Jvm.Cond.code q.1 q.2.1 q.2.2.1.2.2.1 (pmRetT q.2.2.1.2.2.2) ∈ pmGood) : GoodIn pmGood (pmWs q) := by
  intro w hw
  have hm : w ∈ pmGood := by
    rcases List.mem_cons.mp hw with rfl | hw
    · exact h
    · exact hw
  exact ⟨hm, good_of_word (List.mem_filter.mp hm).2⟩
/-- behind a call -/
theorem pmAfter {σ1 : pmS} {mc ms pc : Nat} {r : Option Value} {a : Array Value} {pl : pmL} {rest st0 : List Value} {H : Heap} {locs : List Loc} {ls : Array Slot} {cells slots : Nat}
    (hr : va_Run p l e R s m args below meth c H locs cells slots mc ms (F0 m pc ls st0) (rest.map (pv E)) (pmQc base E cA D σ1 (r.map (pv E)) a) (fun q => base ≤ q))
    (k : pmWt p l e R s m args below meth c Q base n0 t0 nL mth E cA D (pc + 3) pl (r.toList ++ rest) σ1) (h2 : va_S (fun q => base ≤ q) s.heap H locs) (hsz : base ≤ s.heap.size) (hc : n0 + (cells + mc) = σ1.1.length) (ht : t0 + (slots + ms) = pmTot σ1.1) (h5 : σ1.1.length ≤ 901) (hL : pmLr E mth nL ls pl) :
    W p l e R s m args below meth c H locs cells slots Q (F0 m pc ls st0) := by
  intro T hT X
  obtain ⟨v, st₀, t, T', L, h0, X', hL2, e1, e2, ⟨⟨hv, hP⟩, hz, hk⟩, st⟩ := hr T hT X
  cases hv
  rw [h0] at hz hk
  obtain ⟨t2, a1, b1⟩ := k T'.heap (locs ++ L) ls (cells + mc) (slots + ms) (by rw [e1]; exact hP)
    ⟨Nat.le_trans h2.1 (by rw [e1]; exact hz), fun q g1 g2 => by rw [e1, hk q (Nat.lt_of_lt_of_le g1 h2.1) g2]; exact h2.2.1 q g1 g2, fun q hq => by
      rcases List.mem_append.mp hq with h | h
      · exact h2.2.2 q h
      · exact hL2 q h⟩ hc ht h5 hL T' rfl X'
  refine ⟨t2, st t2 ?_, b1⟩
  have e3 : List.map (pv E) (r.toList ++ rest) = (r.map (pv E)).toList ++ rest.map (pv E) := by cases r <;> simp
  rw [e3] at a1
  exact a1
theorem pmSize {σ : pmS} {H : Heap} {T : State} {locs : List Loc} {cells slots : Nat} (hE : ∀ k, k < 1000 → E k = base + k) (h1 : va_P D pmCl (pmW E cA σ) H) (h2 : va_S (fun q => base ≤ q) s.heap H locs) (h3 : n0 + cells = σ.1.length) (h5 : σ.1.length ≤ 901) (hsz : s.heap.size = base + n0) (hT : T.heap = H) (X : Stand p l e R s m args below meth c T locs cells slots) : H.size = base + σ.1.length := by
  have hz := X.heapSize
  rw [hT, hsz] at hz
  have hlow : base + σ.1.length ≤ H.size := by
    rcases Nat.eq_zero_or_pos σ.1.length with h0 | h0
    · have := h2.1
      omega
    · have hlt : σ.1.length - 1 < σ.1.length := by omega
      have h4 := (h1 _ _ (pmW_get (E := E) (cA := cA) (List.getElem?_eq_getElem hlt))).lt
      change E (σ.1.length - 1) < H.size at h4
      rw [hE _ (by omega)] at h4
      omega
  omega
theorem pmWithSize {σ : pmS} {H : Heap} {locs : List Loc} {cells slots : Nat} {g : JFrame} (hE : ∀ k, k < 1000 → E k = base + k) (h1 : va_P D pmCl (pmW E cA σ) H) (h2 : va_S (fun q => base ≤ q) s.heap H locs) (h3 : n0 + cells = σ.1.length) (h5 : σ.1.length ≤ 901) (hsz : s.heap.size = base + n0)
    (kk : H.size = base + σ.1.length → W p l e R s m args below meth c H locs cells slots Q g) : W p l e R s m args below meth c H locs cells slots Q g :=
  fun T hT X => kk (pmSize hE h1 h2 h3 h5 hsz hT X) T hT X
theorem pmPreS {σ : pmS} {H : Heap} {locs : List Loc} {as : List Value} (hsu : pmSur base E cA D ro s s.heap) (hH : H.size = base + σ.1.length) (h1 : va_P D pmCl (pmW E cA σ) H) (h2 : va_S (fun q => base ≤ q) s.heap H locs) (hb : base ≤ s.heap.size) : PreS s H (va_Pc as (pmPre base E cA D ro σ)) as :=
  ⟨pmPre_blind, fun U hU hW => ⟨rfl, by rw [hU]; exact hH, by rw [hU]; exact h1, by rw [hU]; exact pmSur.moved hsu hW (fun q g1 g2 => h2.2.1 q g1 g2)⟩⟩
theorem pmLen_ok {q : pmIt} (h : (parseMethodDescriptor q.1.desc).map (fun d => d.parameters.length) = some q.2.2.1.2.1) : ∀ sig, parseMethodDescriptor q.1.desc = some sig → q.2.2.1.2.1 = sig.parameters.length := by
  intro sig h1
  rw [h1] at h
  exact (Option.some.inj h).symm
theorem pmCB {q : pmIt} {own : String} {idx d mc ms : Nat} (hts : ∀ w ∈ pmGood, w.before args s = true) (hp : pmIp q) (hk3 : q.2.2.2.1 ≠ 3) (hmx : q.2.2.1.2.2.1 ≤ 40) (hd1 : d + 1 ≤ R.frames) (hd2 : 60 * (d + 1) ≤ R.locals) (hlink : Jvm.Cond.methodLink own idx q.1 ∈ pmGood) :
    CallB R s args own idx q.1 q.2.1 q.2.2.1.2.2.1 (pmRetT q.2.2.1.2.2.2) (pmWs q) { frames := d, cells := mc, slots := ms, locals := 60 * d } mc ms q.2.2.1.2.1 := by
  obtain ⟨i1, i2, i3, i4, i5⟩ := hp
  rcases i5 with i5 | ⟨i5, i6, i7⟩
  · exact absurd i5 hk3
  obtain ⟨own2, k1, k2, k3, k4⟩ := pmOp_all _ i2
  cases i1.symm.trans k1
  exact ⟨rfl, rfl, hd1, by show 8 + (_ + 11) + 60 * d ≤ _; omega, pay_in hts (pmGoodIn q (pmG_mem i5 rfl)), List.mem_cons_self, hts _ (pmG_mem i5 rfl), hts _ (pmG_mem i6 rfl), ⟨k3, k4⟩, pmLen_ok i3, hts _ hlink⟩
theorem pmCN {q : pmIt} {own : String} {idx d mc ms : Nat} (hts : ∀ w ∈ pmGood, w.before args s = true) (hnw : ∀ w ∈ lw_tbl, pmNest w = true → va_Nw w s) (hp : pmIp q) (hk3 : q.2.2.2.1 ≠ 3) (hmx : q.2.2.1.2.2.1 ≤ 40) (hd1 : d + 1 ≤ R.frames) (hd2 : 60 * (d + 1) ≤ R.locals) (hlink : Jvm.Cond.methodLinkNest own idx q.1 "BentTale" ∈ lw_tbl) :
    va_CN R s args own idx q.1 "BentTale" q.2.1 q.2.2.1.2.2.1 (pmRetT q.2.2.1.2.2.2) (pmWs q) { frames := d, cells := mc, slots := ms, locals := 60 * d } mc ms q.2.2.1.2.1 := by
  obtain ⟨i1, i2, i3, i4, i5⟩ := hp
  rcases i5 with i5 | ⟨i5, i6, i7⟩
  · exact absurd i5 hk3
  obtain ⟨own2, k1, k2, k3, k4⟩ := pmOp_all _ i2
  cases i1.symm.trans k1
  exact ⟨⟨rfl, rfl, hd1, by show 8 + (_ + 11) + 60 * d ≤ _; omega, pay_in hts (pmGoodIn q (pmG_mem i5 rfl)), List.mem_cons_self⟩, hts _ (pmG_mem i5 rfl), hts _ (pmG_mem i6 rfl), ⟨k3, k4⟩, pmLen_ok i3, va_Nw.use rfl (hnw _ hlink rfl)⟩
theorem pmKind_of {q : pmIt} (hp : pmIp q) (hk3 : q.2.2.2.1 ≠ 3) : (q.2.2.2.1 = 0 → Jvm.Cond.instanceMethod q.1 ∈ pmGood ∧ Jvm.Cond.selects q.1.cls q.1 q.1 ∈ pmGood ∧ q.2.2.1.1 ≤ 12) ∧ (q.2.2.2.1 = 1 → Jvm.Cond.static q.1 ∈ pmGood) ∧ (q.2.2.2.1 = 2 → Jvm.Cond.instanceMethod q.1 ∈ pmGood ∧ q.1.name = "<init>" ∧ pmRetT q.2.2.1.2.2.2 = none) := by
  obtain ⟨i1, i2, i3, i4, i5⟩ := hp
  rcases i5 with i5 | ⟨i5, i6, i7⟩
  · exact absurd i5 hk3
  rcases i7 with ⟨z, j1, j2, j3⟩ | ⟨z, j1⟩ | ⟨z, j1, j2, j3⟩
  · exact ⟨fun _ => ⟨pmG_mem j1 rfl, pmG_mem j2 rfl, j3⟩, fun h => by omega, fun h => by omega⟩
  · exact ⟨fun h => by omega, fun _ => pmG_mem j1 rfl, fun h => by omega⟩
  · exact ⟨fun h => by omega, fun h => by omega, fun _ => ⟨pmG_mem j1 rfl, j2, by rw [j3]; rfl⟩⟩
theorem pmNo {mm : Nat} {q : pmIt} (h : pmInf[mm]? = some q) : mm < 9000 := by
  obtain ⟨t, ha, -⟩ := pmI_at h
  have h1 := (List.getElem?_eq_some_iff.mp ha).1
  have h2 : pmAll.length ≤ 9000 := by decide +kernel
  omega
theorem pmTake (E : Nat → Nat) (st : List Value) (n : Nat) : st.map (pv E) = (((st.take n).reverse).map (pv E)).reverse ++ (st.drop n).map (pv E) := by
  rw [← List.map_reverse, List.reverse_reverse, ← List.map_append, List.take_append_drop]
theorem pmx_invokestatic {z d : Nat} {pc pc' : Nat} {pl pl' : pmL} {st st' : List Value} {σ σ' : pmS} {call : Nat → List Value → pmS → pmA} (hC : pmCx p R s m args meth c cc base n0 nL o rt E cA D ro) (hd : decode cc pc = .ok (.invokestatic z, 3)) (hcall : pmCan l base E cA D ro d call) (hd1 : d + 1 ≤ R.frames) (hd2 : 60 * (d + 1) ≤ R.locals)
    (hs : pmStep ro call o mth rt pc (.invokestatic z) pl st σ = some (.inr (pc', pl', st', σ'))) (hroom : σ'.1.length ≤ n0 + R.cells ∧ pmTot σ'.1 ≤ t0 + R.slots) (k : pmWt p l e R s m args below meth c Q base n0 t0 nL mth E cA D pc' pl' st' σ') : pmWt p l e R s m args below meth c Q base n0 t0 nL mth E cA D pc pl st σ := by
  obtain ⟨hx, hb, hml, ⟨own, ho, hown⟩, hts, hsu, hsz, hin, hfr, hlo⟩ := hC
  intro H locs ls cells slots h1 h2 h3 h4 h5 hL
  have hE := hsu.2.2.2.2.2
  have hD := pmW_D (cA := cA) (σ := σ) hE h5
  have hls : c.maxLocals = ls.size := by rw [hml]; exact hL.2.1.symm
  simp only [pmStep] at hs
  split at hs
  · rename_i mm w nst hm
    obtain ⟨-, g1, g2, g3, g4⟩ := pmM_ok ho hm
    split at hs
    · rename_i hmm
      split at hs
      · rename_i n dp b sp a r
        split at hs
        · rename_i hcat
          split at hs
          · rename_i σ2 hcp
            simp only [pmNx, Option.some.injEq, Sum.inr.injEq, Prod.mk.injEq] at hs
            obtain ⟨rfl, rfl, rfl, rfl⟩ := hs
            unfold pmCopy at hcp
            split at hcp
            · rename_i ka na ra kb nb rb hsa hsb
              split at hcp
              · rename_i hcond
                obtain ⟨c1, c2, c3, c4, c5⟩ := hcond
                have hwords : ((r.map (pv E)).map fun v => v.category).sum + (nativeFrameWords "java/lang/System" "arraycopy" 5 + 11) ≤ R.locals := by
                  rw [pv_cats]
                  exact Nat.le_trans (Nat.add_le_add_right hcat _) (Nat.le_trans (Nat.le_of_ble_eq_true rfl) hlo)
                have hea := pmW_get (E := E) (cA := cA) hsa
                have heb := pmW_get (E := E) (cA := cA) hsb
                split at hcp
                · rename_i hk
                  obtain ⟨rfl, rfl⟩ := hk
                  cases hcp
                  exact va_copyi hx hb hls hown (hts _ (g1 hmm)) (hts _ (pmG_mem pmw_native rfl)) (hts _ (pmG_mem pmw_cpst rfl)) (hts _ (pmG_mem pmw_sysi rfl)) hsu.1 h1 hD h2 a b 0 0 hea heb rfl rfl rfl c1 c2 c3 c4 c5 (fun _ _ => rfl) hfr hwords hd
                    (fun H1 locs1 hP1 _ hS1 => k H1 locs1 ls cells slots (by rw [pmW_icp hsb]; exact hP1) hS1 h3 h4 h5 hL)
                · split at hcp
                  · rename_i hk
                    obtain ⟨rfl, rfl⟩ := hk
                    cases hcp
                    exact va_copyl hx hb hls hown (hts _ (g1 hmm)) (hts _ (pmG_mem pmw_native rfl)) (hts _ (pmG_mem pmw_cpst rfl)) (hts _ (pmG_mem pmw_sysi rfl)) hsu.1 h1 hD h2 a b 1 1 hea heb rfl rfl rfl c1 c2 c3 c4 c5 (fun _ _ => rfl) hfr hwords hd
                      (fun H1 locs1 hP1 _ hS1 => k H1 locs1 ls cells slots (by rw [pmW_lcp hsb]; exact hP1) hS1 h3 h4 h5 hL)
                  · cases hcp
              · cases hcp
            · cases hcp
          · cases hs
        · cases hs
      · cases hs
    · rename_i e0
      split at hs
      · rename_i hmm
        split at hs
        · rename_i y x r
          split at hs
          · rename_i hcat
            simp only [pmNx, Option.some.injEq, Sum.inr.injEq, Prod.mk.injEq] at hs
            obtain ⟨rfl, rfl, rfl, rfl⟩ := hs
            exact va_mmax hx hb hls hown (hts _ (g2 hmm)) (hts _ (pmG_mem pmw_maxs rfl)) (hts _ (pmG_mem pmw_mathi rfl)) (hts _ (pmG_mem pmw_maxc rfl)) hfr (by rw [pv_cats]; omega) (by omega) (by omega) hd (k H locs ls cells slots h1 h2 h3 h4 h5 hL)
          · cases hs
        · cases hs
      · rename_i e2
        split at hs
        · rename_i hmm
          split at hs
          · rename_i y x r
            split at hs
            · rename_i hcat
              simp only [pmNx, Option.some.injEq, Sum.inr.injEq, Prod.mk.injEq] at hs
              obtain ⟨rfl, rfl, rfl, rfl⟩ := hs
              exact va_mmin hx hb hls hown (hts _ (g3 hmm)) (hts _ (pmG_mem pmw_mins rfl)) (hts _ (pmG_mem pmw_mathi rfl)) (hts _ (pmG_mem pmw_minc rfl)) hfr (by rw [pv_cats]; omega) (by omega) (by omega) hd (k H locs ls cells slots h1 h2 h3 h4 h5 hL)
            · cases hs
          · cases hs
        · rename_i e3
          split at hs
          · rename_i y b oo n mx rr ev hq
            split at hs
            · rename_i hn
              unfold pmRt at hs
              split at hs
              · rename_i hcat
                split at hs
                · rename_i r σ1 hr
                  simp only [pmNx, Option.some.injEq, Sum.inr.injEq, Prod.mk.injEq] at hs
                  obtain ⟨rfl, rfl, rfl, rfl⟩ := hs
                  obtain ⟨q, hq2, hM, hle, hle2, h901, hmx, hk3⟩ := hcall mm _ σ r σ1 h5 hr
                  obtain ⟨t, ha, hp⟩ := pmI_at hq2
                  cases hq.symm.trans hq2
                  have hno := pmNo hq2
                  obtain ⟨j1, j2⟩ := g4 _ (by omega) (by omega) (by omega) (by omega) hq2
                  have hkd := (pmKind_of hp hk3).2.1 rfl
                  refine pmWithSize hE h1 h2 h3 h5 hsz (fun hH => ?_)
                  have hP := pmPreS (as := ((st.take n).reverse).map (pv E)) hsu hH h1 h2 (by omega)
                  have hAs : (((st.take n).reverse).map (pv E)).length = n := by simp; omega
                  rw [pmTake E st n]
                  cases nst with
                  | false => exact pmAfter (va_runS ⟨hx, hb, hml, hown, hts⟩ hM ⟨pmCB hts hp hk3 hmx hd1 hd2 (j1 rfl), hts _ hkd⟩ hP rfl hAs hL.2.1 rfl (lv_room (by rw [pv_cats]; exact hcat)) hd ⟨by omega, by omega⟩) k h2 (by omega) (by omega) (by omega) h901 hL
                  | true => exact pmAfter (va_runSN ⟨hx, hb, hml, hown, hts⟩ hM ⟨pmCN hts hsu.2.1 hp hk3 hmx hd1 hd2 (j2 rfl), hts _ hkd, trivial⟩ hP rfl hAs hL.2.1 rfl (lv_room (by rw [pv_cats]; exact hcat)) hd ⟨by omega, by omega⟩) k h2 (by omega) (by omega) (by omega) h901 hL
                · cases hs
              · cases hs
            · cases hs
          · cases hs
  · cases hs
theorem pmx_invokevirtual {z d : Nat} {pc pc' : Nat} {pl pl' : pmL} {st st' : List Value} {σ σ' : pmS} {call : Nat → List Value → pmS → pmA} (hC : pmCx p R s m args meth c cc base n0 nL o rt E cA D ro) (hd : decode cc pc = .ok (.invokevirtual z, 3)) (hcall : pmCan l base E cA D ro d call) (hd1 : d + 1 ≤ R.frames) (hd2 : 60 * (d + 1) ≤ R.locals)
    (hs : pmStep ro call o mth rt pc (.invokevirtual z) pl st σ = some (.inr (pc', pl', st', σ'))) (hroom : σ'.1.length ≤ n0 + R.cells ∧ pmTot σ'.1 ≤ t0 + R.slots) (k : pmWt p l e R s m args below meth c Q base n0 t0 nL mth E cA D pc' pl' st' σ') : pmWt p l e R s m args below meth c Q base n0 t0 nL mth E cA D pc pl st σ := by
  obtain ⟨hx, hb, hml, ⟨own, ho, hown⟩, hts, hsu, hsz, hin, hfr, hlo⟩ := hC
  intro H locs ls cells slots h1 h2 h3 h4 h5 hL
  have hE := hsu.2.2.2.2.2
  have hD := pmW_D (cA := cA) (σ := σ) hE h5
  have hls : c.maxLocals = ls.size := by rw [hml]; exact hL.2.1.symm
  simp only [pmStep] at hs
  split at hs
  · rename_i mm w nst hm
    obtain ⟨-, -, -, -, g4⟩ := pmM_ok ho hm
    split at hs
    · rename_i y b oo n mx rr ev hq
      split at hs
      · rename_i a rest hdr
        split at hs
        · rename_i ca na ra hsa
          split at hs
          · rename_i hca
            subst hca
            unfold pmRt at hs
            split at hs
            · rename_i hcat
              split at hs
              · rename_i r σ1 hr
                simp only [pmNx, Option.some.injEq, Sum.inr.injEq, Prod.mk.injEq] at hs
                obtain ⟨rfl, rfl, rfl, rfl⟩ := hs
                obtain ⟨q, hq2, hM, hle, hle2, h901, hmx, hk3⟩ := hcall mm _ σ r σ1 h5 hr
                obtain ⟨t, ha, hp⟩ := pmI_at hq2
                cases hq.symm.trans hq2
                have hno := pmNo hq2
                obtain ⟨j1, j2⟩ := g4 _ (by omega) (by omega) (by omega) (by omega) hq2
                obtain ⟨kd1, kd2, kd3⟩ := (pmKind_of hp hk3).1 rfl
                change ca ≤ 12 at kd3
                refine pmWithSize hE h1 h2 h3 h5 hsz (fun hH => ?_)
                have hP := pmPreS (as := Value.ref (E a) :: ((st.take n).reverse).map (pv E)) hsu hH h1 h2 (by omega)
                have hnl : n ≤ st.length := by
                  rcases Nat.lt_or_ge st.length n with q | q
                  · rw [List.drop_eq_nil_of_le (by omega)] at hdr; cases hdr
                  · exact q
                have hAs : (((st.take n).reverse).map (pv E)).length = n := by simp; omega
                obtain ⟨C, T, N, hCl⟩ : ∃ C T N, pmCl[ca]? = some (C, T, N) := ⟨_, _, _, List.getElem?_eq_getElem (show ca < pmCl.length by show ca < 13; omega)⟩
                have hoC := (pmK_ok hCl).2.1
                have he := pmW_get (E := E) (cA := cA) hsa
                rw [pmCell_obj (by omega)] at he
                have hrec := va_recv hsu.1 h1 hCl he
                have hcls : C = y.cls := Option.some.inj (hoC.symm.trans hp.1)
                subst hcls
                have hPV : PreV s H y.cls (E a) (va_Pc (Value.ref (E a) :: ((st.take n).reverse).map (pv E)) (pmPre base E cA D ro σ)) (((st.take n).reverse).map (pv E)) := ⟨hP.1, hrec, hP.2⟩
                have hst : st.map (pv E) = (((st.take n).reverse).map (pv E)).reverse ++ Value.ref (E a) :: rest.map (pv E) := by rw [pmTake E st n, hdr]; rfl
                rw [hst]
                cases nst with
                | false => exact pmAfter (va_runV ⟨hx, hb, hml, hown, hts⟩ hM ⟨pmCB hts hp hk3 hmx hd1 hd2 (j1 rfl), hts _ kd1, hts _ kd2⟩ hPV rfl hAs hL.2.1 rfl (lv_room (by rw [pv_cats]; exact hcat)) hd ⟨by omega, by omega⟩) k h2 (by omega) (by omega) (by omega) h901 hL
                | true => exact pmAfter (va_runVN ⟨hx, hb, hml, hown, hts⟩ hM ⟨pmCN hts hsu.2.1 hp hk3 hmx hd1 hd2 (j2 rfl), hts _ kd1, hts _ kd2⟩ hPV rfl hAs hL.2.1 rfl (lv_room (by rw [pv_cats]; exact hcat)) hd ⟨by omega, by omega⟩) k h2 (by omega) (by omega) (by omega) h901 hL
              · cases hs
            · cases hs
          · cases hs
        · cases hs
      · cases hs
    · cases hs
  · cases hs
theorem pmx_invokespecial {z d : Nat} {pc pc' : Nat} {pl pl' : pmL} {st st' : List Value} {σ σ' : pmS} {call : Nat → List Value → pmS → pmA} (hC : pmCx p R s m args meth c cc base n0 nL o rt E cA D ro) (hd : decode cc pc = .ok (.invokespecial z, 3)) (hcall : pmCan l base E cA D ro d call) (hd1 : d + 1 ≤ R.frames) (hd2 : 60 * (d + 1) ≤ R.locals)
    (hs : pmStep ro call o mth rt pc (.invokespecial z) pl st σ = some (.inr (pc', pl', st', σ'))) (hroom : σ'.1.length ≤ n0 + R.cells ∧ pmTot σ'.1 ≤ t0 + R.slots) (k : pmWt p l e R s m args below meth c Q base n0 t0 nL mth E cA D pc' pl' st' σ') : pmWt p l e R s m args below meth c Q base n0 t0 nL mth E cA D pc pl st σ := by
  obtain ⟨hx, hb, hml, ⟨own, ho, hown⟩, hts, hsu, hsz, hin, hfr, hlo⟩ := hC
  intro H locs ls cells slots h1 h2 h3 h4 h5 hL
  have hE := hsu.2.2.2.2.2
  have hD := pmW_D (cA := cA) (σ := σ) hE h5
  have hls : c.maxLocals = ls.size := by rw [hml]; exact hL.2.1.symm
  simp only [pmStep] at hs
  split at hs
  · rename_i mm w nst hm
    obtain ⟨g0, -, -, -, g4⟩ := pmM_ok ho hm
    split at hs
    · rename_i hmm
      split at hs
      · rename_i a r
        split at hs
        · rename_i hcat
          simp only [pmNx, Option.some.injEq, Sum.inr.injEq, Prod.mk.injEq] at hs
          obtain ⟨rfl, rfl, rfl, rfl⟩ := hs
          refine W.objInit hx hb hown (hts _ (g0 hmm)) (hts _ (pmG_mem pmw_obji rfl)) (hts _ (pmG_mem pmw_objc rfl)) rfl (by rw [hml]; exact hL.2.1) rfl hd hfr (by show 2 * 0 + _ + 12 ≤ _; rw [pv_cats]; omega) (k H locs ls cells slots h1 h2 h3 h4 h5 hL)
        · cases hs
      · cases hs
    · split at hs
      · rename_i y b oo n mx rr ev hq
        split at hs
        · rename_i a rest hdr
          unfold pmRt at hs
          split at hs
          · rename_i hcat
            split at hs
            · rename_i r σ1 hr
              simp only [pmNx, Option.some.injEq, Sum.inr.injEq, Prod.mk.injEq] at hs
              obtain ⟨rfl, rfl, rfl, rfl⟩ := hs
              obtain ⟨q, hq2, hM, hle, hle2, h901, hmx, hk3⟩ := hcall mm _ σ r σ1 h5 hr
              obtain ⟨t, ha, hp⟩ := pmI_at hq2
              cases hq.symm.trans hq2
              have hno := pmNo hq2
              obtain ⟨j1, j2⟩ := g4 _ (by omega) (by omega) (by omega) (by omega) hq2
              obtain ⟨kd1, kd2, kd3⟩ := (pmKind_of hp hk3).2.2 rfl
              refine pmWithSize hE h1 h2 h3 h5 hsz (fun hH => ?_)
              have hP := pmPreS (as := Value.ref (E a) :: ((st.take n).reverse).map (pv E)) hsu hH h1 h2 (by omega)
              have hnl : n ≤ st.length := by
                rcases Nat.lt_or_ge st.length n with q | q
                · rw [List.drop_eq_nil_of_le (by omega)] at hdr; cases hdr
                · exact q
              have hAs : (((st.take n).reverse).map (pv E)).length = n := by simp; omega
              have hst : st.map (pv E) = (((st.take n).reverse).map (pv E)).reverse ++ Value.ref (E a) :: rest.map (pv E) := by rw [pmTake E st n, hdr]; rfl
              rw [hst]
              cases nst with
              | false =>
                have hcb := pmCB (mc := σ1.1.length - σ.1.length) (ms := pmTot σ1.1 - pmTot σ.1) hts hp hk3 hmx hd1 hd2 (j1 rfl)
                rw [kd3] at hcb
                exact pmAfter (va_runI ⟨hx, hb, hml, hown, hts⟩ hM ⟨hcb, kd2, hts _ kd1⟩ hP rfl hAs hL.2.1 rfl (lv_room (by rw [pv_cats]; exact hcat)) hd ⟨by omega, by omega⟩) k h2 (by omega) (by omega) (by omega) h901 hL
              | true =>
                have hcb := pmCN (mc := σ1.1.length - σ.1.length) (ms := pmTot σ1.1 - pmTot σ.1) hts hsu.2.1 hp hk3 hmx hd1 hd2 (j2 rfl)
                rw [kd3] at hcb
                exact pmAfter (va_runIN ⟨hx, hb, hml, hown, hts⟩ hM ⟨hcb, kd2, hts _ kd1⟩ hP rfl hAs hL.2.1 rfl (lv_room (by rw [pv_cats]; exact hcat)) hd ⟨by omega, by omega⟩) k h2 (by omega) (by omega) (by omega) h901 hL
            · cases hs
          · cases hs
        · cases hs
      · cases hs
  · cases hs
end
