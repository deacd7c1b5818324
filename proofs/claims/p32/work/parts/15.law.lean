/-! the law's own frame over the pure machine -/
section
def pmRo (L : Nat) (xs : Nat → Int32) : Nat → Nat × (Nat → Int32) := fun p => if p = 1000 then (7, fun _ => 1) else if p = 1001 then (L, xs) else if p = 1002 then (0, fun _ => 1) else (0, fun _ => 0)
def pmσ0 : pmS := ([], fun _ _ => 0, fun _ _ => 0)
def pmEE (base u b : Nat) : Nat → Nat := fun k => if k < 1000 then base + k else if k = 1000 then u else b
theorem pmSur_start {s : State} {b L : Nat} {xs : Nat → Int32} (hts : ∀ w ∈ lw_tbl, w.before #[Value.ref b] s = true) (hX : va_X b L xs s s.heap) (hbl : b < s.heap.size) (hgv : (Jvm.Cond.and given_1 narrow_1).before #[Value.ref b] s = true) :
    ∃ (u : Nat) (cA : Nat → ClassId) (D : va_G), pmSur s.heap.size (pmEE s.heap.size u b) cA D (pmRo L xs) s s.heap := by
  have hs := flat_of_before _ hgv
  have hW : ∀ {i : Nat} {w : Jvm.Cond}, pmWd i = some w → w.before #[Value.ref b] s = true := fun h => hts _ (List.mem_of_getElem? h)
  have hGd : ∀ w ∈ pmGood, w.before #[Value.ref b] s = true := fun w h => hts w (List.mem_filter.mp h).1
  have hnA : ∀ a : Nat, a < s.heap.size → ¬ s.heap.size ≤ a := fun a h => Nat.not_le.mpr h
  -- the static row of ones
  have hel : ∀ j : Nat, j < 7 → (Term.elem (.static "BentTale$Planner" "UNITS" "[I") (.int (Int32.ofNat j))).eval #[Value.ref b] s none [] s = some (.int 1) := by
    intro j hj
    refine va_eqt (hs _ ?_)
    rcases (show j = 0 ∨ j = 1 ∨ j = 2 ∨ j = 3 ∨ j = 4 ∨ j = 5 ∨ j = 6 by omega) with rfl | rfl | rfl | rfl | rfl | rfl | rfl <;> decide +kernel
  obtain ⟨u, hu, hT⟩ := va_Tof (args := #[Value.ref b]) (s := s) (tm := .static "BentTale$Planner" "UNITS" "[I") (ty := .int) (N := 7) (f := fun _ => .int 1) (A := fun q => s.heap.size ≤ q) (by decide) (hs _ (by decide +kernel)) (va_eqt (hs (Jvm.Cond.eq (.length (.static "BentTale$Planner" "UNITS" "[I")) (.int 7)) (by decide +kernel))) hel hnA
  have hZ := va_Zref (hW pmw_statics) (hW pmw_plani) hu hnA
  -- the classes
  have hcl : ∀ ci : Nat, ∃ (cC : ClassId) (iS : Nat → Nat), ∀ q, pmCl[ci]? = some q → u_Kn s q.1 q.2.1 q.2.2 cC iS := by
    intro ci
    cases hq : pmCl[ci]? with
    | none => exact ⟨0, fun _ => 0, fun q h => by cases h⟩
    | some q =>
      obtain ⟨C, T, N⟩ := q
      obtain ⟨-, -, ty, -, hw, hi1, -, -, -⟩ := pmK_ok hq
      obtain ⟨cC, iS, hk⟩ := u_known (C := C) (T := T) (N := N) (n := N) hGd hw (hGd _ hi1)
      exact ⟨cC, iS, fun q h => by cases h; exact hk⟩
  obtain ⟨c50, k50, m50, a1, a2, a3⟩ := Cond.arrayClass_spec (hW pmw_int)
  obtain ⟨c51, k51, m51, b1, b2, b3⟩ := Cond.arrayClass_spec (hW pmw_long)
  obtain ⟨c52, k52, m52, d1, d2, d3⟩ := Cond.arrayClass_spec (hW pmw_boolean)
  obtain ⟨c53, k53, m53, e1, e2, e3⟩ := Cond.arrayClass_spec (hW pmw_byte)
  obtain ⟨m54, c54, k54, f1, f2, f3, f4, f5⟩ := Cond.arrayOver_spec (hW pmw_over)
  refine ⟨u, fun k => if k = 50 then c50 else if k = 51 then c51 else if k = 52 then c52 else if k = 53 then c53 else c54, (fun ci => Classical.choose (hcl ci), fun ci => Classical.choose (Classical.choose_spec (hcl ci))), ⟨fun ci q h => ?_, fun k q h => ?_⟩, fun w hw hn => ?_, va_AO.of (hW pmw_over), ?_, fun p hp h0 => ?_, fun k hk => if_pos hk⟩
  · exact Classical.choose_spec (Classical.choose_spec (hcl ci)) q h
  · match k, h with
    | 0, h => cases h; exact ⟨fun n z => ⟨fun k h => (by cases h), k50, a2, m50, a3⟩, a1⟩
    | 1, h => cases h; exact ⟨fun n z => ⟨fun k h => (by cases h), k51, b2, m51, b3⟩, b1⟩
    | 2, h => cases h; exact ⟨fun n z => ⟨fun k h => (by cases h), k52, d2, m52, d3⟩, d1⟩
    | 3, h => cases h; exact ⟨fun n z => ⟨fun k h => (by cases h), k53, e2, m53, e3⟩, e1⟩
    | 4, h => cases h; exact ⟨fun n z => ⟨fun k h => (by cases h), k54, f3, m54, f4⟩, k54, m54, f3, f4, f1, f5⟩
    | n + 5, h => cases h
  · refine va_Nw.of ?_ (hts w hw)
    cases w <;> first | rfl | (simp [pmNest] at hn; done)
  · exact hZ
  · by_cases h1 : p = 1000
    · subst h1
      exact hT
    · by_cases h2 : p = 1001
      · subst h2
        obtain ⟨scr, g1, g2, g3, g4, g5⟩ := hX
        refine ⟨scr, g1, g2, g3, ?_, ?_, ?_, ?_⟩
        · rw [g4]; exact Nat.le_refl _
        · rw [g4]; rfl
        · exact g5
        · exact hnA b hbl
      · rcases h0 with h0 | h0
        · exact absurd h0 h2
        · have e : (pmRo L xs p).1 = 0 := by unfold pmRo; rw [if_neg h1, if_neg h2]; split <;> rfl
          rw [e] at h0
          exact absurd h0 (by decide)
/-- the law over the pure machine: with the answer 1 it is the claim -/
theorem pmLaw_start (hDa : ∀ q ∈ pmAll, pmDc q) {p : Program} {e : Env} {s : State} {m : MethodId} {below : List Frame} {meth : Method} {c : Code} (l : Launch) {b L : Nat} {xs : Nat → Int32} (C0 : lw_At p s m meth c b L xs)
    (hrun : ∃ N d σf, d ≤ 1000 ∧ pmRun (pmRo L xs) (pmCall (pmRo L xs) N d) 13 246 2 N 0 [some (.ref 1001), none, none, none] [] pmσ0 = some (some (.int 1), σf) ∧ pmTot σf.1 ≤ 7302250) :
    W p l e room_1 s m #[Value.ref b] below meth c s.heap [] 0 0 (lw_Z below #[Value.ref b] s) (entryFrame m ([Value.ref b] : List Value).toArray 4) := by
  obtain ⟨hx, hb, hr, hml, hown, hts, hX, hbl, hlocks, hgv⟩ := id C0
  obtain ⟨N, d, σf, hd, hrun, htot⟩ := hrun
  obtain ⟨u, cA, D, hsu⟩ := pmSur_start hts hX hbl hgv
  have hC : pmCx p room_1 s m #[Value.ref b] meth c code s.heap.size 0 4 13 2 (pmEE s.heap.size u b) cA D (pmRo L xs) :=
    ⟨hx, hb, hml, ⟨"BentTaleLaw", rfl, hown⟩, fun w hw => hts w (List.mem_filter.mp hw).1, hsu, rfl, (fun h => by cases h), Nat.le_of_ble_eq_true rfl, Nat.le_of_ble_eq_true rfl⟩
  have hdec := fun pc i hi => pmCode_dec hDa (mth := 246) (q := pmI_246) (t := pmT_246) rfl (pc := pc) (i := i) hi
  have hmono := pmRun_mono (ro := pmRo L xs) (o := 13) (mth := 246) (rt := 2) (pmCall_mono d) N 0 _ [] pmσ0 _ σf (by decide) hrun
  have hf := hmono.2.2
  have hE1 : pmEE s.heap.size u b 1001 = b := rfl
  rw [lg_entry_eq]
  refine pmRun_go (l := l) (t0 := 0) (below := below) (e := e) (Q := lw_Z below #[Value.ref b] s) (R := room_1) hC hdec (pmCall_can hDa d) (pmCall_mono d) (by show d + 1 ≤ 2048; omega) (by show 60 * (d + 1) ≤ 84000; omega) ⟨by show _ ≤ 0 + 600000; omega, by show _ ≤ 0 + 7302250; omega⟩ ?_ N 0 _ [] pmσ0 (by decide) hrun s.heap [] _ 0 0 ?_ va_S.rf rfl rfl (by decide) ?_
  · intro pc pl st i hi hs H locs ls cells slots h1 h2 h3 h4 h5 hL
    obtain ⟨-, hk⟩ := pmStep_inl hs
    rcases hk with ⟨rfl, z, rfl, hz, -⟩ | ⟨rfl, z, rfl, hz, -⟩ | ⟨rfl, rfl, hz, -⟩
    · cases hz
      refine va_forget h2.2.2 ?_
      refine W.widen (k := 600000) (n := 7302250) (by omega) (by omega) ?_
      exact lw_ret hx hb hr hlocks ((hdec pc _ hi).1 (by simp [pmLen]))
    · cases hz
    · cases hz
  · intro k q h
    cases h
  · exact pmEntry (pmEE s.heap.size u b) 246 [.ref 1001] (n := 4) (by decide) (by decide)
end
