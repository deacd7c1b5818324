/-! by hand: the reference reads a wish: readsDigit, readsAtom -/
section
set_option maxRecDepth 100000
variable {ro : Nat → Nat × (Nat → Int32)} {L : aLa} {Kp : pmS → Prop} {σ0 σ σ' σs : pmS} {ρ ρ' : Nat → Int} {cl : pmL} {cs vs : List Value} {Q : Option Value → pmS → Prop} {n n2 W p k : Nat}
def kQdg (m : Nat) (σs : pmS) : Option Value → pmS → Prop := fun v σ' => ∃ x : Int32, v = some (.int x) ∧ kOk σ' ∧ kP σ' ∧ kSm kWd σ' σs ∧ (x.toInt = 0 ∨ (x.toInt = 1 ∧ kI σs 87 10 < kI σs 87 11 ∧ kI σ' 87 10 = kI σs 87 10 + 1 ∧ 0 ≤ kI σ' 87 22 ∧ kI σ' 87 22 ≤ m))
theorem kDig (h : bHyp ro L kP) (hL : 0 ≤ L.1 ∧ L.1 ≤ 3072) {m : Nat} {mv : Int32} (hm : m ∈ ([3, 4, 6] : List Nat)) (hmv : mv.toInt = m) (hok : kOk σ) (hP : kP σ) (hp : 0 ≤ kI σ 87 10) (hpl : kI σ 87 10 ≤ kI σ 87 11) (hl40 : kI σ 87 11 ≤ 40) : pmCs ro 2 160 [.ref 87, .int mv] σ (kQdg m σ) := by
  have hk := List.all_eq_true.mp kS160 m hm
  simp only [Bool.and_eq_true] at hk
  obtain ⟨k1, k2, k3⟩ := hk
  have hno : ∀ {n : Nat} {E : aE} {ρ : Nat → Int}, 2 ≤ n → E.length = n → ρ 0 = 0 → bFinOk L n ρ kP σ (bFi n [(some (.inl (false, 0, .ofNat 0)), E, [])] kWd) (kQdg m σ) := fun hn hE h0 => bFin_mono (bFi_int hn hE (by show 0 < _; omega)) fun v σ' hh => by
    obtain ⟨x, rfl, g1, g2, g3, g4, g5⟩ := hh
    exact ⟨x, rfl, g3, g4 (by decide +kernel), g5, Or.inl (by rw [g1, h0]; rfl)⟩
  by_cases c : kI σ 87 10 < kI σ 87 11
  · obtain ⟨pn, hpn⟩ : ∃ pn : Nat, kI σ 87 10 = pn := ⟨(kI σ 87 10).toNat, by omega⟩
    have ht := kOk_at (k := pn) hok (by exact rfl) (show bGe 93 pn = [(-128, 127)] from bGu_ok (by decide +kernel) pn)
    have hE : ∀ {t : aI}, t.1 ≤ kI σ 93 pn ∧ kI σ 93 pn ≤ t.2 → aEok L (kRv L [(m : Int), kI σ 87 10, kI σ 87 11, kI σ 93 pn]) (kE160 m t) := fun hh => kEnv hL ⟨⟨Int.le_refl _, Int.le_refl _⟩, ⟨hp, by show kI σ 87 10 ≤ (39 : Int); omega⟩, ⟨by show (1 : Int) ≤ kI σ 87 11; omega, hl40⟩, hh, trivial⟩
    have hC : aDok 6 (kRv L [(m : Int), kI σ 87 10, kI σ 87 11, kI σ 93 pn]) [(3, 4, .negSucc 0)] := fun q hq => by
      rw [List.mem_singleton] at hq
      subst hq
      refine ⟨(show 3 < 6 by decide), (show 4 < 6 by decide), ?_⟩
      show kI σ 87 10 - kI σ 87 11 ≤ -1
      omega
    have hM : bMok 6 (kRv L [(m : Int), kI σ 87 10, kI σ 87 11, kI σ 93 pn]) kP σ (kHv [(10, (3, .ofNat 0)), (11, (4, .ofNat 0))], kR160, 0) σ := kMok hok hP (by decide +kernel) ⟨⟨(show 3 < 6 by decide), (Int.add_zero _).symm⟩, ⟨(show 4 < 6 by decide), (Int.add_zero _).symm⟩, trivial⟩ (kOneR (c := .ofNat 0) (by decide) (by decide) rfl (by
      show kI σ 93 (kI σ 87 10 + 0).toNat = kI σ 93 pn
      rw [show (kI σ 87 10 + 0).toNat = pn by omega]))
    refine bEc_ok (n := 6) (ρ := kRv L [(m : Int), kI σ 87 10, kI σ 87 11, kI σ 93 pn]) (aB := [.inr [87], .inl (false, 2, .ofNat 0)]) (pl := kL165 (2, .ofNat 0)) (by decide +kernel) ⟨List.mem_singleton.mpr rfl, ⟨by decide, by rw [hmv]; exact (Int.add_zero _).symm⟩, trivial⟩ fun cl hl => ?_
    by_cases cn : 0 ≤ kI σ 93 pn
    · obtain ⟨t, hte⟩ : ∃ t : Nat, kI σ 93 pn = t := ⟨(kI σ 93 pn).toNat, by omega⟩
      have hk := List.all_eq_true.mp k2 t (List.mem_range.mpr (by omega))
      unfold kF160 at hk
      have hEt : aEok L (kRv L [(m : Int), kI σ 87 10, kI σ 87 11, kI σ 93 pn]) (kE160 m (.ofNat t, .ofNat t)) := hE ⟨by show (t : Int) ≤ kI σ 93 pn; omega, by show kI σ 93 pn ≤ (t : Int); omega⟩
      cases hb : (Nat.ble 48 t && (Nat.ble t 57 && Nat.ble t (48 + m))) with
      | false =>
        rw [hb, cond_false] at hk
        exact bSeg_ok (Q := kQdg m σ) (E := kE160 m (.ofNat t, .ofNat t)) h bCn_ok hk (fun B hB => absurd hB List.not_mem_nil) ⟨hEt, hC, fun q hq => absurd hq List.not_mem_nil⟩ hM hl trivial (hno (show 2 ≤ 6 by decide) rfl rfl) (fun B hB => absurd hB List.not_mem_nil)
      | true =>
        rw [hb, cond_true] at hk
        simp only [Bool.and_eq_true] at hb
        have q1 := Nat.le_of_ble_eq_true hb.1
        have q2 := Nat.le_of_ble_eq_true hb.2.1
        have q3 := Nat.le_of_ble_eq_true hb.2.2
        refine bSeg_ok (Q := kQdg m σ) (E := kE160 m (.ofNat t, .ofNat t)) h bCn_ok hk (fun B hB => absurd hB List.not_mem_nil) ⟨hEt, hC, fun q hq => absurd hq List.not_mem_nil⟩ hM hl trivial (bFin_mono (bFi_ok (E0 := kE160 m (.ofNat t, .ofNat t)) (show 2 ≤ 6 by decide) rfl (Nat.le_refl _) aExt.rf) fun v σ' hh => ?_) (fun B hB => absurd hB List.not_mem_nil)
        obtain ⟨al, hal, ρ', a1, a2, a3, a4, a5⟩ := hh
        rw [List.mem_singleton] at hal
        subst hal
        cases v with
        | none => exact a4.elim
        | some v =>
          obtain ⟨y, rfl, hy⟩ := bVok_int a4
          have h0 : ρ' 0 = 0 := a3.1.1
          have hy : y.toInt = ρ' 0 + 1 := hy.2
          have g3 : ρ' 3 = kI σ 87 10 := a1 3 (show 3 < 6 by decide)
          have l22 : kI σ' 87 22 = ρ' 0 + ((t - 48 : Nat) : Int) := by
            have := (a5.2.1 87 22).2
            rw [kI_z (by decide +kernel)] at this
            exact this
          have l10 : kI σ' 87 10 = ρ' 3 + 1 := by
            have := (a5.2.1 87 10).2
            rw [kI_z (by decide +kernel)] at this
            exact this
          have b3 : (0 : Int) ≤ ρ' 3 ∧ ρ' 3 ≤ (39 : Int) := a3.2 3 _ rfl
          have hok' : kOk σ' := by
            refine ⟨a5.1, fun p k => ?_⟩
            have hz := a5.2.1 p k
            by_cases cp : p = 87 ∧ k = 22
            · obtain ⟨rfl, rfl⟩ := cp
              rw [show bGe 87 22 = [(-2147483648, 2147483647)] by decide +kernel, kI_z (by decide +kernel)]
              exact ⟨_, List.mem_singleton.mpr rfl, by show (-2147483648 : Int) ≤ kI σ' 87 22; omega, by show kI σ' 87 22 ≤ (2147483647 : Int); omega⟩
            · by_cases cp2 : p = 87 ∧ k = 10
              · obtain ⟨rfl, rfl⟩ := cp2
                rw [show bGe 87 10 = [(0, 60)] by decide +kernel, kI_z (by decide +kernel)]
                exact ⟨_, List.mem_singleton.mpr rfl, by show (0 : Int) ≤ kI σ' 87 10; omega, by show kI σ' 87 10 ≤ (60 : Int); omega⟩
              · have e : bEn (kHv [(22, (0, .ofNat (t - 48))), (10, (3, .ofNat 1))]) p k = .inr (bGe p k) := by
                  unfold kHv bEn
                  simp only [fLk_eq, pmLk_cons, List.map_cons, List.map_nil]
                  by_cases e87 : 87 = p
                  · subst e87
                    rw [if_pos rfl]
                    simp only [fLk_eq, pmLk_cons]
                    rw [if_neg (fun e => cp ⟨rfl, e.symm⟩), if_neg (fun e => cp2 ⟨rfl, e.symm⟩)]
                    rfl
                  · rw [if_neg e87]
                    rfl
                have hz : bEk _ ρ' (bEn (kHv [(22, (0, .ofNat (t - 48))), (10, (3, .ofNat 1))]) p k) (bZ σ' p k) := hz
                rw [e] at hz
                exact hz
          exact ⟨y, rfl, hok', a5.2.2.2.2 (show bFg kWd = true by decide +kernel), a5.2.2.2.1, Or.inr ⟨by omega, c, by omega, by omega, by omega⟩⟩
    · obtain ⟨t, hte⟩ : ∃ t : Nat, kI σ 93 pn = -(t : Int) - 1 := ⟨(-(kI σ 93 pn) - 1).toNat, by omega⟩
      have hk := List.all_eq_true.mp k3 t (List.mem_range.mpr (by omega))
      have ens : (.negSucc t : Int) = -(t : Int) - 1 := by omega
      exact bSeg_ok (Q := kQdg m σ) (E := kE160 m (.negSucc t, .negSucc t)) h bCn_ok hk (fun B hB => absurd hB List.not_mem_nil) ⟨hE ⟨by show (.negSucc t : Int) ≤ kI σ 93 pn; omega, by show kI σ 93 pn ≤ (.negSucc t : Int); omega⟩, hC, fun q hq => absurd hq List.not_mem_nil⟩ hM hl trivial (hno (show 2 ≤ 6 by decide) rfl rfl) (fun B hB => absurd hB List.not_mem_nil)
  · refine bEc_ok (n := 5) (ρ := kRv L [(m : Int), kI σ 87 10, kI σ 87 11]) (aB := [.inr [87], .inl (false, 2, .ofNat 0)]) (pl := kL165 (2, .ofNat 0)) (by decide +kernel) ⟨List.mem_singleton.mpr rfl, ⟨by decide, by rw [hmv]; exact (Int.add_zero _).symm⟩, trivial⟩ fun cl hl => ?_
    have hE : aEok L (kRv L [(m : Int), kI σ 87 10, kI σ 87 11]) (kX160 m) := kEnv hL ⟨⟨Int.le_refl _, Int.le_refl _⟩, ⟨hp, by show kI σ 87 10 ≤ (40 : Int); omega⟩, ⟨by show (0 : Int) ≤ kI σ 87 11; omega, hl40⟩, trivial⟩
    refine bSeg_ok (Q := kQdg m σ) (E := kX160 m) h bCn_ok k1 (fun B hB => absurd hB List.not_mem_nil) ⟨hE, fun q hq => ?_, fun q hq => absurd hq List.not_mem_nil⟩ (kMok hok hP (by decide +kernel) ⟨⟨(show 3 < 5 by decide), (Int.add_zero _).symm⟩, ⟨(show 4 < 5 by decide), (Int.add_zero _).symm⟩, trivial⟩ kNoR) hl trivial (hno (show 2 ≤ 5 by decide) rfl rfl) (fun B hB => absurd hB List.not_mem_nil)
    rw [List.mem_singleton] at hq
    subst hq
    refine ⟨(show 4 < 5 by decide), (show 3 < 5 by decide), ?_⟩
    show kI σ 87 11 - kI σ 87 10 ≤ 0
    omega
end
