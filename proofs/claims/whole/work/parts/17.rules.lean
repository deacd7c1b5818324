/-! rules by stretches -/
section
variable {o m rt : Nat} {ro : Nat → Nat × (Nat → Int32)} {d n pc pc' t u : Nat} {pl pl' : pmL} {st st' s2 : List Value} {σ σ' σ2 : pmS} {i : Instr} {Q : Option Value → pmS → Prop}
theorem pmWp_one (hb : pmBlk ro o m rt n pc pl st σ = some (pc', pl', st', σ')) (hi : pmCode m pc' = some i) (hs : pmStep ro (fun _ _ _ => none) o m rt pc' i pl' st' σ' = pmNx t pl' s2 σ2) : pmWp ro d o m rt pc pl st σ Q ↔ pmWp ro d o m rt t pl' s2 σ2 Q := by
  rw [pmWp_blk hb]
  exact pmWp_blk (n := 1) (by unfold pmBlk; rw [hi]; simp only [hs, pmNx]; rfl)
theorem pmWp_stuck (hb : pmBlk ro o m rt n pc pl st σ = some (pc', pl', st', σ')) (hi : pmCode m pc' = some i) (hs : ∀ call, pmStep ro call o m rt pc' i pl' st' σ' = none) : ¬ pmWp ro d o m rt pc pl st σ Q := by
  rw [pmWp_blk hb]
  rintro ⟨M, N, r, τ, h1, _⟩
  cases N with
  | zero => cases h1
  | succ N =>
    unfold pmRun at h1
    rw [hi] at h1
    simp only [hs] at h1
    cases h1
theorem pmWp_if {C : Prop} [Decidable C] (hb : pmBlk ro o m rt n pc pl st σ = some (pc', pl', st', σ')) (hi : pmCode m pc' = some i) (hs : pmStep ro (fun _ _ _ => none) o m rt pc' i pl' st' σ' = if C then pmNx t pl' s2 σ' else pmNx u pl' s2 σ') :
    pmWp ro d o m rt pc pl st σ Q ↔ if C then pmWp ro d o m rt t pl' s2 σ' Q else pmWp ro d o m rt u pl' s2 σ' Q := by
  by_cases hC : C
  · rw [if_pos hC] at hs ⊢
    exact pmWp_one hb hi hs
  · rw [if_neg hC] at hs ⊢
    exact pmWp_one hb hi hs
/-- a condition without which the machine stands still -/
theorem pmWp_cd {C : Prop} (hb : pmBlk ro o m rt n pc pl st σ = some (pc', pl', st', σ')) (hi : pmCode m pc' = some i) (h1 : C → pmStep ro (fun _ _ _ => none) o m rt pc' i pl' st' σ' = pmNx t pl' s2 σ2) (h2 : ¬ C → ∀ call, pmStep ro call o m rt pc' i pl' st' σ' = none) :
    pmWp ro d o m rt pc pl st σ Q ↔ C ∧ pmWp ro d o m rt t pl' s2 σ2 Q := by
  by_cases hC : C
  · rw [pmWp_one hb hi (h1 hC)]
    exact ⟨fun h => ⟨hC, h⟩, fun h => h.2⟩
  · exact ⟨fun h => absurd h (pmWp_stuck hb hi (h2 hC)), fun h => absurd h.1 hC⟩
theorem pmWp_ld {C : Prop} [Decidable C] (hb : pmBlk ro o m rt n pc pl st σ = some (pc', pl', st', σ')) (hi : pmCode m pc' = some i) (hs : ∀ call, pmStep ro call o m rt pc' i pl' st' σ' = if C then pmNx t pl' s2 σ2 else none) :
    pmWp ro d o m rt pc pl st σ Q ↔ C ∧ pmWp ro d o m rt t pl' s2 σ2 Q := pmWp_cd hb hi (fun h => by rw [hs, if_pos h]) (fun h call => by rw [hs, if_neg h])
theorem pmWp_nz {C : Prop} [Decidable C] (hb : pmBlk ro o m rt n pc pl st σ = some (pc', pl', st', σ')) (hi : pmCode m pc' = some i) (hs : ∀ call, pmStep ro call o m rt pc' i pl' st' σ' = if C then none else pmNx t pl' s2 σ2) :
    pmWp ro d o m rt pc pl st σ Q ↔ ¬ C ∧ pmWp ro d o m rt t pl' s2 σ2 Q := pmWp_cd hb hi (fun h => by rw [hs, if_neg h]) (fun h call => by rw [hs, if_pos (Classical.not_not.mp h)])
theorem pmWp_ac {K C : Prop} [Decidable K] [Decidable C] (hb : pmBlk ro o m rt n pc pl st σ = some (pc', pl', st', σ')) (hi : pmCode m pc' = some i) (hs : ∀ call, pmStep ro call o m rt pc' i pl' st' σ' = if K ∧ C then pmNx t pl' s2 σ2 else none) (hK : K) :
    pmWp ro d o m rt pc pl st σ Q ↔ C ∧ pmWp ro d o m rt t pl' s2 σ2 Q := pmWp_cd hb hi (fun h => by rw [hs, if_pos ⟨hK, h⟩]) (fun h call => by rw [hs, if_neg (fun x => h x.2)])
theorem pmWp_b52 {C : Prop} [Decidable C] {Y : pmO} (hb : pmBlk ro o m rt n pc pl st σ = some (pc', pl', st', σ')) (hi : pmCode m pc' = some i) (hs : ∀ call, pmStep ro call o m rt pc' i pl' st' σ' = if 52 = 52 ∧ C then pmNx t pl' s2 σ2 else if 52 = 53 ∧ C then Y else none) :
    pmWp ro d o m rt pc pl st σ Q ↔ C ∧ pmWp ro d o m rt t pl' s2 σ2 Q := pmWp_cd hb hi (fun h => by rw [hs, if_pos ⟨rfl, h⟩]) (fun h call => by rw [hs, if_neg (fun x => h x.2), if_neg (fun x => h x.2)])
theorem pmWp_b53 {C : Prop} [Decidable C] {Y : pmO} (hb : pmBlk ro o m rt n pc pl st σ = some (pc', pl', st', σ')) (hi : pmCode m pc' = some i) (hs : ∀ call, pmStep ro call o m rt pc' i pl' st' σ' = if 53 = 52 ∧ C then Y else if 53 = 53 ∧ C then pmNx t pl' s2 σ2 else none) :
    pmWp ro d o m rt pc pl st σ Q ↔ C ∧ pmWp ro d o m rt t pl' s2 σ2 Q := pmWp_cd hb hi (fun h => by rw [hs, if_neg (fun x => absurd x.1 (by decide)), if_pos ⟨rfl, h⟩]) (fun h call => by rw [hs, if_neg (fun x => h x.2), if_neg (fun x => h x.2)])
theorem pmWp_pf {k ci j a p nn : Nat} {nst : Bool} {x : Int32} {r : List Value} {rs : List (Option Nat)} (hb : pmBlk ro o m rt n pc pl st σ = some (pc', pl', .int x :: .ref p :: r, σ')) (hi : pmCode m pc' = some (.putfield k)) (hf : pmF o k = some (ci, j, a, nst)) (hk : pmKd ci j = 3) (hp : σ'.1[p]? = some (ci, nn, rs)) (hn : pmFn ci j = false) :
    pmWp ro d o m rt pc pl st σ Q ↔ (x = 0 ∨ x = 1) ∧ pmWp ro d o m rt (pc' + 3) pl' r (σ'.1, pmUp σ'.2.1 p j x, σ'.2.2) Q := pmWp_cd hb hi (fun h => by simp only [pmStep, hf, hp, hk, hn, pmWr, if_pos h, true_and, reduceCtorEq, Bool.false_eq_true, false_implies, if_true]) (fun h call => by simp only [pmStep, hf, hp, hk, hn, pmWr, if_neg h, true_and, Bool.false_eq_true, false_implies, if_true])
theorem pmWp_rtb {x : Int32} (hi : pmCode m pc = some .ireturn) : pmWp ro d o m 2 pc pl [.int x] σ Q ↔ (x = 0 ∨ x = 1) ∧ Q (some (.int x)) σ := by
  by_cases h : x = 0 ∨ x = 1
  · rw [pmWp_ret hi (by simp only [pmStep, h, and_self, or_true, if_true]; rfl)]
    exact ⟨fun q => ⟨h, q⟩, fun q => q.2⟩
  · refine ⟨fun q => absurd q (pmWp_stuck (n := 0) rfl hi (fun call => ?_)), fun q => absurd q.1 h⟩
    have h' : ¬ ((2 : Nat) = 1 ∨ (2 : Nat) = 2 ∧ (x = 0 ∨ x = 1)) := fun z => z.elim (fun y => absurd y (by decide)) (fun y => h y.2)
    have e : pmStep ro call o m 2 pc .ireturn pl [.int x] σ = if ((2 : Nat) = 1 ∨ (2 : Nat) = 2 ∧ (x = 0 ∨ x = 1)) then some (.inl (some (.int x), σ)) else none := rfl
    rw [e, if_neg h']
theorem pmWp_cp {k a b na nb a1 : Nat} {sp dp c : Int32} {ra rb : List (Option Nat)} {r : List Value} {b1 : Bool} (hb : pmBlk ro o m rt n pc pl st σ = some (pc', pl', .int c :: .int dp :: .ref b :: .int sp :: .ref a :: r, σ')) (hi : pmCode m pc' = some (.invokestatic k)) (hm : pmM o k = some (9000, a1, b1)) (ha : σ'.1[a]? = some (50, na, ra)) (hB : σ'.1[b]? = some (50, nb, rb)) (hr : pmCats r ≤ 8) :
    pmWp ro d o m rt pc pl st σ Q ↔ (¬ sp < 0 ∧ ¬ dp < 0 ∧ ¬ c < 0 ∧ sp.toNatClampNeg + c.toNatClampNeg ≤ na ∧ dp.toNatClampNeg + c.toNatClampNeg ≤ nb) ∧ pmWp ro d o m rt (pc' + 3) pl' r (σ'.1, pmRow σ'.2.1 b (va_cpy (σ'.2.1 a) (σ'.2.1 b) sp.toNatClampNeg dp.toNatClampNeg c.toNatClampNeg), σ'.2.2) Q := pmWp_cd hb hi (fun h => by simp only [pmStep, hm, if_pos hr, pmCopy, ha, hB, if_pos h, and_self, if_true]) (fun h call => by simp only [pmStep, hm, if_pos hr, pmCopy, ha, hB, if_neg h, if_true])
end
