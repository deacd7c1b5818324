/-! every instruction of the second make is sound -/
section
variable {L : aLa} {Ln : Nat} {xs : Nat → Int32} {ro : Nat → Nat × (Nat → Int32)} {Kp : pmS → Prop} {σ0 σ σ' : pmS} {o m rt pc pc' : Nat} {i : Instr} {cl cl' : pmL} {cs cr : List Value} {n n' : Nat} {ρ ρ' : Nat → Int} {k : bKk} {X X' : aX} {M M' : bM} {pl pl' : bL} {st r : List bV} {f g : aF} {p q : Nat} {ps : List Nat} {a b : bV} {v w : Value}
theorem pmKd_lt {ci fk kd : Nat} (h : pmKd ci fk = kd) (hk : kd < 9) : ci < 50 := by
  rcases Nat.lt_or_ge ci 50 with h1 | h1
  · exact h1
  · have hl : pmFk.length ≤ ci := Nat.le_trans (by decide : pmFk.length ≤ 50) h1
    unfold pmKd at h
    rw [List.getElem?_eq_none hl] at h
    change 9 = kd at h
    omega
theorem bLo_k {ci fk kd : Nat} {s : Nat × List (Option Nat)} (hT : aG2 bZT p = some (ci, s)) (h : pmKd ci fk = kd) (hk : kd < 9) : bLo p fk = Nat.beq kd 1 := by
  have hlt := pmKd_lt h hk
  unfold bLo
  rw [hT]
  show (bif Nat.ble 50 ci then Nat.beq ci 51 else Nat.beq (pmKd ci fk) 1) = Nat.beq kd 1
  rw [h]
  cases hb : Nat.ble 50 ci with
  | false => rfl
  | true =>
    have := Nat.le_of_ble_eq_true hb
    omega
theorem bLo_r {c : Nat} {s : Nat × List (Option Nat)} {bb : Bool} (hT : aG2 bZT p = some (c, s)) (h : (Nat.ble 50 c && (Nat.beq c 51 == bb)) = true) (j : Nat) : bLo p j = bb := by
  unfold bLo
  rw [hT]
  show (bif Nat.ble 50 c then Nat.beq c 51 else Nat.beq (pmKd c j) 1) = bb
  rw [Bool.and_eq_true] at h
  rw [h.1]
  exact eq_of_beq h.2
theorem bZi {j : Nat} (h : bLo p j = false) : bZ σ p j = (σ.2.1 p j).toInt := by
  unfold bZ
  rw [h]
  rfl
theorem bZl {j : Nat} (h : bLo p j = true) : bZ σ p j = (σ.2.2 p j).toInt := by
  unfold bZ
  rw [h]
  rfl
theorem bGf_ok {tg : Bool} {fk : Nat} {z : Int} (hX : aXok L ρ X) (hM : bMok X.1.length ρ Kp σ0 M σ) (hp : p ∈ ps) (hz : bZ σ p fk = z) (hK : bGf tg fk pc ps pl r X M k = true) : bGh L X.1 ρ M.2.1 (bZ σ) z fun E H S g => k (E, X.2) (H, S, M.2.2) (pc + 3) pl (.inl (tg, g) :: r) := by
  subst hz
  unfold bGf at hK
  split at hK
  · rename_i p0
    rw [List.mem_singleton] at hp
    subst hp
    obtain ⟨E', ρ', H', S', g, h1, h2, h3, h4, h5, h6, h7⟩ := bGetK_ok (S := M.2.1) hX.1 hM.2.1 hM.2.2.1 hK
    exact ⟨E', ρ', H', M.2.1, g, h1, h2, h3, h4, hM.2.2.1.ext h1 h2, h6, h7⟩
  · split at hK
    · rename_i j hj
      obtain ⟨i, hi, g1, g2⟩ := bJn_ok hj p hp
      have hv := bEi_ok hX.1 hi (hM.2.1 p fk)
      obtain ⟨E', ρ', g, h1, h2, h3, h4, h5⟩ := aNew_ok hX.1 (z := bZ σ p fk) (by omega) (by omega) hK
      exact ⟨E', ρ', M.1, M.2.1, g, h1, h2, h3, hM.2.1.ext h1 h2, hM.2.2.1.ext h1 h2, h4, h5⟩
    · cases hK
theorem bGr_ok {tg : Bool} {x z : Int} {j : Nat} (hX : aXok L ρ X) (hM : bMok X.1.length ρ Kp σ0 M σ) (hp : p ∈ ps) (hz : bZ σ p j = z) (hf : aFok X.1.length ρ f x) (hx : x.toNat = j) (hK : bGr tg pc ps f pl r X M k = true) : bGh L X.1 ρ M.2.1 (bZ σ) z fun E H S g => k (E, X.2) (H, S, M.2.2) (pc + 1) pl (.inl (tg, g) :: r) := by
  subst hz
  unfold bGr at hK
  split at hK
  · rename_i p0
    rw [List.mem_singleton] at hp
    subst hp
    exact bGetA_ok hX.1 hM.2.1 hM.2.2.1 hf hx hK
  · obtain ⟨hc, hK⟩ := aBif hK
    have hfr := bAll_ok hc p hp
    split at hK
    · rename_i w hw
      obtain ⟨i, hi, g1, g2⟩ := bJn_ok hw p hp
      split at hi
      · rename_i d hd
        have hin := hM.2.1 p j
        rw [bFree_ok hfr, bGu_ok hd] at hin
        have hv := bLh_ok hi hin
        obtain ⟨E', ρ', g, h1, h2, h3, h4, h5⟩ := aNew_ok hX.1 (z := bZ σ p j) (by omega) (by omega) hK
        exact ⟨E', ρ', M.1, M.2.1, g, h1, h2, h3, hM.2.1.ext h1 h2, hM.2.2.1.ext h1 h2, h4, h5⟩
      · cases hi
    · cases hK
theorem bRw2_ok {x : Int32} (hM : ∀ p : Nat, σ.1[p]? = aG2 bZT p) (hX : aXok L ρ X) (hf : aFok X.1.length ρ f x.toInt) (h : bRw2 X f p = true) : ∃ c s rs, (c = 52 ∨ c = 53) ∧ σ.1[p]? = some (c, s, rs) ∧ aG2 bZT p = some (c, s, rs) ∧ pmIn x s := by
  unfold bRw2 at h
  rw [fG2_eq] at h
  split at h
  · rename_i s hs
    rw [Bool.and_eq_true, Bool.or_eq_true] at h
    obtain ⟨a, b, d⟩ := s
    obtain ⟨h1, h2⟩ := aAt_ok hX hf h.2
    exact ⟨a, b, d, h.1.imp Nat.eq_of_beq_eq_true Nat.eq_of_beq_eq_true, by rw [hM, hs], hs, h1⟩
  · cases h
theorem bRfs_ok (a : Nat) : ∀ (c : Nat) (l : List Nat), bRfs p a c = some l → ∀ j, a ≤ j → j ≤ a + c → ∃ q, bRf p j = some q ∧ q ∈ l
  | 0, l, h, j, h1, h2 => by
    have : j = a := by omega
    subst this
    unfold bRfs at h
    split at h
    · rename_i q hq
      cases h
      exact ⟨q, hq, List.mem_cons_self⟩
    · cases h
  | c + 1, l, h, j, h1, h2 => by
    unfold bRfs at h
    split at h
    · rename_i l0 q hl hq
      cases h
      by_cases e : j = a + c + 1
      · subst e
        exact ⟨q, hq, List.mem_cons_self⟩
      · obtain ⟨u, g1, g2⟩ := bRfs_ok a c l0 hl j h1 (by omega)
        exact ⟨u, g1, List.mem_cons_of_mem _ g2⟩
    · cases h
theorem bPf_ok {fk : Nat} {z : Int} (hKp : bKfr Kp) (hX : aXok L ρ X) (hM : bMok X.1.length ρ Kp σ0 M σ) (hp : p ∈ ps) (hZ : σ'.1 = σ.1) (hup : bZ σ' = aUp (bZ σ) p fk z) (hsm : ∀ mk q j : Nat, mk.testBit (bRg p fk) = true → mk.testBit (bRg q j) = false → bSame σ' σ q j) (hf : aFok X.1.length ρ f z) (hK : bPf fk pc ps f pl r X M k = true) : ∃ M', bMok X.1.length ρ Kp σ0 M' σ' ∧ k X M' (pc + 3) pl r = true := by
  unfold bPf at hK
  split at hK
  · rename_i p0
    rw [List.mem_singleton] at hp
    subst hp
    obtain ⟨hpr, hK⟩ := aBif hK
    obtain ⟨H', g1, g2⟩ := hM.2.1.set (e := .inl f) (p := p) (k := fk) (φ' := bZ σ') (by rw [hup, show aUp (bZ σ) p fk z p fk = z from if_pos ⟨rfl, rfl⟩]; exact hf) (fun q j hq => by rw [hup]; exact if_neg hq) hK
    rw [fDel_eq] at g2
    have hm := bRm_ok p fk 0 fk (Nat.le_refl _) (Nat.le_refl _)
    exact ⟨_, hM.wr hKp hZ g1 (bSk_del hM.2.2.1 fun q j hq => by rw [hup]; exact if_neg fun e => hq e.1) (fun q j hq => hsm _ q j hm hq) hpr, g2⟩
  · split at hK
    · rename_i i hi
      obtain ⟨hc, hK⟩ := aBif hK
      have hc := bAll_ok hc p hp
      simp only [Bool.and_eq_true] at hc
      have hv := aItv_ok hX.1 hf hi
      exact ⟨_, hM.wrs hKp hZ hp hup hsm (bCov_ok hc.2.1 hv.1 hv.2) hc.1 (fun p => bRm p fk 0) (bRm_ok p fk 0 fk (Nat.le_refl _) (Nat.le_refl _)) hc.2.2 rfl, hK⟩
    · cases hK
theorem bPf_oki {fk : Nat} {x : Int32} (hKp : bKfr Kp) (hX : aXok L ρ X) (hM : bMok X.1.length ρ Kp σ0 M σ) (hp : p ∈ ps) (hlo : bLo p fk = false) (hf : aFok X.1.length ρ f x.toInt) (hK : bPf fk pc ps f pl r X M k = true) : ∃ M', bMok X.1.length ρ Kp σ0 M' (σ.1, pmUp σ.2.1 p fk x, σ.2.2) ∧ k X M' (pc + 3) pl r = true :=
  bPf_ok hKp hX hM hp rfl (bZ_upi hlo) (fun mk q j h1 h2 => bUp_i h1 q j h2) hf hK
theorem bPf_okl {fk : Nat} {x : Int64} (hKp : bKfr Kp) (hX : aXok L ρ X) (hM : bMok X.1.length ρ Kp σ0 M σ) (hp : p ∈ ps) (hlo : bLo p fk = true) (hf : aFok X.1.length ρ f x.toInt) (hK : bPf fk pc ps f pl r X M k = true) : ∃ M', bMok X.1.length ρ Kp σ0 M' (σ.1, σ.2.1, pmUp σ.2.2 p fk x) ∧ k X M' (pc + 3) pl r = true :=
  bPf_ok hKp hX hM hp rfl (bZ_upl hlo) (fun mk q j h1 h2 => bUp_l h1 q j h2) hf hK
theorem bPt_ok {E' : aE} {j : Nat} {x z : Int} (hKp : bKfr Kp) (hs : pmStep ro (fun _ _ _ => none) o m rt pc i cl cs σ = some (.inr (pc + 1, cl, cr, σ'))) (hX : aXok L ρ X) (hM : bMok X.1.length ρ Kp σ0 M σ) (hl : bLok X.1.length ρ pl cl) (hr : bSok X.1.length ρ r cr) (hp : p ∈ ps) (hZ : σ'.1 = σ.1) (hup : bZ σ' = aUp (bZ σ) p j z) (hsm : ∀ mk q u : Nat, mk.testBit (bRg p j) = true → mk.testBit (bRg q u) = false → bSame σ' σ q u)
    (hf : aFok X.1.length ρ f x) (hx0 : 0 ≤ x) (hx : x.toNat = j) (e1 : X.1.length ≤ E'.length) (e2 : aExt X.1.length ρ ρ') (e3 : aEok L ρ' E') (e4 : aFok E'.length ρ' g z) (hK : bPt E' pc ps f g pl r X M k = true) : bNx ro L Kp σ0 o m rt pc i cl cs σ X.1.length ρ k := by
  have hM' := hM.ext e1 e2
  unfold bPt at hK
  split at hK
  · rename_i p0
    rw [List.mem_singleton] at hp
    subst hp
    obtain ⟨H', S', mk, g1, g2, g3, g4⟩ := bPutA_ok (k := j) e3 hM'.2.1 hM'.2.2.1 (hf.ext e1 e2) e4 hx0 hx hK
    obtain ⟨hpr, g4⟩ := aBif g4
    rw [← hup] at g1 g2
    exact ⟨_, _, _, σ', (E', X.2), _, pl, r, ρ', hs, e1, e2, hX.ext e1 e2 e3, hM'.wr hKp hZ g1 g2 (fun q u hq => hsm mk q u g3 hq) hpr, hl.ext e1 e2, hr.ext e1 e2, g4⟩
  · split at hK
    · rename_i iv hi
      obtain ⟨hc, hK⟩ := aBif hK
      have hc := bAll_ok hc p hp
      simp only [Bool.and_eq_true] at hc
      obtain ⟨c1, c2, c3, c4⟩ := hc
      have hv := aItv_ok e3 e4 hi
      split at c2
      · rename_i d hd
        have hm : (bRm p 0 0).testBit (bRg p j) = true := by
          rw [bRg_sing c4 j 0]
          exact bRm_ok p 0 0 0 (Nat.le_refl _) (Nat.le_refl _)
        exact ⟨_, _, _, σ', (E', X.2), _, pl, r, ρ', hs, e1, e2, hX.ext e1 e2 e3, hM'.wrs hKp hZ hp hup hsm (by rw [bGu_ok hd]; exact bCov_ok c2 hv.1 hv.2) c1 (fun p => bRm p 0 0) hm c3 rfl, hl.ext e1 e2, hr.ext e1 e2, hK⟩
      · cases c2
    · cases hK
theorem bPt_oki {E' : aE} {x w : Int32} (hKp : bKfr Kp) (hs : pmStep ro (fun _ _ _ => none) o m rt pc i cl cs σ = some (.inr (pc + 1, cl, cr, (σ.1, pmUp σ.2.1 p x.toNatClampNeg w, σ.2.2)))) (hX : aXok L ρ X) (hM : bMok X.1.length ρ Kp σ0 M σ) (hl : bLok X.1.length ρ pl cl) (hr : bSok X.1.length ρ r cr) (hp : p ∈ ps) (hlo : ∀ j, bLo p j = false) (hf : aFok X.1.length ρ f x.toInt) (hx0 : 0 ≤ x.toInt) (e1 : X.1.length ≤ E'.length) (e2 : aExt X.1.length ρ ρ') (e3 : aEok L ρ' E') (e4 : aFok E'.length ρ' g w.toInt) (hK : bPt E' pc ps f g pl r X M k = true) : bNx ro L Kp σ0 o m rt pc i cl cs σ X.1.length ρ k :=
  bPt_ok hKp hs hX hM hl hr hp rfl (bZ_upi (hlo _)) (fun mk q j h1 h2 => bUp_i h1 q j h2) hf hx0 rfl e1 e2 e3 e4 hK
theorem bPt_okl {E' : aE} {x : Int32} {w : Int64} (hKp : bKfr Kp) (hs : pmStep ro (fun _ _ _ => none) o m rt pc i cl cs σ = some (.inr (pc + 1, cl, cr, (σ.1, σ.2.1, pmUp σ.2.2 p x.toNatClampNeg w)))) (hX : aXok L ρ X) (hM : bMok X.1.length ρ Kp σ0 M σ) (hl : bLok X.1.length ρ pl cl) (hr : bSok X.1.length ρ r cr) (hp : p ∈ ps) (hlo : ∀ j, bLo p j = true) (hf : aFok X.1.length ρ f x.toInt) (hx0 : 0 ≤ x.toInt) (e1 : X.1.length ≤ E'.length) (e2 : aExt X.1.length ρ ρ') (e3 : aEok L ρ' E') (e4 : aFok E'.length ρ' g w.toInt) (hK : bPt E' pc ps f g pl r X M k = true) : bNx ro L Kp σ0 o m rt pc i cl cs σ X.1.length ρ k :=
  bPt_ok hKp hs hX hM hl hr hp rfl (bZ_upl (hlo _)) (fun mk q j h1 h2 => bUp_l h1 q j h2) hf hx0 rfl e1 e2 e3 e4 hK
theorem bNz_ok {op : aE → aF → aF → (aE → aF → Bool) → Bool} {K : aE → aF → Bool} {E : aE} {y : Int} (hE : aEok L ρ E) (hg : aFok E.length ρ g y) (hK : bNz op E f g K = true) : y ≠ 0 ∧ op E f g K = true := by
  unfold bNz at hK
  split at hK
  · rename_i j hj
    obtain ⟨hc, hK⟩ := aBif hK
    rw [zLe_eq, zLe_eq, Bool.or_eq_true, decide_eq_true_eq, decide_eq_true_eq] at hc
    have hv := aItv_ok hE hg hj
    have e1 : Int.negSucc 0 = -1 := rfl
    exact ⟨by omega, hK⟩
  · cases hK
theorem bCv_ok {d : List aI} {z : Int} : ∀ {l : List aI}, bCv l d = true → bIn l z → bIn d z := fun {l} => by
  induction l with
  | nil => intro _ h; obtain ⟨i, hi, -⟩ := h; cases hi
  | cons i t ih =>
    intro h hz
    have h : (bCov i d && bCv t d) = true := h
    rw [Bool.and_eq_true] at h
    obtain ⟨q, hq, h1, h2⟩ := hz
    rcases List.mem_cons.mp hq with rfl | hq
    · exact bCov_ok h.1 h1 h2
    · exact ih h.2 ⟨q, hq, h1, h2⟩
theorem bC1_ok {e : bN} {H : bH} {b0 kk : Nat} {z : Int} {K : bH → Bool} (he : bEk n ρ e z) (h : bC1 e b0 kk H K = true) : ∃ H', (∀ q j w, ¬ (q = b0 ∧ j = kk) → bEk n ρ (bEn H q j) w → bEk n ρ (bEn H' q j) w) ∧ bEk n ρ (bEn H' b0 kk) z ∧ K H' = true := by
  unfold bC1 at h
  split at h
  · rename_i g
    obtain ⟨H', h1, h2⟩ := bSetO_ok h
    exact ⟨H', fun q j w hq hw => by rw [h1, if_neg hq]; exact hw, by rw [h1, if_pos ⟨rfl, rfl⟩]; exact he, h2⟩
  · rename_i l
    cases hb : (bFree H b0 && bCv l (bGe b0 kk)) with
    | true =>
      rw [hb] at h
      rw [Bool.and_eq_true] at hb
      exact ⟨H, fun _ _ _ _ hw => hw, by rw [bFree_ok hb.1]; exact bCv_ok hb.2 he, h⟩
    | false =>
      rw [hb] at h
      obtain ⟨H', h1, h2⟩ := bSetO_ok h
      exact ⟨H', fun q j w hq hw => by rw [h1, if_neg hq]; exact hw, by rw [h1, if_pos ⟨rfl, rfl⟩]; exact he, h2⟩
theorem bCp_ok {H0 : bH} {φ : Nat → Nat → Int} {a0 b0 sp dp : Nat} (hH0 : bHok n ρ H0 φ) : ∀ (c : Nat) (H : bH) (K : bH → Bool), bHok n ρ H φ → bCp H0 a0 sp b0 dp c H K = true → ∃ H', bHok n ρ H' (aCpF φ a0 b0 sp dp c) ∧ K H' = true
  | 0, H, K, hH, h => ⟨H, fun q j => by
      have e : aCpF φ a0 b0 sp dp 0 q j = φ q j := by
        unfold aCpF
        split
        · rename_i e
          rw [if_neg (by omega), e]
        · rfl
      rw [e]
      exact hH q j, h⟩
  | c + 1, H, K, hH, h => by
    obtain ⟨H1, h1, h2⟩ := bCp_ok hH0 c H _ hH h
    obtain ⟨H', g1, g2, g3⟩ := bC1_ok (hH0 a0 (sp + c)) h2
    refine ⟨H', fun q j => ?_, g3⟩
    by_cases e : q = b0 ∧ j = dp + c
    · rw [e.1, e.2]
      have e2 : aCpF φ a0 b0 sp dp (c + 1) b0 (dp + c) = φ a0 (sp + c) := by
        unfold aCpF
        rw [if_pos rfl, if_pos (by omega)]
        congr 1
        omega
      rw [e2]
      exact g2
    · have e2 : aCpF φ a0 b0 sp dp (c + 1) q j = aCpF φ a0 b0 sp dp c q j := by
        unfold aCpF
        split
        · rename_i hq
          by_cases hj : dp ≤ j ∧ j < dp + c
          · rw [if_pos (by omega), if_pos hj]
          · rw [if_neg (fun hc => e ⟨hq, by omega⟩), if_neg hj]
        · rfl
      rw [e2]
      exact g1 q j _ e (h1 q j)
theorem bCpA_ok {as bs : List Nat} {fs fd : aF} {a0 b0 sz : Nat} {xp xd : Int32} (hKp : bKfr Kp) (hX : aXok L ρ X) (hM : bMok X.1.length ρ Kp σ0 M σ) (ha : a0 ∈ as) (hb : b0 ∈ bs) (hfs : aFok X.1.length ρ fs xp.toInt) (hfd : aFok X.1.length ρ fd xd.toInt) (hZ : σ'.1 = σ.1) (hup : bZ σ' = aCpF (bZ σ) a0 b0 xp.toNatClampNeg xd.toNatClampNeg sz)
    (hsm : ∀ mk q j : Nat, (∀ u, xd.toNatClampNeg ≤ u → u < xd.toNatClampNeg + sz → mk.testBit (bRg b0 u) = true) → mk.testBit (bRg q j) = false → bSame σ' σ q j) (hK : bCpA as bs fs fd sz pc pl r X M k = true) : ∃ M', bMok X.1.length ρ Kp σ0 M' σ' ∧ k X M' (pc + 3) pl r = true := by
  unfold bCpA at hK
  split at hK
  · rename_i a b s d hs hd
    rw [List.mem_singleton] at ha hb
    subst ha
    subst hb
    have es := aTn (aCst_ok hX hfs hs)
    have ed := aTn (aCst_ok hX hfd hd)
    rw [aFn_eq, aFn_eq, ← es, ← ed] at hK
    obtain ⟨hpr, hK⟩ := aBif hK
    obtain ⟨H', g1, g2⟩ := bCp_ok hM.2.1 sz M.1 _ hM.2.1 hK
    rw [fDel_eq] at g2
    rw [← hup] at g1
    exact ⟨_, hM.wr hKp hZ g1 (bSk_del hM.2.2.1 fun q j hq => by rw [hup]; exact if_neg hq) (fun q j hq => hsm _ q j (fun u h1 h2 => bRm_ok _ _ _ u h1 (by omega)) hq) hpr, g2⟩
  · obtain ⟨hc, hK⟩ := aBif hK
    rw [Bool.and_eq_true] at hc
    have hca := bAll_ok hc.1 a0 ha
    have hcb := bAll_ok hc.2 b0 hb
    simp only [Bool.and_eq_true] at hca hcb
    obtain ⟨fa, hca⟩ := hca
    have hca := bAll_ok hca b0 hb
    obtain ⟨fb, pb, sb⟩ := hcb
    split at hca
    · rename_i u v hu hv
      have hm : ∀ j, (bRm b0 0 0).testBit (bRg b0 j) = true := fun j => by
        rw [bRg_sing sb j 0]
        exact bRm_ok b0 0 0 0 (Nat.le_refl _) (Nat.le_refl _)
      refine ⟨_, hM.wrg (H := M.1) (S := []) hKp hZ (fun q j => ?_) (fun q hq => absurd hq List.not_mem_nil) (fun q j hq => ?_) (fun hw => ⟨bFg_rec (fun p => bRm p 0 0) hw, fun q j hq => hsm _ q j (fun u _ _ => hm u) (bPr_ok pb (bFg_rec (fun p => bRm p 0 0) hw) hq)⟩), hK⟩
      · rw [hup]
        unfold aCpF
        split
        · rename_i eq
          subst eq
          split
          · have hz := hM.2.1 a0 (xp.toNatClampNeg + (j - xd.toNatClampNeg))
            rw [bFree_ok fa, bGu_ok hu] at hz
            rw [bFree_ok fb, bGu_ok hv]
            exact bCv_ok hca hz
          · exact hM.2.1 _ j
        · exact hM.2.1 q j
      · obtain ⟨h1, h2⟩ := bLor_ok (fun p => bRm p 0 0) hq
        exact ⟨h1, hsm _ q j (fun u _ _ => hm u) (h2 b0 hb)⟩
    · cases hca
theorem bRng_ok {c sz : Nat} {x : Int32} (hM : ∀ p : Nat, σ.1[p]? = aG2 bZT p) (hX : aXok L ρ X) (hf : aFok X.1.length ρ f x.toInt) (h : bRng c X f sz p = true) : ∃ s rs, σ.1[p]? = some (c, s, rs) ∧ aG2 bZT p = some (c, s, rs) ∧ 0 ≤ x.toInt ∧ x.toNatClampNeg + sz ≤ s := by
  unfold bRng at h
  rw [fG2_eq] at h
  split at h
  · rename_i s i hs hi
    simp only [zLe_eq, zAdd_eq, Bool.and_eq_true, decide_eq_true_eq] at h
    obtain ⟨h1, h2, h3⟩ := h
    have e := Nat.eq_of_beq_eq_true h1
    obtain ⟨a, b, d⟩ := s
    change a = c at e
    subst e
    have hv := aItv_ok hX.1 hf hi
    simp only [Int.ofNat_eq_natCast] at h3
    refine ⟨b, d, by rw [hM, hs], hs, by omega, ?_⟩
    rw [aTn rfl]
    omega
  · cases h
theorem bZ_cpi {a0 b0 sp dp sz : Nat} (hb : ∀ j, bLo b0 j = false) (ha : ∀ j, bLo a0 j = false) : bZ (σ.1, pmRow σ.2.1 b0 (va_cpy (σ.2.1 a0) (σ.2.1 b0) sp dp sz), σ.2.2) = aCpF (bZ σ) a0 b0 sp dp sz := by
  funext q j
  unfold aCpF
  by_cases e : q = b0
  · subst e
    rw [if_pos rfl, bZi (hb j), bZi (ha _), bZi (hb j)]
    show (if q = q then va_cpy (σ.2.1 a0) (σ.2.1 q) sp dp sz j else σ.2.1 q j).toInt = _
    rw [if_pos rfl]
    unfold va_cpy
    split <;> rfl
  · rw [if_neg e]
    show (bif bLo q j then (σ.2.2 q j).toInt else (pmRow σ.2.1 b0 _ q j).toInt) = _
    rw [pmRow_ne _ _ e]
    rfl
theorem bZ_cpl {a0 b0 sp dp sz : Nat} (hb : ∀ j, bLo b0 j = true) (ha : ∀ j, bLo a0 j = true) : bZ (σ.1, σ.2.1, pmRow σ.2.2 b0 (va_cpy (σ.2.2 a0) (σ.2.2 b0) sp dp sz)) = aCpF (bZ σ) a0 b0 sp dp sz := by
  funext q j
  unfold aCpF
  by_cases e : q = b0
  · subst e
    rw [if_pos rfl, bZl (hb j), bZl (ha _), bZl (hb j)]
    show (if q = q then va_cpy (σ.2.2 a0) (σ.2.2 q) sp dp sz j else σ.2.2 q j).toInt = _
    rw [if_pos rfl]
    unfold va_cpy
    split <;> rfl
  · rw [if_neg e]
    show (bif bLo q j then (pmRow σ.2.2 b0 _ q j).toInt else (σ.2.1 q j).toInt) = _
    rw [pmRow_ne _ _ e]
    rfl
theorem bSm_cpi {a0 b0 sp dp sz : Nat} (mk q j : Nat) (hm : ∀ u, dp ≤ u → u < dp + sz → mk.testBit (bRg b0 u) = true) (hq : mk.testBit (bRg q j) = false) : bSame (σ.1, pmRow σ.2.1 b0 (va_cpy (σ.2.1 a0) (σ.2.1 b0) sp dp sz), σ.2.2) σ q j := by
  refine ⟨?_, rfl⟩
  show (if q = b0 then va_cpy (σ.2.1 a0) (σ.2.1 b0) sp dp sz j else σ.2.1 q j) = σ.2.1 q j
  split
  · rename_i e
    subst e
    unfold va_cpy
    split
    · rename_i h
      rw [hm j h.1 h.2] at hq
      cases hq
    · rfl
  · rfl
theorem bSm_cpl {a0 b0 sp dp sz : Nat} (mk q j : Nat) (hm : ∀ u, dp ≤ u → u < dp + sz → mk.testBit (bRg b0 u) = true) (hq : mk.testBit (bRg q j) = false) : bSame (σ.1, σ.2.1, pmRow σ.2.2 b0 (va_cpy (σ.2.2 a0) (σ.2.2 b0) sp dp sz)) σ q j := by
  refine ⟨rfl, ?_⟩
  show (if q = b0 then va_cpy (σ.2.2 a0) (σ.2.2 b0) sp dp sz j else σ.2.2 q j) = σ.2.2 q j
  split
  · rename_i e
    subst e
    unfold va_cpy
    split
    · rename_i h
      rw [hm j h.1 h.2] at hq
      cases hq
    · rfl
  · rfl
theorem bBin_i {op : aE → aF → aF → (aE → aF → Bool) → Bool} {cop : Int32 → Int32 → Int32} (hX : aXok L ρ X) (hM : bMok X.1.length ρ Kp σ0 M σ) (hl : bLok X.1.length ρ pl cl) (hs : bSok X.1.length ρ st cs)
    (hop : ∀ (K : aE → aF → Bool) (f g : aF) (a b : Int32), aFok X.1.length ρ f a.toInt → aFok X.1.length ρ g b.toInt → op X.1 f g K = true → aGv L X.1 ρ (cop a b).toInt K)
    (hst : ∀ (y x : Int32) (cr : List Value), pmStep ro (fun _ _ _ => none) o m rt pc i cl (.int y :: .int x :: cr) σ = some (.inr (pc + 1, cl, .int (cop x y) :: cr, σ)))
    (hK : bBin op false pc pl st X M k = true) : bNx ro L Kp σ0 o m rt pc i cl cs σ X.1.length ρ k := by
  unfold bBin at hK
  split at hK
  · rename_i ta g tb f r
    obtain ⟨hc, hK⟩ := aBif hK
    cases ta <;> cases tb <;> first | (simp at hc; done) | skip
    obtain ⟨v1, c1, rfl, w1, hr1⟩ := bSok_cons hs
    obtain ⟨v2, c2, rfl, w2, hr2⟩ := bSok_cons hr1
    obtain ⟨y, rfl, hy⟩ := bVok_int w1
    obtain ⟨x, rfl, hx⟩ := bVok_int w2
    exact bNx.gi (hst y x c2) hX hM hl hr2 rfl (hop _ f g x y hx hy hK)
  · cases hK
theorem bBin_l {op : aE → aF → aF → (aE → aF → Bool) → Bool} {cop : Int64 → Int64 → Int64} (hX : aXok L ρ X) (hM : bMok X.1.length ρ Kp σ0 M σ) (hl : bLok X.1.length ρ pl cl) (hs : bSok X.1.length ρ st cs)
    (hop : ∀ (K : aE → aF → Bool) (f g : aF) (a b : Int64), aFok X.1.length ρ f a.toInt → aFok X.1.length ρ g b.toInt → op X.1 f g K = true → aGv L X.1 ρ (cop a b).toInt K)
    (hst : ∀ (y x : Int64) (cr : List Value), pmStep ro (fun _ _ _ => none) o m rt pc i cl (.long y :: .long x :: cr) σ = some (.inr (pc + 1, cl, .long (cop x y) :: cr, σ)))
    (hK : bBin op true pc pl st X M k = true) : bNx ro L Kp σ0 o m rt pc i cl cs σ X.1.length ρ k := by
  unfold bBin at hK
  split at hK
  · rename_i ta g tb f r
    obtain ⟨hc, hK⟩ := aBif hK
    cases ta <;> cases tb <;> first | (simp at hc; done) | skip
    obtain ⟨v1, c1, rfl, w1, hr1⟩ := bSok_cons hs
    obtain ⟨v2, c2, rfl, w2, hr2⟩ := bSok_cons hr1
    obtain ⟨y, rfl, hy⟩ := bVok_long w1
    obtain ⟨x, rfl, hx⟩ := bVok_long w2
    exact bNx.gl (hst y x c2) hX hM hl hr2 rfl (hop _ f g x y hx hy hK)
  · cases hK
set_option maxHeartbeats 4000000 in
theorem bStep_ok (hKp : bKfr Kp) (hro : ro = pmRo Ln xs) (hL : L = ((Ln : Int), xs)) (hLn : Ln ≤ 3072) (hX : aXok L ρ X) (hM : bMok X.1.length ρ Kp σ0 M σ) (hl : bLok X.1.length ρ pl cl) (hs : bSok X.1.length ρ st cs) (hK : bStep o m rt pc i pl st X M k = true) : bNx ro L Kp σ0 o m rt pc i cl cs σ X.1.length ρ k := by
  have hE := hX.1
  cases i with
  | iconst z =>
    simp only [bStep, bDis, bS_iconst, aFz_eq, fG2_eq, zLe_eq, zAdd_eq] at hK
    exact bNx.go (cr := .int (Int32.ofInt z) :: cs) rfl hX hM hl (by exact ⟨aFok.c0 hE, hs⟩) rfl hK
  | bipush z =>
    simp only [bStep, bDis, bS_bipush, aFz_eq, fG2_eq, zLe_eq, zAdd_eq] at hK
    exact bNx.go (cr := .int (Int8.ofInt z).toInt32 :: cs) rfl hX hM hl (by exact ⟨aFok.c0 hE, hs⟩) rfl hK
  | sipush z =>
    simp only [bStep, bDis, bS_sipush, aFz_eq, fG2_eq, zLe_eq, zAdd_eq] at hK
    exact bNx.go (cr := .int (Int16.ofInt z).toInt32 :: cs) rfl hX hM hl (by exact ⟨aFok.c0 hE, hs⟩) rfl hK
  | ldc z =>
    simp only [bStep, bDis, bS_ldc, fG2_eq, zLe_eq, zAdd_eq] at hK
    split at hK
    · rename_i v w hv
      rw [aFz_eq] at hK
      exact bNx.go (cr := .int v :: cs) (by simp only [pmStep, hv]; rfl) hX hM hl (by exact ⟨aFok.c0 hE, hs⟩) rfl hK
    · cases hK
  | ldc_w z =>
    simp only [bStep, bDis, bS_ldc_w, fG2_eq, zLe_eq, zAdd_eq] at hK
    split at hK
    · rename_i v w hv
      rw [aFz_eq] at hK
      exact bNx.go (cr := .int v :: cs) (by simp only [pmStep, hv]; rfl) hX hM hl (by exact ⟨aFok.c0 hE, hs⟩) rfl hK
    · cases hK
  | lconst z =>
    simp only [bStep, bDis, bS_lconst, aFz_eq, fG2_eq, zLe_eq, zAdd_eq] at hK
    exact bNx.go (cr := .long (Int64.ofNat z.val) :: cs) rfl hX hM hl (by exact ⟨aFok.c0 hE, hs⟩) rfl hK
  | ldc2_w z =>
    simp only [bStep, bDis, bS_ldc2_w, fG2_eq, zLe_eq, zAdd_eq] at hK
    split at hK
    · rename_i v w hv
      rw [aFz_eq] at hK
      exact bNx.go (cr := .long v :: cs) (by simp only [pmStep, hv]; rfl) hX hM hl (by exact ⟨aFok.c0 hE, hs⟩) rfl hK
    · cases hK
  | iload j =>
    simp only [bStep, bDis, bS_iload, fG2_eq, zLe_eq, zAdd_eq] at hK
    obtain ⟨a, v, h1, h2, h3⟩ := bLd1_ok hl hK
    split at h3
    · obtain ⟨x, rfl, hx⟩ := bVok_int h2
      exact bNx.go (cr := .int x :: cs) (by simp only [pmStep, h1]; rfl) hX hM hl (by exact ⟨hx, hs⟩) rfl h3
    · cases h3
  | iload_n j =>
    simp only [bStep, bDis, bS_iload_n, fG2_eq, zLe_eq, zAdd_eq] at hK
    obtain ⟨a, v, h1, h2, h3⟩ := bLd1_ok hl hK
    split at h3
    · obtain ⟨x, rfl, hx⟩ := bVok_int h2
      exact bNx.go (cr := .int x :: cs) (by simp only [pmStep, h1]; rfl) hX hM hl (by exact ⟨hx, hs⟩) rfl h3
    · cases h3
  | lload j =>
    simp only [bStep, bDis, bS_lload, fG2_eq, zLe_eq, zAdd_eq] at hK
    obtain ⟨a, v, h1, h2, h3⟩ := bLd1_ok hl hK
    split at h3
    · obtain ⟨x, rfl, hx⟩ := bVok_long h2
      exact bNx.go (cr := .long x :: cs) (by simp only [pmStep, h1]; rfl) hX hM hl (by exact ⟨hx, hs⟩) rfl h3
    · cases h3
  | lload_n j =>
    simp only [bStep, bDis, bS_lload_n, fG2_eq, zLe_eq, zAdd_eq] at hK
    obtain ⟨a, v, h1, h2, h3⟩ := bLd1_ok hl hK
    split at h3
    · obtain ⟨x, rfl, hx⟩ := bVok_long h2
      exact bNx.go (cr := .long x :: cs) (by simp only [pmStep, h1]; rfl) hX hM hl (by exact ⟨hx, hs⟩) rfl h3
    · cases h3
  | aload j =>
    simp only [bStep, bDis, bS_aload, fG2_eq, zLe_eq, zAdd_eq] at hK
    obtain ⟨a, v, h1, h2, h3⟩ := bLd1_ok hl hK
    split at h3
    · obtain ⟨q, rfl, hq⟩ := bVok_ref h2
      exact bNx.go (cr := .ref q :: cs) (by simp only [pmStep, h1]; rfl) hX hM hl (by exact ⟨hq, hs⟩) rfl h3
    · cases h3
  | aload_n j =>
    simp only [bStep, bDis, bS_aload_n, fG2_eq, zLe_eq, zAdd_eq] at hK
    obtain ⟨a, v, h1, h2, h3⟩ := bLd1_ok hl hK
    split at h3
    · obtain ⟨q, rfl, hq⟩ := bVok_ref h2
      exact bNx.go (cr := .ref q :: cs) (by simp only [pmStep, h1]; rfl) hX hM hl (by exact ⟨hq, hs⟩) rfl h3
    · cases h3
  | istore j =>
    simp only [bStep, bDis, bS_istore, fG2_eq, zLe_eq, zAdd_eq] at hK
    split at hK
    · obtain ⟨v, cr, rfl, hv, hr⟩ := bSok_cons hs
      obtain ⟨x, rfl, hx⟩ := bVok_int hv
      obtain ⟨hc, pl', h1, h2⟩ := bSt1_ok (a := .inl (false, _)) hl j (v := .int x) hx hK
      exact bNx.go (cr := cr) (by simp only [pmStep]; rw [if_pos hc]; rfl) hX hM h1 hr rfl h2
    · cases hK
  | istore_n j =>
    simp only [bStep, bDis, bS_istore_n, fG2_eq, zLe_eq, zAdd_eq] at hK
    split at hK
    · obtain ⟨v, cr, rfl, hv, hr⟩ := bSok_cons hs
      obtain ⟨x, rfl, hx⟩ := bVok_int hv
      obtain ⟨hc, pl', h1, h2⟩ := bSt1_ok (a := .inl (false, _)) hl j.val (v := .int x) hx hK
      exact bNx.go (cr := cr) (by simp only [pmStep]; rw [if_pos hc]; rfl) hX hM h1 hr rfl h2
    · cases hK
  | astore j =>
    simp only [bStep, bDis, bS_astore] at hK
    split at hK
    · rename_i ps r
      obtain ⟨v, cr, rfl, hv, hr⟩ := bSok_cons hs
      obtain ⟨q, rfl, hq⟩ := bVok_ref hv
      obtain ⟨hc, pl', h1, h2⟩ := bSt1_ok (a := .inr ps) (v := .ref q) hl j hq hK
      exact bNx.go (cr := cr) (by simp only [pmStep]; rw [if_pos hc]; rfl) hX hM h1 hr rfl h2
    · cases hK
  | astore_n j =>
    simp only [bStep, bDis, bS_astore_n] at hK
    split at hK
    · rename_i ps r
      obtain ⟨v, cr, rfl, hv, hr⟩ := bSok_cons hs
      obtain ⟨q, rfl, hq⟩ := bVok_ref hv
      obtain ⟨hc, pl', h1, h2⟩ := bSt1_ok (a := .inr ps) (v := .ref q) hl j.val hq hK
      exact bNx.go (cr := cr) (by simp only [pmStep]; rw [if_pos hc]; rfl) hX hM h1 hr rfl h2
    · cases hK
  | lstore j =>
    simp only [bStep, bDis, bS_lstore, fG2_eq, zLe_eq, zAdd_eq] at hK
    split at hK
    · obtain ⟨v, cr, rfl, hv, hr⟩ := bSok_cons hs
      obtain ⟨x, rfl, hx⟩ := bVok_long hv
      obtain ⟨hc, hK⟩ := aBif hK
      obtain ⟨hc0, pl', h1, h2⟩ := bSt2_ok (a := .inl (true, _)) hl j (v := .long x) hx hK
      exact bNx.go (cr := cr) (by simp only [pmStep]; rw [if_pos ⟨hc0, hc⟩]; rfl) hX hM h1 hr rfl h2
    · cases hK
  | lstore_n j =>
    simp only [bStep, bDis, bS_lstore_n, fG2_eq, zLe_eq, zAdd_eq] at hK
    split at hK
    · obtain ⟨v, cr, rfl, hv, hr⟩ := bSok_cons hs
      obtain ⟨x, rfl, hx⟩ := bVok_long hv
      obtain ⟨hc, hK⟩ := aBif hK
      obtain ⟨hc0, pl', h1, h2⟩ := bSt2_ok (a := .inl (true, _)) hl j.val (v := .long x) hx hK
      exact bNx.go (cr := cr) (by simp only [pmStep]; rw [if_pos ⟨hc0, hc⟩]; rfl) hX hM h1 hr rfl h2
    · cases hK
  | iinc j z =>
    simp only [bStep, bDis, bS_iinc, fG2_eq, zLe_eq, zAdd_eq] at hK
    obtain ⟨a, v, h1, h2, h3⟩ := bLd1_ok hl hK
    split at h3
    · obtain ⟨x, rfl, hx⟩ := bVok_int h2
      obtain ⟨E', ρ', g, e1, e2, e3, e4, e5⟩ := aAdd32_ok (b := Int32.ofInt z) hE hx (aFok.c0 hE) h3
      obtain ⟨-, pl', l1, l2⟩ := bSt1_ok (a := .inl (false, _)) (hl.ext e1 e2) j (v := .int (x + Int32.ofInt z)) e4 e5
      exact ⟨pc + 3, _, cs, σ, (E', X.2), M, pl', st, ρ', by simp only [pmStep, h1]; rfl, e1, e2, hX.ext e1 e2 e3, hM.ext e1 e2, l1, hs.ext e1 e2, l2⟩
    · cases h3
  | iadd => exact bBin_i hX hM hl hs (cop := (· + ·)) (fun K f g a b ha hb h => aAdd32_ok hE ha hb h) (fun _ _ _ => rfl) hK
  | isub => exact bBin_i hX hM hl hs (cop := (· - ·)) (fun K f g a b ha hb h => aSub32_ok hE ha hb h) (fun _ _ _ => rfl) hK
  | imul => exact bBin_i hX hM hl hs (cop := (· * ·)) (fun K f g a b ha hb h => aOp_ok bRu_mul hE ha hb h) (fun _ _ _ => rfl) hK
  | iand => exact bBin_i hX hM hl hs (cop := (· &&& ·)) (fun K f g a b ha hb h => aOp_ok aRu_and32 hE ha hb h) (fun _ _ _ => rfl) hK
  | ior => exact bBin_i hX hM hl hs (cop := (· ||| ·)) (fun K f g a b ha hb h => aOp_ok (aRu32_top _) hE ha hb h) (fun _ _ _ => rfl) hK
  | ixor => exact bBin_i hX hM hl hs (cop := (· ^^^ ·)) (fun K f g a b ha hb h => aOp_ok (aRu32_top _) hE ha hb h) (fun _ _ _ => rfl) hK
  | ishl => exact bBin_i (op := aOp (fun x y => x <<< (y &&& 31)) fun _ _ => aT32) hX hM hl hs (cop := fun x y => x <<< (y &&& 31)) (fun K f g a b ha hb h => aOp_ok (op := fun x y => x <<< (y &&& 31)) (aRu32_top _) hE ha hb h) (fun _ _ _ => rfl) hK
  | ishr => exact bBin_i (op := aOp (fun x y => x >>> (y &&& 31)) bShrR) hX hM hl hs (cop := fun x y => x >>> (y &&& 31)) (fun K f g a b ha hb h => aOp_ok (op := fun x y => x >>> (y &&& 31)) bRu_shr hE ha hb h) (fun _ _ _ => rfl) hK
  | iushr => exact bBin_i (op := aOp (fun x y => (x.toUInt32 >>> (y.toUInt32 &&& Int32.toUInt32 31)).toInt32) fun _ _ => aT32) hX hM hl hs (cop := fun x y => (x.toUInt32 >>> (y.toUInt32 &&& Int32.toUInt32 31)).toInt32) (fun K f g a b ha hb h => aOp_ok (op := fun x y => (x.toUInt32 >>> (y.toUInt32 &&& Int32.toUInt32 31)).toInt32) (aRu32_top _) hE ha hb h) (fun _ _ _ => rfl) hK
  | ladd => exact bBin_l hX hM hl hs (cop := (· + ·)) (fun K f g a b ha hb h => aAdd64_ok hE ha hb h) (fun _ _ _ => rfl) hK
  | lmul => exact bBin_l hX hM hl hs (cop := (· * ·)) (fun K f g a b ha hb h => aOq_ok bRu_mul64 hE ha hb h) (fun _ _ _ => rfl) hK
  | land => exact bBin_l hX hM hl hs (cop := (· &&& ·)) (fun K f g a b ha hb h => aOq_ok aRu_and64 hE ha hb h) (fun _ _ _ => rfl) hK
  | lor => exact bBin_l hX hM hl hs (cop := (· ||| ·)) (fun K f g a b ha hb h => aOq_ok (aRu64_top _) hE ha hb h) (fun _ _ _ => rfl) hK
  | lxor => exact bBin_l hX hM hl hs (cop := (· ^^^ ·)) (fun K f g a b ha hb h => aOq_ok (aRu64_top _) hE ha hb h) (fun _ _ _ => rfl) hK
  | lshl =>
    simp only [bStep, bDis, bS_lshl, fG2_eq, zLe_eq, zAdd_eq] at hK
    split at hK
    · obtain ⟨v1, c1, rfl, w1, hr1⟩ := bSok_cons hs
      obtain ⟨v2, c2, rfl, w2, hr2⟩ := bSok_cons hr1
      obtain ⟨y, rfl, hy⟩ := bVok_int w1
      obtain ⟨x, rfl, hx⟩ := bVok_long w2
      exact bNx.gl (w := x <<< (y.toInt64 &&& 63)) rfl hX hM hl hr2 rfl (aOs_ok (aRuS_top _) hE hx hy hK)
    · cases hK
  | lushr =>
    simp only [bStep, bDis, bS_lushr, fG2_eq, zLe_eq, zAdd_eq] at hK
    split at hK
    · obtain ⟨v1, c1, rfl, w1, hr1⟩ := bSok_cons hs
      obtain ⟨v2, c2, rfl, w2, hr2⟩ := bSok_cons hr1
      obtain ⟨y, rfl, hy⟩ := bVok_int w1
      obtain ⟨x, rfl, hx⟩ := bVok_long w2
      exact bNx.gl (w := (x.toUInt64 >>> (y.toInt64.toUInt64 &&& Int64.toUInt64 63)).toInt64) rfl hX hM hl hr2 rfl (aOs_ok bRu_ush hE hx hy hK)
    · cases hK
  | lcmp =>
    simp only [bStep, bDis, bS_lcmp, fG2_eq, zLe_eq, zAdd_eq] at hK
    split at hK
    · obtain ⟨v1, c1, rfl, w1, hr1⟩ := bSok_cons hs
      obtain ⟨v2, c2, rfl, w2, hr2⟩ := bSok_cons hr1
      obtain ⟨y, rfl, hy⟩ := bVok_long w1
      obtain ⟨x, rfl, hx⟩ := bVok_long w2
      obtain ⟨g1, g2, g3⟩ := aLg_cmp x y
      obtain ⟨k1, k2⟩ := aIf_ok hX hx hy hK
      by_cases e : x.toInt = y.toInt
      · obtain ⟨Y, y1, y2, y3⟩ := k1 e
        exact bNx.gx (X := X) (r := bI0 0 :: _) (cr := .int 0 :: c2) (by rw [← g1 e]; rfl) ⟨Y, y1, y2, y3⟩ (fun _ h => h) hM hl (by exact ⟨aFok.c0 hE, hr2⟩)
      · obtain ⟨Y, y1, y2, y3⟩ := k2 e
        obtain ⟨k3, k4⟩ := aIf_ok y2 (by rw [y1]; exact hx) (by rw [y1]; exact hy) y3
        by_cases e2 : x.toInt < y.toInt
        · exact bNx.gx (X := X) (r := bI0 (-1) :: _) (cr := .int (-1) :: c2) (by rw [← g2 e2]; rfl) ((k3 e2).tr y1) (fun _ h => h) hM hl (by exact ⟨aFok.c0 hE, hr2⟩)
        · exact bNx.gx (X := X) (r := bI0 1 :: _) (cr := .int 1 :: c2) (by rw [← g3 (by omega)]; rfl) ((k4 e2).tr y1) (fun _ h => h) hM hl (by exact ⟨aFok.c0 hE, hr2⟩)
    · cases hK
  | i2l =>
    simp only [bStep, bDis, bS_i2l, fG2_eq, zLe_eq, zAdd_eq] at hK
    split at hK
    · obtain ⟨v1, c1, rfl, w1, hr1⟩ := bSok_cons hs
      obtain ⟨x, rfl, hx⟩ := bVok_int w1
      exact bNx.go (cr := .long x.toInt64 :: c1) rfl hX hM hl (by exact ⟨by rw [← Int32.toInt_toInt64] at hx; exact hx, hr1⟩) rfl hK
    · cases hK
  | l2i =>
    simp only [bStep, bDis, bS_l2i, fG2_eq, zLe_eq, zAdd_eq] at hK
    split at hK
    · obtain ⟨v1, c1, rfl, w1, hr1⟩ := bSok_cons hs
      obtain ⟨x, rfl, hx⟩ := bVok_long w1
      exact bNx.gi (w := x.toInt32) rfl hX hM hl hr1 rfl (aKeep_ok hE hx (fun a1 a2 => by rw [Int64.toInt_toInt32]; exact aBm32 a1 a2) (aB32 _) hK)
    · cases hK
  | i2b =>
    simp only [bStep, bDis, bS_i2b, fG2_eq, zLe_eq, zAdd_eq] at hK
    split at hK
    · obtain ⟨v1, c1, rfl, w1, hr1⟩ := bSok_cons hs
      obtain ⟨x, rfl, hx⟩ := bVok_int w1
      exact bNx.gi (w := x.toInt8.toInt32) rfl hX hM hl hr1 rfl (aKeep_by hE hx hK)
    · cases hK
  | dup =>
    simp only [bStep, bDis, bS_dup, fG2_eq, zLe_eq, zAdd_eq] at hK
    split at hK
    · obtain ⟨v1, c1, rfl, w1, hr1⟩ := bSok_cons hs
      obtain ⟨hc, hK⟩ := aBif hK
      have e := (bVok_cat w1).trans (Nat.eq_of_beq_eq_true hc)
      exact bNx.go (cr := v1 :: v1 :: c1) (by simp only [pmStep]; rw [if_pos e]; rfl) hX hM hl (by exact ⟨w1, w1, hr1⟩) rfl hK
    · cases hK
  | dup2 =>
    simp only [bStep, bDis, bS_dup2, fG2_eq, zLe_eq, zAdd_eq] at hK
    split at hK
    · obtain ⟨v1, c1, rfl, w1, hr1⟩ := bSok_cons hs
      obtain ⟨v2, c2, rfl, w2, hr2⟩ := bSok_cons hr1
      obtain ⟨hc, hK⟩ := aBif hK
      rw [Bool.and_eq_true] at hc
      have e1 := (bVok_cat w1).trans (Nat.eq_of_beq_eq_true hc.1)
      have e2 := (bVok_cat w2).trans (Nat.eq_of_beq_eq_true hc.2)
      exact bNx.go (cr := v1 :: v2 :: v1 :: v2 :: c2) (by simp only [pmStep]; rw [if_pos ⟨e1, e2⟩]; rfl) hX hM hl (by exact ⟨w1, w2, w1, w2, hr2⟩) rfl hK
    · cases hK
  | pop =>
    simp only [bStep, bDis, bS_pop, fG2_eq, zLe_eq, zAdd_eq] at hK
    split at hK
    · obtain ⟨v1, c1, rfl, w1, hr1⟩ := bSok_cons hs
      obtain ⟨hc, hK⟩ := aBif hK
      have e := (bVok_cat w1).trans (Nat.eq_of_beq_eq_true hc)
      exact bNx.go (cr := c1) (by simp only [pmStep]; rw [if_pos e]; rfl) hX hM hl hr1 rfl hK
    · cases hK
  | ifCond c off =>
    simp only [bStep, bDis, bS_ifCond, fG2_eq, zLe_eq, zAdd_eq] at hK
    split at hK
    · obtain ⟨v1, c1, rfl, w1, hr1⟩ := bSok_cons hs
      obtain ⟨x, rfl, hx⟩ := bVok_int w1
      have h0 : (0 : Int32).toInt = 0 := rfl
      cases c with
      | eq => exact bNx.br (C := x = 0) (y := 0) rfl (by show x = 0 ↔ x.toInt = 0; rw [aEq32, h0]) hX hM hl hr1 hx (aFok.c0 hE) hK
      | ne => exact bNx.br (C := ¬ x = 0) (y := 0) rfl (by show (¬ x = 0) ↔ x.toInt ≠ 0; rw [aEq32, h0]) hX hM hl hr1 hx (aFok.c0 hE) hK
      | lt => exact bNx.br (C := x < 0) (y := 0) rfl (by show x < 0 ↔ x.toInt < 0; rw [aLt32, h0]) hX hM hl hr1 hx (aFok.c0 hE) hK
      | ge => exact bNx.br (C := 0 ≤ x) (y := 0) rfl (by show 0 ≤ x ↔ 0 ≤ x.toInt; rw [aLe32, h0]) hX hM hl hr1 hx (aFok.c0 hE) hK
      | gt => exact bNx.br (C := 0 < x) (y := 0) rfl (by show 0 < x ↔ 0 < x.toInt; rw [aLt32, h0]) hX hM hl hr1 hx (aFok.c0 hE) hK
      | le => exact bNx.br (C := x ≤ 0) (y := 0) rfl (by show x ≤ 0 ↔ x.toInt ≤ 0; rw [aLe32, h0]) hX hM hl hr1 hx (aFok.c0 hE) hK
    · cases hK
  | if_icmp c off =>
    simp only [bStep, bDis, bS_if_icmp, fG2_eq, zLe_eq, zAdd_eq] at hK
    split at hK
    · obtain ⟨v1, c1, rfl, w1, hr1⟩ := bSok_cons hs
      obtain ⟨v2, c2, rfl, w2, hr2⟩ := bSok_cons hr1
      obtain ⟨y, rfl, hy⟩ := bVok_int w1
      obtain ⟨x, rfl, hx⟩ := bVok_int w2
      cases c with
      | eq => exact bNx.br (C := x = y) rfl aEq32 hX hM hl hr2 hx hy hK
      | ne => exact bNx.br (C := ¬ x = y) rfl (by show (¬ x = y) ↔ x.toInt ≠ y.toInt; rw [aEq32]) hX hM hl hr2 hx hy hK
      | lt => exact bNx.br (C := x < y) rfl aLt32 hX hM hl hr2 hx hy hK
      | ge => exact bNx.br (C := y ≤ x) rfl aLe32 hX hM hl hr2 hx hy hK
      | gt => exact bNx.br (C := y < x) rfl aLt32 hX hM hl hr2 hx hy hK
      | le => exact bNx.br (C := x ≤ y) rfl aLe32 hX hM hl hr2 hx hy hK
    · cases hK
  | goto off =>
    simp only [bStep, bDis, bS_goto, fG2_eq, zLe_eq, zAdd_eq] at hK
    obtain ⟨t, ht, hK⟩ := aJp_ok hK
    exact bNx.go (cr := cs) (by simp only [pmStep]; exact pmJp_eq ht) hX hM hl hs rfl hK
  | tableswitch d lo hi offs =>
    simp only [bStep, bDis, bS_tableswitch, fG2_eq, zLe_eq, zAdd_eq] at hK
    split at hK
    · obtain ⟨v1, c1, rfl, w1, hr1⟩ := bSok_cons hs
      obtain ⟨x, rfl, hx⟩ := bVok_int w1
      obtain ⟨hc, hK⟩ := aBif hK
      have hlen := of_decide_eq_true hc
      obtain ⟨t, ht, hg⟩ := aSw_ok _ X hX hx hK
      have e := aTab_off lo d x.toInt offs.toList 0
      simp only [Nat.add_zero, Int.natCast_zero, Int.add_zero, Int.sub_zero] at e
      rw [e] at ht
      refine bNx.gx (cr := c1) ?_ hg (fun _ h => h) hM hl hr1
      simp only [pmStep]
      by_cases h : x.toInt < lo ∨ hi < x.toInt
      · rw [if_pos h]
        rw [if_pos (by omega)] at ht
        exact pmJp_eq ht
      · rw [if_neg h]
        rw [if_neg (by omega)] at ht
        have hlt : (x.toInt - lo).toNat < offs.toList.length := by omega
        rw [List.getElem?_eq_getElem hlt] at ht
        have e2 : offs[(x.toInt - lo).toNat]? = some (offs.toList[(x.toInt - lo).toNat]) := by rw [← Array.getElem?_toList, List.getElem?_eq_getElem hlt]
        rw [e2]
        exact pmJp_eq ht
    · cases hK
  | lookupswitch d ps =>
    simp only [bStep, bDis, bS_lookupswitch, fG2_eq, zLe_eq, zAdd_eq] at hK
    split at hK
    · obtain ⟨v1, c1, rfl, w1, hr1⟩ := bSok_cons hs
      obtain ⟨x, rfl, hx⟩ := bVok_int w1
      obtain ⟨hc, hK⟩ := aBif hK
      obtain ⟨t, ht, hg⟩ := aSw_ok _ X hX hx hK
      refine bNx.gx (cr := c1) ?_ hg (fun _ h => h) hM hl hr1
      simp only [pmStep]
      rw [if_pos hc]
      exact pmJp_eq ht
    · cases hK
  | getfield j =>
    simp only [bStep, bDis, bS_getfield] at hK
    split at hK
    · rename_i ci fk w1 w2 hF
      split at hK
      · rename_i ps r
        obtain ⟨v1, c1, rfl, w1, hr1⟩ := bSok_cons hs
        obtain ⟨p, rfl, hp⟩ := bVok_ref w1
        obtain ⟨hc, hK⟩ := aBif hK
        obtain ⟨⟨n0, rs⟩, hZ, hT⟩ := bKc_ok hM.1 (bAll_ok hc p hp)
        split at hK
        · rename_i hkd
          exact bNx.gh (tg := false) (w := .int (σ.2.1 p fk)) (by simp only [pmStep, hF, hZ, pmRd, hkd, if_true]; rfl) hX hM hl hr1 (fun _ _ _ h => h) (bGf_ok hX hM hp (bZi (bLo_k hT hkd (by decide))) hK)
        · rename_i hkd
          exact bNx.gh (tg := false) (w := .int (σ.2.1 p fk)) (by simp only [pmStep, hF, hZ, pmRd, hkd, if_true]; rfl) hX hM hl hr1 (fun _ _ _ h => h) (bGf_ok hX hM hp (bZi (bLo_k hT hkd (by decide))) hK)
        · rename_i hkd
          exact bNx.gh (tg := true) (w := .long (σ.2.2 p fk)) (by simp only [pmStep, hF, hZ, pmRd, hkd, if_true]; rfl) hX hM hl hr1 (fun _ _ _ h => h) (bGf_ok hX hM hp (bZl (bLo_k hT hkd (by decide))) hK)
        · rename_i hkd
          split at hK
          · rename_i qs hqs
            obtain ⟨q, hq1, hq2⟩ := bMp_ok hqs p hp
            have hrf : pmRf rs fk = some q := by
              unfold bRf at hq1
              rw [fG2_eq, hT] at hq1
              exact hq1
            exact bNx.go (cr := .ref q :: c1) (by simp only [pmStep, hF, hZ, pmRd, hkd, if_true, hrf]; rfl) hX hM hl (by exact ⟨hq2, hr1⟩) rfl hK
          · cases hK
        · cases hK
      · cases hK
    · cases hK
  | putfield j =>
    simp only [bStep, bDis, bS_putfield] at hK
    split at hK
    · rename_i ci fk w1 nst hF
      split at hK
      · rename_i v ps r
        obtain ⟨v1, c1, rfl, w1, hr1⟩ := bSok_cons hs
        obtain ⟨v2, c2, rfl, w2, hr2⟩ := bSok_cons hr1
        obtain ⟨p, rfl, hp⟩ := bVok_ref w2
        obtain ⟨hc, hK⟩ := aBif hK
        rw [Bool.and_eq_true] at hc
        obtain ⟨⟨n0, rs⟩, hZ, hT⟩ := bKc_ok hM.1 (bAll_ok hc.1 p hp)
        have hfin : ¬ pmFn ci fk = true := fun e => by rw [e] at hc; cases hc.2
        have hcond : True ∧ (pmFn ci fk = true → nst = false ∧ o = ci ∧ rt = 4) := ⟨trivial, fun e => absurd e hfin⟩
        split at hK
        · rename_i f hkd _
          obtain ⟨x, rfl, hx⟩ := bVok_int w1
          obtain ⟨M', h1, h2⟩ := bPf_oki hKp hX hM hp (bLo_k hT hkd (by decide)) hx hK
          exact bNx.go (cr := c2) (by simp only [pmStep, hF, hZ]; rw [if_pos hcond]; simp only [pmWr, hkd]; rfl) hX h1 hl hr2 rfl h2
        · rename_i f hkd _
          obtain ⟨x, rfl, hx⟩ := bVok_int w1
          split at hK
          · rename_i i hi
            rw [zLe_eq, zLe_eq, zAnd, zIf] at hK
            split at hK
            · rename_i hb
              obtain ⟨M', h1, h2⟩ := bPf_oki hKp hX hM hp (bLo_k hT hkd (by decide)) hx hK
              have hv := aItv_ok hE hx hi
              have h0 : (0 : Int32).toInt = 0 := rfl
              have h10 : (1 : Int32).toInt = 1 := rfl
              have hzo : x = 0 ∨ x = 1 := by
                rw [aEq32, aEq32, h0, h10]
                omega
              exact bNx.go (cr := c2) (by simp only [pmStep, hF, hZ]; rw [if_pos hcond]; simp only [pmWr, hkd]; rw [if_pos hzo]; rfl) hX h1 hl hr2 rfl h2
            · cases hK
          · cases hK
        · rename_i f hkd _
          obtain ⟨x, rfl, hx⟩ := bVok_long w1
          obtain ⟨M', h1, h2⟩ := bPf_okl hKp hX hM hp (bLo_k hT hkd (by decide)) hx hK
          exact bNx.go (cr := c2) (by simp only [pmStep, hF, hZ]; rw [if_pos hcond]; simp only [pmWr, hkd]; rfl) hX h1 hl hr2 rfl h2
        · cases hK
      · cases hK
    · cases hK
  | getstatic j =>
    simp only [bStep, bDis, bS_getstatic] at hK
    split at hK
    · rename_i w1 hG
      exact bNx.go (cr := .ref 1000 :: cs) (by simp only [pmStep, hG]; rfl) hX hM hl (by exact ⟨List.mem_singleton.mpr rfl, hs⟩) rfl hK
    · cases hK
  | iaload =>
    simp only [bStep, bDis, bS_iaload] at hK
    split at hK
    · rename_i f ps r
      obtain ⟨v1, c1, rfl, w1, hr1⟩ := bSok_cons hs
      obtain ⟨v2, c2, rfl, w2, hr2⟩ := bSok_cons hr1
      obtain ⟨x, rfl, hx⟩ := bVok_int w1
      split at hK
      · rename_i p
        cases bVok_one w2
        cases hb : Nat.beq p 1000 with
        | true =>
          rw [hb] at hK
          simp only [cond_true] at hK
          have e := Nat.eq_of_beq_eq_true hb
          obtain ⟨hc, hK⟩ := aBif hK
          obtain ⟨hin, -⟩ := aAt_ok hX hx hc
          exact bNx.go (cr := .int 1 :: c2) (by subst hro; simp only [pmStep]; rw [e, if_pos (Nat.le_refl _)]; rw [if_pos (show pmIn x (pmRo Ln xs 1000).1 from hin)]; rfl) hX hM hl (by exact ⟨aFok.c0 hE, hr2⟩) rfl hK
        | false =>
          rw [hb] at hK
          simp only [cond_false] at hK
          cases hb2 : Nat.beq p 1001 with
          | true =>
            rw [hb2] at hK
            simp only [cond_true] at hK
            have e := Nat.eq_of_beq_eq_true hb2
            split at hK
            · rename_i i u hi hu
              rw [zLe_eq, zLe_eq, zAdd_eq, zAnd, zIf] at hK
              split at hK
              · rename_i hc
                have hv := aItv_ok hE hx hi
                have hub := aUb_ok hX hx (g := (1, 0)) (y := L.1) ⟨hE.1.2.2, by show L.1 = ρ 1 + 0; rw [hE.1.2.1]; omega⟩ hu
                have hL1 : L.1 = (Ln : Int) := by rw [hL]
                have hin : pmIn x (pmRo Ln xs 1001).1 := by
                  show ¬ (x < 0 ∨ Ln ≤ x.toNatClampNeg)
                  rw [aLt32, aTn rfl]
                  have h0 : (0 : Int32).toInt = 0 := rfl
                  omega
                have hst : pmStep ro (fun _ _ _ => none) o m rt pc .iaload cl (.int x :: .ref p :: c2) σ = some (.inr (pc + 1, cl, .int (xs x.toNatClampNeg) :: c2, σ)) := by
                  subst hro; simp only [pmStep]; rw [e, if_pos (by decide)]; rw [if_pos hin]; rfl
                have eL : L.2 x.toInt.toNat = xs x.toNatClampNeg := by rw [hL]; rfl
                split at hK
                · rename_i g hg
                  have hgo := aSf_ok _ hX.2.2 hx hg
                  rw [eL] at hgo
                  exact bNx.go hst hX hM hl (by exact ⟨hgo, hr2⟩) rfl hK
                · obtain ⟨E', ρ', g, e1, e2, e3, e4, e5⟩ := aNew_ok (z := (xs x.toNatClampNeg).toInt) hE (aB32 _).1 (aB32 _).2 hK
                  have hX' := hX.ext e1 e2 e3
                  exact ⟨_, _, _, σ, (E', X.2.1, (f, g) :: X.2.2), M, pl, .inl (false, g) :: r, ρ', hst, e1, e2, ⟨hX'.1, hX'.2.1, aSk_cons hX'.2.2 (hx.ext e1 e2) (by rw [eL]; exact e4)⟩, hM.ext e1 e2, hl.ext e1 e2, ⟨e4, hr2.ext e1 e2⟩, e5⟩
              · cases hK
            · cases hK
          | false =>
            rw [hb2] at hK
            simp only [cond_false] at hK
            obtain ⟨hc, hK⟩ := aBif hK
            rw [Bool.and_eq_true] at hc
            obtain ⟨s0, rs, hZ, hT, hin, hx0⟩ := bRow_ok hM.1 hX hx hc.1
            have hp := Nat.le_of_ble_eq_true hc.2
            exact bNx.gh (tg := false) (w := .int (σ.2.1 p x.toNatClampNeg)) (by simp only [pmStep]; rw [if_neg (show ¬ 1000 ≤ p by omega)]; simp only [hZ]; rw [if_pos ⟨trivial, hin⟩]; rfl) hX hM hl hr2 (fun _ _ _ h => h) (bGr_ok hX hM (List.mem_singleton.mpr rfl) (bZi (bLo_r hT (by decide) _)) hx (aTn rfl).symm hK)
      · obtain ⟨p, rfl, hp⟩ := bVok_ref w2
        obtain ⟨hc, hK⟩ := aBif hK
        have hc := bAll_ok hc p hp
        rw [Bool.and_eq_true] at hc
        obtain ⟨s0, rs, hZ, hT, hin, hx0⟩ := bRow_ok hM.1 hX hx hc.1
        have hple := Nat.le_of_ble_eq_true hc.2
        have hnp : ¬ 1000 ≤ p := fun h => absurd (Nat.le_trans h hple) (by decide)
        exact bNx.gh (tg := false) (w := .int (σ.2.1 p x.toNatClampNeg)) (by simp only [pmStep]; rw [if_neg hnp]; simp only [hZ]; rw [if_pos ⟨trivial, hin⟩]; rfl) hX hM hl hr2 (fun _ _ _ h => h) (bGr_ok hX hM hp (bZi (bLo_r hT (by decide) _)) hx (aTn rfl).symm hK)
    · cases hK
  | laload =>
    simp only [bStep, bDis, bS_laload] at hK
    split at hK
    · rename_i f ps r
      obtain ⟨v1, c1, rfl, w1, hr1⟩ := bSok_cons hs
      obtain ⟨v2, c2, rfl, w2, hr2⟩ := bSok_cons hr1
      obtain ⟨x, rfl, hx⟩ := bVok_int w1
      obtain ⟨p, rfl, hp⟩ := bVok_ref w2
      obtain ⟨hc, hK⟩ := aBif hK
      obtain ⟨s0, rs, hZ, hT, hin, hx0⟩ := bRow_ok hM.1 hX hx (bAll_ok hc p hp)
      exact bNx.gh (tg := true) (w := .long (σ.2.2 p x.toNatClampNeg)) (by simp only [pmStep, hZ]; rw [if_pos ⟨trivial, hin⟩]; rfl) hX hM hl hr2 (fun _ _ _ h => h) (bGr_ok hX hM hp (bZl (bLo_r hT (by decide) _)) hx (aTn rfl).symm hK)
    · cases hK
  | baload =>
    simp only [bStep, bDis, bS_baload] at hK
    split at hK
    · rename_i f ps r
      obtain ⟨v1, c1, rfl, w1, hr1⟩ := bSok_cons hs
      obtain ⟨v2, c2, rfl, w2, hr2⟩ := bSok_cons hr1
      obtain ⟨x, rfl, hx⟩ := bVok_int w1
      obtain ⟨p, rfl, hp⟩ := bVok_ref w2
      obtain ⟨hc, hK⟩ := aBif hK
      obtain ⟨c0, s0, rs, h50, hZ, hT, hin⟩ := bRw2_ok hM.1 hX hx (bAll_ok hc p hp)
      exact bNx.gh (tg := false) (w := .int (σ.2.1 p x.toNatClampNeg)) (by simp only [pmStep, hZ]; rw [if_pos ⟨h50, hin⟩]; rfl) hX hM hl hr2 (fun _ _ _ h => h) (bGr_ok hX hM hp (bZi (by rcases h50 with rfl | rfl <;> exact bLo_r hT (by decide) _)) hx (aTn rfl).symm hK)
    · cases hK
  | aaload =>
    simp only [bStep, bDis, bS_aaload] at hK
    split at hK
    · rename_i f p r
      obtain ⟨v1, c1, rfl, w1, hr1⟩ := bSok_cons hs
      obtain ⟨v2, c2, rfl, w2, hr2⟩ := bSok_cons hr1
      obtain ⟨x, rfl, hx⟩ := bVok_int w1
      cases bVok_one w2
      obtain ⟨hc, hK⟩ := aBif hK
      obtain ⟨s0, rs, hZ, hT, hin, hx0⟩ := bRow_ok hM.1 hX hx hc
      split at hK
      · rename_i i hi
        have hv := aItv_ok hE hx hi
        split at hK
        · rename_i l hl0
          obtain ⟨q, hq1, hq2⟩ := bRfs_ok _ _ _ hl0 x.toNatClampNeg (by rw [aTn rfl]; omega) (by rw [aTn rfl]; omega)
          have hrf : pmRf rs x.toNatClampNeg = some q := by
            unfold bRf at hq1
            rw [fG2_eq, hT] at hq1
            exact hq1
          exact bNx.go (cr := .ref q :: c2) (by simp only [pmStep, hZ]; rw [if_pos ⟨trivial, hin⟩, hrf]; rfl) hX hM hl (by exact ⟨hq2, hr2⟩) rfl hK
        · cases hK
      · cases hK
    · cases hK
  | iastore =>
    simp only [bStep, bDis, bS_iastore] at hK
    split at hK
    · rename_i g f ps r
      obtain ⟨v0, c0, rfl, w0, hr0⟩ := bSok_cons hs
      obtain ⟨v1, c1, rfl, w1, hr1⟩ := bSok_cons hr0
      obtain ⟨v2, c2, rfl, w2, hr2⟩ := bSok_cons hr1
      obtain ⟨y, rfl, hy⟩ := bVok_int w0
      obtain ⟨x, rfl, hx⟩ := bVok_int w1
      obtain ⟨p, rfl, hp⟩ := bVok_ref w2
      obtain ⟨hc, hK⟩ := aBif hK
      obtain ⟨s0, rs, hZ, hT, hin, hx0⟩ := bRow_ok hM.1 hX hx (bAll_ok hc p hp)
      exact bPt_oki hKp (by simp only [pmStep, hZ]; rw [if_pos ⟨trivial, hin⟩]; rfl) hX hM hl hr2 hp (bLo_r hT (by decide)) hx hx0 (Nat.le_refl _) aExt.rf hE hy hK
    · cases hK
  | lastore =>
    simp only [bStep, bDis, bS_lastore] at hK
    split at hK
    · rename_i g f ps r
      obtain ⟨v0, c0, rfl, w0, hr0⟩ := bSok_cons hs
      obtain ⟨v1, c1, rfl, w1, hr1⟩ := bSok_cons hr0
      obtain ⟨v2, c2, rfl, w2, hr2⟩ := bSok_cons hr1
      obtain ⟨y, rfl, hy⟩ := bVok_long w0
      obtain ⟨x, rfl, hx⟩ := bVok_int w1
      obtain ⟨p, rfl, hp⟩ := bVok_ref w2
      obtain ⟨hc, hK⟩ := aBif hK
      obtain ⟨s0, rs, hZ, hT, hin, hx0⟩ := bRow_ok hM.1 hX hx (bAll_ok hc p hp)
      exact bPt_okl hKp (by simp only [pmStep, hZ]; rw [if_pos ⟨trivial, hin⟩]; rfl) hX hM hl hr2 hp (bLo_r hT (by decide)) hx hx0 (Nat.le_refl _) aExt.rf hE hy hK
    · cases hK
  | bastore =>
    simp only [bStep, bDis, bS_bastore] at hK
    split at hK
    · rename_i g f p r
      obtain ⟨v0, c0, rfl, w0, hr0⟩ := bSok_cons hs
      obtain ⟨v1, c1, rfl, w1, hr1⟩ := bSok_cons hr0
      obtain ⟨v2, c2, rfl, w2, hr2⟩ := bSok_cons hr1
      obtain ⟨y, rfl, hy⟩ := bVok_int w0
      obtain ⟨x, rfl, hx⟩ := bVok_int w1
      cases bVok_one w2
      cases hb : bRow 52 X f p with
      | true =>
        rw [hb] at hK
        simp only [cond_true] at hK
        obtain ⟨s0, rs, hZ, hT, hin, hx0⟩ := bRow_ok hM.1 hX hx hb
        obtain ⟨E', ρ', g', e1, e2, e3, e4, e5⟩ := aKeep_zo hE hy hK
        exact bPt_oki hKp (by simp only [pmStep, hZ]; rw [if_pos ⟨trivial, hin⟩]; rfl) hX hM hl hr2 (List.mem_singleton.mpr rfl) (bLo_r hT (by decide)) hx hx0 e1 e2 e3 e4 e5
      | false =>
        rw [hb] at hK
        simp only [cond_false] at hK
        obtain ⟨hb2, hK⟩ := aBif hK
        obtain ⟨s0, rs, hZ, hT, hin, hx0⟩ := bRow_ok hM.1 hX hx hb2
        obtain ⟨E', ρ', g', e1, e2, e3, e4, e5⟩ := aKeep_by hE hy hK
        exact bPt_oki (w := vp_nar .byte y) hKp (by simp only [pmStep, hZ]; rw [if_neg (fun h => absurd h.1 (by decide)), if_pos ⟨trivial, hin⟩]; rfl) hX hM hl hr2 (List.mem_singleton.mpr rfl) (bLo_r hT (by decide)) hx hx0 e1 e2 e3 e4 e5
    · cases hK
  | arraylength =>
    simp only [bStep, bDis, bS_arraylength, fG2_eq, zLe_eq, zAdd_eq] at hK
    split at hK
    · rename_i p r
      obtain ⟨v0, c0, rfl, w0, hr0⟩ := bSok_cons hs
      cases bVok_one w0
      obtain ⟨hc, hK⟩ := aBif hK
      have e := Nat.eq_of_beq_eq_true hc
      have hlen : aFok X.1.length ρ (1, 0) (Int32.ofNat Ln).toInt := ⟨hE.1.2.2, by
        show (Int32.ofNat Ln).toInt = ρ 1 + 0
        rw [hE.1.2.1, Int32.toInt_ofNat_of_lt (by omega), hL]
        show (Ln : Int) = (Ln : Int) + 0
        omega⟩
      exact bNx.go (cr := .int (Int32.ofNat Ln) :: c0) (by subst hro; simp only [pmStep]; rw [if_pos ⟨e, rfl⟩, e]; rfl) hX hM hl (by exact ⟨hlen, hr0⟩) rfl hK
    · cases hK
  | invokestatic j =>
    simp only [bStep, bDis, bS_invokestatic] at hK
    split at hK
    · rename_i mm y1 y2 hMM
      cases hb : Nat.beq mm 9000 with
      | true =>
        rw [hb] at hK
        simp only [cond_true] at hK
        have e := Nat.eq_of_beq_eq_true hb
        split at hK
        · rename_i fn fd bs fs as r
          obtain ⟨v0, c0, rfl, w0, hr0⟩ := bSok_cons hs
          obtain ⟨v1, c1, rfl, w1, hr1⟩ := bSok_cons hr0
          obtain ⟨v2, c2, rfl, w2, hr2⟩ := bSok_cons hr1
          obtain ⟨v3, c3, rfl, w3, hr3⟩ := bSok_cons hr2
          obtain ⟨v4, c4, rfl, w4, hr4⟩ := bSok_cons hr3
          obtain ⟨xn, rfl, hn⟩ := bVok_int w0
          obtain ⟨xd, rfl, hd⟩ := bVok_int w1
          obtain ⟨b0, rfl, hb0⟩ := bVok_ref w2
          obtain ⟨xp, rfl, hsp⟩ := bVok_int w3
          obtain ⟨a0, rfl, ha0⟩ := bVok_ref w4
          split at hK
          · rename_i zn en
            have en := aCst_ok hX hn en
            obtain ⟨hc, hK⟩ := aBif hK
            rw [zLe_eq, Bool.and_eq_true, decide_eq_true_eq] at hc
            have hcat := Nat.le_of_ble_eq_true hc.1
            rw [← bSok_cats hr4] at hcat
            rw [aFn_eq, ← aTn en] at hK
            cases hb5 : ((bAll as fun a => bRng 50 X fs xn.toNatClampNeg a) && (bAll bs fun b => bRng 50 X fd xn.toNatClampNeg b)) with
            | true =>
              rw [hb5] at hK
              simp only [cond_true] at hK
              rw [Bool.and_eq_true] at hb5
              obtain ⟨sa, ra, hZa, hTa, pa0, pa⟩ := bRng_ok hM.1 hX hsp (bAll_ok hb5.1 a0 ha0)
              obtain ⟨sb, rb, hZb, hTb, pb0, pb⟩ := bRng_ok hM.1 hX hd (bAll_ok hb5.2 b0 hb0)
              have hcnd : ¬ xp < 0 ∧ ¬ xd < 0 ∧ ¬ xn < 0 ∧ xp.toNatClampNeg + xn.toNatClampNeg ≤ sa ∧ xd.toNatClampNeg + xn.toNatClampNeg ≤ sb := ⟨aNn.mpr pa0, aNn.mpr pb0, aNn.mpr (by rw [en]; exact hc.2), pa, pb⟩
              obtain ⟨M', h1, h2⟩ := bCpA_ok (σ' := (σ.1, pmRow σ.2.1 b0 (va_cpy (σ.2.1 a0) (σ.2.1 b0) xp.toNatClampNeg xd.toNatClampNeg xn.toNatClampNeg), σ.2.2)) hKp hX hM ha0 hb0 hsp hd rfl (bZ_cpi (bLo_r hTb (by decide)) (bLo_r hTa (by decide))) (fun mk q j => bSm_cpi mk q j) hK
              exact bNx.go (cr := c4) (by simp only [pmStep, hMM]; rw [if_pos e, if_pos hcat]; simp only [pmCopy, hZa, hZb]; rw [if_pos hcnd, if_pos ⟨trivial, trivial⟩]; rfl) hX h1 hl hr4 rfl h2
            | false =>
              rw [hb5] at hK
              simp only [cond_false] at hK
              obtain ⟨hb6, hK⟩ := aBif hK
              rw [Bool.and_eq_true] at hb6
              obtain ⟨sa, ra, hZa, hTa, pa0, pa⟩ := bRng_ok hM.1 hX hsp (bAll_ok hb6.1 a0 ha0)
              obtain ⟨sb, rb, hZb, hTb, pb0, pb⟩ := bRng_ok hM.1 hX hd (bAll_ok hb6.2 b0 hb0)
              have hcnd : ¬ xp < 0 ∧ ¬ xd < 0 ∧ ¬ xn < 0 ∧ xp.toNatClampNeg + xn.toNatClampNeg ≤ sa ∧ xd.toNatClampNeg + xn.toNatClampNeg ≤ sb := ⟨aNn.mpr pa0, aNn.mpr pb0, aNn.mpr (by rw [en]; exact hc.2), pa, pb⟩
              obtain ⟨M', h1, h2⟩ := bCpA_ok (σ' := (σ.1, σ.2.1, pmRow σ.2.2 b0 (va_cpy (σ.2.2 a0) (σ.2.2 b0) xp.toNatClampNeg xd.toNatClampNeg xn.toNatClampNeg))) hKp hX hM ha0 hb0 hsp hd rfl (bZ_cpl (bLo_r hTb (by decide)) (bLo_r hTa (by decide))) (fun mk q j => bSm_cpl mk q j) hK
              exact bNx.go (cr := c4) (by simp only [pmStep, hMM]; rw [if_pos e, if_pos hcat]; simp only [pmCopy, hZa, hZb]; rw [if_pos hcnd, if_neg (fun h => absurd h.1 (by decide)), if_pos ⟨trivial, trivial⟩]; rfl) hX h1 hl hr4 rfl h2
          · cases hK
        · cases hK
      | false =>
        rw [hb] at hK
        simp only [cond_false] at hK
        cases hb2 : Nat.beq mm 9002 with
        | true =>
          rw [hb2] at hK
          simp only [cond_true] at hK
          have e := Nat.eq_of_beq_eq_true hb2
          split at hK
          · obtain ⟨v0, c0, rfl, w0, hr0⟩ := bSok_cons hs
            obtain ⟨v1, c1, rfl, w1, hr1⟩ := bSok_cons hr0
            obtain ⟨y, rfl, hy⟩ := bVok_int w0
            obtain ⟨x, rfl, hx⟩ := bVok_int w1
            obtain ⟨hcat, hK⟩ := aBif hK
            have hcat := Nat.le_of_ble_eq_true hcat
            rw [← bSok_cats hr1] at hcat
            exact bNx.gi (w := if x < y then y else x) (by simp only [pmStep, hMM]; rw [if_neg (show ¬ mm = 9000 by omega), if_pos e, if_pos hcat]; rfl) hX hM hl hr1 rfl (aOp_ok (op := fun x y => if x < y then y else x) aRu_max hE hx hy hK)
          · cases hK
        | false =>
          rw [hb2] at hK
          simp only [cond_false] at hK
          obtain ⟨hb3, hK⟩ := aBif hK
          have e := Nat.eq_of_beq_eq_true hb3
          split at hK
          · obtain ⟨v0, c0, rfl, w0, hr0⟩ := bSok_cons hs
            obtain ⟨v1, c1, rfl, w1, hr1⟩ := bSok_cons hr0
            obtain ⟨y, rfl, hy⟩ := bVok_int w0
            obtain ⟨x, rfl, hx⟩ := bVok_int w1
            obtain ⟨hcat, hK⟩ := aBif hK
            have hcat := Nat.le_of_ble_eq_true hcat
            rw [← bSok_cats hr1] at hcat
            exact bNx.gi (w := if y < x then y else x) (by simp only [pmStep, hMM]; rw [if_neg (show ¬ mm = 9000 by omega), if_neg (show ¬ mm = 9002 by omega), if_pos e, if_pos hcat]; rfl) hX hM hl hr1 rfl (aOp_ok (op := fun x y => if y < x then y else x) aRu_min hE hx hy hK)
          · cases hK
    · cases hK
  | idiv =>
    simp only [bStep, bDis, bS_idiv, bBin] at hK
    split at hK
    · rename_i ta g tb f r
      obtain ⟨hc, hK⟩ := aBif hK
      cases ta <;> cases tb <;> first | (simp at hc; done) | skip
      obtain ⟨v1, c1, rfl, w1, hr1⟩ := bSok_cons hs
      obtain ⟨v2, c2, rfl, w2, hr2⟩ := bSok_cons hr1
      obtain ⟨y, rfl, hy⟩ := bVok_int w1
      obtain ⟨x, rfl, hx⟩ := bVok_int w2
      obtain ⟨hne, hK⟩ := bNz_ok hE hy hK
      have hy0 : ¬ y = 0 := fun e => hne (by rw [e]; rfl)
      exact bNx.gi (w := x / y) (by simp only [pmStep]; rw [if_neg hy0]; rfl) hX hM hl hr2 rfl (aOp_ok bRu_div hE hx hy hK)
    · cases hK
  | irem =>
    simp only [bStep, bDis, bS_irem, bBin] at hK
    split at hK
    · rename_i ta g tb f r
      obtain ⟨hc, hK⟩ := aBif hK
      cases ta <;> cases tb <;> first | (simp at hc; done) | skip
      obtain ⟨v1, c1, rfl, w1, hr1⟩ := bSok_cons hs
      obtain ⟨v2, c2, rfl, w2, hr2⟩ := bSok_cons hr1
      obtain ⟨y, rfl, hy⟩ := bVok_int w1
      obtain ⟨x, rfl, hx⟩ := bVok_int w2
      obtain ⟨hne, hK⟩ := bNz_ok hE hy hK
      have hy0 : ¬ y = 0 := fun e => hne (by rw [e]; rfl)
      exact bNx.gi (w := x - x / y * y) (by simp only [pmStep]; rw [if_neg hy0]; rfl) hX hM hl hr2 rfl (aOp_ok (op := fun x y => x - x / y * y) bRu_rem hE hx hy hK)
    · cases hK
  | lrem =>
    simp only [bStep, bDis, bS_lrem, bBin] at hK
    split at hK
    · rename_i ta g tb f r
      obtain ⟨hc, hK⟩ := aBif hK
      cases ta <;> cases tb <;> first | (simp at hc; done) | skip
      obtain ⟨v1, c1, rfl, w1, hr1⟩ := bSok_cons hs
      obtain ⟨v2, c2, rfl, w2, hr2⟩ := bSok_cons hr1
      obtain ⟨y, rfl, hy⟩ := bVok_long w1
      obtain ⟨x, rfl, hx⟩ := bVok_long w2
      obtain ⟨hne, hK⟩ := bNz_ok hE hy hK
      have hy0 : ¬ y = 0 := fun e => hne (by rw [e]; rfl)
      exact bNx.gl (w := x - x / y * y) (by simp only [pmStep]; rw [if_neg hy0]; rfl) hX hM hl hr2 rfl (aOq_ok (op := fun x y => x - x / y * y) bRu_rem64 hE hx hy hK)
    · cases hK
  | _ => simp [bStep, bDis] at hK
end
