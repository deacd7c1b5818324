/-! the invariant once the tale has begun -/
section
set_option maxRecDepth 100000


section
variable {dr wp co pr cnt W : Int → Int} {T : Int → List Int} {n m t k x c cd wt p L : Int} {r r' R : Int → Int} {a a' a0 a1 a2 a3 a4 : xA} {b b' b1 b2 b3 b4 : xB}
theorem uSx_o (h : uSx dr wp pr cnt W T n a b) (hA : xAr a') (e : ∀ q j, 87 ≤ q → a' q j = a q j) (eb : ∀ j, b' 114 j = b 114 j) : uSx dr wp pr cnt W T n a' b' := by
  obtain ⟨h1, h2, h3, h4⟩ := h
  exact ⟨uRb_o h1 hA (fun q j g => e q j (by omega)) (fun j j0 j1 => by rw [e 109 j (by decide)]; exact h1.2.2.2.2.2.2 j j0 j1), uMV_f h2 (e _ _ (by decide)) (fun j => e _ _ (by decide)) eb, uLw_o h3 (fun q j g => e q j (by omega)), fun i i0 i1 => by rw [e 100 i (by decide)]; exact h4 i i0 i1⟩
/-- what holds once the tale has begun -/
def uBg (dr wp co pr cnt W : Int → Int) (T : Int → List Int) (n : Int) (a0 : xA) (R : Int → Int) (a : xA) (b : xB) : Prop :=
  ((0 ≤ n ∧ n ≤ 5) ∧ uRk pr cnt W T ∧ uRv n R ∧ uBqr 0 R) ∧ (uCb dr wp co pr cnt W T n a0 a b ∧ uHm a ∧ uFo3 21 a ∧ uCx n 21 (a 88) a b ∧ uCx n 80 R a b ∧ a 0 12 = 1) ∧ (uSx dr wp pr cnt W T n a b ∧ uRv n (a 88) ∧ uBqs (a 88 114) (a 88) ∧ uShl 0 R a ∧ (∀ j, j < 0 ∨ 120 ≤ j → a 88 j = R j) ∧ a 87 4 = 1) ∧ uChr (a 88 114) (a 88) a
/-- the class changed what it may -/
theorem uBg_c (h : uBg dr wp co pr cnt W T n a0 R a b) (hC : uCb dr wp co pr cnt W T n a0 a' b') (hH : uHm a') (hF : uFo3 21 a') (e : ∀ q j, q ≤ 2 ∨ (21 ≤ q ∧ q ≤ 24) ∨ 79 ≤ q → a' q j = a q j) (eb : ∀ q j, q ≤ 2 ∨ (21 ≤ q ∧ q ≤ 24) ∨ 79 ≤ q → b' q j = b q j) : uBg dr wp co pr cnt W T n a0 R a' b' := by
  obtain ⟨g1, ⟨c1, c2, c3, c4, c5, c6⟩, ⟨s1, s2, s3, s4, s5, s6⟩, ch⟩ := h
  have e88 : a' 88 = a 88 := funext fun j => e 88 j (by decide)
  unfold uBg
  rw [e88]
  refine ⟨g1, ⟨hC, hH, hF, uCx_o uWo21 c4 (fun q j q1 q2 => e q j (by omega)) (fun q j q1 q2 => eb q j (by omega)), uCx_o uWo80 c5 (fun q j q1 q2 => e q j (by omega)) (fun q j q1 q2 => eb q j (by omega)), ?_⟩, ⟨uSx_o s1 hC.1.1 (fun q j hq => e q j (by omega)) (fun j => eb 114 j (by decide)), s2, s3, uShl_o (x := 1) (by decide) s4 (fun j _ => e 89 j (by decide)), s5, ?_⟩, uChr_o ch (e 79 6 (by decide)) (fun q j hq => e q j (by omega)) (fun _ _ _ g => g)⟩
  · rw [e 0 12 (by decide)]
    exact c6
  · rw [e 87 4 (by decide)]
    exact s6
theorem uBg_g (h : uBg dr wp co pr cnt W T n a0 R a b) (hC : uCb dr wp co pr cnt W T n a0 a' b') (f : uTgw 26 a a' b b') : uBg dr wp co pr cnt W T n a0 R a' b' :=
  uBg_c h hC (uHm_o h.2.1.2.1 (fun j => f.1 78 j (by decide) (by decide) (by decide))) (fun j j0 j1 => by rw [f.1 (21 + 4) j (by decide) (by decide) (by decide)]; exact h.2.1.2.2.1 j j0 j1) (fun q j hq => f.1 q j (by omega) (by omega) (by omega)) (fun q j hq => f.2 q j (by omega) (by omega))
theorem uBg_k (h : uBg dr wp co pr cnt W T n a0 R a b) (f : uKe dr wp co pr cnt W T n a0 a a' b b') : uBg dr wp co pr cnt W T n a0 R a' b' :=
  uBg_c h f.2.1 f.2.2.1 f.2.2.2 (fun q j hq => f.1.1 q j (by omega) (by omega) (by omega) (by omega)) (fun q j hq => f.1.2 q j (by omega) (by omega))
/-- the reference changed what it may -/
theorem uBg_r (h : uBg dr wp co pr cnt W T n a0 R a b) (f : uKq dr wp pr cnt W T n a a' b b') : uBg dr wp co pr cnt W T n a0 R a' b' := by
  obtain ⟨g1, ⟨c1, c2, c3, c4, c5, c6⟩, ⟨s1, s2, s3, s4, s5, s6⟩, ch⟩ := h
  obtain ⟨⟨fa, fb⟩, fS, f88, f89⟩ := f
  have e : ∀ q j, q ≤ 86 ∨ (120 ≤ q ∧ q ≤ 124) ∨ (q = 87 ∧ j = 4) → a' q j = a q j := fun q j hq => fa q j (by omega) (by omega) (by omega) (by omega) (by omega) (by omega) (by omega) (by omega) (by omega) (by omega) (by omega) (by omega) (by omega) (by omega)
  have eb : ∀ q j, q ≤ 86 → b' q j = b q j := fun q j hq => fb q j (by omega)
  unfold uBg
  rw [f88]
  refine ⟨g1, ⟨uCb_e c1 (fun q j h1 h2 => e q j (by omega)) (fun q j hq => eb q j (by omega)) fS.1.1, uHm_o c2 (fun j => e 78 j (by omega)), (fun j j0 j1 => by rw [e (21 + 4) j (by omega)]; exact c3 j j0 j1), uCx_o uWo21 c4 (fun q j q1 q2 => e q j (by omega)) (fun q j q1 q2 => eb q j (by omega)), uCx_o uWo80 c5 (fun q j q1 q2 => e q j (by omega)) (fun q j q1 q2 => eb q j (by omega)), ?_⟩, ⟨fS, s2, s3, uShl_o (x := 1) (by decide) s4 (fun j hj => f89 j (by omega)), s5, ?_⟩, uChr_o ch (e 79 6 (by decide)) (fun q j hq => e q j (by omega)) (fun _ _ _ g => g)⟩
  · rw [e 0 12 (by decide)]
    exact c6
  · rw [e 87 4 (by decide)]
    exact s6
/-- what the class has left behind a turn: what the reference needs -/
theorem uBg_t0 (h : uBg dr wp co pr cnt W T n a0 R a b) (hC : uCb dr wp co pr cnt W T n a0 a2 b1) (f1 : uTf 21 a a1 b b1) (n1 : uNt a1 a2 L) : uSx dr wp pr cnt W T n a2 b1 ∧ a2 88 = a 88 ∧ a2 87 4 = 1 := by
  have e : ∀ q j, 87 ≤ q → a2 q j = a q j := fun q j hq => by
    rw [n1.2.2.2 q j (by omega) (by omega), f1.1 q j (by omega) (by omega) (by omega) (by omega) (by omega) (by omega)]
  exact ⟨uSx_o h.2.2.1.1 hC.1.1 e (fun j => f1.2 114 j (by omega) (by omega) (by omega)), funext fun j => e 88 j (by decide), (e 87 4 (by decide)).trans h.2.2.1.2.2.2.2.2⟩
/-- a turn of both -/
theorem uBg_t (h : uBg dr wp co pr cnt W T n a0 R a b) (hL : a 88 114 = L) (hL6 : L < 60) (hcb : -1 ≤ cd ∧ cd < 61) (hcd : cd = -1 ∨ ((0 ≤ cd ∧ cd < 61) ∧ (¬ a 88 0 = 7 → uCp n 0 cd (a 88)))) (f1 : uTf 21 a a1 b b1) (n1 : uNt a1 a2 (L + 1)) (hC : uCb dr wp co pr cnt W T n a0 a2 b1) (hX : uCx n 21 (uTu dr wp pr cnt W T n cd (-1) (a 88)) a2 b1) (h25 : ∀ j, 0 ≤ j → j < 3 → a2 25 j = 0) (g1 : ∀ p : Nat, p < 4 → a1 44 p = uEt dr wp pr cnt W T n cd (-1) p (uTr dr wp pr cnt W T n cd (-1) (a 88) p)) (f2 : uPm a2 a3 b1 b4) (n2 : uCn a3 a4 (L + 1)) (hB : uRb dr wp pr cnt W T n a4) (hv : uRv n (a4 88)) (hV : uMV dr wp pr cnt T n a4 b4) (hLw : uLw a4) (er : uRq (uTu dr wp pr cnt W T n cd (-1) (a 88)) (a4 88)) (g2 : ∀ p : Nat, p < 4 → uEn dr wp pr cnt W T n cd (-1) a3 p (uTr dr wp pr cnt W T n cd (-1) (a 88) p)) : uBg dr wp co pr cnt W T n a0 R a4 b4 := by
  obtain ⟨⟨hn0, hK, hvR, hBR⟩, ⟨c1, c2, c3, c4, c5, c6⟩, ⟨s1, s2, s3, s4, s5, s6⟩, ch⟩ := h
  rw [hL] at s3 ch
  have e42 : ∀ q j, q ≤ 86 ∨ q = 89 ∨ q = 100 ∨ (q = 87 ∧ j = 4) → a4 q j = a2 q j := fun q j hq => by
    rw [n2.2.2.2.2 q j (by omega), f2.1 q j (by omega) (by omega) (by omega) (by omega) (by omega) (by omega) (by omega) (by omega) (by omega) (by omega) (by omega) (by omega) (by omega)]
  have e20 : ∀ q j, ¬ (21 ≤ q ∧ q ≤ 25) → ¬ (34 ≤ q ∧ q ≤ 44) → ¬ q = 79 → ¬ q = 85 → a2 q j = a q j := fun q j h1 h2 h3 h4 => by
    rw [n1.2.2.2 q j h4 (by omega), f1.1 q j (by omega) (by omega) (by omega) (by omega) (by omega) (by omega)]
  have eb : ∀ q j, q ≤ 86 → b4 q j = b1 q j := fun q j hq => f2.2 q j (by omega)
  have eb1 : ∀ q j, 80 ≤ q → b1 q j = b q j := fun q j hq => f1.2 q j (by omega) (by omega) (by omega)
  have hq := uBqs_q er (uBqs_t (dr := dr) (wp := wp) (pr := pr) (cnt := cnt) (W := W) (T := T) (wt := -1) hn0 s2 hcd hL6 s3)
  have e114 : a4 88 114 = L + 1 := hq.2.1
  unfold uBg
  rw [e114]
  refine ⟨⟨hn0, hK, hvR, hBR⟩, ⟨uCb_e hC (fun q j h1 h2 => e42 q j (by omega)) (fun q j g => eb q j (by omega)) hB.1, uHm_o c2 (fun j => (e42 78 j (by omega)).trans (e20 78 j (by decide) (by decide) (by decide) (by decide))), fun j j0 j1 => ?_, uCx_q hn0.2 (uCx_o uWo21 hX (fun q j q1 q2 => e42 q j (by omega)) (fun q j q1 q2 => eb q j (by omega))) er, uCx_o uWo80 c5 (fun q j q1 q2 => (e42 q j (by omega)).trans (e20 q j (by omega) (by omega) (by omega) (by omega))) (fun q j q1 q2 => (eb q j (by omega)).trans (eb1 q j (by omega))), ?_⟩, ⟨⟨hB, hV, hLw, fun i i0 i1 => ?_⟩, hv, hq, uShl_o (x := 1) (by decide) s4 (fun j _ => (e42 89 j (by omega)).trans (e20 89 j (by decide) (by decide) (by decide) (by decide))), fun j hj => ?_, ?_⟩, uChr_t hK hn0 ⟨s3.1.1, hL6⟩ ch s2 hcb hcd f1 n1 g1 f2 n2 g2 er⟩
  · show 0 ≤ a4 25 j ∧ a4 25 j ≤ 300
    rw [e42 25 j (by omega), h25 j j0 j1]
    decide
  · rw [e42 0 12 (by decide), e20 0 12 (by decide) (by decide) (by decide) (by decide)]
    exact c6
  · rw [e42 100 i (by omega), e20 100 i (by decide) (by decide) (by decide) (by decide)]
    exact s1.2.2.2 i i0 i1
  · rw [er j (by omega), ← s5 j hj]
    unfold uTu
    rw [if_neg (by omega), if_neg (by omega)]
    rcases hj with hj | hj
    · exact uTr_n (dr := dr) (wp := wp) (pr := pr) (cnt := cnt) (W := W) (T := T) (wt := -1) hn0 s2 hcd 4 (by decide) j hj
    · exact (uTr_v (dr := dr) (wp := wp) (pr := pr) (cnt := cnt) (W := W) (T := T) (wt := -1) hn0 s2 hcd 4 (by decide)).2 j (by omega) (by omega)
  · rw [e42 87 4 (by decide), e20 87 4 (by decide) (by decide) (by decide) (by decide)]
    exact s6
end
end
