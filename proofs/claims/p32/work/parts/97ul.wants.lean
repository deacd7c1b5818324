/-! the reference, what a folk wants -/
section
set_option maxRecDepth 100000


section
variable {ro : Nat → Nat × (Nat → Int32)} {d : Nat} {Q : Option Value → pmS → Prop} {dr wp pr cnt W : Int → Int} {T : Int → List Int} {n f k : Int} {S r : Int → Int} {a a' : xA} {b b' : xB} {ts : List Int}
/-- the reference's rows of wishes, and the land -/
def uRb (dr wp pr cnt W : Int → Int) (T : Int → List Int) (n : Int) (a : xA) : Prop := xAr a ∧ uWr wp n a ∧ (∀ k, 0 ≤ k → k < 49 → a 90 k = dr k ∧ (dr k = 0 ∨ dr k = 1)) ∧ (∀ i, 1 ≤ i → i ≤ 5 → a 92 i = pr i) ∧ (∀ f, 1 ≤ f → f ≤ 3 → a 96 f = cnt f) ∧ (∀ f k, 1 ≤ f → f ≤ 3 → 0 ≤ k → k < cnt f → a 97 (3 * f + k) = W (f * 3 + k) ∧ a 98 (3 * f + k) = ((T (f * 3 + k)).length : Int) ∧ ∀ (j : Nat) t, (T (f * 3 + k))[j]? = some t → a 99 (60 * (3 * f + k) + (j : Int)) = t) ∧ ∀ j, 0 ≤ j → j < 60 → 0 ≤ a 109 j ∧ a 109 j ≤ 1
/-- and what is so of them -/
def uRk (pr cnt W : Int → Int) (T : Int → List Int) : Prop := (∀ p, 1 ≤ p → p ≤ 3 → 0 ≤ cnt p ∧ cnt p ≤ 3) ∧ ∀ f k, 1 ≤ f → f ≤ 3 → 0 ≤ k → k < cnt f → uRe pr f (T (f * 3 + k)) ∧ 1 ≤ W (f * 3 + k) ∧ W (f * 3 + k) ≤ 9
theorem uRb_s (h : uRb dr wp pr cnt W T n a) (hf : 1 ≤ f ∧ f ≤ 3) (hk : 0 ≤ k ∧ k < cnt f) : uRs dr wp pr n (3 * f + k) (T (f * 3 + k)) a := by
  obtain ⟨r1, r2, r3, r4, r5, r6, r7⟩ := h
  obtain ⟨q1, q2, q3⟩ := r6 f k hf.1 hf.2 hk.1 hk.2
  exact ⟨r1, r2, r3, r4, q2, q3, r7⟩
theorem uRb_o (h : uRb dr wp pr cnt W T n a) (hA : xAr a') (e : ∀ q j, (q = 90 ∨ q = 91 ∨ q = 92 ∨ q = 96 ∨ q = 97 ∨ q = 98 ∨ q = 99 ∨ (q = 87 ∧ j = 2)) → a' q j = a q j) (h9 : ∀ j, 0 ≤ j → j < 60 → 0 ≤ a' 109 j ∧ a' 109 j ≤ 1) : uRb dr wp pr cnt W T n a' := by
  obtain ⟨r1, ⟨w1, w2, w3, w4⟩, r3, r4, r5, r6, r7⟩ := h
  refine ⟨hA, ⟨fun i i0 i1 => (e 91 i (by omega)).trans (w1 i i0 i1), (e 87 2 (by omega)).trans w2, w3, w4⟩, fun k k0 k1 => ⟨(e 90 k (by omega)).trans (r3 k k0 k1).1, (r3 k k0 k1).2⟩, fun i i0 i1 => (e 92 i (by omega)).trans (r4 i i0 i1), fun f f0 f1 => (e 96 f (by omega)).trans (r5 f f0 f1), fun f k f0 f1 k0 k1 => ?_, h9⟩
  obtain ⟨q1, q2, q3⟩ := r6 f k f0 f1 k0 k1
  exact ⟨(e 97 _ (by omega)).trans q1, (e 98 _ (by omega)).trans q2, fun j t ht => (e 99 _ (by omega)).trans (q3 j t ht)⟩
/-- what wanting may change -/
def uWm (a a' : xA) (b b' : xB) : Prop := (∀ q j, q ≠ 108 → q ≠ 109 → q ≠ 110 → q ≠ 111 → q ≠ 112 → q ≠ 113 → q ≠ 115 → ¬ (q = 87 ∧ (j = 33 ∨ j = 34 ∨ j = 41 ∨ j = 42 ∨ j = 43)) → a' q j = a q j) ∧ ∀ q j, q ≠ 114 → b' q j = b q j
theorem uWm_r : uWm a a b b := ⟨fun _ _ _ _ _ _ _ _ _ _ => rfl, fun _ _ _ => rfl⟩
theorem uWm_t {a'' : xA} {b'' : xB} (h : uWm a a' b b') (h' : uWm a' a'' b' b'') : uWm a a'' b b'' := ⟨fun q j e1 e2 e3 e4 e5 e6 e7 e8 => (h'.1 q j e1 e2 e3 e4 e5 e6 e7 e8).trans (h.1 q j e1 e2 e3 e4 e5 e6 e7 e8), fun q j e => (h'.2 q j e).trans (h.2 q j e)⟩
theorem uWm_l (h : uFm a a' b b') : uWm a a' b b' := ⟨fun q j e1 e2 e3 e4 e5 e6 e7 e8 => h.1 q j e1 e2 e3 e4 e5 e6 e7 (fun e => e8 ⟨e.1, by omega⟩), h.2.2⟩
theorem uWm_u {q : Nat} {j v : Int} (h : uWm a a' b b') (hq : q = 87 ∧ (j = 42 ∨ j = 43)) : uWm a (xU a' q j v) b b' := ⟨fun r i e1 e2 e3 e4 e5 e6 e7 e8 => by
  rw [xUo (by
    rintro ⟨rfl, rfl⟩
    exact e8 ⟨hq.1, by omega⟩)]
  exact h.1 r i e1 e2 e3 e4 e5 e6 e7 e8, h.2⟩
/-- wants -/
theorem u198 (hK : uRk pr cnt W T) (hB : uRb dr wp pr cnt W T n a) (hr : uRv n (a 88)) (hf : 1 ≤ f ∧ f ≤ 3) (hal : ¬ a 88 f = 7) (hV : uMV dr wp pr cnt T n a b) (hd : 6 ≤ d)
    (hQ : ∀ a' b' k, uWm a a' b b' → uRb dr wp pr cnt W T n a' → uMV dr wp pr cnt T n a' b' → a' 87 42 = k → uChs (cnt f) (fun i => W (f * 3 + i)) (fun i => uFd dr wp pr (T (f * 3 + i)) f (uMn n (a 88) f)) k → a' 87 43 = (if k = -1 then -1 else uFd dr wp pr (T (f * 3 + k)) f (uMn n (a 88) f)) → Q none (xS a' b')) : pmCs ro d 198 [.ref 87, xV f] (xS a b) Q := by
  have hn : a 87 2 = n := hB.2.1.2.1
  have hn0 : 0 ≤ n ∧ n ≤ 5 := hB.2.1.2.2.1
  refine pmCs_deep (d := 6) (xg198 (w198 (u186 hB.1 hn hn0 hr hf (by decide) fun a1 x1 A1 M1 => w198a ?_))) hd
  have hok := uMn_ok hn0 hr hf hal
  obtain ⟨S, hS⟩ : ∃ S, uMn n (a 88) f = S := ⟨_, rfl⟩
  rw [hS] at hQ M1 hok
  have hcn := hK.1 f hf.1 hf.2
  -- the state between
  have st : ∀ (a1 : xA) (b1 : xB), Prop := fun _ _ => True
  clear st
  have hup : ∀ (a2 : xA) (b2 : xB) (j v : Int), (j = 42 ∨ j = 43) → xR v → uWm a a2 b b2 ∧ uRb dr wp pr cnt W T n a2 ∧ uMV dr wp pr cnt T n a2 b2 ∧ uMd f 0 a2 S → uWm a (xU a2 87 j v) b b2 ∧ uRb dr wp pr cnt W T n (xU a2 87 j v) ∧ uMV dr wp pr cnt T n (xU a2 87 j v) b2 ∧ uMd f 0 (xU a2 87 j v) S := by
    intro a2 b2 j v hj hv ⟨g1, g2, g3, g4⟩
    refine ⟨uWm_u g1 ⟨rfl, hj⟩, uRb_o g2 (xAr_u g2.1 hv) (fun q i e => xUo (by omega)) (fun i i0 i1 => by rw [xUn (by decide)]; exact g2.2.2.2.2.2.2 i i0 i1), uMV_f g3 (xUo (by omega)) (fun i => xUn (by decide)) (fun _ => rfl), ⟨?_, fun x x0 x1 => ?_, fun q q0 q1 => ?_⟩⟩
    · rw [xUn (by decide)]
      exact g4.1
    · rw [xUn (by decide)]
      exact g4.2.1 x x0 x1
    · rw [xUn (by decide)]
      exact g4.2.2 q q0 q1
  -- a wish is chosen
  have done : ∀ (a2 : xA) (b2 : xB) (we i k : Int) , 1 ≤ we ∧ we ≤ 9 → 0 ≤ i ∧ i ≤ cnt f → uWm a a2 b b2 ∧ uRb dr wp pr cnt W T n a2 ∧ uMV dr wp pr cnt T n a2 b2 ∧ uMd f 0 a2 S → a2 87 42 = k → 0 ≤ k ∧ k < cnt f → uChs (cnt f) (fun i => W (f * 3 + i)) (fun i => uFd dr wp pr (T (f * 3 + i)) f S) k → a2 87 43 = uFd dr wp pr (T (f * 3 + k)) f S →
      pmWp ro 5 12 198 0 32 [some (.ref 87), some (xV f), some (xV we), some (xV i)] [] (xS a2 b2) Q := by
    intro a2 b2 we i k hwe hi ⟨g1, g2, g3, g4⟩ h42 hk hch h43
    have e := hQ a2 b2 k g1 g2 g3 h42 hch (by rw [if_neg (by omega)]; exact h43)
    have q : pmWp ro 5 12 198 0 18 [some (.ref 87), some (xV f), some (xV (we + (-1))), some (xV i)] [] (xS a2 b2) Q := w198b (by omega) h42 (by omega) (fun _ => e) (fun _ _ => e) (fun _ e => by omega)
    exact w198c hwe hf h42 (by omega) (g2.2.2.2.2.1 f hf.1 hf.2) (by omega) hi g2.1 (fun _ => q) (fun _ _ => q) (fun _ e => by omega) (fun _ e => by omega)
  have outer : ∀ (w : Nat) (a2 : xA) (b2 : xB) (v3 : Option Value), w ≤ 9 → uWm a a2 b b2 ∧ uRb dr wp pr cnt W T n a2 ∧ uMV dr wp pr cnt T n a2 b2 ∧ uMd f 0 a2 S → a2 87 42 = -1 → a2 87 43 = -1 → (∀ j, 0 ≤ j → j < cnt f → (w : Int) < W (f * 3 + j) → uFd dr wp pr (T (f * 3 + j)) f S = -1) →
      pmWp ro 5 12 198 0 18 [some (.ref 87), some (xV f), some (xV (w : Int)), v3] [] (xS a2 b2) Q := by
    intro w
    induction w with
    | zero =>
      intro a2 b2 v3 hw ⟨g1, g2, g3, g4⟩ h42 h43 hF
      have e : Q none (xS a2 b2) := hQ a2 b2 (-1) g1 g2 g3 h42 (Or.inl ⟨rfl, fun i i0 i1 => hF i i0 i1 (by have := (hK.2 f i hf.1 hf.2 i0 i1).2; omega)⟩) h43
      exact w198b (by omega) h42 (by omega) (fun _ => e) (fun _ _ => e) (fun e _ => by omega)
    | succ w ihw =>
      intro a2 b2 v3 hw hI h42 h43 hF
      have inner : ∀ (m : Nat) (i : Int) (a2 : xA) (b2 : xB), cnt f - i ≤ (m : Int) → 0 ≤ i ∧ i ≤ cnt f → uWm a a2 b b2 ∧ uRb dr wp pr cnt W T n a2 ∧ uMV dr wp pr cnt T n a2 b2 ∧ uMd f 0 a2 S → a2 87 42 = -1 → a2 87 43 = -1 → (∀ j, 0 ≤ j → j < i → W (f * 3 + j) = ((w + 1 : Nat) : Int) → uFd dr wp pr (T (f * 3 + j)) f S = -1) →
          pmWp ro 5 12 198 0 32 [some (.ref 87), some (xV f), some (xV ((w + 1 : Nat) : Int)), some (xV i)] [] (xS a2 b2) Q := by
        intro m
        have nxt : ∀ (i : Int) (a2 : xA) (b2 : xB), i = cnt f → uWm a a2 b b2 ∧ uRb dr wp pr cnt W T n a2 ∧ uMV dr wp pr cnt T n a2 b2 ∧ uMd f 0 a2 S → a2 87 42 = -1 → a2 87 43 = -1 → (∀ j, 0 ≤ j → j < i → W (f * 3 + j) = ((w + 1 : Nat) : Int) → uFd dr wp pr (T (f * 3 + j)) f S = -1) →
            pmWp ro 5 12 198 0 18 [some (.ref 87), some (xV f), some (xV (((w + 1 : Nat) : Int) + (-1))), some (xV i)] [] (xS a2 b2) Q := by
          intro i a2 b2 hi hI h42 h43 hj
          rw [show ((w + 1 : Nat) : Int) + (-1) = (w : Int) by omega]
          refine ihw a2 b2 _ (by omega) hI h42 h43 (fun j j0 j1 hjw => ?_)
          by_cases c : W (f * 3 + j) = ((w + 1 : Nat) : Int)
          · exact hj j j0 (by omega) c
          · exact hF j j0 j1 (by omega)
        induction m with
        | zero =>
          intro i a2 b2 hm hi hI h42 h43 hj
          refine w198c (by omega) hf h42 (by omega) (hI.2.1.2.2.2.2.1 f hf.1 hf.2) (by omega) hi hI.2.1.1 (fun _ => nxt i a2 b2 (by omega) hI h42 h43 hj) (fun _ e => by omega) (fun e => by omega) (fun e => by omega)
        | succ m ih =>
          intro i a2 b2 hm hi hI h42 h43 hj
          refine w198c (by omega) hf h42 (by omega) (hI.2.1.2.2.2.2.1 f hf.1 hf.2) (by omega) hi hI.2.1.1 (fun _ => nxt i a2 b2 (by omega) hI h42 h43 hj) (fun _ e => by omega) (fun e1 _ e2 => ?_) (fun e1 _ e2 => ?_)
          · refine ih (i + 1) a2 b2 (by omega) (by omega) hI h42 h43 (fun j j0 j1 hw2 => ?_)
            by_cases c : j = i
            · rw [(hI.2.1.2.2.2.2.2.1 f i hf.1 hf.2 hi.1 (by omega)).1] at e2
              rw [c] at hw2
              omega
            · exact hj j j0 (by omega) hw2
          · obtain ⟨g1, g2, g3, g4⟩ := hI
            have hik : 0 ≤ i ∧ i < cnt f := ⟨hi.1, by omega⟩
            obtain ⟨hE, hW⟩ := hK.2 f i hf.1 hf.2 hik.1 hik.2
            obtain ⟨q1, q2, q3⟩ := g2.2.2.2.2.2.1 f i hf.1 hf.2 hik.1 hik.2
            have cont : ∀ (a3 : xA) (b3 : xB), uWm a a3 b b3 ∧ uRb dr wp pr cnt W T n a3 ∧ uMV dr wp pr cnt T n a3 b3 ∧ uMd f 0 a3 S → a3 87 42 = -1 → a3 87 43 = -1 → uFd dr wp pr (T (f * 3 + i)) f S = -1 → pmWp ro 5 12 198 0 32 [some (.ref 87), some (xV f), some (xV ((w + 1 : Nat) : Int)), some (xV (i + 1))] [] (xS a3 b3) Q := by
              intro a3 b3 hI3 k42 k43 hFi
              refine ih (i + 1) a3 b3 (by omega) (by omega) hI3 k42 k43 (fun j j0 j1 hw2 => ?_)
              by_cases c : j = i
              · rw [c]
                exact hFi
              · exact hj j j0 (by omega) hw2
            refine u187 (S := S) (ts := T (f * 3 + i)) g2.1 g4 (by decide) hf ⟨by omega, by omega⟩ hok.1 q2 hE.2.2.1 q3 hE.2.2.2.1 hE.2.2.2.2.1 (hE.2.2.2.2.2 S) g2.2.2.2.2.2.2 (by decide) (fun a3 z x3 A3 h9 hz hzh => ?_)
            have hI3 : uWm a a3 b b2 ∧ uRb dr wp pr cnt W T n a3 ∧ uMV dr wp pr cnt T n a3 b2 ∧ uMd f 0 a3 S := ⟨⟨fun q j e1 e2 e3 e4 e5 e6 e7 e8 => (x3 q j e2).trans (g1.1 q j e1 e2 e3 e4 e5 e6 e7 e8), g1.2⟩, uRb_o g2 A3 (fun q j e => x3 q j (by omega)) h9, uMV_f g3 (x3 _ _ (by decide)) (fun j => x3 _ _ (by decide)) (fun _ => rfl), ⟨(x3 _ _ (by decide)).trans g4.1, fun x x0 x1 => (x3 _ _ (by decide)).trans (g4.2.1 x x0 x1), fun q q0 q1 => (x3 _ _ (by decide)).trans (g4.2.2 q q0 q1)⟩⟩
            have k42 := (x3 87 42 (by decide)).trans h42
            have k43 := (x3 87 43 (by decide)).trans h43
            refine w198d (by omega) hf k42 (by omega) (hI3.2.1.2.2.2.2.1 f hf.1 hf.2) (by omega) hi hz (fun ez => ?_) (fun ez => ?_)
            · have hh : uHold f (T (f * 3 + i)) S = false := by
                cases g : uHold f (T (f * 3 + i)) S with
                | false => rfl
                | true =>
                  have := hzh.mpr g
                  omega
              obtain ⟨y1, y2, y3, y4⟩ := hI3
              refine u199 (cnt := cnt) hE (fun p p0 p1 => (hK.1 p p0 p1).2) hik (uRb_s y2 hf hik) y4 hok.1 hok.2 y3 (by decide) (fun a4 b4 x4 R4 V4 => ?_)
              have hv := uF1_b (dr := dr) (wp := wp) (ts := T (f * 3 + i)) (f := f) (S := S) hE.1
              have e44 : ∀ q j, q ≠ 108 → q ≠ 109 → q ≠ 110 → q ≠ 111 → q ≠ 112 → q ≠ 113 → q ≠ 115 → ¬ (q = 87 ∧ (j = 33 ∨ j = 34 ∨ j = 41)) → a4 q j = a3 q j := x4.1
              have hI4 : uWm a a4 b b4 ∧ uRb dr wp pr cnt W T n a4 ∧ uMV dr wp pr cnt T n a4 b4 ∧ uMd f 0 a4 S := ⟨uWm_t y1 (uWm_l x4), uRb_o y2 R4.1 (fun q j e => x4.1 q j (by omega) (by omega) (by omega) (by omega) (by omega) (by omega) (by omega) (by omega)) R4.2.2.2.2.2.2, V4, ⟨(x4.2.1 _ (by decide)).trans y4.1, fun x x0 x1 => (x4.2.1 _ (by omega)).trans (y4.2.1 x x0 x1), fun q q0 q1 => (x4.2.1 _ (by omega)).trans (y4.2.2 q q0 q1)⟩⟩
              have hfd := uFd_1 (dr := dr) (wp := wp) (pr := pr) hh
              refine w198e (by omega) (by omega) (fun ev => ?_) (fun ev => ?_)
              · refine done _ b4 _ _ i (by omega) (by omega) (hup _ b4 42 i (Or.inl rfl) ⟨by omega, by omega⟩ (hup _ b4 43 _ (Or.inr rfl) ⟨by omega, by omega⟩ hI4)) xUa hik (Or.inr ⟨hik, ?_, fun j j0 j1 hj2 => ?_⟩) ?_
                · show ¬ uFd dr wp pr (T (f * 3 + i)) f S = -1
                  rw [hfd]
                  exact ev
                · show W (f * 3 + j) < W (f * 3 + i) ∨ (W (f * 3 + j) = W (f * 3 + i) ∧ i ≤ j)
                  have hj2 : ¬ uFd dr wp pr (T (f * 3 + j)) f S = -1 := hj2
                  rw [q1] at e2
                  by_cases c : ((w + 1 : Nat) : Int) < W (f * 3 + j)
                  · exact absurd (hF j j0 j1 c) hj2
                  · by_cases c2 : W (f * 3 + j) = ((w + 1 : Nat) : Int)
                    · right
                      refine ⟨by omega, ?_⟩
                      by_cases c3 : j < i
                      · exact absurd (hj j j0 c3 c2) hj2
                      · omega
                    · left
                      omega
                · rw [xUk (by decide), xUa, hfd]
              · exact cont _ b4 (hup _ b4 42 (-1) (Or.inl rfl) ⟨by decide, by decide⟩ (hup _ b4 43 _ (Or.inr rfl) ⟨by omega, by omega⟩ hI4)) xUa (by rw [xUk (by decide), xUa]; exact ev) (by rw [hfd]; exact ev)
            · exact cont a3 b2 hI3 k42 k43 (uFd_h (hzh.mp (by omega)))
      refine w198b (by omega) h42 (by omega) (fun e => by omega) (fun _ e => by omega) (fun _ _ => ?_)
      exact inner (cnt f).toNat 0 a2 b2 (by omega) (by omega) hI h42 h43 (fun j j0 j1 => by omega)
  have hI1 : uWm a a1 b b ∧ uRb dr wp pr cnt W T n a1 ∧ uMV dr wp pr cnt T n a1 b ∧ uMd f 0 a1 S := ⟨⟨fun q j e1 e2 e3 e4 e5 e6 e7 e8 => x1 q j e1, fun _ _ _ => rfl⟩, uRb_o hB A1 (fun q j e => x1 q j (by omega)) (fun j j0 j1 => by rw [x1 109 j (by decide)]; exact hB.2.2.2.2.2.2 j j0 j1), uMV_f hV (x1 _ _ (by decide)) (fun j => x1 _ _ (by decide)) (fun _ => rfl), M1⟩
  refine outer 9 _ b none (by decide) (hup _ b 43 (-1) (Or.inr rfl) ⟨by decide, by decide⟩ (hup _ b 42 (-1) (Or.inl rfl) ⟨by decide, by decide⟩ hI1)) ?_ xUa (fun j j0 j1 hj => by have := (hK.2 f j hf.1 hf.2 j0 j1).2; omega)
  rw [xUk (by decide), xUa]
end
end
