/-! what the table tells of each cell, in Int (printed by facts.py) -/
section
variable {a : xA} {b : xB} {k z v lo hi : Int} {p q : Nat} {j : Int}
/-- every int is one of 32 bits -/
def xAr (a : xA) : Prop := ∀ p k, xR (a p k)
theorem xRb (h : xR z) : -2147483648 ≤ z ∧ z ≤ 2147483647 := h
theorem xBZ (hA : xAr a) {n : Nat} (hl : bLo p n = false) : bZ (xS a b) p n = a p (n : Int) := by
  unfold bZ
  rw [hl]
  exact xI (hA p n)
theorem xT1 (h : kOk (xS a b)) (hA : xAr a) (h0 : 0 ≤ k) (hl : bLo p k.toNat = false) (hg : bGe p k.toNat = [(lo, hi)]) : lo ≤ a p k ∧ a p k ≤ hi := by
  have h1 := h.2 p k.toNat
  rw [hg, xBZ hA hl] at h1
  obtain ⟨i, hi, g1, g2⟩ := h1
  rw [List.mem_singleton] at hi
  subst hi
  rw [Int.toNat_of_nonneg h0] at g1 g2
  exact ⟨g1, g2⟩
theorem xUr (hv : lo ≤ v ∧ v ≤ hi) (ha : lo ≤ a q j ∧ a q j ≤ hi) : lo ≤ xU a p k v q j ∧ xU a p k v q j ≤ hi := by
  unfold xU
  split
  · exact hv
  · exact ha
theorem xUa {β : Type} {f : Nat → Int → β} {w : β} : xU f p k w p k = w := if_pos ⟨rfl, rfl⟩
theorem xUn {β : Type} {f : Nat → Int → β} {w : β} (h : q ≠ p) : xU f p k w q j = f q j := if_neg (fun e => h e.1)
theorem xUk {β : Type} {f : Nat → Int → β} {w : β} (h : j ≠ k) : xU f p k w q j = f q j := if_neg (fun e => h e.2)
theorem xAr_u (h : xAr a) (hv : xR v) : xAr (xU a p k v) := fun q j => by
  unfold xU
  split
  · exact hv
  · exact h q j
theorem xAndB (z y : Int) : -2147483648 ≤ xAnd z y ∧ xAnd z y ≤ 2147483647 := aB32 _
theorem xOrB (z y : Int) : -2147483648 ≤ xOr z y ∧ xOr z y ≤ 2147483647 := aB32 _
theorem xXorB (z y : Int) : -2147483648 ≤ xXor z y ∧ xXor z y ≤ 2147483647 := aB32 _
theorem xt0_12 (h : kOk (xS a b)) (hA : xAr a) : 0 ≤ a 0 12 ∧ a 0 12 ≤ 1 := xT1 h hA (k := 12) (by decide) rfl (by decide +kernel)
theorem xt1_1 (h : kOk (xS a b)) (hA : xAr a) : 0 ≤ a 1 1 ∧ a 1 1 ≤ 400 := xT1 h hA (k := 1) (by decide) rfl (by decide +kernel)
theorem xt1_2 (h : kOk (xS a b)) (hA : xAr a) : 0 ≤ a 1 2 ∧ a 1 2 ≤ 400 := xT1 h hA (k := 2) (by decide) rfl (by decide +kernel)
theorem xt1_3 (h : kOk (xS a b)) (hA : xAr a) : 0 ≤ a 1 3 ∧ a 1 3 ≤ 400 := xT1 h hA (k := 3) (by decide) rfl (by decide +kernel)
theorem xt1_4 (h : kOk (xS a b)) (hA : xAr a) : -5400 ≤ a 1 4 ∧ a 1 4 ≤ 0 := xT1 h hA (k := 4) (by decide) rfl (by decide +kernel)
theorem xt2 (h : kOk (xS a b)) (hA : xAr a) (h0 : 0 ≤ k) : 0 ≤ a 2 k ∧ a 2 k ≤ 255 := xT1 h hA h0 rfl (bGu_ok (by decide +kernel) _)
theorem xt3_5 (h : kOk (xS a b)) (hA : xAr a) : 0 ≤ a 3 5 ∧ a 3 5 ≤ 5 := xT1 h hA (k := 5) (by decide) rfl (by decide +kernel)
theorem xt6 (h : kOk (xS a b)) (hA : xAr a) (h0 : 0 ≤ k) : 0 ≤ a 6 k ∧ a 6 k ≤ 99 := xT1 h hA h0 rfl (bGu_ok (by decide +kernel) _)
theorem xt9 (h : kOk (xS a b)) (hA : xAr a) (h0 : 0 ≤ k) : 0 ≤ a 9 k ∧ a 9 k ≤ 40 := xT1 h hA h0 rfl (bGu_ok (by decide +kernel) _)
theorem xt10 (h : kOk (xS a b)) (hA : xAr a) (h0 : 0 ≤ k) : 0 ≤ a 10 k ∧ a 10 k ≤ 9 := xT1 h hA h0 rfl (bGu_ok (by decide +kernel) _)
theorem xt11 (h : kOk (xS a b)) (hA : xAr a) (h0 : 0 ≤ k) : 0 ≤ a 11 k ∧ a 11 k ≤ 2 := xT1 h hA h0 rfl (bGu_ok (by decide +kernel) _)
theorem xt12 (h : kOk (xS a b)) (hA : xAr a) (h0 : 0 ≤ k) : 0 ≤ a 12 k ∧ a 12 k ≤ 3 := xT1 h hA h0 rfl (bGu_ok (by decide +kernel) _)
theorem xt13_7 (h : kOk (xS a b)) (hA : xAr a) : 0 ≤ a 13 7 ∧ a 13 7 ≤ 6 := xT1 h hA (k := 7) (by decide) rfl (by decide +kernel)
theorem xt20 (h : kOk (xS a b)) (hA : xAr a) (h0 : 0 ≤ k) : 0 ≤ a 20 k ∧ a 20 k ≤ 4 := xT1 h hA h0 rfl (bGu_ok (by decide +kernel) _)
theorem xt21_12 (h : kOk (xS a b)) (hA : xAr a) : 0 ≤ a 21 12 ∧ a 21 12 ≤ 1 := xT1 h hA (k := 12) (by decide) rfl (by decide +kernel)
theorem xt26_12 (h : kOk (xS a b)) (hA : xAr a) : 0 ≤ a 26 12 ∧ a 26 12 ≤ 1 := xT1 h hA (k := 12) (by decide) rfl (by decide +kernel)
theorem xt31_2 (h : kOk (xS a b)) (hA : xAr a) : 0 ≤ a 31 2 ∧ a 31 2 ≤ 40 := xT1 h hA (k := 2) (by decide) rfl (by decide +kernel)
theorem xt33_2 (h : kOk (xS a b)) (hA : xAr a) : 0 ≤ a 33 2 ∧ a 33 2 ≤ 4 := xT1 h hA (k := 2) (by decide) rfl (by decide +kernel)
theorem xt34_10 (h : kOk (xS a b)) (hA : xAr a) : 0 ≤ a 34 10 ∧ a 34 10 ≤ 3 := xT1 h hA (k := 10) (by decide) rfl (by decide +kernel)
theorem xt34_11 (h : kOk (xS a b)) (hA : xAr a) : 0 ≤ a 34 11 ∧ a 34 11 ≤ 11 := xT1 h hA (k := 11) (by decide) rfl (by decide +kernel)
theorem xt39 (h : kOk (xS a b)) (hA : xAr a) (h0 : 0 ≤ k) : 0 ≤ a 39 k ∧ a 39 k ≤ 100000 := xT1 h hA h0 rfl (bGu_ok (by decide +kernel) _)
theorem xt42 (h : kOk (xS a b)) (hA : xAr a) (h0 : 0 ≤ k) : 0 ≤ a 42 k ∧ a 42 k ≤ 6 := xT1 h hA h0 rfl (bGu_ok (by decide +kernel) _)
theorem xt47_12 (h : kOk (xS a b)) (hA : xAr a) : 0 ≤ a 47 12 ∧ a 47 12 ≤ 1 := xT1 h hA (k := 12) (by decide) rfl (by decide +kernel)
theorem xt52_12 (h : kOk (xS a b)) (hA : xAr a) : 0 ≤ a 52 12 ∧ a 52 12 ≤ 1 := xT1 h hA (k := 12) (by decide) rfl (by decide +kernel)
theorem xt57_12 (h : kOk (xS a b)) (hA : xAr a) : 0 ≤ a 57 12 ∧ a 57 12 ≤ 1 := xT1 h hA (k := 12) (by decide) rfl (by decide +kernel)
theorem xt63_12 (h : kOk (xS a b)) (hA : xAr a) : 0 ≤ a 63 12 ∧ a 63 12 ≤ 1 := xT1 h hA (k := 12) (by decide) rfl (by decide +kernel)
theorem xt68_12 (h : kOk (xS a b)) (hA : xAr a) : 0 ≤ a 68 12 ∧ a 68 12 ≤ 1 := xT1 h hA (k := 12) (by decide) rfl (by decide +kernel)
theorem xt73_12 (h : kOk (xS a b)) (hA : xAr a) : 0 ≤ a 73 12 ∧ a 73 12 ≤ 1 := xT1 h hA (k := 12) (by decide) rfl (by decide +kernel)
theorem xt79_6 (h : kOk (xS a b)) (hA : xAr a) : 0 ≤ a 79 6 ∧ a 79 6 ≤ 60 := xT1 h hA (k := 6) (by decide) rfl (by decide +kernel)
theorem xt80_12 (h : kOk (xS a b)) (hA : xAr a) : 0 ≤ a 80 12 ∧ a 80 12 ≤ 1 := xT1 h hA (k := 12) (by decide) rfl (by decide +kernel)
theorem xt87_2 (h : kOk (xS a b)) (hA : xAr a) : 0 ≤ a 87 2 ∧ a 87 2 ≤ 5 := xT1 h hA (k := 2) (by decide) rfl (by decide +kernel)
theorem xt87_3 (h : kOk (xS a b)) (hA : xAr a) : 0 ≤ a 87 3 ∧ a 87 3 ≤ 6 := xT1 h hA (k := 3) (by decide) rfl (by decide +kernel)
theorem xt87_4 (h : kOk (xS a b)) (hA : xAr a) : 0 ≤ a 87 4 ∧ a 87 4 ≤ 1 := xT1 h hA (k := 4) (by decide) rfl (by decide +kernel)
theorem xt87_9 (h : kOk (xS a b)) (hA : xAr a) : 0 ≤ a 87 9 ∧ a 87 9 ≤ 400 := xT1 h hA (k := 9) (by decide) rfl (by decide +kernel)
theorem xt87_10 (h : kOk (xS a b)) (hA : xAr a) : 0 ≤ a 87 10 ∧ a 87 10 ≤ 60 := xT1 h hA (k := 10) (by decide) rfl (by decide +kernel)
theorem xt87_11 (h : kOk (xS a b)) (hA : xAr a) : 0 ≤ a 87 11 ∧ a 87 11 ≤ 60 := xT1 h hA (k := 11) (by decide) rfl (by decide +kernel)
theorem xt87_14 (h : kOk (xS a b)) (hA : xAr a) : 0 ≤ a 87 14 ∧ a 87 14 ≤ 60 := xT1 h hA (k := 14) (by decide) rfl (by decide +kernel)
theorem xt87_15 (h : kOk (xS a b)) (hA : xAr a) : 0 ≤ a 87 15 ∧ a 87 15 ≤ 60 := xT1 h hA (k := 15) (by decide) rfl (by decide +kernel)
theorem xt87_34 (h : kOk (xS a b)) (hA : xAr a) : 0 ≤ a 87 34 ∧ a 87 34 ≤ 4 := xT1 h hA (k := 34) (by decide) rfl (by decide +kernel)
theorem xt87_41 (h : kOk (xS a b)) (hA : xAr a) : 0 ≤ a 87 41 ∧ a 87 41 ≤ 3000 := xT1 h hA (k := 41) (by decide) rfl (by decide +kernel)
theorem xt87_42 (h : kOk (xS a b)) (hA : xAr a) : -1 ≤ a 87 42 ∧ a 87 42 ≤ 2 := xT1 h hA (k := 42) (by decide) rfl (by decide +kernel)
theorem xt87_43 (h : kOk (xS a b)) (hA : xAr a) : -1 ≤ a 87 43 ∧ a 87 43 ≤ 40 := xT1 h hA (k := 43) (by decide) rfl (by decide +kernel)
theorem xt90 (h : kOk (xS a b)) (hA : xAr a) (h0 : 0 ≤ k) : 0 ≤ a 90 k ∧ a 90 k ≤ 1 := xT1 h hA h0 rfl (bGu_ok (by decide +kernel) _)
theorem xt91 (h : kOk (xS a b)) (hA : xAr a) (h0 : 0 ≤ k) : 0 ≤ a 91 k ∧ a 91 k ≤ 1 := xT1 h hA h0 rfl (bGu_ok (by decide +kernel) _)
theorem xt93 (h : kOk (xS a b)) (hA : xAr a) (h0 : 0 ≤ k) : -128 ≤ a 93 k ∧ a 93 k ≤ 127 := xT1 h hA h0 rfl (bGu_ok (by decide +kernel) _)
theorem xt94 (h : kOk (xS a b)) (hA : xAr a) (h0 : 0 ≤ k) : 0 ≤ a 94 k ∧ a 94 k ≤ 8 := xT1 h hA h0 rfl (bGu_ok (by decide +kernel) _)
theorem xt96 (h : kOk (xS a b)) (hA : xAr a) (h0 : 0 ≤ k) : 0 ≤ a 96 k ∧ a 96 k ≤ 3 := xT1 h hA h0 rfl (bGu_ok (by decide +kernel) _)
theorem xt97 (h : kOk (xS a b)) (hA : xAr a) (h0 : 0 ≤ k) : 0 ≤ a 97 k ∧ a 97 k ≤ 9 := xT1 h hA h0 rfl (bGu_ok (by decide +kernel) _)
theorem xt98 (h : kOk (xS a b)) (hA : xAr a) (h0 : 0 ≤ k) : 0 ≤ a 98 k ∧ a 98 k ≤ 60 := xT1 h hA h0 rfl (bGu_ok (by decide +kernel) _)
theorem xt100 (h : kOk (xS a b)) (hA : xAr a) (h0 : 0 ≤ k) : 0 ≤ a 100 k ∧ a 100 k ≤ 4 := xT1 h hA h0 rfl (bGu_ok (by decide +kernel) _)
theorem xt107 (h : kOk (xS a b)) (hA : xAr a) (h0 : 0 ≤ k) : 0 ≤ a 107 k ∧ a 107 k ≤ 1 := xT1 h hA h0 rfl (bGu_ok (by decide +kernel) _)
theorem xt109 (h : kOk (xS a b)) (hA : xAr a) (h0 : 0 ≤ k) : 0 ≤ a 109 k ∧ a 109 k ≤ 1 := xT1 h hA h0 rfl (bGu_ok (by decide +kernel) _)
theorem xt110 (h : kOk (xS a b)) (hA : xAr a) (h0 : 0 ≤ k) : 0 ≤ a 110 k ∧ a 110 k ≤ 40 := xT1 h hA h0 rfl (bGu_ok (by decide +kernel) _)
theorem xt111 (h : kOk (xS a b)) (hA : xAr a) (h0 : 0 ≤ k) : 0 ≤ a 111 k ∧ a 111 k ≤ 40 := xT1 h hA h0 rfl (bGu_ok (by decide +kernel) _)
theorem xt112 (h : kOk (xS a b)) (hA : xAr a) (h0 : 0 ≤ k) : 0 ≤ a 112 k ∧ a 112 k ≤ 42 := xT1 h hA h0 rfl (bGu_ok (by decide +kernel) _)
theorem xt113 (h : kOk (xS a b)) (hA : xAr a) (h0 : 0 ≤ k) : 0 ≤ a 113 k ∧ a 113 k ≤ 36 := xT1 h hA h0 rfl (bGu_ok (by decide +kernel) _)
theorem xt115 (h : kOk (xS a b)) (hA : xAr a) (h0 : 0 ≤ k) : 0 ≤ a 115 k ∧ a 115 k ≤ 41 := xT1 h hA h0 rfl (bGu_ok (by decide +kernel) _)
theorem xt116 (h : kOk (xS a b)) (hA : xAr a) (h0 : 0 ≤ k) : -1 ≤ a 116 k ∧ a 116 k ≤ 60 := xT1 h hA h0 rfl (bGu_ok (by decide +kernel) _)
theorem xt118 (h : kOk (xS a b)) (hA : xAr a) (h0 : 0 ≤ k) : -1 ≤ a 118 k ∧ a 118 k ≤ 2 := xT1 h hA h0 rfl (bGu_ok (by decide +kernel) _)
theorem xt119 (h : kOk (xS a b)) (hA : xAr a) (h0 : 0 ≤ k) : 0 ≤ a 119 k ∧ a 119 k ≤ 1 := xT1 h hA h0 rfl (bGu_ok (by decide +kernel) _)
theorem xt120 (h : kOk (xS a b)) (hA : xAr a) (h0 : 0 ≤ k) : -1 ≤ a 120 k ∧ a 120 k ≤ 60 := xT1 h hA h0 rfl (bGu_ok (by decide +kernel) _)
theorem xt122 (h : kOk (xS a b)) (hA : xAr a) (h0 : 0 ≤ k) : -1 ≤ a 122 k ∧ a 122 k ≤ 2 := xT1 h hA h0 rfl (bGu_ok (by decide +kernel) _)
theorem xt123 (h : kOk (xS a b)) (hA : xAr a) (h0 : 0 ≤ k) : 0 ≤ a 123 k ∧ a 123 k ≤ 56 := xT1 h hA h0 rfl (bGu_ok (by decide +kernel) _)
theorem xt124 (h : kOk (xS a b)) (hA : xAr a) (h0 : 0 ≤ k) : 0 ≤ a 124 k ∧ a 124 k ≤ 1 := xT1 h hA h0 rfl (bGu_ok (by decide +kernel) _)
end
