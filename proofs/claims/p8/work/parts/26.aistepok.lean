/-! every instruction of the abstract machine is sound -/
section
variable {L : aLa} {Ln : Nat} {xs : Nat → Int32} {ro : Nat → Nat × (Nat → Int32)} {σ0 σ σ' : pmS} {o m rt pc pc' : Nat} {i : Instr} {cl cl' : pmL} {cs cr : List Value} {n n' : Nat} {ρ ρ' : Nat → Int} {k : aKk} {X X' : aX} {M M' : aM} {pl pl' : aL} {st r : List aV} {f g : aF} {p q : Nat} {a b : aV} {v w : Value}
theorem aBif {c t : Bool} (h : (bif c then t else false) = true) : c = true ∧ t = true := by
  cases c with
  | true => exact ⟨rfl, h⟩
  | false => cases h
theorem aBin_i {op : aE → aF → aF → (aE → aF → Bool) → Bool} {cop : Int32 → Int32 → Int32} (hX : aXok L ρ X) (hM : aMok X.1.length ρ σ0 M σ) (hl : aLok X.1.length ρ pl cl) (hs : aSok X.1.length ρ st cs)
    (hop : ∀ (K : aE → aF → Bool) (f g : aF) (a b : Int32), aFok X.1.length ρ f a.toInt → aFok X.1.length ρ g b.toInt → op X.1 f g K = true → aGv L X.1 ρ (cop a b).toInt K)
    (hst : ∀ (y x : Int32) (cr : List Value), pmStep ro (fun _ _ _ => none) o m rt pc i cl (.int y :: .int x :: cr) σ = some (.inr (pc + 1, cl, .int (cop x y) :: cr, σ)))
    (hK : aBin op false pc pl st X M k = true) : aNx ro L σ0 o m rt pc i cl cs σ X.1.length ρ k := by
  unfold aBin at hK
  split at hK
  · rename_i ta g tb f r
    obtain ⟨hc, hK⟩ := aBif hK
    cases ta <;> cases tb <;> first | (simp at hc; done) | skip
    obtain ⟨v1, c1, rfl, w1, hr1⟩ := aSok_cons hs
    obtain ⟨v2, c2, rfl, w2, hr2⟩ := aSok_cons hr1
    obtain ⟨y, rfl, hy⟩ := aVok_int w1
    obtain ⟨x, rfl, hx⟩ := aVok_int w2
    exact aNx.gi (hst y x c2) hX hM hl hr2 rfl (hop _ f g x y hx hy hK)
  · cases hK
theorem aBin_l {op : aE → aF → aF → (aE → aF → Bool) → Bool} {cop : Int64 → Int64 → Int64} (hX : aXok L ρ X) (hM : aMok X.1.length ρ σ0 M σ) (hl : aLok X.1.length ρ pl cl) (hs : aSok X.1.length ρ st cs)
    (hop : ∀ (K : aE → aF → Bool) (f g : aF) (a b : Int64), aFok X.1.length ρ f a.toInt → aFok X.1.length ρ g b.toInt → op X.1 f g K = true → aGv L X.1 ρ (cop a b).toInt K)
    (hst : ∀ (y x : Int64) (cr : List Value), pmStep ro (fun _ _ _ => none) o m rt pc i cl (.long y :: .long x :: cr) σ = some (.inr (pc + 1, cl, .long (cop x y) :: cr, σ)))
    (hK : aBin op true pc pl st X M k = true) : aNx ro L σ0 o m rt pc i cl cs σ X.1.length ρ k := by
  unfold aBin at hK
  split at hK
  · rename_i ta g tb f r
    obtain ⟨hc, hK⟩ := aBif hK
    cases ta <;> cases tb <;> first | (simp at hc; done) | skip
    obtain ⟨v1, c1, rfl, w1, hr1⟩ := aSok_cons hs
    obtain ⟨v2, c2, rfl, w2, hr2⟩ := aSok_cons hr1
    obtain ⟨y, rfl, hy⟩ := aVok_long w1
    obtain ⟨x, rfl, hx⟩ := aVok_long w2
    exact aNx.gl (hst y x c2) hX hM hl hr2 rfl (hop _ f g x y hx hy hK)
  · cases hK
theorem aLg_cmp (x y : Int64) : (x.toInt = y.toInt → lg_cmp x y = 0) ∧ (x.toInt < y.toInt → lg_cmp x y = -1) ∧ (y.toInt < x.toInt → lg_cmp x y = 1) := by
  have hgt : x > y ↔ y.toInt < x.toInt := Int64.lt_iff_toInt_lt
  unfold lg_cmp
  refine ⟨fun h => ?_, fun h => ?_, fun h => ?_⟩
  · have e := Int64.toInt.inj h
    rw [if_neg (by rw [hgt]; omega), if_pos e]
  · rw [if_neg (by rw [hgt]; omega), if_neg (fun e => by rw [e] at h; omega)]
  · rw [if_pos (hgt.mpr h)]
theorem aEq32 {x y : Int32} : x = y ↔ x.toInt = y.toInt := Int32.toInt_inj.symm
theorem aLe32 {x y : Int32} : x ≤ y ↔ x.toInt ≤ y.toInt := Int32.le_iff_toInt_le
theorem aKeep_zo {x : Int32} {h : aF} {E : aE} {K : aE → aF → Bool} (hE : aEok L ρ E) (hf : aFok E.length ρ h x.toInt) (hK : aKeep 0 1 E h K = true) : aGv L E ρ (vp_nar .boolean x).toInt K := by
  have e0 : vp_nar .boolean x = x &&& 1 := rfl
  rw [e0]
  have hb := aAnd32 x 1 (by decide)
  have h1 : (1 : Int32).toInt = 1 := rfl
  rw [h1] at hb
  refine aKeep_ok hE hf (fun a1 a2 => ?_) hb hK
  have : x = 0 ∨ x = 1 := by
    have h0 : (0 : Int32).toInt = 0 := rfl
    rcases (show x.toInt = 0 ∨ x.toInt = 1 by omega) with h | h
    · exact Or.inl (Int32.toInt.inj (by rw [h, h0]))
    · exact Or.inr (Int32.toInt.inj (by rw [h, h1]))
  rcases this with rfl | rfl <;> rfl
theorem aByte (x : Int32) : -128 ≤ x.toInt8.toInt32.toInt ∧ x.toInt8.toInt32.toInt ≤ 127 := by
  rw [Int8.toInt_toInt32]
  have h1 := Int8.le_toInt x.toInt8
  have h2 := Int8.toInt_lt x.toInt8
  omega
theorem aByte_eq {x : Int32} (h1 : -128 ≤ x.toInt) (h2 : x.toInt ≤ 127) : x.toInt8.toInt32.toInt = x.toInt := by
  rw [Int8.toInt_toInt32, Int32.toInt_toInt8]
  exact Int.bmod_eq_of_le (by omega) (by omega)
theorem aKeep_by {x : Int32} {h : aF} {E : aE} {K : aE → aF → Bool} (hE : aEok L ρ E) (hf : aFok E.length ρ h x.toInt) (hK : aKeep (-128) 127 E h K = true) : aGv L E ρ x.toInt8.toInt32.toInt K :=
  aKeep_ok hE hf (fun a1 a2 => aByte_eq a1 a2) (aByte x) hK
theorem aZi_cp (a b sp dp s : Nat) : aZi (σ.1, pmRow σ.2.1 b (va_cpy (σ.2.1 a) (σ.2.1 b) sp dp s), σ.2.2) = aCpF (aZi σ) a b sp dp s := by
  funext q j
  show (if q = b then va_cpy (σ.2.1 a) (σ.2.1 b) sp dp s j else σ.2.1 q j).toInt = if q = b then (if dp ≤ j ∧ j < dp + s then (σ.2.1 a (sp + (j - dp))).toInt else (σ.2.1 b j).toInt) else (σ.2.1 q j).toInt
  unfold va_cpy
  repeat' split
  all_goals rfl
theorem aZl_cp (a b sp dp s : Nat) : aZl (σ.1, σ.2.1, pmRow σ.2.2 b (va_cpy (σ.2.2 a) (σ.2.2 b) sp dp s)) = aCpF (aZl σ) a b sp dp s := by
  funext q j
  show (if q = b then va_cpy (σ.2.2 a) (σ.2.2 b) sp dp s j else σ.2.2 q j).toInt = if q = b then (if dp ≤ j ∧ j < dp + s then (σ.2.2 a (sp + (j - dp))).toInt else (σ.2.2 b j).toInt) else (σ.2.2 q j).toInt
  unfold va_cpy
  repeat' split
  all_goals rfl
theorem aTn {x : Int32} {z : Int} (h : x.toInt = z) : x.toNatClampNeg = z.toNat := by rw [← h]; rfl
theorem aNn {x : Int32} : ¬ x < 0 ↔ 0 ≤ x.toInt := by
  rw [aLt32]
  have : (0 : Int32).toInt = 0 := rfl
  omega
set_option maxHeartbeats 4000000 in
theorem aStep_ok (hro : ro = pmRo Ln xs) (hL : L = ((Ln : Int), xs)) (hLn : Ln ≤ 3072) (hX : aXok L ρ X) (hM : aMok X.1.length ρ σ0 M σ) (hl : aLok X.1.length ρ pl cl) (hs : aSok X.1.length ρ st cs) (hK : aStep o m rt pc i pl st X M k = true) : aNx ro L σ0 o m rt pc i cl cs σ X.1.length ρ k := by
  have hE := hX.1
  cases i with
  | iconst z =>
    simp only [aStep, aDis, aS_iconst, aFz_eq, fG2_eq, zLe_eq, zAdd_eq] at hK
    exact aNx.go (cr := .int (Int32.ofInt z) :: cs) rfl hX hM hl (by exact ⟨aFok.c0 hE, hs⟩) rfl hK
  | bipush z =>
    simp only [aStep, aDis, aS_bipush, aFz_eq, fG2_eq, zLe_eq, zAdd_eq] at hK
    exact aNx.go (cr := .int (Int8.ofInt z).toInt32 :: cs) rfl hX hM hl (by exact ⟨aFok.c0 hE, hs⟩) rfl hK
  | sipush z =>
    simp only [aStep, aDis, aS_sipush, aFz_eq, fG2_eq, zLe_eq, zAdd_eq] at hK
    exact aNx.go (cr := .int (Int16.ofInt z).toInt32 :: cs) rfl hX hM hl (by exact ⟨aFok.c0 hE, hs⟩) rfl hK
  | ldc z =>
    simp only [aStep, aDis, aS_ldc, fG2_eq, zLe_eq, zAdd_eq] at hK
    split at hK
    · rename_i v w hv
      rw [aFz_eq] at hK
      exact aNx.go (cr := .int v :: cs) (by simp only [pmStep, hv]; rfl) hX hM hl (by exact ⟨aFok.c0 hE, hs⟩) rfl hK
    · cases hK
  | ldc_w z =>
    simp only [aStep, aDis, aS_ldc_w, fG2_eq, zLe_eq, zAdd_eq] at hK
    split at hK
    · rename_i v w hv
      rw [aFz_eq] at hK
      exact aNx.go (cr := .int v :: cs) (by simp only [pmStep, hv]; rfl) hX hM hl (by exact ⟨aFok.c0 hE, hs⟩) rfl hK
    · cases hK
  | lconst z =>
    simp only [aStep, aDis, aS_lconst, aFz_eq, fG2_eq, zLe_eq, zAdd_eq] at hK
    exact aNx.go (cr := .long (Int64.ofNat z.val) :: cs) rfl hX hM hl (by exact ⟨aFok.c0 hE, hs⟩) rfl hK
  | ldc2_w z =>
    simp only [aStep, aDis, aS_ldc2_w, fG2_eq, zLe_eq, zAdd_eq] at hK
    split at hK
    · rename_i v w hv
      rw [aFz_eq] at hK
      exact aNx.go (cr := .long v :: cs) (by simp only [pmStep, hv]; rfl) hX hM hl (by exact ⟨aFok.c0 hE, hs⟩) rfl hK
    · cases hK
  | iload j =>
    simp only [aStep, aDis, aS_iload, fG2_eq, zLe_eq, zAdd_eq] at hK
    obtain ⟨a, v, h1, h2, h3⟩ := aLd1_ok hl hK
    split at h3
    · obtain ⟨x, rfl, hx⟩ := aVok_int h2
      exact aNx.go (cr := .int x :: cs) (by simp only [pmStep, h1]; rfl) hX hM hl (by exact ⟨hx, hs⟩) rfl h3
    · cases h3
  | iload_n j =>
    simp only [aStep, aDis, aS_iload_n, fG2_eq, zLe_eq, zAdd_eq] at hK
    obtain ⟨a, v, h1, h2, h3⟩ := aLd1_ok hl hK
    split at h3
    · obtain ⟨x, rfl, hx⟩ := aVok_int h2
      exact aNx.go (cr := .int x :: cs) (by simp only [pmStep, h1]; rfl) hX hM hl (by exact ⟨hx, hs⟩) rfl h3
    · cases h3
  | lload j =>
    simp only [aStep, aDis, aS_lload, fG2_eq, zLe_eq, zAdd_eq] at hK
    obtain ⟨a, v, h1, h2, h3⟩ := aLd1_ok hl hK
    split at h3
    · obtain ⟨x, rfl, hx⟩ := aVok_long h2
      exact aNx.go (cr := .long x :: cs) (by simp only [pmStep, h1]; rfl) hX hM hl (by exact ⟨hx, hs⟩) rfl h3
    · cases h3
  | lload_n j =>
    simp only [aStep, aDis, aS_lload_n, fG2_eq, zLe_eq, zAdd_eq] at hK
    obtain ⟨a, v, h1, h2, h3⟩ := aLd1_ok hl hK
    split at h3
    · obtain ⟨x, rfl, hx⟩ := aVok_long h2
      exact aNx.go (cr := .long x :: cs) (by simp only [pmStep, h1]; rfl) hX hM hl (by exact ⟨hx, hs⟩) rfl h3
    · cases h3
  | aload j =>
    simp only [aStep, aDis, aS_aload, fG2_eq, zLe_eq, zAdd_eq] at hK
    obtain ⟨a, v, h1, h2, h3⟩ := aLd1_ok hl hK
    split at h3
    · rename_i p
      cases aVok_ref h2
      exact aNx.go (cr := .ref p :: cs) (by simp only [pmStep, h1]; rfl) hX hM hl (by exact ⟨rfl, hs⟩) rfl h3
    · cases h3
  | aload_n j =>
    simp only [aStep, aDis, aS_aload_n, fG2_eq, zLe_eq, zAdd_eq] at hK
    obtain ⟨a, v, h1, h2, h3⟩ := aLd1_ok hl hK
    split at h3
    · rename_i p
      cases aVok_ref h2
      exact aNx.go (cr := .ref p :: cs) (by simp only [pmStep, h1]; rfl) hX hM hl (by exact ⟨rfl, hs⟩) rfl h3
    · cases h3
  | istore j =>
    simp only [aStep, aDis, aS_istore, fG2_eq, zLe_eq, zAdd_eq] at hK
    split at hK
    · obtain ⟨v, cr, rfl, hv, hr⟩ := aSok_cons hs
      obtain ⟨x, rfl, hx⟩ := aVok_int hv
      obtain ⟨hc, pl', h1, h2⟩ := aSt1_ok (a := .inl (false, _)) hl j (v := .int x) hx hK
      exact aNx.go (cr := cr) (by simp only [pmStep]; rw [if_pos hc]; rfl) hX hM h1 hr rfl h2
    · cases hK
  | istore_n j =>
    simp only [aStep, aDis, aS_istore_n, fG2_eq, zLe_eq, zAdd_eq] at hK
    split at hK
    · obtain ⟨v, cr, rfl, hv, hr⟩ := aSok_cons hs
      obtain ⟨x, rfl, hx⟩ := aVok_int hv
      obtain ⟨hc, pl', h1, h2⟩ := aSt1_ok (a := .inl (false, _)) hl j.val (v := .int x) hx hK
      exact aNx.go (cr := cr) (by simp only [pmStep]; rw [if_pos hc]; rfl) hX hM h1 hr rfl h2
    · cases hK
  | astore j =>
    simp only [aStep, aDis, aS_astore, fG2_eq, zLe_eq, zAdd_eq] at hK
    split at hK
    · rename_i p r
      obtain ⟨v, cr, rfl, hv, hr⟩ := aSok_cons hs
      cases aVok_ref hv
      obtain ⟨hc, pl', h1, h2⟩ := aSt1_ok (a := .inr p) (v := .ref p) hl j rfl hK
      exact aNx.go (cr := cr) (by simp only [pmStep]; rw [if_pos hc]; rfl) hX hM h1 hr rfl h2
    · cases hK
  | astore_n j =>
    simp only [aStep, aDis, aS_astore_n, fG2_eq, zLe_eq, zAdd_eq] at hK
    split at hK
    · rename_i p r
      obtain ⟨v, cr, rfl, hv, hr⟩ := aSok_cons hs
      cases aVok_ref hv
      obtain ⟨hc, pl', h1, h2⟩ := aSt1_ok (a := .inr p) (v := .ref p) hl j.val rfl hK
      exact aNx.go (cr := cr) (by simp only [pmStep]; rw [if_pos hc]; rfl) hX hM h1 hr rfl h2
    · cases hK
  | lstore j =>
    simp only [aStep, aDis, aS_lstore, fG2_eq, zLe_eq, zAdd_eq] at hK
    split at hK
    · obtain ⟨v, cr, rfl, hv, hr⟩ := aSok_cons hs
      obtain ⟨x, rfl, hx⟩ := aVok_long hv
      obtain ⟨hc, hK⟩ := aBif hK
      obtain ⟨hc0, pl', h1, h2⟩ := aSt2_ok (a := .inl (true, _)) hl j (v := .long x) hx hK
      exact aNx.go (cr := cr) (by simp only [pmStep]; rw [if_pos ⟨hc0, hc⟩]; rfl) hX hM h1 hr rfl h2
    · cases hK
  | lstore_n j =>
    simp only [aStep, aDis, aS_lstore_n, fG2_eq, zLe_eq, zAdd_eq] at hK
    split at hK
    · obtain ⟨v, cr, rfl, hv, hr⟩ := aSok_cons hs
      obtain ⟨x, rfl, hx⟩ := aVok_long hv
      obtain ⟨hc, hK⟩ := aBif hK
      obtain ⟨hc0, pl', h1, h2⟩ := aSt2_ok (a := .inl (true, _)) hl j.val (v := .long x) hx hK
      exact aNx.go (cr := cr) (by simp only [pmStep]; rw [if_pos ⟨hc0, hc⟩]; rfl) hX hM h1 hr rfl h2
    · cases hK
  | iinc j z =>
    simp only [aStep, aDis, aS_iinc, fG2_eq, zLe_eq, zAdd_eq] at hK
    obtain ⟨a, v, h1, h2, h3⟩ := aLd1_ok hl hK
    split at h3
    · obtain ⟨x, rfl, hx⟩ := aVok_int h2
      obtain ⟨E', ρ', g, e1, e2, e3, e4, e5⟩ := aAdd32_ok (b := Int32.ofInt z) hE hx (aFok.c0 hE) h3
      obtain ⟨-, pl', l1, l2⟩ := aSt1_ok (a := .inl (false, _)) (hl.ext e1 e2) j (v := .int (x + Int32.ofInt z)) e4 e5
      exact ⟨pc + 3, _, cs, σ, (E', X.2), M, pl', st, ρ', by simp only [pmStep, h1]; rfl, e1, e2, hX.ext e1 e2 e3, hM.ext e1 e2, l1, hs.ext e1 e2, l2⟩
    · cases h3
  | iadd => exact aBin_i hX hM hl hs (cop := (· + ·)) (fun K f g a b ha hb h => aAdd32_ok hE ha hb h) (fun _ _ _ => rfl) hK
  | isub => exact aBin_i hX hM hl hs (cop := (· - ·)) (fun K f g a b ha hb h => aSub32_ok hE ha hb h) (fun _ _ _ => rfl) hK
  | imul => exact aBin_i hX hM hl hs (cop := (· * ·)) (fun K f g a b ha hb h => aOp_ok (aRu32_top _) hE ha hb h) (fun _ _ _ => rfl) hK
  | iand => exact aBin_i hX hM hl hs (cop := (· &&& ·)) (fun K f g a b ha hb h => aOp_ok aRu_and32 hE ha hb h) (fun _ _ _ => rfl) hK
  | ior => exact aBin_i hX hM hl hs (cop := (· ||| ·)) (fun K f g a b ha hb h => aOp_ok (aRu32_top _) hE ha hb h) (fun _ _ _ => rfl) hK
  | ixor => exact aBin_i hX hM hl hs (cop := (· ^^^ ·)) (fun K f g a b ha hb h => aOp_ok (aRu32_top _) hE ha hb h) (fun _ _ _ => rfl) hK
  | ishl => exact aBin_i (op := aOp (fun x y => x <<< (y &&& 31)) fun _ _ => aT32) hX hM hl hs (cop := fun x y => x <<< (y &&& 31)) (fun K f g a b ha hb h => aOp_ok (op := fun x y => x <<< (y &&& 31)) (aRu32_top _) hE ha hb h) (fun _ _ _ => rfl) hK
  | ishr => exact aBin_i (op := aOp (fun x y => x >>> (y &&& 31)) fun _ _ => aT32) hX hM hl hs (cop := fun x y => x >>> (y &&& 31)) (fun K f g a b ha hb h => aOp_ok (op := fun x y => x >>> (y &&& 31)) (aRu32_top _) hE ha hb h) (fun _ _ _ => rfl) hK
  | iushr => exact aBin_i (op := aOp (fun x y => (x.toUInt32 >>> (y.toUInt32 &&& Int32.toUInt32 31)).toInt32) fun _ _ => aT32) hX hM hl hs (cop := fun x y => (x.toUInt32 >>> (y.toUInt32 &&& Int32.toUInt32 31)).toInt32) (fun K f g a b ha hb h => aOp_ok (op := fun x y => (x.toUInt32 >>> (y.toUInt32 &&& Int32.toUInt32 31)).toInt32) (aRu32_top _) hE ha hb h) (fun _ _ _ => rfl) hK
  | ladd => exact aBin_l hX hM hl hs (cop := (· + ·)) (fun K f g a b ha hb h => aAdd64_ok hE ha hb h) (fun _ _ _ => rfl) hK
  | lmul => exact aBin_l hX hM hl hs (cop := (· * ·)) (fun K f g a b ha hb h => aOq_ok (aRu64_top _) hE ha hb h) (fun _ _ _ => rfl) hK
  | land => exact aBin_l hX hM hl hs (cop := (· &&& ·)) (fun K f g a b ha hb h => aOq_ok aRu_and64 hE ha hb h) (fun _ _ _ => rfl) hK
  | lor => exact aBin_l hX hM hl hs (cop := (· ||| ·)) (fun K f g a b ha hb h => aOq_ok (aRu64_top _) hE ha hb h) (fun _ _ _ => rfl) hK
  | lxor => exact aBin_l hX hM hl hs (cop := (· ^^^ ·)) (fun K f g a b ha hb h => aOq_ok (aRu64_top _) hE ha hb h) (fun _ _ _ => rfl) hK
  | lshl =>
    simp only [aStep, aDis, aS_lshl, fG2_eq, zLe_eq, zAdd_eq] at hK
    split at hK
    · obtain ⟨v1, c1, rfl, w1, hr1⟩ := aSok_cons hs
      obtain ⟨v2, c2, rfl, w2, hr2⟩ := aSok_cons hr1
      obtain ⟨y, rfl, hy⟩ := aVok_int w1
      obtain ⟨x, rfl, hx⟩ := aVok_long w2
      exact aNx.gl (w := x <<< (y.toInt64 &&& 63)) rfl hX hM hl hr2 rfl (aOs_ok (aRuS_top _) hE hx hy hK)
    · cases hK
  | lushr =>
    simp only [aStep, aDis, aS_lushr, fG2_eq, zLe_eq, zAdd_eq] at hK
    split at hK
    · obtain ⟨v1, c1, rfl, w1, hr1⟩ := aSok_cons hs
      obtain ⟨v2, c2, rfl, w2, hr2⟩ := aSok_cons hr1
      obtain ⟨y, rfl, hy⟩ := aVok_int w1
      obtain ⟨x, rfl, hx⟩ := aVok_long w2
      exact aNx.gl (w := (x.toUInt64 >>> (y.toInt64.toUInt64 &&& Int64.toUInt64 63)).toInt64) rfl hX hM hl hr2 rfl (aOs_ok (aRuS_top _) hE hx hy hK)
    · cases hK
  | lcmp =>
    simp only [aStep, aDis, aS_lcmp, fG2_eq, zLe_eq, zAdd_eq] at hK
    split at hK
    · obtain ⟨v1, c1, rfl, w1, hr1⟩ := aSok_cons hs
      obtain ⟨v2, c2, rfl, w2, hr2⟩ := aSok_cons hr1
      obtain ⟨y, rfl, hy⟩ := aVok_long w1
      obtain ⟨x, rfl, hx⟩ := aVok_long w2
      obtain ⟨g1, g2, g3⟩ := aLg_cmp x y
      obtain ⟨k1, k2⟩ := aIf_ok hX hx hy hK
      by_cases e : x.toInt = y.toInt
      · obtain ⟨Y, y1, y2, y3⟩ := k1 e
        exact aNx.gx (X := X) (r := aI0 0 :: _) (cr := .int 0 :: c2) (by rw [← g1 e]; rfl) ⟨Y, y1, y2, y3⟩ (fun _ h => h) hM hl (by exact ⟨aFok.c0 hE, hr2⟩)
      · obtain ⟨Y, y1, y2, y3⟩ := k2 e
        obtain ⟨k3, k4⟩ := aIf_ok y2 (by rw [y1]; exact hx) (by rw [y1]; exact hy) y3
        by_cases e2 : x.toInt < y.toInt
        · exact aNx.gx (X := X) (r := aI0 (-1) :: _) (cr := .int (-1) :: c2) (by rw [← g2 e2]; rfl) ((k3 e2).tr y1) (fun _ h => h) hM hl (by exact ⟨aFok.c0 hE, hr2⟩)
        · exact aNx.gx (X := X) (r := aI0 1 :: _) (cr := .int 1 :: c2) (by rw [← g3 (by omega)]; rfl) ((k4 e2).tr y1) (fun _ h => h) hM hl (by exact ⟨aFok.c0 hE, hr2⟩)
    · cases hK
  | i2l =>
    simp only [aStep, aDis, aS_i2l, fG2_eq, zLe_eq, zAdd_eq] at hK
    split at hK
    · obtain ⟨v1, c1, rfl, w1, hr1⟩ := aSok_cons hs
      obtain ⟨x, rfl, hx⟩ := aVok_int w1
      exact aNx.go (cr := .long x.toInt64 :: c1) rfl hX hM hl (by exact ⟨by rw [← Int32.toInt_toInt64] at hx; exact hx, hr1⟩) rfl hK
    · cases hK
  | l2i =>
    simp only [aStep, aDis, aS_l2i, fG2_eq, zLe_eq, zAdd_eq] at hK
    split at hK
    · obtain ⟨v1, c1, rfl, w1, hr1⟩ := aSok_cons hs
      obtain ⟨x, rfl, hx⟩ := aVok_long w1
      exact aNx.gi (w := x.toInt32) rfl hX hM hl hr1 rfl (aKeep_ok hE hx (fun a1 a2 => by rw [Int64.toInt_toInt32]; exact aBm32 a1 a2) (aB32 _) hK)
    · cases hK
  | i2b =>
    simp only [aStep, aDis, aS_i2b, fG2_eq, zLe_eq, zAdd_eq] at hK
    split at hK
    · obtain ⟨v1, c1, rfl, w1, hr1⟩ := aSok_cons hs
      obtain ⟨x, rfl, hx⟩ := aVok_int w1
      exact aNx.gi (w := x.toInt8.toInt32) rfl hX hM hl hr1 rfl (aKeep_by hE hx hK)
    · cases hK
  | dup =>
    simp only [aStep, aDis, aS_dup, fG2_eq, zLe_eq, zAdd_eq] at hK
    split at hK
    · obtain ⟨v1, c1, rfl, w1, hr1⟩ := aSok_cons hs
      obtain ⟨hc, hK⟩ := aBif hK
      have e := (aVok_cat w1).trans (Nat.eq_of_beq_eq_true hc)
      exact aNx.go (cr := v1 :: v1 :: c1) (by simp only [pmStep]; rw [if_pos e]; rfl) hX hM hl (by exact ⟨w1, w1, hr1⟩) rfl hK
    · cases hK
  | dup2 =>
    simp only [aStep, aDis, aS_dup2, fG2_eq, zLe_eq, zAdd_eq] at hK
    split at hK
    · obtain ⟨v1, c1, rfl, w1, hr1⟩ := aSok_cons hs
      obtain ⟨v2, c2, rfl, w2, hr2⟩ := aSok_cons hr1
      obtain ⟨hc, hK⟩ := aBif hK
      rw [Bool.and_eq_true] at hc
      have e1 := (aVok_cat w1).trans (Nat.eq_of_beq_eq_true hc.1)
      have e2 := (aVok_cat w2).trans (Nat.eq_of_beq_eq_true hc.2)
      exact aNx.go (cr := v1 :: v2 :: v1 :: v2 :: c2) (by simp only [pmStep]; rw [if_pos ⟨e1, e2⟩]; rfl) hX hM hl (by exact ⟨w1, w2, w1, w2, hr2⟩) rfl hK
    · cases hK
  | pop =>
    simp only [aStep, aDis, aS_pop, fG2_eq, zLe_eq, zAdd_eq] at hK
    split at hK
    · obtain ⟨v1, c1, rfl, w1, hr1⟩ := aSok_cons hs
      obtain ⟨hc, hK⟩ := aBif hK
      have e := (aVok_cat w1).trans (Nat.eq_of_beq_eq_true hc)
      exact aNx.go (cr := c1) (by simp only [pmStep]; rw [if_pos e]; rfl) hX hM hl hr1 rfl hK
    · cases hK
  | ifCond c off =>
    simp only [aStep, aDis, aS_ifCond, fG2_eq, zLe_eq, zAdd_eq] at hK
    split at hK
    · obtain ⟨v1, c1, rfl, w1, hr1⟩ := aSok_cons hs
      obtain ⟨x, rfl, hx⟩ := aVok_int w1
      have h0 : (0 : Int32).toInt = 0 := rfl
      cases c with
      | eq => exact aNx.br (C := x = 0) (y := 0) rfl (by show x = 0 ↔ x.toInt = 0; rw [aEq32, h0]) hX hM hl hr1 hx (aFok.c0 hE) hK
      | ne => exact aNx.br (C := ¬ x = 0) (y := 0) rfl (by show (¬ x = 0) ↔ x.toInt ≠ 0; rw [aEq32, h0]) hX hM hl hr1 hx (aFok.c0 hE) hK
      | lt => exact aNx.br (C := x < 0) (y := 0) rfl (by show x < 0 ↔ x.toInt < 0; rw [aLt32, h0]) hX hM hl hr1 hx (aFok.c0 hE) hK
      | ge => exact aNx.br (C := 0 ≤ x) (y := 0) rfl (by show 0 ≤ x ↔ 0 ≤ x.toInt; rw [aLe32, h0]) hX hM hl hr1 hx (aFok.c0 hE) hK
      | gt => exact aNx.br (C := 0 < x) (y := 0) rfl (by show 0 < x ↔ 0 < x.toInt; rw [aLt32, h0]) hX hM hl hr1 hx (aFok.c0 hE) hK
      | le => exact aNx.br (C := x ≤ 0) (y := 0) rfl (by show x ≤ 0 ↔ x.toInt ≤ 0; rw [aLe32, h0]) hX hM hl hr1 hx (aFok.c0 hE) hK
    · cases hK
  | if_icmp c off =>
    simp only [aStep, aDis, aS_if_icmp, fG2_eq, zLe_eq, zAdd_eq] at hK
    split at hK
    · obtain ⟨v1, c1, rfl, w1, hr1⟩ := aSok_cons hs
      obtain ⟨v2, c2, rfl, w2, hr2⟩ := aSok_cons hr1
      obtain ⟨y, rfl, hy⟩ := aVok_int w1
      obtain ⟨x, rfl, hx⟩ := aVok_int w2
      cases c with
      | eq => exact aNx.br (C := x = y) rfl aEq32 hX hM hl hr2 hx hy hK
      | ne => exact aNx.br (C := ¬ x = y) rfl (by show (¬ x = y) ↔ x.toInt ≠ y.toInt; rw [aEq32]) hX hM hl hr2 hx hy hK
      | lt => exact aNx.br (C := x < y) rfl aLt32 hX hM hl hr2 hx hy hK
      | ge => exact aNx.br (C := y ≤ x) rfl aLe32 hX hM hl hr2 hx hy hK
      | gt => exact aNx.br (C := y < x) rfl aLt32 hX hM hl hr2 hx hy hK
      | le => exact aNx.br (C := x ≤ y) rfl aLe32 hX hM hl hr2 hx hy hK
    · cases hK
  | goto off =>
    simp only [aStep, aDis, aS_goto, fG2_eq, zLe_eq, zAdd_eq] at hK
    obtain ⟨t, ht, hK⟩ := aJp_ok hK
    exact aNx.go (cr := cs) (by simp only [pmStep]; exact pmJp_eq ht) hX hM hl hs rfl hK
  | tableswitch d lo hi offs =>
    simp only [aStep, aDis, aS_tableswitch, fG2_eq, zLe_eq, zAdd_eq] at hK
    split at hK
    · obtain ⟨v1, c1, rfl, w1, hr1⟩ := aSok_cons hs
      obtain ⟨x, rfl, hx⟩ := aVok_int w1
      obtain ⟨hc, hK⟩ := aBif hK
      have hlen := of_decide_eq_true hc
      obtain ⟨t, ht, hg⟩ := aSw_ok _ X hX hx hK
      have e := aTab_off lo d x.toInt offs.toList 0
      simp only [Nat.add_zero, Int.natCast_zero, Int.add_zero, Int.sub_zero] at e
      rw [e] at ht
      refine aNx.gx (cr := c1) ?_ hg (fun _ h => h) hM hl hr1
      simp only [pmStep]
      by_cases h : x.toInt < lo ∨ hi < x.toInt
      · rw [if_pos h]
        rw [if_pos (by omega)] at ht
        exact pmJp_eq ht
      · rw [if_neg h]
        rw [if_neg (by omega)] at ht
        have hlt : (x.toInt - lo).toNat < offs.toList.length := by omega
        rw [List.getElem?_eq_getElem hlt] at ht
        have e2 : offs[(x.toInt - lo).toNat]? = some (offs.toList[(x.toInt - lo).toNat]) := by rw [← Array.getElem?_toList, List.getElem?_eq_getElem hlt]
        rw [e2]
        exact pmJp_eq ht
    · cases hK
  | lookupswitch d ps =>
    simp only [aStep, aDis, aS_lookupswitch, fG2_eq, zLe_eq, zAdd_eq] at hK
    split at hK
    · obtain ⟨v1, c1, rfl, w1, hr1⟩ := aSok_cons hs
      obtain ⟨x, rfl, hx⟩ := aVok_int w1
      obtain ⟨hc, hK⟩ := aBif hK
      obtain ⟨t, ht, hg⟩ := aSw_ok _ X hX hx hK
      refine aNx.gx (cr := c1) ?_ hg (fun _ h => h) hM hl hr1
      simp only [pmStep]
      rw [if_pos hc]
      exact pmJp_eq ht
    · cases hK
  | getfield j =>
    simp only [aStep, aDis, aS_getfield, fG2_eq, zLe_eq, zAdd_eq] at hK
    split at hK
    · rename_i ci fk w1 w2 hF
      split at hK
      · rename_i p r
        obtain ⟨v1, c1, rfl, w1, hr1⟩ := aSok_cons hs
        cases aVok_ref w1
        split at hK
        · rename_i c n0 rs hZ
          rw [← hM.1.2] at hZ
          obtain ⟨hc, hK⟩ := aBif hK
          have hc := Nat.eq_of_beq_eq_true hc
          subst hc
          split at hK
          · rename_i hkd
            exact aNx.ri (w := σ.2.1 p fk) (by simp only [pmStep, hF, hZ, pmRd, hkd, if_true]; rfl) hX hM hl hr1 (aGetK_ok hE hM.2.1 hK)
          · rename_i hkd
            exact aNx.ri (w := σ.2.1 p fk) (by simp only [pmStep, hF, hZ, pmRd, hkd, if_true]; rfl) hX hM hl hr1 (aGetK_ok hE hM.2.1 hK)
          · rename_i hkd
            exact aNx.rl (w := σ.2.2 p fk) (by simp only [pmStep, hF, hZ, pmRd, hkd, if_true]; rfl) hX hM hl hr1 (aGetK_ok hE hM.2.2.1 hK)
          · rename_i hkd
            split at hK
            · rename_i q hq
              exact aNx.go (cr := .ref q :: c1) (by simp only [pmStep, hF, hZ, pmRd, hkd, if_true, hq]; rfl) hX hM hl (by exact ⟨rfl, hr1⟩) rfl hK
            · cases hK
          · cases hK
        · cases hK
      · cases hK
    · cases hK
  | putfield j =>
    simp only [aStep, aDis, aS_putfield, fG2_eq, zLe_eq, zAdd_eq] at hK
    split at hK
    · rename_i ci fk w1 nst hF
      split at hK
      · rename_i v p r
        obtain ⟨v1, c1, rfl, w1, hr1⟩ := aSok_cons hs
        obtain ⟨v2, c2, rfl, w2, hr2⟩ := aSok_cons hr1
        cases aVok_ref w2
        split at hK
        · rename_i c n0 rs hZ
          rw [← hM.1.2] at hZ
          split at hK
          · rename_i hcond
            split at hK
            · rename_i f hkd
              obtain ⟨x, rfl, hx⟩ := aVok_int w1
              obtain ⟨H, h1, h2⟩ := hM.pi (aPutK_ok hM.2.1 hx hK)
              exact aNx.go (cr := c2) (by simp only [pmStep, hF, hZ]; rw [if_pos hcond]; simp only [pmWr, hkd]; rfl) hX h1 hl hr2 rfl h2
            · rename_i f hkd
              obtain ⟨x, rfl, hx⟩ := aVok_int w1
              split at hK
              · rename_i i hi
                rw [zAnd, zIf] at hK
                split at hK
                · rename_i hb
                  obtain ⟨H, h1, h2⟩ := hM.pi (aPutK_ok hM.2.1 hx hK)
                  have hv := aItv_ok hE hx hi
                  have h0 : (0 : Int32).toInt = 0 := rfl
                  have h10 : (1 : Int32).toInt = 1 := rfl
                  have hzo : x = 0 ∨ x = 1 := by
                    rw [aEq32, aEq32, h0, h10]
                    omega
                  exact aNx.go (cr := c2) (by simp only [pmStep, hF, hZ]; rw [if_pos hcond]; simp only [pmWr, hkd]; rw [if_pos hzo]; rfl) hX h1 hl hr2 rfl h2
                · cases hK
              · cases hK
            · rename_i f hkd
              obtain ⟨x, rfl, hx⟩ := aVok_long w1
              obtain ⟨H, h1, h2⟩ := hM.pn (aPutK_ok hM.2.2.1 hx hK)
              exact aNx.go (cr := c2) (by simp only [pmStep, hF, hZ]; rw [if_pos hcond]; simp only [pmWr, hkd]; rfl) hX h1 hl hr2 rfl h2
            · rename_i q hkd
              cases aVok_ref w1
              obtain ⟨hj, hK⟩ := aBif hK
              rw [aFl_eq] at hK
              obtain ⟨T, z1, hK⟩ := hM.1.set hZ hK
              refine aNx.go (cr := c2) (σ' := (σ.1.set p (c, n0, rs.set fk (some q)), σ.2.1, σ.2.2)) (by simp only [pmStep, hF, hZ]; rw [if_pos hcond]; simp only [pmWr, hkd, hZ]; rw [if_pos (of_decide_eq_true hj)]; rfl) hX ?_ hl hr2 rfl hK
              exact ⟨z1, hM.2.1, hM.2.2.1, hM.2.2.2⟩
            · cases hK
          · cases hK
        · cases hK
      · cases hK
    · cases hK
  | getstatic j =>
    simp only [aStep, aDis, aS_getstatic, fG2_eq, zLe_eq, zAdd_eq] at hK
    split at hK
    · rename_i w1 hG
      exact aNx.go (cr := .ref 1000 :: cs) (by simp only [pmStep, hG]; rfl) hX hM hl (by exact ⟨rfl, hs⟩) rfl hK
    · cases hK
  | iaload =>
    simp only [aStep, aDis, aS_iaload, fG2_eq, zLe_eq, zAdd_eq] at hK
    split at hK
    · rename_i f p r
      obtain ⟨v1, c1, rfl, w1, hr1⟩ := aSok_cons hs
      obtain ⟨v2, c2, rfl, w2, hr2⟩ := aSok_cons hr1
      obtain ⟨x, rfl, hx⟩ := aVok_int w1
      cases aVok_ref w2
      cases hb : Nat.beq p 1000 with
      | true =>
        rw [hb] at hK
        simp only [cond_true] at hK
        have e := Nat.eq_of_beq_eq_true hb
        subst e
        obtain ⟨hc, hK⟩ := aBif hK
        obtain ⟨hin, -⟩ := aAt_ok hX hx hc
        exact aNx.go (cr := .int 1 :: c2) (by subst hro; simp only [pmStep]; rw [if_pos (Nat.le_refl _)]; rw [if_pos (show pmIn x (pmRo Ln xs 1000).1 from hin)]; rfl) hX hM hl (by exact ⟨aFok.c0 hE, hr2⟩) rfl hK
      | false =>
        rw [hb] at hK
        simp only [cond_false] at hK
        cases hb2 : Nat.beq p 1001 with
        | true =>
          rw [hb2] at hK
          simp only [cond_true] at hK
          have e := Nat.eq_of_beq_eq_true hb2
          subst e
          split at hK
          · rename_i i u hi hu
            rw [zAnd, zIf] at hK
            split at hK
            · rename_i hc
              have hv := aItv_ok hE hx hi
              have hub := aUb_ok hX hx (g := (1, 0)) (y := L.1) ⟨hE.1.2.2, by show L.1 = ρ 1 + 0; rw [hE.1.2.1]; omega⟩ hu
              have hL1 : L.1 = (Ln : Int) := by rw [hL]
              have hin : pmIn x (pmRo Ln xs 1001).1 := by
                show ¬ (x < 0 ∨ Ln ≤ x.toNatClampNeg)
                rw [aLt32, aTn rfl]
                have h0 : (0 : Int32).toInt = 0 := rfl
                omega
              have hst : pmStep ro (fun _ _ _ => none) o m rt pc .iaload cl (.int x :: .ref 1001 :: c2) σ = some (.inr (pc + 1, cl, .int (xs x.toNatClampNeg) :: c2, σ)) := by
                subst hro; simp only [pmStep]; rw [if_pos (by decide)]; rw [if_pos hin]; rfl
              have eL : L.2 x.toInt.toNat = xs x.toNatClampNeg := by rw [hL]; rfl
              split at hK
              · rename_i g hg
                have hgo := aSf_ok _ hX.2.2 hx hg
                rw [eL] at hgo
                exact aNx.go hst hX hM hl (by exact ⟨hgo, hr2⟩) rfl hK
              · obtain ⟨E', ρ', g, e1, e2, e3, e4, e5⟩ := aNew_ok (z := (xs x.toNatClampNeg).toInt) hE (aB32 _).1 (aB32 _).2 hK
                have hX' := hX.ext e1 e2 e3
                exact ⟨_, _, _, σ, (E', X.2.1, (f, g) :: X.2.2), M, pl, .inl (false, g) :: r, ρ', hst, e1, e2, ⟨hX'.1, hX'.2.1, aSk_cons hX'.2.2 (hx.ext e1 e2) (by rw [eL]; exact e4)⟩, hM.ext e1 e2, hl.ext e1 e2, ⟨e4, hr2.ext e1 e2⟩, e5⟩
            · cases hK
          · cases hK
        | false =>
          rw [hb2] at hK
          simp only [cond_false] at hK
          split at hK
          · rename_i c n0 rs hZ
            rw [← hM.1.2] at hZ
            obtain ⟨hc, hK⟩ := aBif hK
            simp only [Bool.and_eq_true, decide_eq_true_eq] at hc
            obtain ⟨hp, h50, hat⟩ := hc
            have h50 := Nat.eq_of_beq_eq_true h50
            obtain ⟨hin, hx0⟩ := aAt_ok hX hx hat
            exact aNx.ri (w := σ.2.1 p x.toNatClampNeg) (by simp only [pmStep]; rw [if_neg (show ¬ 1000 ≤ p by omega)]; simp only [hZ]; rw [if_pos ⟨h50, hin⟩]; rfl) hX hM hl hr2 (aGetA_ok hE hM.2.1 hx (aTn rfl).symm hK)
          · cases hK
    · cases hK
  | laload =>
    simp only [aStep, aDis, aS_laload, fG2_eq, zLe_eq, zAdd_eq] at hK
    split at hK
    · rename_i f p r
      obtain ⟨v1, c1, rfl, w1, hr1⟩ := aSok_cons hs
      obtain ⟨v2, c2, rfl, w2, hr2⟩ := aSok_cons hr1
      obtain ⟨x, rfl, hx⟩ := aVok_int w1
      cases aVok_ref w2
      split at hK
      · rename_i c n0 rs hZ
        rw [← hM.1.2] at hZ
        obtain ⟨hc, hK⟩ := aBif hK
        rw [Bool.and_eq_true] at hc
        obtain ⟨h50, hat⟩ := hc
        have h50 := Nat.eq_of_beq_eq_true h50
        obtain ⟨hin, hx0⟩ := aAt_ok hX hx hat
        exact aNx.rl (w := σ.2.2 p x.toNatClampNeg) (by simp only [pmStep, hZ]; rw [if_pos ⟨h50, hin⟩]; rfl) hX hM hl hr2 (aGetA_ok hE hM.2.2.1 hx (aTn rfl).symm hK)
      · cases hK
    · cases hK
  | baload =>
    simp only [aStep, aDis, aS_baload, fG2_eq, zLe_eq, zAdd_eq] at hK
    split at hK
    · rename_i f p r
      obtain ⟨v1, c1, rfl, w1, hr1⟩ := aSok_cons hs
      obtain ⟨v2, c2, rfl, w2, hr2⟩ := aSok_cons hr1
      obtain ⟨x, rfl, hx⟩ := aVok_int w1
      cases aVok_ref w2
      split at hK
      · rename_i c n0 rs hZ
        rw [← hM.1.2] at hZ
        obtain ⟨hc, hK⟩ := aBif hK
        rw [Bool.and_eq_true, Bool.or_eq_true] at hc
        obtain ⟨h50, hat⟩ := hc
        have h50 : c = 52 ∨ c = 53 := h50.imp Nat.eq_of_beq_eq_true Nat.eq_of_beq_eq_true
        obtain ⟨hin, hx0⟩ := aAt_ok hX hx hat
        exact aNx.ri (w := σ.2.1 p x.toNatClampNeg) (by simp only [pmStep, hZ]; rw [if_pos ⟨h50, hin⟩]; rfl) hX hM hl hr2 (aGetA_ok hE hM.2.1 hx (aTn rfl).symm hK)
      · cases hK
    · cases hK
  | aaload =>
    simp only [aStep, aDis, aS_aaload, fG2_eq, zLe_eq, zAdd_eq] at hK
    split at hK
    · rename_i f p r
      obtain ⟨v1, c1, rfl, w1, hr1⟩ := aSok_cons hs
      obtain ⟨v2, c2, rfl, w2, hr2⟩ := aSok_cons hr1
      obtain ⟨x, rfl, hx⟩ := aVok_int w1
      cases aVok_ref w2
      split at hK
      · rename_i c n0 rs hZ
        rw [← hM.1.2] at hZ
        obtain ⟨hc, hK⟩ := aBif hK
        rw [Bool.and_eq_true] at hc
        obtain ⟨h50, hat⟩ := hc
        have h50 := Nat.eq_of_beq_eq_true h50
        obtain ⟨hin, hx0⟩ := aAt_ok hX hx hat
        split at hK
        · rename_i z hz
          have ez := aCst_ok hX hx hz
          split at hK
          · rename_i q hq
            exact aNx.go (cr := .ref q :: c2) (by simp only [pmStep, hZ]; rw [if_pos ⟨h50, hin⟩, aTn ez, hq]; rfl) hX hM hl (by exact ⟨rfl, hr2⟩) rfl hK
          · cases hK
        · cases hK
      · cases hK
    · cases hK
  | iastore =>
    simp only [aStep, aDis, aS_iastore, fG2_eq, zLe_eq, zAdd_eq] at hK
    split at hK
    · rename_i g f p r
      obtain ⟨v0, c0, rfl, w0, hr0⟩ := aSok_cons hs
      obtain ⟨v1, c1, rfl, w1, hr1⟩ := aSok_cons hr0
      obtain ⟨v2, c2, rfl, w2, hr2⟩ := aSok_cons hr1
      obtain ⟨y, rfl, hy⟩ := aVok_int w0
      obtain ⟨x, rfl, hx⟩ := aVok_int w1
      cases aVok_ref w2
      split at hK
      · rename_i c n0 rs hZ
        rw [← hM.1.2] at hZ
        obtain ⟨hc, hK⟩ := aBif hK
        rw [Bool.and_eq_true] at hc
        obtain ⟨h50, hat⟩ := hc
        have h50 := Nat.eq_of_beq_eq_true h50
        obtain ⟨hin, hx0⟩ := aAt_ok hX hx hat
        obtain ⟨H, h1, h2⟩ := hM.pi (aPutA_ok (k := x.toNatClampNeg) hE hM.2.1 hx hy hx0 (aTn rfl).symm hK)
        exact aNx.go (cr := c2) (by simp only [pmStep, hZ]; rw [if_pos ⟨h50, hin⟩]; rfl) hX h1 hl hr2 rfl h2
      · cases hK
    · cases hK
  | lastore =>
    simp only [aStep, aDis, aS_lastore, fG2_eq, zLe_eq, zAdd_eq] at hK
    split at hK
    · rename_i g f p r
      obtain ⟨v0, c0, rfl, w0, hr0⟩ := aSok_cons hs
      obtain ⟨v1, c1, rfl, w1, hr1⟩ := aSok_cons hr0
      obtain ⟨v2, c2, rfl, w2, hr2⟩ := aSok_cons hr1
      obtain ⟨y, rfl, hy⟩ := aVok_long w0
      obtain ⟨x, rfl, hx⟩ := aVok_int w1
      cases aVok_ref w2
      split at hK
      · rename_i c n0 rs hZ
        rw [← hM.1.2] at hZ
        obtain ⟨hc, hK⟩ := aBif hK
        rw [Bool.and_eq_true] at hc
        obtain ⟨h50, hat⟩ := hc
        have h50 := Nat.eq_of_beq_eq_true h50
        obtain ⟨hin, hx0⟩ := aAt_ok hX hx hat
        obtain ⟨H, h1, h2⟩ := hM.pn (aPutA_ok (k := x.toNatClampNeg) hE hM.2.2.1 hx hy hx0 (aTn rfl).symm hK)
        exact aNx.go (cr := c2) (by simp only [pmStep, hZ]; rw [if_pos ⟨h50, hin⟩]; rfl) hX h1 hl hr2 rfl h2
      · cases hK
    · cases hK
  | bastore =>
    simp only [aStep, aDis, aS_bastore, fG2_eq, zLe_eq, zAdd_eq] at hK
    split at hK
    · rename_i g f p r
      obtain ⟨v0, c0, rfl, w0, hr0⟩ := aSok_cons hs
      obtain ⟨v1, c1, rfl, w1, hr1⟩ := aSok_cons hr0
      obtain ⟨v2, c2, rfl, w2, hr2⟩ := aSok_cons hr1
      obtain ⟨y, rfl, hy⟩ := aVok_int w0
      obtain ⟨x, rfl, hx⟩ := aVok_int w1
      cases aVok_ref w2
      split at hK
      · rename_i c n0 rs hZ
        rw [← hM.1.2] at hZ
        cases hb : (Nat.beq c 52 && aAt X f n0) with
        | true =>
          rw [hb] at hK
          simp only [cond_true] at hK
          rw [Bool.and_eq_true] at hb
          obtain ⟨h50, hat⟩ := hb
          have h50 := Nat.eq_of_beq_eq_true h50
          obtain ⟨hin, hx0⟩ := aAt_ok hX hx hat
          obtain ⟨E', ρ', g', e1, e2, e3, e4, e5⟩ := aKeep_zo hE hy hK
          obtain ⟨H, h1, h2⟩ := (hM.ext e1 e2).pi (aPutA_ok (k := x.toNatClampNeg) e3 (hM.2.1.ext e1 e2) (hx.ext e1 e2) e4 hx0 (aTn rfl).symm e5)
          exact ⟨pc + 1, cl, c2, _, (E', X.2), _, pl, r, ρ', by simp only [pmStep, hZ]; rw [if_pos ⟨h50, hin⟩]; rfl, e1, e2, hX.ext e1 e2 e3, h1, hl.ext e1 e2, hr2.ext e1 e2, h2⟩
        | false =>
          rw [hb] at hK
          simp only [cond_false] at hK
          obtain ⟨hb2, hK⟩ := aBif hK
          rw [Bool.and_eq_true] at hb2
          obtain ⟨h50, hat⟩ := hb2
          have h50 := Nat.eq_of_beq_eq_true h50
          obtain ⟨hin, hx0⟩ := aAt_ok hX hx hat
          obtain ⟨E', ρ', g', e1, e2, e3, e4, e5⟩ := aKeep_by hE hy hK
          obtain ⟨H, h1, h2⟩ := (hM.ext e1 e2).pi (x := vp_nar .byte y) (aPutA_ok (k := x.toNatClampNeg) e3 (hM.2.1.ext e1 e2) (hx.ext e1 e2) e4 hx0 (aTn rfl).symm e5)
          exact ⟨pc + 1, cl, c2, _, (E', X.2), _, pl, r, ρ', by simp only [pmStep, hZ]; rw [if_neg (fun h => absurd (h50.symm.trans h.1) (by decide)), if_pos ⟨h50, hin⟩]; rfl, e1, e2, hX.ext e1 e2 e3, h1, hl.ext e1 e2, hr2.ext e1 e2, h2⟩
      · cases hK
    · cases hK
  | aastore =>
    simp only [aStep, aDis, aS_aastore, fG2_eq, zLe_eq, zAdd_eq] at hK
    split at hK
    · rename_i q f p r
      obtain ⟨v0, c0, rfl, w0, hr0⟩ := aSok_cons hs
      obtain ⟨v1, c1, rfl, w1, hr1⟩ := aSok_cons hr0
      obtain ⟨v2, c2, rfl, w2, hr2⟩ := aSok_cons hr1
      cases aVok_ref w0
      obtain ⟨x, rfl, hx⟩ := aVok_int w1
      cases aVok_ref w2
      split at hK
      · rename_i c n0 rs cq y1 y2 hZ hZq
        rw [← hM.1.2] at hZ hZq
        obtain ⟨hc, hK⟩ := aBif hK
        simp only [Bool.and_eq_true] at hc
        obtain ⟨⟨h50, hat⟩, h10⟩ := hc
        have h50 := Nat.eq_of_beq_eq_true h50
        have h10 := Nat.eq_of_beq_eq_true h10
        obtain ⟨hin, hx0⟩ := aAt_ok hX hx hat
        split at hK
        · rename_i z hz
          have ez := aCst_ok hX hx hz
          rw [aFn_eq] at hK
          obtain ⟨hj, hK⟩ := aBif hK
          rw [aFl_eq] at hK
          obtain ⟨T, z1, hK⟩ := hM.1.set hZ hK
          have hj := of_decide_eq_true hj
          refine aNx.go (cr := c2) (σ' := (σ.1.set p (c, n0, rs.set z.toNat (some q)), σ.2.1, σ.2.2)) (by simp only [pmStep, hZ, hZq]; rw [if_pos ⟨h50, hin, h10, by rw [aTn ez]; exact hj⟩, aTn ez]; rfl) hX ?_ hl hr2 rfl hK
          exact ⟨z1, hM.2.1, hM.2.2.1, hM.2.2.2⟩
        · cases hK
      · cases hK
    · cases hK
  | arraylength =>
    simp only [aStep, aDis, aS_arraylength, fG2_eq, zLe_eq, zAdd_eq] at hK
    split at hK
    · rename_i p r
      obtain ⟨v0, c0, rfl, w0, hr0⟩ := aSok_cons hs
      cases aVok_ref w0
      obtain ⟨hc, hK⟩ := aBif hK
      have e := Nat.eq_of_beq_eq_true hc
      have hlen : aFok X.1.length ρ (1, 0) (Int32.ofNat Ln).toInt := ⟨hE.1.2.2, by
        show (Int32.ofNat Ln).toInt = ρ 1 + 0
        rw [hE.1.2.1, Int32.toInt_ofNat_of_lt (by omega), hL]
        show (Ln : Int) = (Ln : Int) + 0
        omega⟩
      exact aNx.go (cr := .int (Int32.ofNat Ln) :: c0) (by subst hro; simp only [pmStep]; rw [if_pos ⟨e, rfl⟩, e]; rfl) hX hM hl (by exact ⟨hlen, hr0⟩) rfl hK
    · cases hK
  | new j =>
    simp only [aStep, aDis, aS_new, fG2_eq, zLe_eq, zAdd_eq] at hK
    split at hK
    · rename_i ci w1 hN
      split at hK
      · rename_i n0 hn
        obtain ⟨h9, M', h1, h2⟩ := aNewZ_ok hM hK
        exact aNx.go (cr := .ref σ.1.length :: cs) (by simp only [pmStep, hN, hn]; rw [if_pos h9]; rfl) hX h1 hl (by exact ⟨rfl, hs⟩) rfl h2
      · cases hK
    · cases hK
  | newarray t =>
    simp only [aStep, aDis, aS_newarray, fG2_eq, zLe_eq, zAdd_eq] at hK
    split at hK
    · obtain ⟨v0, c0, rfl, w0, hr0⟩ := aSok_cons hs
      obtain ⟨x, rfl, hx⟩ := aVok_int w0
      split at hK
      · rename_i z hz
        have ez := aCst_ok hX hx hz
        obtain ⟨hc, hK⟩ := aBif hK
        simp only [Bool.and_eq_true, decide_eq_true_eq] at hc
        rw [aFn_eq] at hK
        obtain ⟨h9, M', h1, h2⟩ := aNewZ_ok hM hK
        exact aNx.go (cr := .ref σ.1.length :: c0) (by simp only [pmStep]; rw [aTn ez, if_pos ⟨hc.1, aNn.mpr (by omega), by omega, h9⟩]; rfl) hX h1 hl (by exact ⟨rfl, hr0⟩) rfl h2
      · cases hK
    · cases hK
  | anewarray j =>
    simp only [aStep, aDis, aS_anewarray, fG2_eq, zLe_eq, zAdd_eq] at hK
    split at hK
    · rename_i ci w1 hN
      split at hK
      · obtain ⟨v0, c0, rfl, w0, hr0⟩ := aSok_cons hs
        obtain ⟨x, rfl, hx⟩ := aVok_int w0
        split at hK
        · rename_i z hz
          have ez := aCst_ok hX hx hz
          obtain ⟨hc, hK⟩ := aBif hK
          simp only [Bool.and_eq_true, decide_eq_true_eq] at hc
          rw [aFn_eq] at hK
          obtain ⟨h9, M', h1, h2⟩ := aNewZ_ok hM hK
          exact aNx.go (cr := .ref σ.1.length :: c0) (by simp only [pmStep, hN]; rw [aTn ez, if_pos ⟨Nat.eq_of_beq_eq_true hc.1, aNn.mpr (by omega), by omega, h9⟩]; rfl) hX h1 hl (by exact ⟨rfl, hr0⟩) rfl h2
        · cases hK
      · cases hK
    · cases hK
  | invokestatic j =>
    simp only [aStep, aDis, aS_invokestatic, fG2_eq, zLe_eq, zAdd_eq] at hK
    split at hK
    · rename_i mm y1 y2 hMM
      cases hb : Nat.beq mm 9000 with
      | true =>
        rw [hb] at hK
        simp only [cond_true] at hK
        have e := Nat.eq_of_beq_eq_true hb
        subst e
        split at hK
        · rename_i fn fd b fs a r
          obtain ⟨v0, c0, rfl, w0, hr0⟩ := aSok_cons hs
          obtain ⟨v1, c1, rfl, w1, hr1⟩ := aSok_cons hr0
          obtain ⟨v2, c2, rfl, w2, hr2⟩ := aSok_cons hr1
          obtain ⟨v3, c3, rfl, w3, hr3⟩ := aSok_cons hr2
          obtain ⟨v4, c4, rfl, w4, hr4⟩ := aSok_cons hr3
          obtain ⟨xn, rfl, hn⟩ := aVok_int w0
          obtain ⟨xd, rfl, hd⟩ := aVok_int w1
          cases aVok_ref w2
          obtain ⟨xs', rfl, hsp⟩ := aVok_int w3
          cases aVok_ref w4
          split at hK
          · rename_i zn zd zs ka na ya kb nb yb en ed es hZa hZb
            rw [← hM.1.2] at hZa hZb
            have en := aCst_ok hX hn en
            have ed := aCst_ok hX hd ed
            have es := aCst_ok hX hsp es
            obtain ⟨hc, hK⟩ := aBif hK
            simp only [Bool.and_eq_true, decide_eq_true_eq] at hc
            obtain ⟨hcat, ⟨p1, p2, p3⟩, p4, p5⟩ := hc
            simp only [aFn_eq] at hK
            rw [← aSok_cats hr4] at hcat
            have hcnd : ¬ xs' < 0 ∧ ¬ xd < 0 ∧ ¬ xn < 0 ∧ xs'.toNatClampNeg + xn.toNatClampNeg ≤ na ∧ xd.toNatClampNeg + xn.toNatClampNeg ≤ nb := by
              rw [aNn, aNn, aNn, aTn en, aTn ed, aTn es, en, ed, es]
              omega
            cases hb5 : (Nat.beq ka 50 && Nat.beq kb 50) with
            | true =>
              rw [hb5] at hK
              simp only [cond_true] at hK
              rw [Bool.and_eq_true] at hb5
              have q1 := Nat.eq_of_beq_eq_true hb5.1
              have q2 := Nat.eq_of_beq_eq_true hb5.2
              obtain ⟨H, h1, h2⟩ := aCpy_ok hM.2.1 hK
              rw [← aZi_cp] at h1
              exact aNx.go (cr := c4) (by simp only [pmStep, hMM, if_true]; rw [if_pos hcat]; simp only [pmCopy, hZa, hZb]; rw [if_pos hcnd, if_pos ⟨q1, q2⟩, aTn en, aTn ed, aTn es]; rfl) hX (hM.wi h1 (fun q hq => pmRow_ne _ _ hq)) hl hr4 rfl h2
            | false =>
              rw [hb5] at hK
              simp only [cond_false] at hK
              obtain ⟨hb6, hK⟩ := aBif hK
              rw [Bool.and_eq_true] at hb6
              have q1 := Nat.eq_of_beq_eq_true hb6.1
              have q2 := Nat.eq_of_beq_eq_true hb6.2
              obtain ⟨H, h1, h2⟩ := aCpy_ok hM.2.2.1 hK
              rw [← aZl_cp] at h1
              exact aNx.go (cr := c4) (by simp only [pmStep, hMM, if_true]; rw [if_pos hcat]; simp only [pmCopy, hZa, hZb]; rw [if_pos hcnd, if_neg (fun h => absurd (q1.symm.trans h.1) (by decide)), if_pos ⟨q1, q2⟩, aTn en, aTn ed, aTn es]; rfl) hX (hM.wl h1 (fun q hq => pmRow_ne _ _ hq)) hl hr4 rfl h2
          · cases hK
        · cases hK
      | false =>
        rw [hb] at hK
        simp only [cond_false] at hK
        cases hb2 : Nat.beq mm 9002 with
        | true =>
          rw [hb2] at hK
          simp only [cond_true] at hK
          have e := Nat.eq_of_beq_eq_true hb2
          split at hK
          · obtain ⟨v0, c0, rfl, w0, hr0⟩ := aSok_cons hs
            obtain ⟨v1, c1, rfl, w1, hr1⟩ := aSok_cons hr0
            obtain ⟨y, rfl, hy⟩ := aVok_int w0
            obtain ⟨x, rfl, hx⟩ := aVok_int w1
            obtain ⟨hcat, hK⟩ := aBif hK
            have hcat := of_decide_eq_true hcat
            rw [← aSok_cats hr1] at hcat
            exact aNx.gi (w := if x < y then y else x) (by simp only [pmStep, hMM]; rw [if_neg (show ¬ mm = 9000 by omega), if_pos e, if_pos hcat]; rfl) hX hM hl hr1 rfl (aOp_ok (op := fun x y => if x < y then y else x) aRu_max hE hx hy hK)
          · cases hK
        | false =>
          rw [hb2] at hK
          simp only [cond_false] at hK
          obtain ⟨hb3, hK⟩ := aBif hK
          have e := Nat.eq_of_beq_eq_true hb3
          split at hK
          · obtain ⟨v0, c0, rfl, w0, hr0⟩ := aSok_cons hs
            obtain ⟨v1, c1, rfl, w1, hr1⟩ := aSok_cons hr0
            obtain ⟨y, rfl, hy⟩ := aVok_int w0
            obtain ⟨x, rfl, hx⟩ := aVok_int w1
            obtain ⟨hcat, hK⟩ := aBif hK
            have hcat := of_decide_eq_true hcat
            rw [← aSok_cats hr1] at hcat
            exact aNx.gi (w := if y < x then y else x) (by simp only [pmStep, hMM]; rw [if_neg (show ¬ mm = 9000 by omega), if_neg (show ¬ mm = 9002 by omega), if_pos e, if_pos hcat]; rfl) hX hM hl hr1 rfl (aOp_ok (op := fun x y => if y < x then y else x) aRu_min hE hx hy hK)
          · cases hK
    · cases hK
  | invokespecial j =>
    simp only [aStep, aDis, aS_invokespecial, fG2_eq, zLe_eq, zAdd_eq] at hK
    split at hK
    · rename_i mm y1 y2 hMM
      obtain ⟨hb, hK⟩ := aBif hK
      have e := Nat.eq_of_beq_eq_true hb
      split at hK
      · rename_i p r
        obtain ⟨v0, c0, rfl, w0, hr0⟩ := aSok_cons hs
        cases aVok_ref w0
        obtain ⟨hcat, hK⟩ := aBif hK
        have hcat := of_decide_eq_true hcat
        rw [← aSok_cats hr0] at hcat
        exact aNx.go (cr := c0) (by simp only [pmStep, hMM]; rw [if_pos e, if_pos hcat]; rfl) hX hM hl hr0 rfl hK
      · cases hK
    · cases hK
  | _ => simp [aStep, aDis] at hK
end
