/-! code read by its bytes once, from left to right -/
section
set_option maxRecDepth 10000
theorem dcT {l : List UInt8} {p : Nat} {x : UInt8} {r : List UInt8} (h : l.drop p = x :: r) : l.drop (p + 1) = r := by
  have := congrArg List.tail h
  rw [List.tail_drop] at this
  exact this
theorem dcU1 {b : ByteArray} {p : Nat} {x : UInt8} {r : List UInt8} (h : b.data.toList.drop p = x :: r) : (Reader.u1 : Decoder Nat).runAt b p = .ok (x.toNat, p + 1) := by
  have hp : p < b.data.toList.length := by
    rcases Nat.lt_or_ge p b.data.toList.length with hp | hp
    · exact hp
    · rw [List.drop_eq_nil_of_le hp] at h
      cases h
  have hx : b.data.toList[p] = x := by
    have e := List.drop_eq_getElem_cons hp
    rw [h] at e
    injection e with e1 _
    exact e1.symm
  have hs : p < b.size := hp
  have hy : b[p]'hs = x := hx
  show (dite (p < b.size) _ _ : Decoder Nat) b p = _
  rw [dif_pos hs]
  show Except.ok ((b[p]'hs).toNat, p + 1) = _
  rw [hy]
theorem dcBind {α β : Type} {m : Decoder α} {f : α → Decoder β} {b : ByteArray} {p q : Nat} {v : α} (h : m.runAt b p = .ok (v, q)) : (m >>= f).runAt b p = (f v).runAt b q := by
  have h' : m b p = .ok (v, q) := h
  show Except.bind (m b p) (fun y => f y.1 b y.2) = _
  rw [h']
  rfl
theorem dcMap {α β : Type} {m : Decoder α} {f : α → β} {b : ByteArray} {p q : Nat} {v : α} (h : m.runAt b p = .ok (v, q)) : (f <$> m).runAt b p = .ok (f v, q) := by
  have h' : m b p = .ok (v, q) := h
  show Except.bind (m b p) (fun y => Except.ok (f y.1, y.2)) = _
  rw [h']
  rfl
theorem dcS1 {b : ByteArray} {p : Nat} {x : UInt8} {r : List UInt8} (h : b.data.toList.drop p = x :: r) : (Reader.s1 : Decoder Int).runAt b p = .ok (Reader.signed 8 x.toNat, p + 1) := dcMap (dcU1 h)
theorem dcU2 {b : ByteArray} {p : Nat} {x y : UInt8} {r : List UInt8} (h : b.data.toList.drop p = x :: y :: r) : (Reader.u2 : Decoder Nat).runAt b p = .ok (x.toNat * 256 + y.toNat, p + 1 + 1) :=
  (dcBind (f := fun hi => Reader.u1 >>= fun lo => Pure.pure (hi * 256 + lo)) (dcU1 h)).trans (dcBind (f := fun lo => Pure.pure (x.toNat * 256 + lo)) (dcU1 (dcT h)))
theorem dcS2 {b : ByteArray} {p : Nat} {x y : UInt8} {r : List UInt8} (h : b.data.toList.drop p = x :: y :: r) : (Reader.s2 : Decoder Int).runAt b p = .ok (Reader.signed 16 (x.toNat * 256 + y.toNat), p + 1 + 1) := dcMap (dcU2 h)
theorem dcD {b : ByteArray} {pc q : Nat} {i : Instr} (h : (Decoder.instr pc).runAt b pc = .ok (i, q)) : decode b pc = .ok (i, q - pc) := by
  unfold decode
  rw [h]
  rfl
def dcF (pc : Nat) : {F : Nat → Decoder Instr // Decoder.instr pc = (Reader.u1 >>= F)} := ⟨_, rfl⟩
theorem dcGo {b : ByteArray} {pc k : Nat} {x : UInt8} {r : List UInt8} (h : b.data.toList.drop pc = x :: r) (hk : x.toNat = k) : (Decoder.instr pc).runAt b pc = ((dcF pc).1 k).runAt b (pc + 1) := by
  subst hk
  exact (congrArg (fun z => Reader.runAt z b pc) (dcF pc).2).trans (dcBind (dcU1 h))
theorem dcA {b : ByteArray} {pc k : Nat} {x : UInt8} {r : List UInt8} {i : Instr} (hF : ∀ pc, (dcF pc).1 k = Pure.pure i) (h : b.data.toList.drop pc = x :: r) (hk : x.toNat = k) : decode b pc = .ok (i, 1) := by
  have e := dcD ((dcGo h hk).trans ((congrArg (fun z => Reader.runAt z b (pc + 1)) (hF pc)).trans (rfl : (Pure.pure i : Decoder Instr).runAt b (pc + 1) = .ok (i, pc + 1))))
  rw [e, Nat.add_sub_cancel_left]
theorem dcB {b : ByteArray} {pc k n : Nat} {x y : UInt8} {r : List UInt8} {C : Nat → Instr} (hF : ∀ pc, (dcF pc).1 k = (Reader.u1 >>= fun v => Pure.pure (C v))) (h : b.data.toList.drop pc = x :: y :: r) (hk : x.toNat = k) (hv : (y.toNat : Int) = (n : Int)) : decode b pc = .ok (C n, 2) := by
  have hv : y.toNat = n := Int.ofNat.inj hv
  have e := dcD ((dcGo h hk).trans ((congrArg (fun z => Reader.runAt z b (pc + 1)) (hF pc)).trans (dcBind (dcU1 (dcT h)))))
  rw [hv] at e
  have e' : pc + 1 + 1 - pc = 2 := by omega
  rw [e'] at e
  exact e
theorem dcC {b : ByteArray} {pc k : Nat} {v : Int} {x y : UInt8} {r : List UInt8} {C : Int → Instr} (hF : ∀ pc, (dcF pc).1 k = (Reader.s1 >>= fun v => Pure.pure (C v))) (h : b.data.toList.drop pc = x :: y :: r) (hk : x.toNat = k) (hv : Reader.signed 8 y.toNat = v) : decode b pc = .ok (C v, 2) := by
  have e := dcD ((dcGo h hk).trans ((congrArg (fun z => Reader.runAt z b (pc + 1)) (hF pc)).trans (dcBind (dcS1 (dcT h)))))
  rw [hv] at e
  have e' : pc + 1 + 1 - pc = 2 := by omega
  rw [e'] at e
  exact e
theorem dcE {b : ByteArray} {pc k n : Nat} {x y z : UInt8} {r : List UInt8} {C : Nat → Instr} (hF : ∀ pc, (dcF pc).1 k = (Reader.u2 >>= fun v => Pure.pure (C v))) (h : b.data.toList.drop pc = x :: y :: z :: r) (hk : x.toNat = k) (hv : ((y.toNat * 256 + z.toNat : Nat) : Int) = (n : Int)) : decode b pc = .ok (C n, 3) := by
  have hv : y.toNat * 256 + z.toNat = n := Int.ofNat.inj hv
  have e := dcD ((dcGo h hk).trans ((congrArg (fun z => Reader.runAt z b (pc + 1)) (hF pc)).trans (dcBind (dcU2 (dcT h)))))
  rw [hv] at e
  have e' : pc + 1 + 1 + 1 - pc = 3 := by omega
  rw [e'] at e
  exact e
theorem dcG {b : ByteArray} {pc k : Nat} {v : Int} {x y z : UInt8} {r : List UInt8} {C : Int → Instr} (hF : ∀ pc, (dcF pc).1 k = (Reader.s2 >>= fun v => Pure.pure (C v))) (h : b.data.toList.drop pc = x :: y :: z :: r) (hk : x.toNat = k) (hv : Reader.signed 16 (y.toNat * 256 + z.toNat) = v) : decode b pc = .ok (C v, 3) := by
  have e := dcD ((dcGo h hk).trans ((congrArg (fun z => Reader.runAt z b (pc + 1)) (hF pc)).trans (dcBind (dcS2 (dcT h)))))
  rw [hv] at e
  have e' : pc + 1 + 1 + 1 - pc = 3 := by omega
  rw [e'] at e
  exact e
theorem dcH {b : ByteArray} {pc k n : Nat} {v : Int} {x y z : UInt8} {r : List UInt8} {C : Nat → Int → Instr} (hF : ∀ pc, (dcF pc).1 k = (Reader.u1 >>= fun u => Reader.s1 >>= fun v => Pure.pure (C u v))) (h : b.data.toList.drop pc = x :: y :: z :: r) (hk : x.toNat = k) (hn : (y.toNat : Int) = (n : Int)) (hv : Reader.signed 8 z.toNat = v) : decode b pc = .ok (C n v, 3) := by
  have hn : y.toNat = n := Int.ofNat.inj hn
  have e := dcD ((dcGo h hk).trans ((congrArg (fun z => Reader.runAt z b (pc + 1)) (hF pc)).trans ((dcBind (dcU1 (dcT h))).trans (dcBind (dcS1 (dcT (dcT h)))))))
  rw [hv, hn] at e
  have e' : pc + 1 + 1 + 1 - pc = 3 := by omega
  rw [e'] at e
  exact e
/-- how an instruction's bytes look: a form, the first byte, what it holds -/
def dcN : Instr → Nat × Nat × Int × Int
  | .aaload => (1, 50, 0, 0)
  | .aastore => (1, 83, 0, 0)
  | .aconst_null => (1, 1, 0, 0)
  | .areturn => (1, 176, 0, 0)
  | .arraylength => (1, 190, 0, 0)
  | .baload => (1, 51, 0, 0)
  | .bastore => (1, 84, 0, 0)
  | .dup => (1, 89, 0, 0)
  | .dup2 => (1, 92, 0, 0)
  | .dup_x1 => (1, 90, 0, 0)
  | .iadd => (1, 96, 0, 0)
  | .iaload => (1, 46, 0, 0)
  | .iand => (1, 126, 0, 0)
  | .iastore => (1, 79, 0, 0)
  | .idiv => (1, 108, 0, 0)
  | .imul => (1, 104, 0, 0)
  | .ineg => (1, 116, 0, 0)
  | .ior => (1, 128, 0, 0)
  | .irem => (1, 112, 0, 0)
  | .ireturn => (1, 172, 0, 0)
  | .ishl => (1, 120, 0, 0)
  | .ishr => (1, 122, 0, 0)
  | .isub => (1, 100, 0, 0)
  | .iushr => (1, 124, 0, 0)
  | .ixor => (1, 130, 0, 0)
  | .l2i => (1, 136, 0, 0)
  | .i2l => (1, 133, 0, 0)
  | .i2b => (1, 145, 0, 0)
  | .ladd => (1, 97, 0, 0)
  | .laload => (1, 47, 0, 0)
  | .land => (1, 127, 0, 0)
  | .lastore => (1, 80, 0, 0)
  | .lcmp => (1, 148, 0, 0)
  | .lmul => (1, 105, 0, 0)
  | .lor => (1, 129, 0, 0)
  | .lreturn => (1, 173, 0, 0)
  | .lshl => (1, 121, 0, 0)
  | .lushr => (1, 125, 0, 0)
  | .lxor => (1, 131, 0, 0)
  | .pop => (1, 87, 0, 0)
  | .return_ => (1, 177, 0, 0)
  | .aload_n n => (1, 42 + n.val, 0, 0)
  | .iload_n n => (1, 26 + n.val, 0, 0)
  | .lload_n n => (1, 30 + n.val, 0, 0)
  | .astore_n n => (1, 75 + n.val, 0, 0)
  | .istore_n n => (1, 59 + n.val, 0, 0)
  | .lstore_n n => (1, 63 + n.val, 0, 0)
  | .lconst n => (1, 9 + n.val, 0, 0)
  | .iconst i => if -1 ≤ i ∧ i ≤ 5 then (1, (i + 3).toNat, 0, 0) else (0, 0, 0, 0)
  | .iload n => (2, 21, (n : Int), 0)
  | .lload n => (2, 22, (n : Int), 0)
  | .aload n => (2, 25, (n : Int), 0)
  | .istore n => (2, 54, (n : Int), 0)
  | .lstore n => (2, 55, (n : Int), 0)
  | .astore n => (2, 58, (n : Int), 0)
  | .ldc n => (2, 18, (n : Int), 0)
  | .bipush v => (3, 16, v, 0)
  | .getfield n => (4, 180, (n : Int), 0)
  | .putfield n => (4, 181, (n : Int), 0)
  | .getstatic n => (4, 178, (n : Int), 0)
  | .invokevirtual n => (4, 182, (n : Int), 0)
  | .invokespecial n => (4, 183, (n : Int), 0)
  | .invokestatic n => (4, 184, (n : Int), 0)
  | .new n => (4, 187, (n : Int), 0)
  | .anewarray n => (4, 189, (n : Int), 0)
  | .ldc_w n => (4, 19, (n : Int), 0)
  | .ldc2_w n => (4, 20, (n : Int), 0)
  | .sipush v => (5, 17, v, 0)
  | .goto v => (5, 167, v, 0)
  | .ifCond .eq v => (5, 153, v, 0)
  | .ifCond .ne v => (5, 154, v, 0)
  | .ifCond .lt v => (5, 155, v, 0)
  | .ifCond .ge v => (5, 156, v, 0)
  | .ifCond .gt v => (5, 157, v, 0)
  | .ifCond .le v => (5, 158, v, 0)
  | .if_icmp .eq v => (5, 159, v, 0)
  | .if_icmp .ne v => (5, 160, v, 0)
  | .if_icmp .lt v => (5, 161, v, 0)
  | .if_icmp .ge v => (5, 162, v, 0)
  | .if_icmp .gt v => (5, 163, v, 0)
  | .if_icmp .le v => (5, 164, v, 0)
  | .iinc n v => (6, 132, (n : Int), v)
  | _ => (0, 0, 0, 0)
def dcK (x : UInt8) (r : List UInt8) (e : Nat × Nat × Int × Int) : Bool := Nat.beq x.toNat e.2.1 && (match e.1, r with
  | 1, _ => true
  | 2, y :: _ => decide ((y.toNat : Int) = e.2.2.1)
  | 3, y :: _ => decide (Reader.signed 8 y.toNat = e.2.2.1)
  | 4, y :: z :: _ => decide (((y.toNat * 256 + z.toNat : Nat) : Int) = e.2.2.1)
  | 5, y :: z :: _ => decide (Reader.signed 16 (y.toNat * 256 + z.toNat) = e.2.2.1)
  | 6, y :: z :: _ => decide ((y.toNat : Int) = e.2.2.1) && decide (Reader.signed 8 z.toNat = e.2.2.2)
  | _, _ => false)
theorem dcK0 {x : UInt8} {r : List UInt8} {k : Nat} {v w : Int} (h : dcK x r (0, k, v, w) = true) : False := by
  unfold dcK at h
  rw [Bool.and_eq_true] at h
  exact Bool.false_ne_true h.2
theorem dcK1 {x : UInt8} {r : List UInt8} {k : Nat} {v w : Int} (h : dcK x r (1, k, v, w) = true) : x.toNat = k := by
  unfold dcK at h
  rw [Bool.and_eq_true] at h
  exact Nat.eq_of_beq_eq_true h.1
theorem dcK2 {x : UInt8} {r : List UInt8} {k : Nat} {v w : Int} (h : dcK x r (2, k, v, w) = true) : ∃ y r', r = y :: r' ∧ x.toNat = k ∧ (y.toNat : Int) = v := by
  unfold dcK at h
  rw [Bool.and_eq_true] at h
  obtain ⟨h1, h2⟩ := h
  match r, h2 with
  | [], h2 => exact absurd h2 Bool.false_ne_true
  | y :: r', h2 => exact ⟨y, r', rfl, Nat.eq_of_beq_eq_true h1, of_decide_eq_true h2⟩
theorem dcK3 {x : UInt8} {r : List UInt8} {k : Nat} {v w : Int} (h : dcK x r (3, k, v, w) = true) : ∃ y r', r = y :: r' ∧ x.toNat = k ∧ Reader.signed 8 y.toNat = v := by
  unfold dcK at h
  rw [Bool.and_eq_true] at h
  obtain ⟨h1, h2⟩ := h
  match r, h2 with
  | [], h2 => exact absurd h2 Bool.false_ne_true
  | y :: r', h2 => exact ⟨y, r', rfl, Nat.eq_of_beq_eq_true h1, of_decide_eq_true h2⟩
theorem dcK4 {x : UInt8} {r : List UInt8} {k : Nat} {v w : Int} (h : dcK x r (4, k, v, w) = true) : ∃ y z r', r = y :: z :: r' ∧ x.toNat = k ∧ ((y.toNat * 256 + z.toNat : Nat) : Int) = v := by
  unfold dcK at h
  rw [Bool.and_eq_true] at h
  obtain ⟨h1, h2⟩ := h
  match r, h2 with
  | [], h2 => exact absurd h2 Bool.false_ne_true
  | [y], h2 => exact absurd h2 Bool.false_ne_true
  | y :: z :: r', h2 => exact ⟨y, z, r', rfl, Nat.eq_of_beq_eq_true h1, of_decide_eq_true h2⟩
theorem dcK5 {x : UInt8} {r : List UInt8} {k : Nat} {v w : Int} (h : dcK x r (5, k, v, w) = true) : ∃ y z r', r = y :: z :: r' ∧ x.toNat = k ∧ Reader.signed 16 (y.toNat * 256 + z.toNat) = v := by
  unfold dcK at h
  rw [Bool.and_eq_true] at h
  obtain ⟨h1, h2⟩ := h
  match r, h2 with
  | [], h2 => exact absurd h2 Bool.false_ne_true
  | [y], h2 => exact absurd h2 Bool.false_ne_true
  | y :: z :: r', h2 => exact ⟨y, z, r', rfl, Nat.eq_of_beq_eq_true h1, of_decide_eq_true h2⟩
theorem dcK6 {x : UInt8} {r : List UInt8} {k : Nat} {v w : Int} (h : dcK x r (6, k, v, w) = true) : ∃ y z r', r = y :: z :: r' ∧ x.toNat = k ∧ (y.toNat : Int) = v ∧ Reader.signed 8 z.toNat = w := by
  unfold dcK at h
  rw [Bool.and_eq_true] at h
  obtain ⟨h1, h2⟩ := h
  match r, h2 with
  | [], h2 => exact absurd h2 Bool.false_ne_true
  | [y], h2 => exact absurd h2 Bool.false_ne_true
  | y :: z :: r', h2 =>
    have h2 := (Bool.and_eq_true _ _).mp h2
    exact ⟨y, z, r', rfl, Nat.eq_of_beq_eq_true h1, of_decide_eq_true h2.1, of_decide_eq_true h2.2⟩
theorem dcOk {b : ByteArray} {pc : Nat} {x : UInt8} {r : List UInt8} {i : Instr} (h : b.data.toList.drop pc = x :: r) (hc : dcK x r (dcN i) = true) : decode b pc = .ok (i, pmLen i) := by
  cases i with
  | aaload => exact dcA (k := 50) (fun _ => rfl) h (dcK1 hc)
  | aastore => exact dcA (k := 83) (fun _ => rfl) h (dcK1 hc)
  | aconst_null => exact dcA (k := 1) (fun _ => rfl) h (dcK1 hc)
  | areturn => exact dcA (k := 176) (fun _ => rfl) h (dcK1 hc)
  | arraylength => exact dcA (k := 190) (fun _ => rfl) h (dcK1 hc)
  | baload => exact dcA (k := 51) (fun _ => rfl) h (dcK1 hc)
  | bastore => exact dcA (k := 84) (fun _ => rfl) h (dcK1 hc)
  | dup => exact dcA (k := 89) (fun _ => rfl) h (dcK1 hc)
  | dup2 => exact dcA (k := 92) (fun _ => rfl) h (dcK1 hc)
  | dup_x1 => exact dcA (k := 90) (fun _ => rfl) h (dcK1 hc)
  | iadd => exact dcA (k := 96) (fun _ => rfl) h (dcK1 hc)
  | iaload => exact dcA (k := 46) (fun _ => rfl) h (dcK1 hc)
  | iand => exact dcA (k := 126) (fun _ => rfl) h (dcK1 hc)
  | iastore => exact dcA (k := 79) (fun _ => rfl) h (dcK1 hc)
  | idiv => exact dcA (k := 108) (fun _ => rfl) h (dcK1 hc)
  | imul => exact dcA (k := 104) (fun _ => rfl) h (dcK1 hc)
  | ineg => exact dcA (k := 116) (fun _ => rfl) h (dcK1 hc)
  | ior => exact dcA (k := 128) (fun _ => rfl) h (dcK1 hc)
  | irem => exact dcA (k := 112) (fun _ => rfl) h (dcK1 hc)
  | ireturn => exact dcA (k := 172) (fun _ => rfl) h (dcK1 hc)
  | ishl => exact dcA (k := 120) (fun _ => rfl) h (dcK1 hc)
  | ishr => exact dcA (k := 122) (fun _ => rfl) h (dcK1 hc)
  | isub => exact dcA (k := 100) (fun _ => rfl) h (dcK1 hc)
  | iushr => exact dcA (k := 124) (fun _ => rfl) h (dcK1 hc)
  | ixor => exact dcA (k := 130) (fun _ => rfl) h (dcK1 hc)
  | l2i => exact dcA (k := 136) (fun _ => rfl) h (dcK1 hc)
  | i2l => exact dcA (k := 133) (fun _ => rfl) h (dcK1 hc)
  | i2b => exact dcA (k := 145) (fun _ => rfl) h (dcK1 hc)
  | ladd => exact dcA (k := 97) (fun _ => rfl) h (dcK1 hc)
  | laload => exact dcA (k := 47) (fun _ => rfl) h (dcK1 hc)
  | land => exact dcA (k := 127) (fun _ => rfl) h (dcK1 hc)
  | lastore => exact dcA (k := 80) (fun _ => rfl) h (dcK1 hc)
  | lcmp => exact dcA (k := 148) (fun _ => rfl) h (dcK1 hc)
  | lmul => exact dcA (k := 105) (fun _ => rfl) h (dcK1 hc)
  | lor => exact dcA (k := 129) (fun _ => rfl) h (dcK1 hc)
  | lreturn => exact dcA (k := 173) (fun _ => rfl) h (dcK1 hc)
  | lshl => exact dcA (k := 121) (fun _ => rfl) h (dcK1 hc)
  | lushr => exact dcA (k := 125) (fun _ => rfl) h (dcK1 hc)
  | lxor => exact dcA (k := 131) (fun _ => rfl) h (dcK1 hc)
  | pop => exact dcA (k := 87) (fun _ => rfl) h (dcK1 hc)
  | return_ => exact dcA (k := 177) (fun _ => rfl) h (dcK1 hc)
  | aload_n n =>
    match n, hc with
    | ⟨0, _⟩, hc => exact dcA (k := 42) (fun _ => rfl) h (dcK1 hc)
    | ⟨1, _⟩, hc => exact dcA (k := 43) (fun _ => rfl) h (dcK1 hc)
    | ⟨2, _⟩, hc => exact dcA (k := 44) (fun _ => rfl) h (dcK1 hc)
    | ⟨3, _⟩, hc => exact dcA (k := 45) (fun _ => rfl) h (dcK1 hc)
  | iload_n n =>
    match n, hc with
    | ⟨0, _⟩, hc => exact dcA (k := 26) (fun _ => rfl) h (dcK1 hc)
    | ⟨1, _⟩, hc => exact dcA (k := 27) (fun _ => rfl) h (dcK1 hc)
    | ⟨2, _⟩, hc => exact dcA (k := 28) (fun _ => rfl) h (dcK1 hc)
    | ⟨3, _⟩, hc => exact dcA (k := 29) (fun _ => rfl) h (dcK1 hc)
  | lload_n n =>
    match n, hc with
    | ⟨0, _⟩, hc => exact dcA (k := 30) (fun _ => rfl) h (dcK1 hc)
    | ⟨1, _⟩, hc => exact dcA (k := 31) (fun _ => rfl) h (dcK1 hc)
    | ⟨2, _⟩, hc => exact dcA (k := 32) (fun _ => rfl) h (dcK1 hc)
    | ⟨3, _⟩, hc => exact dcA (k := 33) (fun _ => rfl) h (dcK1 hc)
  | astore_n n =>
    match n, hc with
    | ⟨0, _⟩, hc => exact dcA (k := 75) (fun _ => rfl) h (dcK1 hc)
    | ⟨1, _⟩, hc => exact dcA (k := 76) (fun _ => rfl) h (dcK1 hc)
    | ⟨2, _⟩, hc => exact dcA (k := 77) (fun _ => rfl) h (dcK1 hc)
    | ⟨3, _⟩, hc => exact dcA (k := 78) (fun _ => rfl) h (dcK1 hc)
  | istore_n n =>
    match n, hc with
    | ⟨0, _⟩, hc => exact dcA (k := 59) (fun _ => rfl) h (dcK1 hc)
    | ⟨1, _⟩, hc => exact dcA (k := 60) (fun _ => rfl) h (dcK1 hc)
    | ⟨2, _⟩, hc => exact dcA (k := 61) (fun _ => rfl) h (dcK1 hc)
    | ⟨3, _⟩, hc => exact dcA (k := 62) (fun _ => rfl) h (dcK1 hc)
  | lstore_n n =>
    match n, hc with
    | ⟨0, _⟩, hc => exact dcA (k := 63) (fun _ => rfl) h (dcK1 hc)
    | ⟨1, _⟩, hc => exact dcA (k := 64) (fun _ => rfl) h (dcK1 hc)
    | ⟨2, _⟩, hc => exact dcA (k := 65) (fun _ => rfl) h (dcK1 hc)
    | ⟨3, _⟩, hc => exact dcA (k := 66) (fun _ => rfl) h (dcK1 hc)
  | lconst n =>
    match n, hc with
    | ⟨0, _⟩, hc => exact dcA (k := 9) (fun _ => rfl) h (dcK1 hc)
    | ⟨1, _⟩, hc => exact dcA (k := 10) (fun _ => rfl) h (dcK1 hc)
  | iconst i =>
    have hc : dcK x r (if -1 ≤ i ∧ i ≤ 5 then (1, (i + 3).toNat, 0, 0) else (0, 0, 0, 0)) = true := hc
    by_cases hi : -1 ≤ i ∧ i ≤ 5
    · rw [if_pos hi] at hc
      have e : i = -1 ∨ i = 0 ∨ i = 1 ∨ i = 2 ∨ i = 3 ∨ i = 4 ∨ i = 5 := by omega
      rcases e with rfl | rfl | rfl | rfl | rfl | rfl | rfl
      · exact dcA (k := 2) (fun _ => rfl) h (dcK1 hc)
      · exact dcA (k := 3) (fun _ => rfl) h (dcK1 hc)
      · exact dcA (k := 4) (fun _ => rfl) h (dcK1 hc)
      · exact dcA (k := 5) (fun _ => rfl) h (dcK1 hc)
      · exact dcA (k := 6) (fun _ => rfl) h (dcK1 hc)
      · exact dcA (k := 7) (fun _ => rfl) h (dcK1 hc)
      · exact dcA (k := 8) (fun _ => rfl) h (dcK1 hc)
    · rw [if_neg hi] at hc
      exact (dcK0 hc).elim
  | iload n =>
    obtain ⟨y, r', rfl, h1, h2⟩ := dcK2 hc
    exact dcB (k := 21) (fun _ => rfl) h h1 h2
  | lload n =>
    obtain ⟨y, r', rfl, h1, h2⟩ := dcK2 hc
    exact dcB (k := 22) (fun _ => rfl) h h1 h2
  | aload n =>
    obtain ⟨y, r', rfl, h1, h2⟩ := dcK2 hc
    exact dcB (k := 25) (fun _ => rfl) h h1 h2
  | istore n =>
    obtain ⟨y, r', rfl, h1, h2⟩ := dcK2 hc
    exact dcB (k := 54) (fun _ => rfl) h h1 h2
  | lstore n =>
    obtain ⟨y, r', rfl, h1, h2⟩ := dcK2 hc
    exact dcB (k := 55) (fun _ => rfl) h h1 h2
  | astore n =>
    obtain ⟨y, r', rfl, h1, h2⟩ := dcK2 hc
    exact dcB (k := 58) (fun _ => rfl) h h1 h2
  | ldc n =>
    obtain ⟨y, r', rfl, h1, h2⟩ := dcK2 hc
    exact dcB (k := 18) (fun _ => rfl) h h1 h2
  | bipush n =>
    obtain ⟨y, r', rfl, h1, h2⟩ := dcK3 hc
    exact dcC (k := 16) (fun _ => rfl) h h1 h2
  | getfield n =>
    obtain ⟨y, z, r', rfl, h1, h2⟩ := dcK4 hc
    exact dcE (k := 180) (fun _ => rfl) h h1 h2
  | putfield n =>
    obtain ⟨y, z, r', rfl, h1, h2⟩ := dcK4 hc
    exact dcE (k := 181) (fun _ => rfl) h h1 h2
  | getstatic n =>
    obtain ⟨y, z, r', rfl, h1, h2⟩ := dcK4 hc
    exact dcE (k := 178) (fun _ => rfl) h h1 h2
  | invokevirtual n =>
    obtain ⟨y, z, r', rfl, h1, h2⟩ := dcK4 hc
    exact dcE (k := 182) (fun _ => rfl) h h1 h2
  | invokespecial n =>
    obtain ⟨y, z, r', rfl, h1, h2⟩ := dcK4 hc
    exact dcE (k := 183) (fun _ => rfl) h h1 h2
  | invokestatic n =>
    obtain ⟨y, z, r', rfl, h1, h2⟩ := dcK4 hc
    exact dcE (k := 184) (fun _ => rfl) h h1 h2
  | new n =>
    obtain ⟨y, z, r', rfl, h1, h2⟩ := dcK4 hc
    exact dcE (k := 187) (fun _ => rfl) h h1 h2
  | anewarray n =>
    obtain ⟨y, z, r', rfl, h1, h2⟩ := dcK4 hc
    exact dcE (k := 189) (fun _ => rfl) h h1 h2
  | ldc_w n =>
    obtain ⟨y, z, r', rfl, h1, h2⟩ := dcK4 hc
    exact dcE (k := 19) (fun _ => rfl) h h1 h2
  | ldc2_w n =>
    obtain ⟨y, z, r', rfl, h1, h2⟩ := dcK4 hc
    exact dcE (k := 20) (fun _ => rfl) h h1 h2
  | sipush n =>
    obtain ⟨y, z, r', rfl, h1, h2⟩ := dcK5 hc
    exact dcG (k := 17) (fun _ => rfl) h h1 h2
  | goto n =>
    obtain ⟨y, z, r', rfl, h1, h2⟩ := dcK5 hc
    exact dcG (k := 167) (fun _ => rfl) h h1 h2
  | ifCond c n =>
    cases c with
    | eq =>
      obtain ⟨y, z, r', rfl, h1, h2⟩ := dcK5 hc
      exact dcG (k := 153) (fun _ => rfl) h h1 h2
    | ne =>
      obtain ⟨y, z, r', rfl, h1, h2⟩ := dcK5 hc
      exact dcG (k := 154) (fun _ => rfl) h h1 h2
    | lt =>
      obtain ⟨y, z, r', rfl, h1, h2⟩ := dcK5 hc
      exact dcG (k := 155) (fun _ => rfl) h h1 h2
    | ge =>
      obtain ⟨y, z, r', rfl, h1, h2⟩ := dcK5 hc
      exact dcG (k := 156) (fun _ => rfl) h h1 h2
    | gt =>
      obtain ⟨y, z, r', rfl, h1, h2⟩ := dcK5 hc
      exact dcG (k := 157) (fun _ => rfl) h h1 h2
    | le =>
      obtain ⟨y, z, r', rfl, h1, h2⟩ := dcK5 hc
      exact dcG (k := 158) (fun _ => rfl) h h1 h2
  | if_icmp c n =>
    cases c with
    | eq =>
      obtain ⟨y, z, r', rfl, h1, h2⟩ := dcK5 hc
      exact dcG (k := 159) (fun _ => rfl) h h1 h2
    | ne =>
      obtain ⟨y, z, r', rfl, h1, h2⟩ := dcK5 hc
      exact dcG (k := 160) (fun _ => rfl) h h1 h2
    | lt =>
      obtain ⟨y, z, r', rfl, h1, h2⟩ := dcK5 hc
      exact dcG (k := 161) (fun _ => rfl) h h1 h2
    | ge =>
      obtain ⟨y, z, r', rfl, h1, h2⟩ := dcK5 hc
      exact dcG (k := 162) (fun _ => rfl) h h1 h2
    | gt =>
      obtain ⟨y, z, r', rfl, h1, h2⟩ := dcK5 hc
      exact dcG (k := 163) (fun _ => rfl) h h1 h2
    | le =>
      obtain ⟨y, z, r', rfl, h1, h2⟩ := dcK5 hc
      exact dcG (k := 164) (fun _ => rfl) h h1 h2
  | iinc n v =>
    obtain ⟨y, z, r', rfl, h1, h2, h3⟩ := dcK6 hc
    exact dcH (k := 132) (fun _ => rfl) h h1 h2 h3
  | _ => exact (dcK0 hc).elim
theorem dcP {b : ByteArray} {pc : Nat} {i : Instr} (h : decode b pc = .ok (i, pmLen i)) : pmDec b pc i = true := by
  unfold pmDec
  rw [h]
  show (decide (i = i) && (Nat.beq (pmLen i) (pmLen i) || Nat.beq (pmLen i) 0)) = true
  rw [decide_eq_true rfl, Nat.beq_refl]
  rfl
def dcM (b : ByteArray) : List (Nat × Instr) → Nat → List UInt8 → Bool
  | [], _, _ => true
  | e :: T, q, l => Nat.ble q e.1 && (match l.drop (e.1 - q) with
    | [] => false
    | x :: r => (dcK x r (dcN e.2) || pmDec b e.1 e.2) && dcM b T (e.1 + 1) r)
theorem dcM_ok {b : ByteArray} : ∀ (T : List (Nat × Instr)) (q : Nat) (l : List UInt8), b.data.toList.drop q = l → dcM b T q l = true → ∀ e, e ∈ T → pmDec b e.1 e.2 = true := by
  intro T
  induction T with
  | nil => intro q l hl hc e he; cases he
  | cons a T ih =>
    intro q l hl hc e he
    unfold dcM at hc
    rw [Bool.and_eq_true] at hc
    obtain ⟨h1, h2⟩ := hc
    have h1 := Nat.le_of_ble_eq_true h1
    split at h2
    · cases h2
    · rename_i x r hd
      rw [Bool.and_eq_true, Bool.or_eq_true] at h2
      obtain ⟨h2, h3⟩ := h2
      rw [← hl, List.drop_drop] at hd
      have hd' : b.data.toList.drop a.1 = x :: r := by
        rw [← hd]
        congr 1
        omega
      rcases List.mem_cons.mp he with rfl | he
      · rcases h2 with h2 | h2
        · exact dcP (dcOk hd' h2)
        · exact h2
      · exact ih _ _ (dcT hd') h3 e he
theorem dcQ {q : pmIt × List (List (Nat × Instr))} (h : dcM q.1.2.1 q.2.flatten 0 q.1.2.1.data.toList = true) : pmDc q := fun l hl => List.all_eq_true.mpr fun e he => dcM_ok _ _ _ rfl h e (List.mem_flatten.mpr ⟨l, hl, he⟩)
end
