/-! the links that the tables resolve are the statement's words, by place -/
def pmWd (i : Nat) : Option Jvm.Cond := lw_tbl[i]?
def pmRetT (r : Nat) : Option FieldType := match r with
  | 0 => none
  | 1 => some .int
  | 2 => some .boolean
  | _ => some .long
def pmFp (o : Nat) (e : Nat × (Nat × Nat × Nat × Bool)) : Prop := ∃ (own C : String) (T : u_T) (N : Nat), pmOwn[o]? = some own ∧ pmCl[e.2.1]? = some (C, T, N) ∧ e.2.2.1 < N ∧ (T e.2.2.1).1 = C ∧
  pmWd e.2.2.2.1 = some (bif e.2.2.2.2 then .fieldLinkNest own e.1 C (T e.2.2.1).2.1 (T e.2.2.1).2.2.1 "BentTale" else .fieldLink own e.1 C (T e.2.2.1).2.1 (T e.2.2.1).2.2.1)
def pmMp (o : Nat) (e : Nat × (Nat × Nat × Bool)) : Prop := ∃ own : String, pmOwn[o]? = some own ∧ (if e.2.1 = 9001 then pmWd e.2.2.1 = some (.methodLink own e.1 objectInit) else if e.2.1 = 9000 then pmWd e.2.2.1 = some (.methodLink own e.1 arraycopyName)
  else if e.2.1 = 9002 then pmWd e.2.2.1 = some (.methodLink own e.1 Lib.Math.max.name) else if e.2.1 = 9003 then pmWd e.2.2.1 = some (.methodLink own e.1 Lib.Math.min.name)
  else ∃ q, pmInf[e.2.1]? = some q ∧ pmWd e.2.2.1 = some (bif e.2.2.2 then .methodLinkNest own e.1 q.1 "BentTale" else .methodLink own e.1 q.1))
def pmCp (o : Nat) (e : Nat × (Int32 × Nat)) : Prop := ∃ own : String, pmOwn[o]? = some own ∧ pmWd e.2.2 = some (.constant own e.1 e.2.1)
def pmLp (o : Nat) (e : Nat × (Int64 × Nat)) : Prop := ∃ own : String, pmOwn[o]? = some own ∧ pmWd e.2.2 = some (.constantLong own e.1 e.2.1)
def pmNp (o : Nat) (e : Nat × (Nat × Nat)) : Prop := ∃ (own C : String) (T : u_T) (N : Nat), pmOwn[o]? = some own ∧ pmCl[e.2.1]? = some (C, T, N) ∧ pmWd e.2.2 = some (.classLink own e.1 C)
def pmGp (o : Nat) (e : Nat × Nat) : Prop := ∃ own : String, pmOwn[o]? = some own ∧ pmWd e.2 = some (.fieldLink own e.1 "BentTale$Planner" "UNITS" "[I")
def pmOp (o : Nat) : Prop := ∃ own : String, pmOwn[o]? = some own ∧ plainName own = true ∧ own ≠ "java/lang/invoke/MethodHandle" ∧ own ≠ "java/lang/invoke/VarHandle"
def pmKd (ci k : Nat) : Nat := ((pmFk[ci]?).bind fun l => l[k]?).getD 9
def pmFn (ci k : Nat) : Bool := ((pmFin[ci]?).bind fun l => l[k]?).getD false
def pmKp (ci : Nat) : Prop := ∃ (C : String) (T : u_T) (N : Nat) (ty : Nat → FieldType) (ix : List Nat) (a b : Nat), pmCl[ci]? = some (C, T, N) ∧ pmKw[ci]? = some (ix, a, b) ∧ pmOwn[ci]? = some C ∧ (pmNf[ci]?).getD 0 = N ∧ pmTys[ci]? = some ty ∧ ix.map pmWd = (u_ws C T N).map some ∧ pmWd a = some (.instantiable C N) ∧ pmWd b = some (.initialized C) ∧
  (∀ k, k < N → pmKd ci k = pmKind (ty k) ∧ pmKd ci k ≤ 3 ∧ pmFn ci k = (T k).2.2.2) ∧ (∀ k, k < N → parseFieldDescriptor (T k).2.2.1 = some (ty k)) ∧ (∀ x, x < N → ∀ y, y < N → x ≠ y → (T x).2.1 ≠ (T y).2.1)
def pmIp (q : pmIt) : Prop := pmOwn[q.2.2.1.1]? = some q.1.cls ∧ q.2.2.1.1 < 15 ∧ (parseMethodDescriptor q.1.desc).map (fun d => d.parameters.length) = some q.2.2.1.2.1 ∧ q.2.2.1.2.2.2 ≤ 3 ∧ (q.2.2.2.1 = 3 ∨ (pmWd q.2.2.2.2.1 = some (.code q.1 q.2.1 q.2.2.1.2.2.1 (pmRetT q.2.2.1.2.2.2)) ∧ pmWd q.2.2.2.2.2.2.2 = some (.initialized q.1.cls) ∧
  ((q.2.2.2.1 = 0 ∧ pmWd q.2.2.2.2.2.1 = some (.instanceMethod q.1) ∧ pmWd q.2.2.2.2.2.2.1 = some (.selects q.1.cls q.1 q.1) ∧ q.2.2.1.1 ≤ 12) ∨ (q.2.2.2.1 = 1 ∧ pmWd q.2.2.2.2.2.1 = some (.static q.1)) ∨ (q.2.2.2.1 = 2 ∧ pmWd q.2.2.2.2.2.1 = some (.instanceMethod q.1) ∧ q.1.name = "<init>" ∧ q.2.2.1.2.2.2 = 0))))

set_option maxRecDepth 100000 in
def lwD_0 : {l : List Cond // lw_tbl.drop 0 = l} := ⟨_, by conv => lhs; whnf⟩
theorem lwd_0 (k : Nat) : pmWd (0 + k) = lwD_0.1[k]? := by unfold pmWd; rw [← lwD_0.2, List.getElem?_drop]
set_option maxRecDepth 100000 in
def lwD_1 : {l : List Cond // lw_tbl.drop 32 = l} := ⟨_, by conv => lhs; whnf⟩
theorem lwd_1 (k : Nat) : pmWd (32 + k) = lwD_1.1[k]? := by unfold pmWd; rw [← lwD_1.2, List.getElem?_drop]
set_option maxRecDepth 100000 in
def lwD_2 : {l : List Cond // lw_tbl.drop 64 = l} := ⟨_, by conv => lhs; whnf⟩
theorem lwd_2 (k : Nat) : pmWd (64 + k) = lwD_2.1[k]? := by unfold pmWd; rw [← lwD_2.2, List.getElem?_drop]
set_option maxRecDepth 100000 in
def lwD_3 : {l : List Cond // lw_tbl.drop 96 = l} := ⟨_, by conv => lhs; whnf⟩
theorem lwd_3 (k : Nat) : pmWd (96 + k) = lwD_3.1[k]? := by unfold pmWd; rw [← lwD_3.2, List.getElem?_drop]
set_option maxRecDepth 100000 in
def lwD_4 : {l : List Cond // lw_tbl.drop 128 = l} := ⟨_, by conv => lhs; whnf⟩
theorem lwd_4 (k : Nat) : pmWd (128 + k) = lwD_4.1[k]? := by unfold pmWd; rw [← lwD_4.2, List.getElem?_drop]
set_option maxRecDepth 100000 in
def lwD_5 : {l : List Cond // lw_tbl.drop 160 = l} := ⟨_, by conv => lhs; whnf⟩
theorem lwd_5 (k : Nat) : pmWd (160 + k) = lwD_5.1[k]? := by unfold pmWd; rw [← lwD_5.2, List.getElem?_drop]
set_option maxRecDepth 100000 in
def lwD_6 : {l : List Cond // lw_tbl.drop 192 = l} := ⟨_, by conv => lhs; whnf⟩
theorem lwd_6 (k : Nat) : pmWd (192 + k) = lwD_6.1[k]? := by unfold pmWd; rw [← lwD_6.2, List.getElem?_drop]
set_option maxRecDepth 100000 in
def lwD_7 : {l : List Cond // lw_tbl.drop 224 = l} := ⟨_, by conv => lhs; whnf⟩
theorem lwd_7 (k : Nat) : pmWd (224 + k) = lwD_7.1[k]? := by unfold pmWd; rw [← lwD_7.2, List.getElem?_drop]
set_option maxRecDepth 100000 in
def lwD_8 : {l : List Cond // lw_tbl.drop 256 = l} := ⟨_, by conv => lhs; whnf⟩
theorem lwd_8 (k : Nat) : pmWd (256 + k) = lwD_8.1[k]? := by unfold pmWd; rw [← lwD_8.2, List.getElem?_drop]
set_option maxRecDepth 100000 in
def lwD_9 : {l : List Cond // lw_tbl.drop 288 = l} := ⟨_, by conv => lhs; whnf⟩
theorem lwd_9 (k : Nat) : pmWd (288 + k) = lwD_9.1[k]? := by unfold pmWd; rw [← lwD_9.2, List.getElem?_drop]
set_option maxRecDepth 100000 in
def lwD_10 : {l : List Cond // lw_tbl.drop 320 = l} := ⟨_, by conv => lhs; whnf⟩
theorem lwd_10 (k : Nat) : pmWd (320 + k) = lwD_10.1[k]? := by unfold pmWd; rw [← lwD_10.2, List.getElem?_drop]
set_option maxRecDepth 100000 in
def lwD_11 : {l : List Cond // lw_tbl.drop 352 = l} := ⟨_, by conv => lhs; whnf⟩
theorem lwd_11 (k : Nat) : pmWd (352 + k) = lwD_11.1[k]? := by unfold pmWd; rw [← lwD_11.2, List.getElem?_drop]
set_option maxRecDepth 100000 in
def lwD_12 : {l : List Cond // lw_tbl.drop 384 = l} := ⟨_, by conv => lhs; whnf⟩
theorem lwd_12 (k : Nat) : pmWd (384 + k) = lwD_12.1[k]? := by unfold pmWd; rw [← lwD_12.2, List.getElem?_drop]
set_option maxRecDepth 100000 in
def lwD_13 : {l : List Cond // lw_tbl.drop 416 = l} := ⟨_, by conv => lhs; whnf⟩
theorem lwd_13 (k : Nat) : pmWd (416 + k) = lwD_13.1[k]? := by unfold pmWd; rw [← lwD_13.2, List.getElem?_drop]
set_option maxRecDepth 100000 in
def lwD_14 : {l : List Cond // lw_tbl.drop 448 = l} := ⟨_, by conv => lhs; whnf⟩
theorem lwd_14 (k : Nat) : pmWd (448 + k) = lwD_14.1[k]? := by unfold pmWd; rw [← lwD_14.2, List.getElem?_drop]
set_option maxRecDepth 100000 in
def lwD_15 : {l : List Cond // lw_tbl.drop 480 = l} := ⟨_, by conv => lhs; whnf⟩
theorem lwd_15 (k : Nat) : pmWd (480 + k) = lwD_15.1[k]? := by unfold pmWd; rw [← lwD_15.2, List.getElem?_drop]
set_option maxRecDepth 100000 in
def lwD_16 : {l : List Cond // lw_tbl.drop 512 = l} := ⟨_, by conv => lhs; whnf⟩
theorem lwd_16 (k : Nat) : pmWd (512 + k) = lwD_16.1[k]? := by unfold pmWd; rw [← lwD_16.2, List.getElem?_drop]
set_option maxRecDepth 100000 in
def lwD_17 : {l : List Cond // lw_tbl.drop 544 = l} := ⟨_, by conv => lhs; whnf⟩
theorem lwd_17 (k : Nat) : pmWd (544 + k) = lwD_17.1[k]? := by unfold pmWd; rw [← lwD_17.2, List.getElem?_drop]
set_option maxRecDepth 100000 in
def lwD_18 : {l : List Cond // lw_tbl.drop 576 = l} := ⟨_, by conv => lhs; whnf⟩
theorem lwd_18 (k : Nat) : pmWd (576 + k) = lwD_18.1[k]? := by unfold pmWd; rw [← lwD_18.2, List.getElem?_drop]
set_option maxRecDepth 100000 in
def lwD_19 : {l : List Cond // lw_tbl.drop 608 = l} := ⟨_, by conv => lhs; whnf⟩
theorem lwd_19 (k : Nat) : pmWd (608 + k) = lwD_19.1[k]? := by unfold pmWd; rw [← lwD_19.2, List.getElem?_drop]
set_option maxRecDepth 100000 in
def lwD_20 : {l : List Cond // lw_tbl.drop 640 = l} := ⟨_, by conv => lhs; whnf⟩
theorem lwd_20 (k : Nat) : pmWd (640 + k) = lwD_20.1[k]? := by unfold pmWd; rw [← lwD_20.2, List.getElem?_drop]
set_option maxRecDepth 100000 in
def lwD_21 : {l : List Cond // lw_tbl.drop 672 = l} := ⟨_, by conv => lhs; whnf⟩
theorem lwd_21 (k : Nat) : pmWd (672 + k) = lwD_21.1[k]? := by unfold pmWd; rw [← lwD_21.2, List.getElem?_drop]
set_option maxRecDepth 100000 in
def lwD_22 : {l : List Cond // lw_tbl.drop 704 = l} := ⟨_, by conv => lhs; whnf⟩
theorem lwd_22 (k : Nat) : pmWd (704 + k) = lwD_22.1[k]? := by unfold pmWd; rw [← lwD_22.2, List.getElem?_drop]
set_option maxRecDepth 100000 in
def lwD_23 : {l : List Cond // lw_tbl.drop 736 = l} := ⟨_, by conv => lhs; whnf⟩
theorem lwd_23 (k : Nat) : pmWd (736 + k) = lwD_23.1[k]? := by unfold pmWd; rw [← lwD_23.2, List.getElem?_drop]
set_option maxRecDepth 100000 in
def lwD_24 : {l : List Cond // lw_tbl.drop 768 = l} := ⟨_, by conv => lhs; whnf⟩
theorem lwd_24 (k : Nat) : pmWd (768 + k) = lwD_24.1[k]? := by unfold pmWd; rw [← lwD_24.2, List.getElem?_drop]
set_option maxRecDepth 100000 in
def lwD_25 : {l : List Cond // lw_tbl.drop 800 = l} := ⟨_, by conv => lhs; whnf⟩
theorem lwd_25 (k : Nat) : pmWd (800 + k) = lwD_25.1[k]? := by unfold pmWd; rw [← lwD_25.2, List.getElem?_drop]
set_option maxRecDepth 100000 in
def lwD_26 : {l : List Cond // lw_tbl.drop 832 = l} := ⟨_, by conv => lhs; whnf⟩
theorem lwd_26 (k : Nat) : pmWd (832 + k) = lwD_26.1[k]? := by unfold pmWd; rw [← lwD_26.2, List.getElem?_drop]
set_option maxRecDepth 100000 in
def lwD_27 : {l : List Cond // lw_tbl.drop 864 = l} := ⟨_, by conv => lhs; whnf⟩
theorem lwd_27 (k : Nat) : pmWd (864 + k) = lwD_27.1[k]? := by unfold pmWd; rw [← lwD_27.2, List.getElem?_drop]
set_option maxRecDepth 100000 in
def lwD_28 : {l : List Cond // lw_tbl.drop 896 = l} := ⟨_, by conv => lhs; whnf⟩
theorem lwd_28 (k : Nat) : pmWd (896 + k) = lwD_28.1[k]? := by unfold pmWd; rw [← lwD_28.2, List.getElem?_drop]
set_option maxRecDepth 100000 in
def lwD_29 : {l : List Cond // lw_tbl.drop 928 = l} := ⟨_, by conv => lhs; whnf⟩
theorem lwd_29 (k : Nat) : pmWd (928 + k) = lwD_29.1[k]? := by unfold pmWd; rw [← lwD_29.2, List.getElem?_drop]
set_option maxRecDepth 100000 in
def lwD_30 : {l : List Cond // lw_tbl.drop 960 = l} := ⟨_, by conv => lhs; whnf⟩
theorem lwd_30 (k : Nat) : pmWd (960 + k) = lwD_30.1[k]? := by unfold pmWd; rw [← lwD_30.2, List.getElem?_drop]
set_option maxRecDepth 100000 in
def lwD_31 : {l : List Cond // lw_tbl.drop 992 = l} := ⟨_, by conv => lhs; whnf⟩
theorem lwd_31 (k : Nat) : pmWd (992 + k) = lwD_31.1[k]? := by unfold pmWd; rw [← lwD_31.2, List.getElem?_drop]
set_option maxRecDepth 100000 in
def lwD_32 : {l : List Cond // lw_tbl.drop 1024 = l} := ⟨_, by conv => lhs; whnf⟩
theorem lwd_32 (k : Nat) : pmWd (1024 + k) = lwD_32.1[k]? := by unfold pmWd; rw [← lwD_32.2, List.getElem?_drop]
set_option maxRecDepth 100000 in
def lwD_33 : {l : List Cond // lw_tbl.drop 1056 = l} := ⟨_, by conv => lhs; whnf⟩
theorem lwd_33 (k : Nat) : pmWd (1056 + k) = lwD_33.1[k]? := by unfold pmWd; rw [← lwD_33.2, List.getElem?_drop]
set_option maxRecDepth 100000 in
def lwD_34 : {l : List Cond // lw_tbl.drop 1088 = l} := ⟨_, by conv => lhs; whnf⟩
theorem lwd_34 (k : Nat) : pmWd (1088 + k) = lwD_34.1[k]? := by unfold pmWd; rw [← lwD_34.2, List.getElem?_drop]
set_option maxRecDepth 100000 in
def lwD_35 : {l : List Cond // lw_tbl.drop 1120 = l} := ⟨_, by conv => lhs; whnf⟩
theorem lwd_35 (k : Nat) : pmWd (1120 + k) = lwD_35.1[k]? := by unfold pmWd; rw [← lwD_35.2, List.getElem?_drop]
set_option maxRecDepth 100000 in
def lwD_36 : {l : List Cond // lw_tbl.drop 1152 = l} := ⟨_, by conv => lhs; whnf⟩
theorem lwd_36 (k : Nat) : pmWd (1152 + k) = lwD_36.1[k]? := by unfold pmWd; rw [← lwD_36.2, List.getElem?_drop]
set_option maxRecDepth 100000 in
def lwD_37 : {l : List Cond // lw_tbl.drop 1184 = l} := ⟨_, by conv => lhs; whnf⟩
theorem lwd_37 (k : Nat) : pmWd (1184 + k) = lwD_37.1[k]? := by unfold pmWd; rw [← lwD_37.2, List.getElem?_drop]
set_option maxRecDepth 100000 in
def lwD_38 : {l : List Cond // lw_tbl.drop 1216 = l} := ⟨_, by conv => lhs; whnf⟩
theorem lwd_38 (k : Nat) : pmWd (1216 + k) = lwD_38.1[k]? := by unfold pmWd; rw [← lwD_38.2, List.getElem?_drop]
set_option maxRecDepth 100000 in
def lwD_39 : {l : List Cond // lw_tbl.drop 1248 = l} := ⟨_, by conv => lhs; whnf⟩
theorem lwd_39 (k : Nat) : pmWd (1248 + k) = lwD_39.1[k]? := by unfold pmWd; rw [← lwD_39.2, List.getElem?_drop]
set_option maxRecDepth 100000 in
def lwD_40 : {l : List Cond // lw_tbl.drop 1280 = l} := ⟨_, by conv => lhs; whnf⟩
theorem lwd_40 (k : Nat) : pmWd (1280 + k) = lwD_40.1[k]? := by unfold pmWd; rw [← lwD_40.2, List.getElem?_drop]
set_option maxRecDepth 100000 in
def lwD_41 : {l : List Cond // lw_tbl.drop 1312 = l} := ⟨_, by conv => lhs; whnf⟩
theorem lwd_41 (k : Nat) : pmWd (1312 + k) = lwD_41.1[k]? := by unfold pmWd; rw [← lwD_41.2, List.getElem?_drop]
set_option maxRecDepth 100000 in
def lwD_42 : {l : List Cond // lw_tbl.drop 1344 = l} := ⟨_, by conv => lhs; whnf⟩
theorem lwd_42 (k : Nat) : pmWd (1344 + k) = lwD_42.1[k]? := by unfold pmWd; rw [← lwD_42.2, List.getElem?_drop]
set_option maxRecDepth 100000 in
def lwD_43 : {l : List Cond // lw_tbl.drop 1376 = l} := ⟨_, by conv => lhs; whnf⟩
theorem lwd_43 (k : Nat) : pmWd (1376 + k) = lwD_43.1[k]? := by unfold pmWd; rw [← lwD_43.2, List.getElem?_drop]
set_option maxRecDepth 100000 in
def lwD_44 : {l : List Cond // lw_tbl.drop 1408 = l} := ⟨_, by conv => lhs; whnf⟩
theorem lwd_44 (k : Nat) : pmWd (1408 + k) = lwD_44.1[k]? := by unfold pmWd; rw [← lwD_44.2, List.getElem?_drop]
set_option maxRecDepth 100000 in
def lwD_45 : {l : List Cond // lw_tbl.drop 1440 = l} := ⟨_, by conv => lhs; whnf⟩
theorem lwd_45 (k : Nat) : pmWd (1440 + k) = lwD_45.1[k]? := by unfold pmWd; rw [← lwD_45.2, List.getElem?_drop]
set_option maxRecDepth 100000 in
def lwD_46 : {l : List Cond // lw_tbl.drop 1472 = l} := ⟨_, by conv => lhs; whnf⟩
theorem lwd_46 (k : Nat) : pmWd (1472 + k) = lwD_46.1[k]? := by unfold pmWd; rw [← lwD_46.2, List.getElem?_drop]
set_option maxRecDepth 100000 in
def lwD_47 : {l : List Cond // lw_tbl.drop 1504 = l} := ⟨_, by conv => lhs; whnf⟩
theorem lwd_47 (k : Nat) : pmWd (1504 + k) = lwD_47.1[k]? := by unfold pmWd; rw [← lwD_47.2, List.getElem?_drop]
set_option maxRecDepth 100000 in
def lwD_48 : {l : List Cond // lw_tbl.drop 1536 = l} := ⟨_, by conv => lhs; whnf⟩
theorem lwd_48 (k : Nat) : pmWd (1536 + k) = lwD_48.1[k]? := by unfold pmWd; rw [← lwD_48.2, List.getElem?_drop]
set_option maxRecDepth 100000 in
def lwD_49 : {l : List Cond // lw_tbl.drop 1568 = l} := ⟨_, by conv => lhs; whnf⟩
theorem lwd_49 (k : Nat) : pmWd (1568 + k) = lwD_49.1[k]? := by unfold pmWd; rw [← lwD_49.2, List.getElem?_drop]
set_option maxRecDepth 100000 in
def lwD_50 : {l : List Cond // lw_tbl.drop 1600 = l} := ⟨_, by conv => lhs; whnf⟩
theorem lwd_50 (k : Nat) : pmWd (1600 + k) = lwD_50.1[k]? := by unfold pmWd; rw [← lwD_50.2, List.getElem?_drop]
set_option maxRecDepth 100000 in
def lwD_51 : {l : List Cond // lw_tbl.drop 1632 = l} := ⟨_, by conv => lhs; whnf⟩
theorem lwd_51 (k : Nat) : pmWd (1632 + k) = lwD_51.1[k]? := by unfold pmWd; rw [← lwD_51.2, List.getElem?_drop]
set_option maxRecDepth 100000 in
def lwD_52 : {l : List Cond // lw_tbl.drop 1664 = l} := ⟨_, by conv => lhs; whnf⟩
theorem lwd_52 (k : Nat) : pmWd (1664 + k) = lwD_52.1[k]? := by unfold pmWd; rw [← lwD_52.2, List.getElem?_drop]
set_option maxRecDepth 100000 in
def lwD_53 : {l : List Cond // lw_tbl.drop 1696 = l} := ⟨_, by conv => lhs; whnf⟩
theorem lwd_53 (k : Nat) : pmWd (1696 + k) = lwD_53.1[k]? := by unfold pmWd; rw [← lwD_53.2, List.getElem?_drop]
set_option maxRecDepth 100000 in
theorem pmFp_0_0 : pmFp 0 (12, (0, 3, 520, false)) := ⟨_, _, _, _, rfl, rfl, by decide, rfl, ((lwd_16 8).trans rfl)⟩
set_option maxRecDepth 100000 in
theorem pmFp_0_1 : pmFp 0 (18, (0, 4, 521, false)) := ⟨_, _, _, _, rfl, rfl, by decide, rfl, ((lwd_16 9).trans rfl)⟩
set_option maxRecDepth 100000 in
theorem pmFp_0_2 : pmFp 0 (22, (0, 5, 522, false)) := ⟨_, _, _, _, rfl, rfl, by decide, rfl, ((lwd_16 10).trans rfl)⟩
set_option maxRecDepth 100000 in
theorem pmFp_0_3 : pmFp 0 (25, (0, 0, 517, false)) := ⟨_, _, _, _, rfl, rfl, by decide, rfl, ((lwd_16 5).trans rfl)⟩
set_option maxRecDepth 100000 in
theorem pmFp_0_4 : pmFp 0 (29, (0, 1, 518, false)) := ⟨_, _, _, _, rfl, rfl, by decide, rfl, ((lwd_16 6).trans rfl)⟩
set_option maxRecDepth 100000 in
theorem pmFp_0_5 : pmFp 0 (33, (0, 2, 519, false)) := ⟨_, _, _, _, rfl, rfl, by decide, rfl, ((lwd_16 7).trans rfl)⟩
set_option maxRecDepth 100000 in
theorem pmFp_0_6 : pmFp 0 (41, (0, 6, 523, false)) := ⟨_, _, _, _, rfl, rfl, by decide, rfl, ((lwd_16 11).trans rfl)⟩
set_option maxRecDepth 100000 in
theorem pmFp_0_7 : pmFp 0 (45, (4, 3, 474, true)) := ⟨_, _, _, _, rfl, rfl, by decide, rfl, ((lwd_14 26).trans rfl)⟩
set_option maxRecDepth 100000 in
theorem pmFp_0_8 : pmFp 0 (62, (10, 4, 315, true)) := ⟨_, _, _, _, rfl, rfl, by decide, rfl, ((lwd_9 27).trans rfl)⟩
set_option maxRecDepth 100000 in
theorem pmFp_0 : ∀ e ∈ (pmFt[0]?).getD [], pmFp 0 e := List.forall_mem_cons.mpr ⟨pmFp_0_0, List.forall_mem_cons.mpr ⟨pmFp_0_1, List.forall_mem_cons.mpr ⟨pmFp_0_2, List.forall_mem_cons.mpr ⟨pmFp_0_3, List.forall_mem_cons.mpr ⟨pmFp_0_4, List.forall_mem_cons.mpr ⟨pmFp_0_5, List.forall_mem_cons.mpr ⟨pmFp_0_6, List.forall_mem_cons.mpr ⟨pmFp_0_7, List.forall_mem_cons.mpr ⟨pmFp_0_8, fun _ h => absurd h List.not_mem_nil⟩⟩⟩⟩⟩⟩⟩⟩⟩
set_option maxRecDepth 100000 in
theorem pmFp_1_0 : pmFp 1 (9, (1, 0, 395, false)) := ⟨_, _, _, _, rfl, rfl, by decide, rfl, ((lwd_12 11).trans rfl)⟩
set_option maxRecDepth 100000 in
theorem pmFp_1_1 : pmFp 1 (15, (1, 1, 396, false)) := ⟨_, _, _, _, rfl, rfl, by decide, rfl, ((lwd_12 12).trans rfl)⟩
set_option maxRecDepth 100000 in
theorem pmFp_1_2 : pmFp 1 (25, (1, 2, 397, false)) := ⟨_, _, _, _, rfl, rfl, by decide, rfl, ((lwd_12 13).trans rfl)⟩
set_option maxRecDepth 100000 in
theorem pmFp_1_3 : pmFp 1 (33, (6, 3, 174, true)) := ⟨_, _, _, _, rfl, rfl, by decide, rfl, ((lwd_5 14).trans rfl)⟩
set_option maxRecDepth 100000 in
theorem pmFp_1_4 : pmFp 1 (44, (6, 4, 177, true)) := ⟨_, _, _, _, rfl, rfl, by decide, rfl, ((lwd_5 17).trans rfl)⟩
set_option maxRecDepth 100000 in
theorem pmFp_1_5 : pmFp 1 (51, (2, 7, 275, true)) := ⟨_, _, _, _, rfl, rfl, by decide, rfl, ((lwd_8 19).trans rfl)⟩
set_option maxRecDepth 100000 in
theorem pmFp_1_6 : pmFp 1 (56, (2, 0, 261, true)) := ⟨_, _, _, _, rfl, rfl, by decide, rfl, ((lwd_8 5).trans rfl)⟩
set_option maxRecDepth 100000 in
theorem pmFp_1_7 : pmFp 1 (63, (2, 1, 263, true)) := ⟨_, _, _, _, rfl, rfl, by decide, rfl, ((lwd_8 7).trans rfl)⟩
set_option maxRecDepth 100000 in
theorem pmFp_1_8 : pmFp 1 (66, (1, 3, 399, false)) := ⟨_, _, _, _, rfl, rfl, by decide, rfl, ((lwd_12 15).trans rfl)⟩
set_option maxRecDepth 100000 in
theorem pmFp_1_9 : pmFp 1 (69, (2, 2, 265, true)) := ⟨_, _, _, _, rfl, rfl, by decide, rfl, ((lwd_8 9).trans rfl)⟩
set_option maxRecDepth 100000 in
theorem pmFp_1_10 : pmFp 1 (72, (1, 4, 400, false)) := ⟨_, _, _, _, rfl, rfl, by decide, rfl, ((lwd_12 16).trans rfl)⟩
set_option maxRecDepth 100000 in
theorem pmFp_1_11 : pmFp 1 (78, (2, 3, 267, true)) := ⟨_, _, _, _, rfl, rfl, by decide, rfl, ((lwd_8 11).trans rfl)⟩
set_option maxRecDepth 100000 in
theorem pmFp_1_12 : pmFp 1 (81, (2, 4, 269, true)) := ⟨_, _, _, _, rfl, rfl, by decide, rfl, ((lwd_8 13).trans rfl)⟩
set_option maxRecDepth 100000 in
theorem pmFp_1_13 : pmFp 1 (94, (2, 5, 271, true)) := ⟨_, _, _, _, rfl, rfl, by decide, rfl, ((lwd_8 15).trans rfl)⟩
set_option maxRecDepth 100000 in
theorem pmFp_1 : ∀ e ∈ (pmFt[1]?).getD [], pmFp 1 e := List.forall_mem_cons.mpr ⟨pmFp_1_0, List.forall_mem_cons.mpr ⟨pmFp_1_1, List.forall_mem_cons.mpr ⟨pmFp_1_2, List.forall_mem_cons.mpr ⟨pmFp_1_3, List.forall_mem_cons.mpr ⟨pmFp_1_4, List.forall_mem_cons.mpr ⟨pmFp_1_5, List.forall_mem_cons.mpr ⟨pmFp_1_6, List.forall_mem_cons.mpr ⟨pmFp_1_7, List.forall_mem_cons.mpr ⟨pmFp_1_8, List.forall_mem_cons.mpr ⟨pmFp_1_9, List.forall_mem_cons.mpr ⟨pmFp_1_10, List.forall_mem_cons.mpr ⟨pmFp_1_11, List.forall_mem_cons.mpr ⟨pmFp_1_12, List.forall_mem_cons.mpr ⟨pmFp_1_13, fun _ h => absurd h List.not_mem_nil⟩⟩⟩⟩⟩⟩⟩⟩⟩⟩⟩⟩⟩⟩
set_option maxRecDepth 100000 in
theorem pmFp_2_0 : pmFp 2 (9, (2, 0, 260, false)) := ⟨_, _, _, _, rfl, rfl, by decide, rfl, ((lwd_8 4).trans rfl)⟩
set_option maxRecDepth 100000 in
theorem pmFp_2_1 : pmFp 2 (15, (2, 1, 262, false)) := ⟨_, _, _, _, rfl, rfl, by decide, rfl, ((lwd_8 6).trans rfl)⟩
set_option maxRecDepth 100000 in
theorem pmFp_2_2 : pmFp 2 (18, (2, 2, 264, false)) := ⟨_, _, _, _, rfl, rfl, by decide, rfl, ((lwd_8 8).trans rfl)⟩
set_option maxRecDepth 100000 in
theorem pmFp_2_3 : pmFp 2 (21, (2, 3, 266, false)) := ⟨_, _, _, _, rfl, rfl, by decide, rfl, ((lwd_8 10).trans rfl)⟩
set_option maxRecDepth 100000 in
theorem pmFp_2_4 : pmFp 2 (24, (2, 4, 268, false)) := ⟨_, _, _, _, rfl, rfl, by decide, rfl, ((lwd_8 12).trans rfl)⟩
set_option maxRecDepth 100000 in
theorem pmFp_2_5 : pmFp 2 (27, (2, 5, 270, false)) := ⟨_, _, _, _, rfl, rfl, by decide, rfl, ((lwd_8 14).trans rfl)⟩
set_option maxRecDepth 100000 in
theorem pmFp_2_6 : pmFp 2 (30, (2, 6, 272, false)) := ⟨_, _, _, _, rfl, rfl, by decide, rfl, ((lwd_8 16).trans rfl)⟩
set_option maxRecDepth 100000 in
theorem pmFp_2_7 : pmFp 2 (33, (2, 7, 274, false)) := ⟨_, _, _, _, rfl, rfl, by decide, rfl, ((lwd_8 18).trans rfl)⟩
set_option maxRecDepth 100000 in
theorem pmFp_2_8 : pmFp 2 (37, (10, 2, 307, true)) := ⟨_, _, _, _, rfl, rfl, by decide, rfl, ((lwd_9 19).trans rfl)⟩
set_option maxRecDepth 100000 in
theorem pmFp_2_9 : pmFp 2 (42, (10, 1, 305, true)) := ⟨_, _, _, _, rfl, rfl, by decide, rfl, ((lwd_9 17).trans rfl)⟩
set_option maxRecDepth 100000 in
theorem pmFp_2_10 : pmFp 2 (53, (10, 6, 322, true)) := ⟨_, _, _, _, rfl, rfl, by decide, rfl, ((lwd_10 2).trans rfl)⟩
set_option maxRecDepth 100000 in
theorem pmFp_2_11 : pmFp 2 (56, (10, 7, 326, true)) := ⟨_, _, _, _, rfl, rfl, by decide, rfl, ((lwd_10 6).trans rfl)⟩
set_option maxRecDepth 100000 in
theorem pmFp_2 : ∀ e ∈ (pmFt[2]?).getD [], pmFp 2 e := List.forall_mem_cons.mpr ⟨pmFp_2_0, List.forall_mem_cons.mpr ⟨pmFp_2_1, List.forall_mem_cons.mpr ⟨pmFp_2_2, List.forall_mem_cons.mpr ⟨pmFp_2_3, List.forall_mem_cons.mpr ⟨pmFp_2_4, List.forall_mem_cons.mpr ⟨pmFp_2_5, List.forall_mem_cons.mpr ⟨pmFp_2_6, List.forall_mem_cons.mpr ⟨pmFp_2_7, List.forall_mem_cons.mpr ⟨pmFp_2_8, List.forall_mem_cons.mpr ⟨pmFp_2_9, List.forall_mem_cons.mpr ⟨pmFp_2_10, List.forall_mem_cons.mpr ⟨pmFp_2_11, fun _ h => absurd h List.not_mem_nil⟩⟩⟩⟩⟩⟩⟩⟩⟩⟩⟩⟩
set_option maxRecDepth 100000 in
theorem pmFp_3_0 : pmFp 3 (11, (3, 2, 420, false)) := ⟨_, _, _, _, rfl, rfl, by decide, rfl, ((lwd_13 4).trans rfl)⟩
set_option maxRecDepth 100000 in
theorem pmFp_3_1 : pmFp 3 (15, (3, 3, 421, false)) := ⟨_, _, _, _, rfl, rfl, by decide, rfl, ((lwd_13 5).trans rfl)⟩
set_option maxRecDepth 100000 in
theorem pmFp_3_2 : pmFp 3 (18, (3, 4, 422, false)) := ⟨_, _, _, _, rfl, rfl, by decide, rfl, ((lwd_13 6).trans rfl)⟩
set_option maxRecDepth 100000 in
theorem pmFp_3_3 : pmFp 3 (22, (3, 5, 423, false)) := ⟨_, _, _, _, rfl, rfl, by decide, rfl, ((lwd_13 7).trans rfl)⟩
set_option maxRecDepth 100000 in
theorem pmFp_3_4 : pmFp 3 (25, (3, 6, 424, false)) := ⟨_, _, _, _, rfl, rfl, by decide, rfl, ((lwd_13 8).trans rfl)⟩
set_option maxRecDepth 100000 in
theorem pmFp_3_5 : pmFp 3 (28, (3, 7, 425, false)) := ⟨_, _, _, _, rfl, rfl, by decide, rfl, ((lwd_13 9).trans rfl)⟩
set_option maxRecDepth 100000 in
theorem pmFp_3_6 : pmFp 3 (31, (3, 8, 426, false)) := ⟨_, _, _, _, rfl, rfl, by decide, rfl, ((lwd_13 10).trans rfl)⟩
set_option maxRecDepth 100000 in
theorem pmFp_3_7 : pmFp 3 (34, (3, 9, 427, false)) := ⟨_, _, _, _, rfl, rfl, by decide, rfl, ((lwd_13 11).trans rfl)⟩
set_option maxRecDepth 100000 in
theorem pmFp_3_8 : pmFp 3 (37, (3, 0, 418, false)) := ⟨_, _, _, _, rfl, rfl, by decide, rfl, ((lwd_13 2).trans rfl)⟩
set_option maxRecDepth 100000 in
theorem pmFp_3_9 : pmFp 3 (41, (3, 1, 419, false)) := ⟨_, _, _, _, rfl, rfl, by decide, rfl, ((lwd_13 3).trans rfl)⟩
set_option maxRecDepth 100000 in
theorem pmFp_3_10 : pmFp 3 (45, (9, 4, 241, true)) := ⟨_, _, _, _, rfl, rfl, by decide, rfl, ((lwd_7 17).trans rfl)⟩
set_option maxRecDepth 100000 in
theorem pmFp_3_11 : pmFp 3 (50, (9, 3, 239, true)) := ⟨_, _, _, _, rfl, rfl, by decide, rfl, ((lwd_7 15).trans rfl)⟩
set_option maxRecDepth 100000 in
theorem pmFp_3_12 : pmFp 3 (61, (3, 10, 428, false)) := ⟨_, _, _, _, rfl, rfl, by decide, rfl, ((lwd_13 12).trans rfl)⟩
set_option maxRecDepth 100000 in
theorem pmFp_3_13 : pmFp 3 (65, (3, 11, 429, false)) := ⟨_, _, _, _, rfl, rfl, by decide, rfl, ((lwd_13 13).trans rfl)⟩
set_option maxRecDepth 100000 in
theorem pmFp_3_14 : pmFp 3 (84, (3, 14, 432, false)) := ⟨_, _, _, _, rfl, rfl, by decide, rfl, ((lwd_13 16).trans rfl)⟩
set_option maxRecDepth 100000 in
theorem pmFp_3_15 : pmFp 3 (89, (3, 13, 431, false)) := ⟨_, _, _, _, rfl, rfl, by decide, rfl, ((lwd_13 15).trans rfl)⟩
set_option maxRecDepth 100000 in
theorem pmFp_3_16 : pmFp 3 (101, (3, 12, 430, false)) := ⟨_, _, _, _, rfl, rfl, by decide, rfl, ((lwd_13 14).trans rfl)⟩
set_option maxRecDepth 100000 in
theorem pmFp_3_17 : pmFp 3 (108, (5, 0, 202, true)) := ⟨_, _, _, _, rfl, rfl, by decide, rfl, ((lwd_6 10).trans rfl)⟩
set_option maxRecDepth 100000 in
theorem pmFp_3_18 : pmFp 3 (111, (5, 1, 206, true)) := ⟨_, _, _, _, rfl, rfl, by decide, rfl, ((lwd_6 14).trans rfl)⟩
set_option maxRecDepth 100000 in
theorem pmFp_3_19 : pmFp 3 (129, (5, 2, 208, true)) := ⟨_, _, _, _, rfl, rfl, by decide, rfl, ((lwd_6 16).trans rfl)⟩
set_option maxRecDepth 100000 in
theorem pmFp_3_20 : pmFp 3 (132, (5, 4, 211, true)) := ⟨_, _, _, _, rfl, rfl, by decide, rfl, ((lwd_6 19).trans rfl)⟩
set_option maxRecDepth 100000 in
theorem pmFp_3_21 : pmFp 3 (135, (9, 1, 236, true)) := ⟨_, _, _, _, rfl, rfl, by decide, rfl, ((lwd_7 12).trans rfl)⟩
set_option maxRecDepth 100000 in
theorem pmFp_3_22 : pmFp 3 (138, (9, 0, 234, true)) := ⟨_, _, _, _, rfl, rfl, by decide, rfl, ((lwd_7 10).trans rfl)⟩
set_option maxRecDepth 100000 in
theorem pmFp_3 : ∀ e ∈ (pmFt[3]?).getD [], pmFp 3 e := List.forall_mem_cons.mpr ⟨pmFp_3_0, List.forall_mem_cons.mpr ⟨pmFp_3_1, List.forall_mem_cons.mpr ⟨pmFp_3_2, List.forall_mem_cons.mpr ⟨pmFp_3_3, List.forall_mem_cons.mpr ⟨pmFp_3_4, List.forall_mem_cons.mpr ⟨pmFp_3_5, List.forall_mem_cons.mpr ⟨pmFp_3_6, List.forall_mem_cons.mpr ⟨pmFp_3_7, List.forall_mem_cons.mpr ⟨pmFp_3_8, List.forall_mem_cons.mpr ⟨pmFp_3_9, List.forall_mem_cons.mpr ⟨pmFp_3_10, List.forall_mem_cons.mpr ⟨pmFp_3_11, List.forall_mem_cons.mpr ⟨pmFp_3_12, List.forall_mem_cons.mpr ⟨pmFp_3_13, List.forall_mem_cons.mpr ⟨pmFp_3_14, List.forall_mem_cons.mpr ⟨pmFp_3_15, List.forall_mem_cons.mpr ⟨pmFp_3_16, List.forall_mem_cons.mpr ⟨pmFp_3_17, List.forall_mem_cons.mpr ⟨pmFp_3_18, List.forall_mem_cons.mpr ⟨pmFp_3_19, List.forall_mem_cons.mpr ⟨pmFp_3_20, List.forall_mem_cons.mpr ⟨pmFp_3_21, List.forall_mem_cons.mpr ⟨pmFp_3_22, fun _ h => absurd h List.not_mem_nil⟩⟩⟩⟩⟩⟩⟩⟩⟩⟩⟩⟩⟩⟩⟩⟩⟩⟩⟩⟩⟩⟩⟩
set_option maxRecDepth 100000 in
theorem pmFp_4_0 : pmFp 4 (9, (4, 3, 473, false)) := ⟨_, _, _, _, rfl, rfl, by decide, rfl, ((lwd_14 25).trans rfl)⟩
set_option maxRecDepth 100000 in
theorem pmFp_4_1 : pmFp 4 (15, (4, 0, 470, false)) := ⟨_, _, _, _, rfl, rfl, by decide, rfl, ((lwd_14 22).trans rfl)⟩
set_option maxRecDepth 100000 in
theorem pmFp_4_2 : pmFp 4 (19, (4, 1, 471, false)) := ⟨_, _, _, _, rfl, rfl, by decide, rfl, ((lwd_14 23).trans rfl)⟩
set_option maxRecDepth 100000 in
theorem pmFp_4_3 : pmFp 4 (23, (4, 2, 472, false)) := ⟨_, _, _, _, rfl, rfl, by decide, rfl, ((lwd_14 24).trans rfl)⟩
set_option maxRecDepth 100000 in
theorem pmFp_4_4 : pmFp 4 (39, (10, 12, 342, true)) := ⟨_, _, _, _, rfl, rfl, by decide, rfl, ((lwd_10 22).trans rfl)⟩
set_option maxRecDepth 100000 in
theorem pmFp_4_5 : pmFp 4 (43, (10, 6, 321, true)) := ⟨_, _, _, _, rfl, rfl, by decide, rfl, ((lwd_10 1).trans rfl)⟩
set_option maxRecDepth 100000 in
theorem pmFp_4_6 : pmFp 4 (47, (10, 4, 313, true)) := ⟨_, _, _, _, rfl, rfl, by decide, rfl, ((lwd_9 25).trans rfl)⟩
set_option maxRecDepth 100000 in
theorem pmFp_4_7 : pmFp 4 (59, (10, 0, 302, true)) := ⟨_, _, _, _, rfl, rfl, by decide, rfl, ((lwd_9 14).trans rfl)⟩
set_option maxRecDepth 100000 in
theorem pmFp_4_8 : pmFp 4 (91, (10, 11, 338, true)) := ⟨_, _, _, _, rfl, rfl, by decide, rfl, ((lwd_10 18).trans rfl)⟩
set_option maxRecDepth 100000 in
theorem pmFp_4_9 : pmFp 4 (118, (10, 5, 318, true)) := ⟨_, _, _, _, rfl, rfl, by decide, rfl, ((lwd_9 30).trans rfl)⟩
set_option maxRecDepth 100000 in
theorem pmFp_4_10 : pmFp 4 (132, (10, 7, 327, true)) := ⟨_, _, _, _, rfl, rfl, by decide, rfl, ((lwd_10 7).trans rfl)⟩
set_option maxRecDepth 100000 in
theorem pmFp_4_11 : pmFp 4 (143, (5, 0, 204, true)) := ⟨_, _, _, _, rfl, rfl, by decide, rfl, ((lwd_6 12).trans rfl)⟩
set_option maxRecDepth 100000 in
theorem pmFp_4 : ∀ e ∈ (pmFt[4]?).getD [], pmFp 4 e := List.forall_mem_cons.mpr ⟨pmFp_4_0, List.forall_mem_cons.mpr ⟨pmFp_4_1, List.forall_mem_cons.mpr ⟨pmFp_4_2, List.forall_mem_cons.mpr ⟨pmFp_4_3, List.forall_mem_cons.mpr ⟨pmFp_4_4, List.forall_mem_cons.mpr ⟨pmFp_4_5, List.forall_mem_cons.mpr ⟨pmFp_4_6, List.forall_mem_cons.mpr ⟨pmFp_4_7, List.forall_mem_cons.mpr ⟨pmFp_4_8, List.forall_mem_cons.mpr ⟨pmFp_4_9, List.forall_mem_cons.mpr ⟨pmFp_4_10, List.forall_mem_cons.mpr ⟨pmFp_4_11, fun _ h => absurd h List.not_mem_nil⟩⟩⟩⟩⟩⟩⟩⟩⟩⟩⟩⟩
set_option maxRecDepth 100000 in
theorem pmFp_5_0 : pmFp 5 (11, (5, 0, 201, false)) := ⟨_, _, _, _, rfl, rfl, by decide, rfl, ((lwd_6 9).trans rfl)⟩
set_option maxRecDepth 100000 in
theorem pmFp_5_1 : pmFp 5 (15, (5, 1, 205, false)) := ⟨_, _, _, _, rfl, rfl, by decide, rfl, ((lwd_6 13).trans rfl)⟩
set_option maxRecDepth 100000 in
theorem pmFp_5_2 : pmFp 5 (18, (5, 2, 207, false)) := ⟨_, _, _, _, rfl, rfl, by decide, rfl, ((lwd_6 15).trans rfl)⟩
set_option maxRecDepth 100000 in
theorem pmFp_5_3 : pmFp 5 (31, (5, 4, 210, false)) := ⟨_, _, _, _, rfl, rfl, by decide, rfl, ((lwd_6 18).trans rfl)⟩
set_option maxRecDepth 100000 in
theorem pmFp_5_4 : pmFp 5 (35, (5, 5, 212, false)) := ⟨_, _, _, _, rfl, rfl, by decide, rfl, ((lwd_6 20).trans rfl)⟩
set_option maxRecDepth 100000 in
theorem pmFp_5_5 : pmFp 5 (42, (5, 3, 209, false)) := ⟨_, _, _, _, rfl, rfl, by decide, rfl, ((lwd_6 17).trans rfl)⟩
set_option maxRecDepth 100000 in
theorem pmFp_5 : ∀ e ∈ (pmFt[5]?).getD [], pmFp 5 e := List.forall_mem_cons.mpr ⟨pmFp_5_0, List.forall_mem_cons.mpr ⟨pmFp_5_1, List.forall_mem_cons.mpr ⟨pmFp_5_2, List.forall_mem_cons.mpr ⟨pmFp_5_3, List.forall_mem_cons.mpr ⟨pmFp_5_4, List.forall_mem_cons.mpr ⟨pmFp_5_5, fun _ h => absurd h List.not_mem_nil⟩⟩⟩⟩⟩⟩
set_option maxRecDepth 100000 in
theorem pmFp_6_0 : pmFp 6 (9, (6, 0, 169, false)) := ⟨_, _, _, _, rfl, rfl, by decide, rfl, ((lwd_5 9).trans rfl)⟩
set_option maxRecDepth 100000 in
theorem pmFp_6_1 : pmFp 6 (15, (6, 1, 170, false)) := ⟨_, _, _, _, rfl, rfl, by decide, rfl, ((lwd_5 10).trans rfl)⟩
set_option maxRecDepth 100000 in
theorem pmFp_6_2 : pmFp 6 (25, (6, 2, 172, false)) := ⟨_, _, _, _, rfl, rfl, by decide, rfl, ((lwd_5 12).trans rfl)⟩
set_option maxRecDepth 100000 in
theorem pmFp_6_3 : pmFp 6 (28, (6, 3, 175, false)) := ⟨_, _, _, _, rfl, rfl, by decide, rfl, ((lwd_5 15).trans rfl)⟩
set_option maxRecDepth 100000 in
theorem pmFp_6_4 : pmFp 6 (31, (6, 4, 178, false)) := ⟨_, _, _, _, rfl, rfl, by decide, rfl, ((lwd_5 18).trans rfl)⟩
set_option maxRecDepth 100000 in
theorem pmFp_6 : ∀ e ∈ (pmFt[6]?).getD [], pmFp 6 e := List.forall_mem_cons.mpr ⟨pmFp_6_0, List.forall_mem_cons.mpr ⟨pmFp_6_1, List.forall_mem_cons.mpr ⟨pmFp_6_2, List.forall_mem_cons.mpr ⟨pmFp_6_3, List.forall_mem_cons.mpr ⟨pmFp_6_4, fun _ h => absurd h List.not_mem_nil⟩⟩⟩⟩⟩
set_option maxRecDepth 100000 in
theorem pmFp_7_0 : pmFp 7 (12, (7, 2, 495, false)) := ⟨_, _, _, _, rfl, rfl, by decide, rfl, ((lwd_15 15).trans rfl)⟩
set_option maxRecDepth 100000 in
theorem pmFp_7_1 : pmFp 7 (18, (7, 3, 496, false)) := ⟨_, _, _, _, rfl, rfl, by decide, rfl, ((lwd_15 16).trans rfl)⟩
set_option maxRecDepth 100000 in
theorem pmFp_7_2 : pmFp 7 (21, (7, 4, 497, false)) := ⟨_, _, _, _, rfl, rfl, by decide, rfl, ((lwd_15 17).trans rfl)⟩
set_option maxRecDepth 100000 in
theorem pmFp_7_3 : pmFp 7 (25, (7, 0, 493, false)) := ⟨_, _, _, _, rfl, rfl, by decide, rfl, ((lwd_15 13).trans rfl)⟩
set_option maxRecDepth 100000 in
theorem pmFp_7_4 : pmFp 7 (29, (7, 1, 494, false)) := ⟨_, _, _, _, rfl, rfl, by decide, rfl, ((lwd_15 14).trans rfl)⟩
set_option maxRecDepth 100000 in
theorem pmFp_7_5 : pmFp 7 (33, (10, 6, 319, true)) := ⟨_, _, _, _, rfl, rfl, by decide, rfl, ((lwd_9 31).trans rfl)⟩
set_option maxRecDepth 100000 in
theorem pmFp_7_6 : pmFp 7 (37, (10, 12, 340, true)) := ⟨_, _, _, _, rfl, rfl, by decide, rfl, ((lwd_10 20).trans rfl)⟩
set_option maxRecDepth 100000 in
theorem pmFp_7_7 : pmFp 7 (40, (10, 4, 312, true)) := ⟨_, _, _, _, rfl, rfl, by decide, rfl, ((lwd_9 24).trans rfl)⟩
set_option maxRecDepth 100000 in
theorem pmFp_7_8 : pmFp 7 (62, (10, 8, 329, true)) := ⟨_, _, _, _, rfl, rfl, by decide, rfl, ((lwd_10 9).trans rfl)⟩
set_option maxRecDepth 100000 in
theorem pmFp_7_9 : pmFp 7 (65, (10, 9, 332, true)) := ⟨_, _, _, _, rfl, rfl, by decide, rfl, ((lwd_10 12).trans rfl)⟩
set_option maxRecDepth 100000 in
theorem pmFp_7_10 : pmFp 7 (68, (10, 10, 335, true)) := ⟨_, _, _, _, rfl, rfl, by decide, rfl, ((lwd_10 15).trans rfl)⟩
set_option maxRecDepth 100000 in
theorem pmFp_7_11 : pmFp 7 (88, (10, 7, 325, true)) := ⟨_, _, _, _, rfl, rfl, by decide, rfl, ((lwd_10 5).trans rfl)⟩
set_option maxRecDepth 100000 in
theorem pmFp_7_12 : pmFp 7 (91, (10, 3, 310, true)) := ⟨_, _, _, _, rfl, rfl, by decide, rfl, ((lwd_9 22).trans rfl)⟩
set_option maxRecDepth 100000 in
theorem pmFp_7_13 : pmFp 7 (108, (5, 0, 203, true)) := ⟨_, _, _, _, rfl, rfl, by decide, rfl, ((lwd_6 11).trans rfl)⟩
set_option maxRecDepth 100000 in
theorem pmFp_7 : ∀ e ∈ (pmFt[7]?).getD [], pmFp 7 e := List.forall_mem_cons.mpr ⟨pmFp_7_0, List.forall_mem_cons.mpr ⟨pmFp_7_1, List.forall_mem_cons.mpr ⟨pmFp_7_2, List.forall_mem_cons.mpr ⟨pmFp_7_3, List.forall_mem_cons.mpr ⟨pmFp_7_4, List.forall_mem_cons.mpr ⟨pmFp_7_5, List.forall_mem_cons.mpr ⟨pmFp_7_6, List.forall_mem_cons.mpr ⟨pmFp_7_7, List.forall_mem_cons.mpr ⟨pmFp_7_8, List.forall_mem_cons.mpr ⟨pmFp_7_9, List.forall_mem_cons.mpr ⟨pmFp_7_10, List.forall_mem_cons.mpr ⟨pmFp_7_11, List.forall_mem_cons.mpr ⟨pmFp_7_12, List.forall_mem_cons.mpr ⟨pmFp_7_13, fun _ h => absurd h List.not_mem_nil⟩⟩⟩⟩⟩⟩⟩⟩⟩⟩⟩⟩⟩⟩
set_option maxRecDepth 100000 in
theorem pmFp_8_0 : pmFp 8 (9, (8, 1, 378, false)) := ⟨_, _, _, _, rfl, rfl, by decide, rfl, ((lwd_11 26).trans rfl)⟩
set_option maxRecDepth 100000 in
theorem pmFp_8_1 : pmFp 8 (15, (8, 0, 377, false)) := ⟨_, _, _, _, rfl, rfl, by decide, rfl, ((lwd_11 25).trans rfl)⟩
set_option maxRecDepth 100000 in
theorem pmFp_8_2 : pmFp 8 (25, (8, 2, 380, false)) := ⟨_, _, _, _, rfl, rfl, by decide, rfl, ((lwd_11 28).trans rfl)⟩
set_option maxRecDepth 100000 in
theorem pmFp_8_3 : pmFp 8 (33, (6, 3, 173, true)) := ⟨_, _, _, _, rfl, rfl, by decide, rfl, ((lwd_5 13).trans rfl)⟩
set_option maxRecDepth 100000 in
theorem pmFp_8_4 : pmFp 8 (39, (6, 4, 176, true)) := ⟨_, _, _, _, rfl, rfl, by decide, rfl, ((lwd_5 16).trans rfl)⟩
set_option maxRecDepth 100000 in
theorem pmFp_8 : ∀ e ∈ (pmFt[8]?).getD [], pmFp 8 e := List.forall_mem_cons.mpr ⟨pmFp_8_0, List.forall_mem_cons.mpr ⟨pmFp_8_1, List.forall_mem_cons.mpr ⟨pmFp_8_2, List.forall_mem_cons.mpr ⟨pmFp_8_3, List.forall_mem_cons.mpr ⟨pmFp_8_4, fun _ h => absurd h List.not_mem_nil⟩⟩⟩⟩⟩
set_option maxRecDepth 100000 in
theorem pmFp_9_0 : pmFp 9 (9, (9, 0, 233, false)) := ⟨_, _, _, _, rfl, rfl, by decide, rfl, ((lwd_7 9).trans rfl)⟩
set_option maxRecDepth 100000 in
theorem pmFp_9_1 : pmFp 9 (15, (9, 1, 235, false)) := ⟨_, _, _, _, rfl, rfl, by decide, rfl, ((lwd_7 11).trans rfl)⟩
set_option maxRecDepth 100000 in
theorem pmFp_9_2 : pmFp 9 (18, (9, 2, 237, false)) := ⟨_, _, _, _, rfl, rfl, by decide, rfl, ((lwd_7 13).trans rfl)⟩
set_option maxRecDepth 100000 in
theorem pmFp_9_3 : pmFp 9 (21, (9, 3, 238, false)) := ⟨_, _, _, _, rfl, rfl, by decide, rfl, ((lwd_7 14).trans rfl)⟩
set_option maxRecDepth 100000 in
theorem pmFp_9_4 : pmFp 9 (24, (9, 4, 240, false)) := ⟨_, _, _, _, rfl, rfl, by decide, rfl, ((lwd_7 16).trans rfl)⟩
set_option maxRecDepth 100000 in
theorem pmFp_9 : ∀ e ∈ (pmFt[9]?).getD [], pmFp 9 e := List.forall_mem_cons.mpr ⟨pmFp_9_0, List.forall_mem_cons.mpr ⟨pmFp_9_1, List.forall_mem_cons.mpr ⟨pmFp_9_2, List.forall_mem_cons.mpr ⟨pmFp_9_3, List.forall_mem_cons.mpr ⟨pmFp_9_4, fun _ h => absurd h List.not_mem_nil⟩⟩⟩⟩⟩
set_option maxRecDepth 100000 in
theorem pmFp_10_0 : pmFp 10 (9, (10, 0, 301, false)) := ⟨_, _, _, _, rfl, rfl, by decide, rfl, ((lwd_9 13).trans rfl)⟩
set_option maxRecDepth 100000 in
theorem pmFp_10_1 : pmFp 10 (15, (10, 1, 304, false)) := ⟨_, _, _, _, rfl, rfl, by decide, rfl, ((lwd_9 16).trans rfl)⟩
set_option maxRecDepth 100000 in
theorem pmFp_10_2 : pmFp 10 (19, (10, 2, 306, false)) := ⟨_, _, _, _, rfl, rfl, by decide, rfl, ((lwd_9 18).trans rfl)⟩
set_option maxRecDepth 100000 in
theorem pmFp_10_3 : pmFp 10 (24, (10, 3, 309, false)) := ⟨_, _, _, _, rfl, rfl, by decide, rfl, ((lwd_9 21).trans rfl)⟩
set_option maxRecDepth 100000 in
theorem pmFp_10_4 : pmFp 10 (29, (10, 4, 311, false)) := ⟨_, _, _, _, rfl, rfl, by decide, rfl, ((lwd_9 23).trans rfl)⟩
set_option maxRecDepth 100000 in
theorem pmFp_10_5 : pmFp 10 (42, (10, 5, 316, false)) := ⟨_, _, _, _, rfl, rfl, by decide, rfl, ((lwd_9 28).trans rfl)⟩
set_option maxRecDepth 100000 in
theorem pmFp_10_6 : pmFp 10 (45, (10, 6, 320, false)) := ⟨_, _, _, _, rfl, rfl, by decide, rfl, ((lwd_10 0).trans rfl)⟩
set_option maxRecDepth 100000 in
theorem pmFp_10_7 : pmFp 10 (49, (10, 7, 324, false)) := ⟨_, _, _, _, rfl, rfl, by decide, rfl, ((lwd_10 4).trans rfl)⟩
set_option maxRecDepth 100000 in
theorem pmFp_10_8 : pmFp 10 (52, (10, 8, 328, false)) := ⟨_, _, _, _, rfl, rfl, by decide, rfl, ((lwd_10 8).trans rfl)⟩
set_option maxRecDepth 100000 in
theorem pmFp_10_9 : pmFp 10 (55, (10, 9, 331, false)) := ⟨_, _, _, _, rfl, rfl, by decide, rfl, ((lwd_10 11).trans rfl)⟩
set_option maxRecDepth 100000 in
theorem pmFp_10_10 : pmFp 10 (58, (10, 10, 334, false)) := ⟨_, _, _, _, rfl, rfl, by decide, rfl, ((lwd_10 14).trans rfl)⟩
set_option maxRecDepth 100000 in
theorem pmFp_10_11 : pmFp 10 (61, (10, 11, 337, false)) := ⟨_, _, _, _, rfl, rfl, by decide, rfl, ((lwd_10 17).trans rfl)⟩
set_option maxRecDepth 100000 in
theorem pmFp_10_12 : pmFp 10 (64, (10, 12, 341, false)) := ⟨_, _, _, _, rfl, rfl, by decide, rfl, ((lwd_10 21).trans rfl)⟩
set_option maxRecDepth 100000 in
theorem pmFp_10 : ∀ e ∈ (pmFt[10]?).getD [], pmFp 10 e := List.forall_mem_cons.mpr ⟨pmFp_10_0, List.forall_mem_cons.mpr ⟨pmFp_10_1, List.forall_mem_cons.mpr ⟨pmFp_10_2, List.forall_mem_cons.mpr ⟨pmFp_10_3, List.forall_mem_cons.mpr ⟨pmFp_10_4, List.forall_mem_cons.mpr ⟨pmFp_10_5, List.forall_mem_cons.mpr ⟨pmFp_10_6, List.forall_mem_cons.mpr ⟨pmFp_10_7, List.forall_mem_cons.mpr ⟨pmFp_10_8, List.forall_mem_cons.mpr ⟨pmFp_10_9, List.forall_mem_cons.mpr ⟨pmFp_10_10, List.forall_mem_cons.mpr ⟨pmFp_10_11, List.forall_mem_cons.mpr ⟨pmFp_10_12, fun _ h => absurd h List.not_mem_nil⟩⟩⟩⟩⟩⟩⟩⟩⟩⟩⟩⟩⟩
set_option maxRecDepth 100000 in
theorem pmFp_11_0 : pmFp 11 (10, (11, 0, 539, false)) := ⟨_, _, _, _, rfl, rfl, by decide, rfl, ((lwd_16 27).trans rfl)⟩
set_option maxRecDepth 100000 in
theorem pmFp_11_1 : pmFp 11 (19, (11, 1, 540, false)) := ⟨_, _, _, _, rfl, rfl, by decide, rfl, ((lwd_16 28).trans rfl)⟩
set_option maxRecDepth 100000 in
theorem pmFp_11_2 : pmFp 11 (26, (11, 2, 541, false)) := ⟨_, _, _, _, rfl, rfl, by decide, rfl, ((lwd_16 29).trans rfl)⟩
set_option maxRecDepth 100000 in
theorem pmFp_11_3 : pmFp 11 (33, (11, 3, 542, false)) := ⟨_, _, _, _, rfl, rfl, by decide, rfl, ((lwd_16 30).trans rfl)⟩
set_option maxRecDepth 100000 in
theorem pmFp_11_4 : pmFp 11 (40, (11, 4, 543, false)) := ⟨_, _, _, _, rfl, rfl, by decide, rfl, ((lwd_16 31).trans rfl)⟩
set_option maxRecDepth 100000 in
theorem pmFp_11_5 : pmFp 11 (44, (11, 5, 544, false)) := ⟨_, _, _, _, rfl, rfl, by decide, rfl, ((lwd_17 0).trans rfl)⟩
set_option maxRecDepth 100000 in
theorem pmFp_11_6 : pmFp 11 (52, (11, 6, 545, false)) := ⟨_, _, _, _, rfl, rfl, by decide, rfl, ((lwd_17 1).trans rfl)⟩
set_option maxRecDepth 100000 in
theorem pmFp_11_7 : pmFp 11 (61, (11, 7, 546, false)) := ⟨_, _, _, _, rfl, rfl, by decide, rfl, ((lwd_17 2).trans rfl)⟩
set_option maxRecDepth 100000 in
theorem pmFp_11_8 : pmFp 11 (70, (11, 8, 547, false)) := ⟨_, _, _, _, rfl, rfl, by decide, rfl, ((lwd_17 3).trans rfl)⟩
set_option maxRecDepth 100000 in
theorem pmFp_11_9 : pmFp 11 (79, (11, 9, 548, false)) := ⟨_, _, _, _, rfl, rfl, by decide, rfl, ((lwd_17 4).trans rfl)⟩
set_option maxRecDepth 100000 in
theorem pmFp_11_10 : pmFp 11 (88, (11, 10, 549, false)) := ⟨_, _, _, _, rfl, rfl, by decide, rfl, ((lwd_17 5).trans rfl)⟩
set_option maxRecDepth 100000 in
theorem pmFp_11_11 : pmFp 11 (97, (11, 11, 550, false)) := ⟨_, _, _, _, rfl, rfl, by decide, rfl, ((lwd_17 6).trans rfl)⟩
set_option maxRecDepth 100000 in
theorem pmFp_11_12 : pmFp 11 (101, (11, 12, 551, false)) := ⟨_, _, _, _, rfl, rfl, by decide, rfl, ((lwd_17 7).trans rfl)⟩
set_option maxRecDepth 100000 in
theorem pmFp_11_13 : pmFp 11 (116, (10, 4, 314, true)) := ⟨_, _, _, _, rfl, rfl, by decide, rfl, ((lwd_9 26).trans rfl)⟩
set_option maxRecDepth 100000 in
theorem pmFp_11_14 : pmFp 11 (124, (5, 5, 213, true)) := ⟨_, _, _, _, rfl, rfl, by decide, rfl, ((lwd_6 21).trans rfl)⟩
set_option maxRecDepth 100000 in
theorem pmFp_11_15 : pmFp 11 (141, (10, 5, 317, true)) := ⟨_, _, _, _, rfl, rfl, by decide, rfl, ((lwd_9 29).trans rfl)⟩
set_option maxRecDepth 100000 in
theorem pmFp_11_16 : pmFp 11 (151, (10, 0, 303, true)) := ⟨_, _, _, _, rfl, rfl, by decide, rfl, ((lwd_9 15).trans rfl)⟩
set_option maxRecDepth 100000 in
theorem pmFp_11_17 : pmFp 11 (159, (6, 1, 171, true)) := ⟨_, _, _, _, rfl, rfl, by decide, rfl, ((lwd_5 11).trans rfl)⟩
set_option maxRecDepth 100000 in
theorem pmFp_11_18 : pmFp 11 (166, (9, 4, 242, true)) := ⟨_, _, _, _, rfl, rfl, by decide, rfl, ((lwd_7 18).trans rfl)⟩
set_option maxRecDepth 100000 in
theorem pmFp_11_19 : pmFp 11 (176, (8, 1, 379, true)) := ⟨_, _, _, _, rfl, rfl, by decide, rfl, ((lwd_11 27).trans rfl)⟩
set_option maxRecDepth 100000 in
theorem pmFp_11_20 : pmFp 11 (179, (8, 2, 381, true)) := ⟨_, _, _, _, rfl, rfl, by decide, rfl, ((lwd_11 29).trans rfl)⟩
set_option maxRecDepth 100000 in
theorem pmFp_11_21 : pmFp 11 (186, (2, 7, 276, true)) := ⟨_, _, _, _, rfl, rfl, by decide, rfl, ((lwd_8 20).trans rfl)⟩
set_option maxRecDepth 100000 in
theorem pmFp_11_22 : pmFp 11 (190, (1, 2, 398, true)) := ⟨_, _, _, _, rfl, rfl, by decide, rfl, ((lwd_12 14).trans rfl)⟩
set_option maxRecDepth 100000 in
theorem pmFp_11_23 : pmFp 11 (234, (10, 6, 323, true)) := ⟨_, _, _, _, rfl, rfl, by decide, rfl, ((lwd_10 3).trans rfl)⟩
set_option maxRecDepth 100000 in
theorem pmFp_11_24 : pmFp 11 (258, (10, 2, 308, true)) := ⟨_, _, _, _, rfl, rfl, by decide, rfl, ((lwd_9 20).trans rfl)⟩
set_option maxRecDepth 100000 in
theorem pmFp_11_25 : pmFp 11 (282, (10, 11, 339, true)) := ⟨_, _, _, _, rfl, rfl, by decide, rfl, ((lwd_10 19).trans rfl)⟩
set_option maxRecDepth 100000 in
theorem pmFp_11_26 : pmFp 11 (299, (10, 10, 336, true)) := ⟨_, _, _, _, rfl, rfl, by decide, rfl, ((lwd_10 16).trans rfl)⟩
set_option maxRecDepth 100000 in
theorem pmFp_11_27 : pmFp 11 (302, (10, 8, 330, true)) := ⟨_, _, _, _, rfl, rfl, by decide, rfl, ((lwd_10 10).trans rfl)⟩
set_option maxRecDepth 100000 in
theorem pmFp_11_28 : pmFp 11 (305, (10, 9, 333, true)) := ⟨_, _, _, _, rfl, rfl, by decide, rfl, ((lwd_10 13).trans rfl)⟩
set_option maxRecDepth 100000 in
theorem pmFp_11_29 : pmFp 11 (311, (2, 6, 273, true)) := ⟨_, _, _, _, rfl, rfl, by decide, rfl, ((lwd_8 17).trans rfl)⟩
set_option maxRecDepth 100000 in
theorem pmFp_11 : ∀ e ∈ (pmFt[11]?).getD [], pmFp 11 e := List.forall_mem_cons.mpr ⟨pmFp_11_0, List.forall_mem_cons.mpr ⟨pmFp_11_1, List.forall_mem_cons.mpr ⟨pmFp_11_2, List.forall_mem_cons.mpr ⟨pmFp_11_3, List.forall_mem_cons.mpr ⟨pmFp_11_4, List.forall_mem_cons.mpr ⟨pmFp_11_5, List.forall_mem_cons.mpr ⟨pmFp_11_6, List.forall_mem_cons.mpr ⟨pmFp_11_7, List.forall_mem_cons.mpr ⟨pmFp_11_8, List.forall_mem_cons.mpr ⟨pmFp_11_9, List.forall_mem_cons.mpr ⟨pmFp_11_10, List.forall_mem_cons.mpr ⟨pmFp_11_11, List.forall_mem_cons.mpr ⟨pmFp_11_12, List.forall_mem_cons.mpr ⟨pmFp_11_13, List.forall_mem_cons.mpr ⟨pmFp_11_14, List.forall_mem_cons.mpr ⟨pmFp_11_15, List.forall_mem_cons.mpr ⟨pmFp_11_16, List.forall_mem_cons.mpr ⟨pmFp_11_17, List.forall_mem_cons.mpr ⟨pmFp_11_18, List.forall_mem_cons.mpr ⟨pmFp_11_19, List.forall_mem_cons.mpr ⟨pmFp_11_20, List.forall_mem_cons.mpr ⟨pmFp_11_21, List.forall_mem_cons.mpr ⟨pmFp_11_22, List.forall_mem_cons.mpr ⟨pmFp_11_23, List.forall_mem_cons.mpr ⟨pmFp_11_24, List.forall_mem_cons.mpr ⟨pmFp_11_25, List.forall_mem_cons.mpr ⟨pmFp_11_26, List.forall_mem_cons.mpr ⟨pmFp_11_27, List.forall_mem_cons.mpr ⟨pmFp_11_28, List.forall_mem_cons.mpr ⟨pmFp_11_29, fun _ h => absurd h List.not_mem_nil⟩⟩⟩⟩⟩⟩⟩⟩⟩⟩⟩⟩⟩⟩⟩⟩⟩⟩⟩⟩⟩⟩⟩⟩⟩⟩⟩⟩⟩⟩
set_option maxRecDepth 100000 in
theorem pmFp_12_0 : pmFp 12 (7, (12, 0, 1133, false)) := ⟨_, _, _, _, rfl, rfl, by decide, rfl, ((lwd_35 13).trans rfl)⟩
set_option maxRecDepth 100000 in
theorem pmFp_12_1 : pmFp 12 (13, (12, 1, 1134, false)) := ⟨_, _, _, _, rfl, rfl, by decide, rfl, ((lwd_35 14).trans rfl)⟩
set_option maxRecDepth 100000 in
theorem pmFp_12_2 : pmFp 12 (16, (12, 5, 1138, false)) := ⟨_, _, _, _, rfl, rfl, by decide, rfl, ((lwd_35 18).trans rfl)⟩
set_option maxRecDepth 100000 in
theorem pmFp_12_3 : pmFp 12 (20, (12, 6, 1139, false)) := ⟨_, _, _, _, rfl, rfl, by decide, rfl, ((lwd_35 19).trans rfl)⟩
set_option maxRecDepth 100000 in
theorem pmFp_12_4 : pmFp 12 (23, (12, 7, 1140, false)) := ⟨_, _, _, _, rfl, rfl, by decide, rfl, ((lwd_35 20).trans rfl)⟩
set_option maxRecDepth 100000 in
theorem pmFp_12_5 : pmFp 12 (26, (12, 8, 1141, false)) := ⟨_, _, _, _, rfl, rfl, by decide, rfl, ((lwd_35 21).trans rfl)⟩
set_option maxRecDepth 100000 in
theorem pmFp_12_6 : pmFp 12 (30, (12, 16, 1149, false)) := ⟨_, _, _, _, rfl, rfl, by decide, rfl, ((lwd_35 29).trans rfl)⟩
set_option maxRecDepth 100000 in
theorem pmFp_12_7 : pmFp 12 (33, (12, 17, 1150, false)) := ⟨_, _, _, _, rfl, rfl, by decide, rfl, ((lwd_35 30).trans rfl)⟩
set_option maxRecDepth 100000 in
theorem pmFp_12_8 : pmFp 12 (36, (12, 18, 1151, false)) := ⟨_, _, _, _, rfl, rfl, by decide, rfl, ((lwd_35 31).trans rfl)⟩
set_option maxRecDepth 100000 in
theorem pmFp_12_9 : pmFp 12 (39, (12, 19, 1152, false)) := ⟨_, _, _, _, rfl, rfl, by decide, rfl, ((lwd_36 0).trans rfl)⟩
set_option maxRecDepth 100000 in
theorem pmFp_12_10 : pmFp 12 (42, (12, 20, 1153, false)) := ⟨_, _, _, _, rfl, rfl, by decide, rfl, ((lwd_36 1).trans rfl)⟩
set_option maxRecDepth 100000 in
theorem pmFp_12_11 : pmFp 12 (45, (12, 21, 1154, false)) := ⟨_, _, _, _, rfl, rfl, by decide, rfl, ((lwd_36 2).trans rfl)⟩
set_option maxRecDepth 100000 in
theorem pmFp_12_12 : pmFp 12 (48, (12, 23, 1156, false)) := ⟨_, _, _, _, rfl, rfl, by decide, rfl, ((lwd_36 4).trans rfl)⟩
set_option maxRecDepth 100000 in
theorem pmFp_12_13 : pmFp 12 (51, (12, 24, 1157, false)) := ⟨_, _, _, _, rfl, rfl, by decide, rfl, ((lwd_36 5).trans rfl)⟩
set_option maxRecDepth 100000 in
theorem pmFp_12_14 : pmFp 12 (54, (12, 25, 1158, false)) := ⟨_, _, _, _, rfl, rfl, by decide, rfl, ((lwd_36 6).trans rfl)⟩
set_option maxRecDepth 100000 in
theorem pmFp_12_15 : pmFp 12 (57, (12, 26, 1159, false)) := ⟨_, _, _, _, rfl, rfl, by decide, rfl, ((lwd_36 7).trans rfl)⟩
set_option maxRecDepth 100000 in
theorem pmFp_12_16 : pmFp 12 (60, (12, 27, 1160, false)) := ⟨_, _, _, _, rfl, rfl, by decide, rfl, ((lwd_36 8).trans rfl)⟩
set_option maxRecDepth 100000 in
theorem pmFp_12_17 : pmFp 12 (63, (12, 28, 1161, false)) := ⟨_, _, _, _, rfl, rfl, by decide, rfl, ((lwd_36 9).trans rfl)⟩
set_option maxRecDepth 100000 in
theorem pmFp_12_18 : pmFp 12 (66, (12, 29, 1162, false)) := ⟨_, _, _, _, rfl, rfl, by decide, rfl, ((lwd_36 10).trans rfl)⟩
set_option maxRecDepth 100000 in
theorem pmFp_12_19 : pmFp 12 (69, (12, 30, 1163, false)) := ⟨_, _, _, _, rfl, rfl, by decide, rfl, ((lwd_36 11).trans rfl)⟩
set_option maxRecDepth 100000 in
theorem pmFp_12_20 : pmFp 12 (72, (12, 31, 1164, false)) := ⟨_, _, _, _, rfl, rfl, by decide, rfl, ((lwd_36 12).trans rfl)⟩
set_option maxRecDepth 100000 in
theorem pmFp_12_21 : pmFp 12 (75, (12, 32, 1165, false)) := ⟨_, _, _, _, rfl, rfl, by decide, rfl, ((lwd_36 13).trans rfl)⟩
set_option maxRecDepth 100000 in
theorem pmFp_12_22 : pmFp 12 (78, (12, 35, 1168, false)) := ⟨_, _, _, _, rfl, rfl, by decide, rfl, ((lwd_36 16).trans rfl)⟩
set_option maxRecDepth 100000 in
theorem pmFp_12_23 : pmFp 12 (81, (12, 36, 1169, false)) := ⟨_, _, _, _, rfl, rfl, by decide, rfl, ((lwd_36 17).trans rfl)⟩
set_option maxRecDepth 100000 in
theorem pmFp_12_24 : pmFp 12 (84, (12, 37, 1170, false)) := ⟨_, _, _, _, rfl, rfl, by decide, rfl, ((lwd_36 18).trans rfl)⟩
set_option maxRecDepth 100000 in
theorem pmFp_12_25 : pmFp 12 (87, (12, 38, 1171, false)) := ⟨_, _, _, _, rfl, rfl, by decide, rfl, ((lwd_36 19).trans rfl)⟩
set_option maxRecDepth 100000 in
theorem pmFp_12_26 : pmFp 12 (90, (12, 39, 1172, false)) := ⟨_, _, _, _, rfl, rfl, by decide, rfl, ((lwd_36 20).trans rfl)⟩
set_option maxRecDepth 100000 in
theorem pmFp_12_27 : pmFp 12 (94, (12, 40, 1173, false)) := ⟨_, _, _, _, rfl, rfl, by decide, rfl, ((lwd_36 21).trans rfl)⟩
set_option maxRecDepth 100000 in
theorem pmFp_12_28 : pmFp 12 (97, (12, 44, 1177, false)) := ⟨_, _, _, _, rfl, rfl, by decide, rfl, ((lwd_36 25).trans rfl)⟩
set_option maxRecDepth 100000 in
theorem pmFp_12_29 : pmFp 12 (100, (12, 45, 1178, false)) := ⟨_, _, _, _, rfl, rfl, by decide, rfl, ((lwd_36 26).trans rfl)⟩
set_option maxRecDepth 100000 in
theorem pmFp_12_30 : pmFp 12 (103, (12, 46, 1179, false)) := ⟨_, _, _, _, rfl, rfl, by decide, rfl, ((lwd_36 27).trans rfl)⟩
set_option maxRecDepth 100000 in
theorem pmFp_12_31 : pmFp 12 (106, (12, 47, 1180, false)) := ⟨_, _, _, _, rfl, rfl, by decide, rfl, ((lwd_36 28).trans rfl)⟩
set_option maxRecDepth 100000 in
theorem pmFp_12_32 : pmFp 12 (109, (12, 48, 1181, false)) := ⟨_, _, _, _, rfl, rfl, by decide, rfl, ((lwd_36 29).trans rfl)⟩
set_option maxRecDepth 100000 in
theorem pmFp_12_33 : pmFp 12 (112, (12, 49, 1182, false)) := ⟨_, _, _, _, rfl, rfl, by decide, rfl, ((lwd_36 30).trans rfl)⟩
set_option maxRecDepth 100000 in
theorem pmFp_12_34 : pmFp 12 (115, (12, 50, 1183, false)) := ⟨_, _, _, _, rfl, rfl, by decide, rfl, ((lwd_36 31).trans rfl)⟩
set_option maxRecDepth 100000 in
theorem pmFp_12_35 : pmFp 12 (118, (12, 51, 1184, false)) := ⟨_, _, _, _, rfl, rfl, by decide, rfl, ((lwd_37 0).trans rfl)⟩
set_option maxRecDepth 100000 in
theorem pmFp_12_36 : pmFp 12 (121, (12, 52, 1185, false)) := ⟨_, _, _, _, rfl, rfl, by decide, rfl, ((lwd_37 1).trans rfl)⟩
set_option maxRecDepth 100000 in
theorem pmFp_12_37 : pmFp 12 (124, (12, 53, 1186, false)) := ⟨_, _, _, _, rfl, rfl, by decide, rfl, ((lwd_37 2).trans rfl)⟩
set_option maxRecDepth 100000 in
theorem pmFp_12_38 : pmFp 12 (127, (12, 2, 1135, false)) := ⟨_, _, _, _, rfl, rfl, by decide, rfl, ((lwd_35 15).trans rfl)⟩
set_option maxRecDepth 100000 in
theorem pmFp_12_39 : pmFp 12 (131, (12, 4, 1137, false)) := ⟨_, _, _, _, rfl, rfl, by decide, rfl, ((lwd_35 17).trans rfl)⟩
set_option maxRecDepth 100000 in
theorem pmFp_12_40 : pmFp 12 (163, (12, 9, 1142, false)) := ⟨_, _, _, _, rfl, rfl, by decide, rfl, ((lwd_35 22).trans rfl)⟩
set_option maxRecDepth 100000 in
theorem pmFp_12_41 : pmFp 12 (170, (12, 10, 1143, false)) := ⟨_, _, _, _, rfl, rfl, by decide, rfl, ((lwd_35 23).trans rfl)⟩
set_option maxRecDepth 100000 in
theorem pmFp_12_42 : pmFp 12 (173, (12, 11, 1144, false)) := ⟨_, _, _, _, rfl, rfl, by decide, rfl, ((lwd_35 24).trans rfl)⟩
set_option maxRecDepth 100000 in
theorem pmFp_12_43 : pmFp 12 (176, (12, 12, 1145, false)) := ⟨_, _, _, _, rfl, rfl, by decide, rfl, ((lwd_35 25).trans rfl)⟩
set_option maxRecDepth 100000 in
theorem pmFp_12_44 : pmFp 12 (187, (12, 22, 1155, false)) := ⟨_, _, _, _, rfl, rfl, by decide, rfl, ((lwd_36 3).trans rfl)⟩
set_option maxRecDepth 100000 in
theorem pmFp_12_45 : pmFp 12 (190, (12, 15, 1148, false)) := ⟨_, _, _, _, rfl, rfl, by decide, rfl, ((lwd_35 28).trans rfl)⟩
set_option maxRecDepth 100000 in
theorem pmFp_12_46 : pmFp 12 (193, (12, 13, 1146, false)) := ⟨_, _, _, _, rfl, rfl, by decide, rfl, ((lwd_35 26).trans rfl)⟩
set_option maxRecDepth 100000 in
theorem pmFp_12_47 : pmFp 12 (196, (12, 14, 1147, false)) := ⟨_, _, _, _, rfl, rfl, by decide, rfl, ((lwd_35 27).trans rfl)⟩
set_option maxRecDepth 100000 in
theorem pmFp_12_48 : pmFp 12 (247, (12, 3, 1136, false)) := ⟨_, _, _, _, rfl, rfl, by decide, rfl, ((lwd_35 16).trans rfl)⟩
set_option maxRecDepth 100000 in
theorem pmFp_12_49 : pmFp 12 (288, (12, 34, 1167, false)) := ⟨_, _, _, _, rfl, rfl, by decide, rfl, ((lwd_36 15).trans rfl)⟩
set_option maxRecDepth 100000 in
theorem pmFp_12_50 : pmFp 12 (294, (12, 33, 1166, false)) := ⟨_, _, _, _, rfl, rfl, by decide, rfl, ((lwd_36 14).trans rfl)⟩
set_option maxRecDepth 100000 in
theorem pmFp_12_51 : pmFp 12 (318, (12, 41, 1174, false)) := ⟨_, _, _, _, rfl, rfl, by decide, rfl, ((lwd_36 22).trans rfl)⟩
set_option maxRecDepth 100000 in
theorem pmFp_12_52 : pmFp 12 (324, (12, 42, 1175, false)) := ⟨_, _, _, _, rfl, rfl, by decide, rfl, ((lwd_36 23).trans rfl)⟩
set_option maxRecDepth 100000 in
theorem pmFp_12_53 : pmFp 12 (327, (12, 43, 1176, false)) := ⟨_, _, _, _, rfl, rfl, by decide, rfl, ((lwd_36 24).trans rfl)⟩
set_option maxRecDepth 100000 in
theorem pmFp_12 : ∀ e ∈ (pmFt[12]?).getD [], pmFp 12 e := List.forall_mem_cons.mpr ⟨pmFp_12_0, List.forall_mem_cons.mpr ⟨pmFp_12_1, List.forall_mem_cons.mpr ⟨pmFp_12_2, List.forall_mem_cons.mpr ⟨pmFp_12_3, List.forall_mem_cons.mpr ⟨pmFp_12_4, List.forall_mem_cons.mpr ⟨pmFp_12_5, List.forall_mem_cons.mpr ⟨pmFp_12_6, List.forall_mem_cons.mpr ⟨pmFp_12_7, List.forall_mem_cons.mpr ⟨pmFp_12_8, List.forall_mem_cons.mpr ⟨pmFp_12_9, List.forall_mem_cons.mpr ⟨pmFp_12_10, List.forall_mem_cons.mpr ⟨pmFp_12_11, List.forall_mem_cons.mpr ⟨pmFp_12_12, List.forall_mem_cons.mpr ⟨pmFp_12_13, List.forall_mem_cons.mpr ⟨pmFp_12_14, List.forall_mem_cons.mpr ⟨pmFp_12_15, List.forall_mem_cons.mpr ⟨pmFp_12_16, List.forall_mem_cons.mpr ⟨pmFp_12_17, List.forall_mem_cons.mpr ⟨pmFp_12_18, List.forall_mem_cons.mpr ⟨pmFp_12_19, List.forall_mem_cons.mpr ⟨pmFp_12_20, List.forall_mem_cons.mpr ⟨pmFp_12_21, List.forall_mem_cons.mpr ⟨pmFp_12_22, List.forall_mem_cons.mpr ⟨pmFp_12_23, List.forall_mem_cons.mpr ⟨pmFp_12_24, List.forall_mem_cons.mpr ⟨pmFp_12_25, List.forall_mem_cons.mpr ⟨pmFp_12_26, List.forall_mem_cons.mpr ⟨pmFp_12_27, List.forall_mem_cons.mpr ⟨pmFp_12_28, List.forall_mem_cons.mpr ⟨pmFp_12_29, List.forall_mem_cons.mpr ⟨pmFp_12_30, List.forall_mem_cons.mpr ⟨pmFp_12_31, List.forall_mem_cons.mpr ⟨pmFp_12_32, List.forall_mem_cons.mpr ⟨pmFp_12_33, List.forall_mem_cons.mpr ⟨pmFp_12_34, List.forall_mem_cons.mpr ⟨pmFp_12_35, List.forall_mem_cons.mpr ⟨pmFp_12_36, List.forall_mem_cons.mpr ⟨pmFp_12_37, List.forall_mem_cons.mpr ⟨pmFp_12_38, List.forall_mem_cons.mpr ⟨pmFp_12_39, List.forall_mem_cons.mpr ⟨pmFp_12_40, List.forall_mem_cons.mpr ⟨pmFp_12_41, List.forall_mem_cons.mpr ⟨pmFp_12_42, List.forall_mem_cons.mpr ⟨pmFp_12_43, List.forall_mem_cons.mpr ⟨pmFp_12_44, List.forall_mem_cons.mpr ⟨pmFp_12_45, List.forall_mem_cons.mpr ⟨pmFp_12_46, List.forall_mem_cons.mpr ⟨pmFp_12_47, List.forall_mem_cons.mpr ⟨pmFp_12_48, List.forall_mem_cons.mpr ⟨pmFp_12_49, List.forall_mem_cons.mpr ⟨pmFp_12_50, List.forall_mem_cons.mpr ⟨pmFp_12_51, List.forall_mem_cons.mpr ⟨pmFp_12_52, List.forall_mem_cons.mpr ⟨pmFp_12_53, fun _ h => absurd h List.not_mem_nil⟩⟩⟩⟩⟩⟩⟩⟩⟩⟩⟩⟩⟩⟩⟩⟩⟩⟩⟩⟩⟩⟩⟩⟩⟩⟩⟩⟩⟩⟩⟩⟩⟩⟩⟩⟩⟩⟩⟩⟩⟩⟩⟩⟩⟩⟩⟩⟩⟩⟩⟩⟩⟩⟩
set_option maxRecDepth 100000 in
theorem pmFp_13 : ∀ e ∈ (pmFt[13]?).getD [], pmFp 13 e := fun _ h => absurd h List.not_mem_nil
set_option maxRecDepth 100000 in
theorem pmFp_14 : ∀ e ∈ (pmFt[14]?).getD [], pmFp 14 e := fun _ h => absurd h List.not_mem_nil
set_option maxRecDepth 100000 in
theorem pmFp_15 : ∀ e ∈ (pmFt[15]?).getD [], pmFp 15 e := fun _ h => absurd h List.not_mem_nil
set_option maxRecDepth 100000 in
theorem pmFp_all (o : Nat) : ∀ e ∈ (pmFt[o]?).getD [], pmFp o e := match o with
  | 0 => pmFp_0
  | 1 => pmFp_1
  | 2 => pmFp_2
  | 3 => pmFp_3
  | 4 => pmFp_4
  | 5 => pmFp_5
  | 6 => pmFp_6
  | 7 => pmFp_7
  | 8 => pmFp_8
  | 9 => pmFp_9
  | 10 => pmFp_10
  | 11 => pmFp_11
  | 12 => pmFp_12
  | 13 => pmFp_13
  | 14 => pmFp_14
  | 15 => pmFp_15
  | n + 16 => by rw [List.getElem?_eq_none (by show 16 ≤ n + 16; omega)]; exact fun _ h => absurd h List.not_mem_nil
set_option maxRecDepth 100000 in
theorem pmMp_0_0 : pmMp 0 (3, (9001, 514, false)) := ⟨_, rfl, ((lwd_16 2).trans rfl)⟩
set_option maxRecDepth 100000 in
theorem pmMp_0_1 : pmMp 0 (11, (6, 516, true)) := ⟨_, rfl, ⟨_, rfl, ((lwd_16 4).trans rfl)⟩⟩
set_option maxRecDepth 100000 in
theorem pmMp_0_2 : pmMp 0 (37, (66, 805, true)) := ⟨_, rfl, ⟨_, rfl, ((lwd_25 5).trans rfl)⟩⟩
set_option maxRecDepth 100000 in
theorem pmMp_0_3 : pmMp 0 (48, (9000, 956, false)) := ⟨_, rfl, ((lwd_29 28).trans rfl)⟩
set_option maxRecDepth 100000 in
theorem pmMp_0_4 : pmMp 0 (54, (18, 1048, true)) := ⟨_, rfl, ⟨_, rfl, ((lwd_32 24).trans rfl)⟩⟩
set_option maxRecDepth 100000 in
theorem pmMp_0_5 : pmMp 0 (58, (118, 1044, false)) := ⟨_, rfl, ⟨_, rfl, ((lwd_32 20).trans rfl)⟩⟩
set_option maxRecDepth 100000 in
theorem pmMp_0_6 : pmMp 0 (66, (80, 1049, true)) := ⟨_, rfl, ⟨_, rfl, ((lwd_32 25).trans rfl)⟩⟩
set_option maxRecDepth 100000 in
theorem pmMp_0_7 : pmMp 0 (72, (89, 1050, true)) := ⟨_, rfl, ⟨_, rfl, ((lwd_32 26).trans rfl)⟩⟩
set_option maxRecDepth 100000 in
theorem pmMp_0_8 : pmMp 0 (76, (102, 1051, true)) := ⟨_, rfl, ⟨_, rfl, ((lwd_32 27).trans rfl)⟩⟩
set_option maxRecDepth 100000 in
theorem pmMp_0_9 : pmMp 0 (82, (104, 1052, true)) := ⟨_, rfl, ⟨_, rfl, ((lwd_32 28).trans rfl)⟩⟩
set_option maxRecDepth 100000 in
theorem pmMp_0_10 : pmMp 0 (86, (83, 1085, true)) := ⟨_, rfl, ⟨_, rfl, ((lwd_33 29).trans rfl)⟩⟩
set_option maxRecDepth 100000 in
theorem pmMp_0_11 : pmMp 0 (89, (126, 1086, false)) := ⟨_, rfl, ⟨_, rfl, ((lwd_33 30).trans rfl)⟩⟩
set_option maxRecDepth 100000 in
theorem pmMp_0_12 : pmMp 0 (92, (131, 1106, true)) := ⟨_, rfl, ⟨_, rfl, ((lwd_34 18).trans rfl)⟩⟩
set_option maxRecDepth 100000 in
theorem pmMp_0 : ∀ e ∈ (pmMt[0]?).getD [], pmMp 0 e := List.forall_mem_cons.mpr ⟨pmMp_0_0, List.forall_mem_cons.mpr ⟨pmMp_0_1, List.forall_mem_cons.mpr ⟨pmMp_0_2, List.forall_mem_cons.mpr ⟨pmMp_0_3, List.forall_mem_cons.mpr ⟨pmMp_0_4, List.forall_mem_cons.mpr ⟨pmMp_0_5, List.forall_mem_cons.mpr ⟨pmMp_0_6, List.forall_mem_cons.mpr ⟨pmMp_0_7, List.forall_mem_cons.mpr ⟨pmMp_0_8, List.forall_mem_cons.mpr ⟨pmMp_0_9, List.forall_mem_cons.mpr ⟨pmMp_0_10, List.forall_mem_cons.mpr ⟨pmMp_0_11, List.forall_mem_cons.mpr ⟨pmMp_0_12, fun _ h => absurd h List.not_mem_nil⟩⟩⟩⟩⟩⟩⟩⟩⟩⟩⟩⟩⟩
set_option maxRecDepth 100000 in
theorem pmMp_1_0 : pmMp 1 (3, (9001, 394, false)) := ⟨_, rfl, ((lwd_12 10).trans rfl)⟩
set_option maxRecDepth 100000 in
theorem pmMp_1_1 : pmMp 1 (19, (33, 731, true)) := ⟨_, rfl, ⟨_, rfl, ((lwd_22 27).trans rfl)⟩⟩
set_option maxRecDepth 100000 in
theorem pmMp_1_2 : pmMp 1 (29, (49, 732, false)) := ⟨_, rfl, ⟨_, rfl, ((lwd_22 28).trans rfl)⟩⟩
set_option maxRecDepth 100000 in
theorem pmMp_1_3 : pmMp 1 (36, (44, 749, true)) := ⟨_, rfl, ⟨_, rfl, ((lwd_23 13).trans rfl)⟩⟩
set_option maxRecDepth 100000 in
theorem pmMp_1_4 : pmMp 1 (40, (39, 737, true)) := ⟨_, rfl, ⟨_, rfl, ((lwd_23 1).trans rfl)⟩⟩
set_option maxRecDepth 100000 in
theorem pmMp_1_5 : pmMp 1 (47, (37, 736, true)) := ⟨_, rfl, ⟨_, rfl, ((lwd_23 0).trans rfl)⟩⟩
set_option maxRecDepth 100000 in
theorem pmMp_1_6 : pmMp 1 (60, (50, 738, false)) := ⟨_, rfl, ⟨_, rfl, ((lwd_23 2).trans rfl)⟩⟩
set_option maxRecDepth 100000 in
theorem pmMp_1_7 : pmMp 1 (75, (53, 751, false)) := ⟨_, rfl, ⟨_, rfl, ((lwd_23 15).trans rfl)⟩⟩
set_option maxRecDepth 100000 in
theorem pmMp_1_8 : pmMp 1 (84, (54, 755, false)) := ⟨_, rfl, ⟨_, rfl, ((lwd_23 19).trans rfl)⟩⟩
set_option maxRecDepth 100000 in
theorem pmMp_1_9 : pmMp 1 (87, (40, 750, true)) := ⟨_, rfl, ⟨_, rfl, ((lwd_23 14).trans rfl)⟩⟩
set_option maxRecDepth 100000 in
theorem pmMp_1_10 : pmMp 1 (91, (55, 759, true)) := ⟨_, rfl, ⟨_, rfl, ((lwd_23 23).trans rfl)⟩⟩
set_option maxRecDepth 100000 in
theorem pmMp_1_11 : pmMp 1 (97, (51, 742, false)) := ⟨_, rfl, ⟨_, rfl, ((lwd_23 6).trans rfl)⟩⟩
set_option maxRecDepth 100000 in
theorem pmMp_1_12 : pmMp 1 (100, (52, 745, false)) := ⟨_, rfl, ⟨_, rfl, ((lwd_23 9).trans rfl)⟩⟩
set_option maxRecDepth 100000 in
theorem pmMp_1 : ∀ e ∈ (pmMt[1]?).getD [], pmMp 1 e := List.forall_mem_cons.mpr ⟨pmMp_1_0, List.forall_mem_cons.mpr ⟨pmMp_1_1, List.forall_mem_cons.mpr ⟨pmMp_1_2, List.forall_mem_cons.mpr ⟨pmMp_1_3, List.forall_mem_cons.mpr ⟨pmMp_1_4, List.forall_mem_cons.mpr ⟨pmMp_1_5, List.forall_mem_cons.mpr ⟨pmMp_1_6, List.forall_mem_cons.mpr ⟨pmMp_1_7, List.forall_mem_cons.mpr ⟨pmMp_1_8, List.forall_mem_cons.mpr ⟨pmMp_1_9, List.forall_mem_cons.mpr ⟨pmMp_1_10, List.forall_mem_cons.mpr ⟨pmMp_1_11, List.forall_mem_cons.mpr ⟨pmMp_1_12, fun _ h => absurd h List.not_mem_nil⟩⟩⟩⟩⟩⟩⟩⟩⟩⟩⟩⟩⟩
set_option maxRecDepth 100000 in
theorem pmMp_2_0 : pmMp 2 (3, (9001, 259, false)) := ⟨_, rfl, ((lwd_8 3).trans rfl)⟩
set_option maxRecDepth 100000 in
theorem pmMp_2_1 : pmMp 2 (45, (95, 935, false)) := ⟨_, rfl, ⟨_, rfl, ((lwd_29 7).trans rfl)⟩⟩
set_option maxRecDepth 100000 in
theorem pmMp_2_2 : pmMp 2 (49, (96, 939, false)) := ⟨_, rfl, ⟨_, rfl, ((lwd_29 11).trans rfl)⟩⟩
set_option maxRecDepth 100000 in
theorem pmMp_2 : ∀ e ∈ (pmMt[2]?).getD [], pmMp 2 e := List.forall_mem_cons.mpr ⟨pmMp_2_0, List.forall_mem_cons.mpr ⟨pmMp_2_1, List.forall_mem_cons.mpr ⟨pmMp_2_2, fun _ h => absurd h List.not_mem_nil⟩⟩⟩
set_option maxRecDepth 100000 in
theorem pmMp_3_0 : pmMp 3 (5, (9001, 417, false)) := ⟨_, rfl, ((lwd_13 1).trans rfl)⟩
set_option maxRecDepth 100000 in
theorem pmMp_3_1 : pmMp 3 (53, (77, 896, false)) := ⟨_, rfl, ⟨_, rfl, ((lwd_28 0).trans rfl)⟩⟩
set_option maxRecDepth 100000 in
theorem pmMp_3_2 : pmMp 3 (71, (73, 836, false)) := ⟨_, rfl, ⟨_, rfl, ((lwd_26 4).trans rfl)⟩⟩
set_option maxRecDepth 100000 in
theorem pmMp_3_3 : pmMp 3 (75, (74, 845, false)) := ⟨_, rfl, ⟨_, rfl, ((lwd_26 13).trans rfl)⟩⟩
set_option maxRecDepth 100000 in
theorem pmMp_3_4 : pmMp 3 (78, (75, 849, false)) := ⟨_, rfl, ⟨_, rfl, ((lwd_26 17).trans rfl)⟩⟩
set_option maxRecDepth 100000 in
theorem pmMp_3_5 : pmMp 3 (92, (72, 862, false)) := ⟨_, rfl, ⟨_, rfl, ((lwd_26 30).trans rfl)⟩⟩
set_option maxRecDepth 100000 in
theorem pmMp_3_6 : pmMp 3 (96, (78, 864, true)) := ⟨_, rfl, ⟨_, rfl, ((lwd_27 0).trans rfl)⟩⟩
set_option maxRecDepth 100000 in
theorem pmMp_3_7 : pmMp 3 (104, (79, 868, false)) := ⟨_, rfl, ⟨_, rfl, ((lwd_27 4).trans rfl)⟩⟩
set_option maxRecDepth 100000 in
theorem pmMp_3_8 : pmMp 3 (114, (80, 871, true)) := ⟨_, rfl, ⟨_, rfl, ((lwd_27 7).trans rfl)⟩⟩
set_option maxRecDepth 100000 in
theorem pmMp_3_9 : pmMp 3 (117, (81, 875, true)) := ⟨_, rfl, ⟨_, rfl, ((lwd_27 11).trans rfl)⟩⟩
set_option maxRecDepth 100000 in
theorem pmMp_3_10 : pmMp 3 (120, (9003, 840, false)) := ⟨_, rfl, ((lwd_26 8).trans rfl)⟩
set_option maxRecDepth 100000 in
theorem pmMp_3_11 : pmMp 3 (126, (9002, 841, false)) := ⟨_, rfl, ((lwd_26 9).trans rfl)⟩
set_option maxRecDepth 100000 in
theorem pmMp_3 : ∀ e ∈ (pmMt[3]?).getD [], pmMp 3 e := List.forall_mem_cons.mpr ⟨pmMp_3_0, List.forall_mem_cons.mpr ⟨pmMp_3_1, List.forall_mem_cons.mpr ⟨pmMp_3_2, List.forall_mem_cons.mpr ⟨pmMp_3_3, List.forall_mem_cons.mpr ⟨pmMp_3_4, List.forall_mem_cons.mpr ⟨pmMp_3_5, List.forall_mem_cons.mpr ⟨pmMp_3_6, List.forall_mem_cons.mpr ⟨pmMp_3_7, List.forall_mem_cons.mpr ⟨pmMp_3_8, List.forall_mem_cons.mpr ⟨pmMp_3_9, List.forall_mem_cons.mpr ⟨pmMp_3_10, List.forall_mem_cons.mpr ⟨pmMp_3_11, fun _ h => absurd h List.not_mem_nil⟩⟩⟩⟩⟩⟩⟩⟩⟩⟩⟩⟩
set_option maxRecDepth 100000 in
theorem pmMp_4_0 : pmMp 4 (3, (9001, 469, false)) := ⟨_, rfl, ((lwd_14 21).trans rfl)⟩
set_option maxRecDepth 100000 in
theorem pmMp_4_1 : pmMp 4 (27, (90, 913, false)) := ⟨_, rfl, ⟨_, rfl, ((lwd_28 17).trans rfl)⟩⟩
set_option maxRecDepth 100000 in
theorem pmMp_4_2 : pmMp 4 (31, (97, 943, false)) := ⟨_, rfl, ⟨_, rfl, ((lwd_29 15).trans rfl)⟩⟩
set_option maxRecDepth 100000 in
theorem pmMp_4_3 : pmMp 4 (34, (67, 917, true)) := ⟨_, rfl, ⟨_, rfl, ((lwd_28 21).trans rfl)⟩⟩
set_option maxRecDepth 100000 in
theorem pmMp_4_4 : pmMp 4 (51, (61, 784, true)) := ⟨_, rfl, ⟨_, rfl, ((lwd_24 16).trans rfl)⟩⟩
set_option maxRecDepth 100000 in
theorem pmMp_4_5 : pmMp 4 (55, (91, 918, false)) := ⟨_, rfl, ⟨_, rfl, ((lwd_28 22).trans rfl)⟩⟩
set_option maxRecDepth 100000 in
theorem pmMp_4_6 : pmMp 4 (63, (85, 947, true)) := ⟨_, rfl, ⟨_, rfl, ((lwd_29 19).trans rfl)⟩⟩
set_option maxRecDepth 100000 in
theorem pmMp_4_7 : pmMp 4 (68, (98, 948, true)) := ⟨_, rfl, ⟨_, rfl, ((lwd_29 20).trans rfl)⟩⟩
set_option maxRecDepth 100000 in
theorem pmMp_4_8 : pmMp 4 (74, (81, 922, true)) := ⟨_, rfl, ⟨_, rfl, ((lwd_28 26).trans rfl)⟩⟩
set_option maxRecDepth 100000 in
theorem pmMp_4_9 : pmMp 4 (80, (83, 923, true)) := ⟨_, rfl, ⟨_, rfl, ((lwd_28 27).trans rfl)⟩⟩
set_option maxRecDepth 100000 in
theorem pmMp_4_10 : pmMp 4 (84, (19, 793, true)) := ⟨_, rfl, ⟨_, rfl, ((lwd_24 25).trans rfl)⟩⟩
set_option maxRecDepth 100000 in
theorem pmMp_4_11 : pmMp 4 (87, (92, 924, false)) := ⟨_, rfl, ⟨_, rfl, ((lwd_28 28).trans rfl)⟩⟩
set_option maxRecDepth 100000 in
theorem pmMp_4_12 : pmMp 4 (94, (93, 928, true)) := ⟨_, rfl, ⟨_, rfl, ((lwd_29 0).trans rfl)⟩⟩
set_option maxRecDepth 100000 in
theorem pmMp_4_13 : pmMp 4 (98, (94, 931, true)) := ⟨_, rfl, ⟨_, rfl, ((lwd_29 3).trans rfl)⟩⟩
set_option maxRecDepth 100000 in
theorem pmMp_4_14 : pmMp 4 (101, (59, 942, false)) := ⟨_, rfl, ⟨_, rfl, ((lwd_29 14).trans rfl)⟩⟩
set_option maxRecDepth 100000 in
theorem pmMp_4_15 : pmMp 4 (104, (26, 927, true)) := ⟨_, rfl, ⟨_, rfl, ((lwd_28 31).trans rfl)⟩⟩
set_option maxRecDepth 100000 in
theorem pmMp_4_16 : pmMp 4 (108, (60, 780, false)) := ⟨_, rfl, ⟨_, rfl, ((lwd_24 12).trans rfl)⟩⟩
set_option maxRecDepth 100000 in
theorem pmMp_4_17 : pmMp 4 (111, (63, 794, false)) := ⟨_, rfl, ⟨_, rfl, ((lwd_24 26).trans rfl)⟩⟩
set_option maxRecDepth 100000 in
theorem pmMp_4_18 : pmMp 4 (114, (62, 787, true)) := ⟨_, rfl, ⟨_, rfl, ((lwd_24 19).trans rfl)⟩⟩
set_option maxRecDepth 100000 in
theorem pmMp_4_19 : pmMp 4 (123, (24, 792, false)) := ⟨_, rfl, ⟨_, rfl, ((lwd_24 24).trans rfl)⟩⟩
set_option maxRecDepth 100000 in
theorem pmMp_4_20 : pmMp 4 (128, (64, 798, false)) := ⟨_, rfl, ⟨_, rfl, ((lwd_24 30).trans rfl)⟩⟩
set_option maxRecDepth 100000 in
theorem pmMp_4_21 : pmMp 4 (136, (122, 1068, false)) := ⟨_, rfl, ⟨_, rfl, ((lwd_33 12).trans rfl)⟩⟩
set_option maxRecDepth 100000 in
theorem pmMp_4_22 : pmMp 4 (140, (89, 1073, false)) := ⟨_, rfl, ⟨_, rfl, ((lwd_33 17).trans rfl)⟩⟩
set_option maxRecDepth 100000 in
theorem pmMp_4_23 : pmMp 4 (146, (80, 1072, true)) := ⟨_, rfl, ⟨_, rfl, ((lwd_33 16).trans rfl)⟩⟩
set_option maxRecDepth 100000 in
theorem pmMp_4 : ∀ e ∈ (pmMt[4]?).getD [], pmMp 4 e := List.forall_mem_cons.mpr ⟨pmMp_4_0, List.forall_mem_cons.mpr ⟨pmMp_4_1, List.forall_mem_cons.mpr ⟨pmMp_4_2, List.forall_mem_cons.mpr ⟨pmMp_4_3, List.forall_mem_cons.mpr ⟨pmMp_4_4, List.forall_mem_cons.mpr ⟨pmMp_4_5, List.forall_mem_cons.mpr ⟨pmMp_4_6, List.forall_mem_cons.mpr ⟨pmMp_4_7, List.forall_mem_cons.mpr ⟨pmMp_4_8, List.forall_mem_cons.mpr ⟨pmMp_4_9, List.forall_mem_cons.mpr ⟨pmMp_4_10, List.forall_mem_cons.mpr ⟨pmMp_4_11, List.forall_mem_cons.mpr ⟨pmMp_4_12, List.forall_mem_cons.mpr ⟨pmMp_4_13, List.forall_mem_cons.mpr ⟨pmMp_4_14, List.forall_mem_cons.mpr ⟨pmMp_4_15, List.forall_mem_cons.mpr ⟨pmMp_4_16, List.forall_mem_cons.mpr ⟨pmMp_4_17, List.forall_mem_cons.mpr ⟨pmMp_4_18, List.forall_mem_cons.mpr ⟨pmMp_4_19, List.forall_mem_cons.mpr ⟨pmMp_4_20, List.forall_mem_cons.mpr ⟨pmMp_4_21, List.forall_mem_cons.mpr ⟨pmMp_4_22, List.forall_mem_cons.mpr ⟨pmMp_4_23, fun _ h => absurd h List.not_mem_nil⟩⟩⟩⟩⟩⟩⟩⟩⟩⟩⟩⟩⟩⟩⟩⟩⟩⟩⟩⟩⟩⟩⟩⟩
set_option maxRecDepth 100000 in
theorem pmMp_5_0 : pmMp 5 (3, (9001, 196, false)) := ⟨_, rfl, ((lwd_6 4).trans rfl)⟩
set_option maxRecDepth 100000 in
theorem pmMp_5_1 : pmMp 5 (21, (3, 197, false)) := ⟨_, rfl, ⟨_, rfl, ((lwd_6 5).trans rfl)⟩⟩
set_option maxRecDepth 100000 in
theorem pmMp_5_2 : pmMp 5 (25, (9003, 775, false)) := ⟨_, rfl, ((lwd_24 7).trans rfl)⟩
set_option maxRecDepth 100000 in
theorem pmMp_5_3 : pmMp 5 (38, (16, 590, false)) := ⟨_, rfl, ⟨_, rfl, ((lwd_18 14).trans rfl)⟩⟩
set_option maxRecDepth 100000 in
theorem pmMp_5 : ∀ e ∈ (pmMt[5]?).getD [], pmMp 5 e := List.forall_mem_cons.mpr ⟨pmMp_5_0, List.forall_mem_cons.mpr ⟨pmMp_5_1, List.forall_mem_cons.mpr ⟨pmMp_5_2, List.forall_mem_cons.mpr ⟨pmMp_5_3, fun _ h => absurd h List.not_mem_nil⟩⟩⟩⟩
set_option maxRecDepth 100000 in
theorem pmMp_6_0 : pmMp 6 (3, (9001, 168, false)) := ⟨_, rfl, ((lwd_5 8).trans rfl)⟩
set_option maxRecDepth 100000 in
theorem pmMp_6_1 : pmMp 6 (19, (9003, 663, false)) := ⟨_, rfl, ((lwd_20 23).trans rfl)⟩
set_option maxRecDepth 100000 in
theorem pmMp_6_2 : pmMp 6 (34, (37, 694, false)) := ⟨_, rfl, ⟨_, rfl, ((lwd_21 22).trans rfl)⟩⟩
set_option maxRecDepth 100000 in
theorem pmMp_6_3 : pmMp 6 (38, (39, 695, false)) := ⟨_, rfl, ⟨_, rfl, ((lwd_21 23).trans rfl)⟩⟩
set_option maxRecDepth 100000 in
theorem pmMp_6 : ∀ e ∈ (pmMt[6]?).getD [], pmMp 6 e := List.forall_mem_cons.mpr ⟨pmMp_6_0, List.forall_mem_cons.mpr ⟨pmMp_6_1, List.forall_mem_cons.mpr ⟨pmMp_6_2, List.forall_mem_cons.mpr ⟨pmMp_6_3, fun _ h => absurd h List.not_mem_nil⟩⟩⟩⟩
set_option maxRecDepth 100000 in
theorem pmMp_7_0 : pmMp 7 (3, (9001, 489, false)) := ⟨_, rfl, ((lwd_15 9).trans rfl)⟩
set_option maxRecDepth 100000 in
theorem pmMp_7_1 : pmMp 7 (11, (6, 492, true)) := ⟨_, rfl, ⟨_, rfl, ((lwd_15 12).trans rfl)⟩⟩
set_option maxRecDepth 100000 in
theorem pmMp_7_2 : pmMp 7 (44, (61, 969, true)) := ⟨_, rfl, ⟨_, rfl, ((lwd_30 9).trans rfl)⟩⟩
set_option maxRecDepth 100000 in
theorem pmMp_7_3 : pmMp 7 (48, (62, 970, true)) := ⟨_, rfl, ⟨_, rfl, ((lwd_30 10).trans rfl)⟩⟩
set_option maxRecDepth 100000 in
theorem pmMp_7_4 : pmMp 7 (52, (26, 971, true)) := ⟨_, rfl, ⟨_, rfl, ((lwd_30 11).trans rfl)⟩⟩
set_option maxRecDepth 100000 in
theorem pmMp_7_5 : pmMp 7 (56, (16, 972, true)) := ⟨_, rfl, ⟨_, rfl, ((lwd_30 12).trans rfl)⟩⟩
set_option maxRecDepth 100000 in
theorem pmMp_7_6 : pmMp 7 (71, (103, 981, false)) := ⟨_, rfl, ⟨_, rfl, ((lwd_30 21).trans rfl)⟩⟩
set_option maxRecDepth 100000 in
theorem pmMp_7_7 : pmMp 7 (75, (19, 982, true)) := ⟨_, rfl, ⟨_, rfl, ((lwd_30 22).trans rfl)⟩⟩
set_option maxRecDepth 100000 in
theorem pmMp_7_8 : pmMp 7 (79, (67, 983, true)) := ⟨_, rfl, ⟨_, rfl, ((lwd_30 23).trans rfl)⟩⟩
set_option maxRecDepth 100000 in
theorem pmMp_7_9 : pmMp 7 (82, (59, 984, true)) := ⟨_, rfl, ⟨_, rfl, ((lwd_30 24).trans rfl)⟩⟩
set_option maxRecDepth 100000 in
theorem pmMp_7_10 : pmMp 7 (94, (112, 1013, false)) := ⟨_, rfl, ⟨_, rfl, ((lwd_31 21).trans rfl)⟩⟩
set_option maxRecDepth 100000 in
theorem pmMp_7_11 : pmMp 7 (98, (102, 1026, false)) := ⟨_, rfl, ⟨_, rfl, ((lwd_32 2).trans rfl)⟩⟩
set_option maxRecDepth 100000 in
theorem pmMp_7_12 : pmMp 7 (101, (66, 1018, true)) := ⟨_, rfl, ⟨_, rfl, ((lwd_31 26).trans rfl)⟩⟩
set_option maxRecDepth 100000 in
theorem pmMp_7_13 : pmMp 7 (104, (104, 1027, false)) := ⟨_, rfl, ⟨_, rfl, ((lwd_32 3).trans rfl)⟩⟩
set_option maxRecDepth 100000 in
theorem pmMp_7_14 : pmMp 7 (111, (80, 1017, true)) := ⟨_, rfl, ⟨_, rfl, ((lwd_31 25).trans rfl)⟩⟩
set_option maxRecDepth 100000 in
theorem pmMp_7_15 : pmMp 7 (115, (90, 1019, true)) := ⟨_, rfl, ⟨_, rfl, ((lwd_31 27).trans rfl)⟩⟩
set_option maxRecDepth 100000 in
theorem pmMp_7_16 : pmMp 7 (118, (113, 1020, true)) := ⟨_, rfl, ⟨_, rfl, ((lwd_31 28).trans rfl)⟩⟩
set_option maxRecDepth 100000 in
theorem pmMp_7_17 : pmMp 7 (122, (97, 1024, true)) := ⟨_, rfl, ⟨_, rfl, ((lwd_32 0).trans rfl)⟩⟩
set_option maxRecDepth 100000 in
theorem pmMp_7_18 : pmMp 7 (125, (111, 1025, false)) := ⟨_, rfl, ⟨_, rfl, ((lwd_32 1).trans rfl)⟩⟩
set_option maxRecDepth 100000 in
theorem pmMp_7 : ∀ e ∈ (pmMt[7]?).getD [], pmMp 7 e := List.forall_mem_cons.mpr ⟨pmMp_7_0, List.forall_mem_cons.mpr ⟨pmMp_7_1, List.forall_mem_cons.mpr ⟨pmMp_7_2, List.forall_mem_cons.mpr ⟨pmMp_7_3, List.forall_mem_cons.mpr ⟨pmMp_7_4, List.forall_mem_cons.mpr ⟨pmMp_7_5, List.forall_mem_cons.mpr ⟨pmMp_7_6, List.forall_mem_cons.mpr ⟨pmMp_7_7, List.forall_mem_cons.mpr ⟨pmMp_7_8, List.forall_mem_cons.mpr ⟨pmMp_7_9, List.forall_mem_cons.mpr ⟨pmMp_7_10, List.forall_mem_cons.mpr ⟨pmMp_7_11, List.forall_mem_cons.mpr ⟨pmMp_7_12, List.forall_mem_cons.mpr ⟨pmMp_7_13, List.forall_mem_cons.mpr ⟨pmMp_7_14, List.forall_mem_cons.mpr ⟨pmMp_7_15, List.forall_mem_cons.mpr ⟨pmMp_7_16, List.forall_mem_cons.mpr ⟨pmMp_7_17, List.forall_mem_cons.mpr ⟨pmMp_7_18, fun _ h => absurd h List.not_mem_nil⟩⟩⟩⟩⟩⟩⟩⟩⟩⟩⟩⟩⟩⟩⟩⟩⟩⟩⟩
set_option maxRecDepth 100000 in
theorem pmMp_8_0 : pmMp 8 (3, (9001, 376, false)) := ⟨_, rfl, ((lwd_11 24).trans rfl)⟩
set_option maxRecDepth 100000 in
theorem pmMp_8_1 : pmMp 8 (19, (33, 659, true)) := ⟨_, rfl, ⟨_, rfl, ((lwd_20 19).trans rfl)⟩⟩
set_option maxRecDepth 100000 in
theorem pmMp_8_2 : pmMp 8 (29, (34, 666, false)) := ⟨_, rfl, ⟨_, rfl, ((lwd_20 26).trans rfl)⟩⟩
set_option maxRecDepth 100000 in
theorem pmMp_8_3 : pmMp 8 (36, (39, 686, true)) := ⟨_, rfl, ⟨_, rfl, ((lwd_21 14).trans rfl)⟩⟩
set_option maxRecDepth 100000 in
theorem pmMp_8_4 : pmMp 8 (42, (35, 670, false)) := ⟨_, rfl, ⟨_, rfl, ((lwd_20 30).trans rfl)⟩⟩
set_option maxRecDepth 100000 in
theorem pmMp_8_5 : pmMp 8 (45, (44, 708, true)) := ⟨_, rfl, ⟨_, rfl, ((lwd_22 4).trans rfl)⟩⟩
set_option maxRecDepth 100000 in
theorem pmMp_8_6 : pmMp 8 (51, (41, 696, false)) := ⟨_, rfl, ⟨_, rfl, ((lwd_21 24).trans rfl)⟩⟩
set_option maxRecDepth 100000 in
theorem pmMp_8_7 : pmMp 8 (55, (36, 674, false)) := ⟨_, rfl, ⟨_, rfl, ((lwd_21 2).trans rfl)⟩⟩
set_option maxRecDepth 100000 in
theorem pmMp_8_8 : pmMp 8 (58, (37, 678, true)) := ⟨_, rfl, ⟨_, rfl, ((lwd_21 6).trans rfl)⟩⟩
set_option maxRecDepth 100000 in
theorem pmMp_8_9 : pmMp 8 (62, (38, 682, false)) := ⟨_, rfl, ⟨_, rfl, ((lwd_21 10).trans rfl)⟩⟩
set_option maxRecDepth 100000 in
theorem pmMp_8_10 : pmMp 8 (65, (42, 700, false)) := ⟨_, rfl, ⟨_, rfl, ((lwd_21 28).trans rfl)⟩⟩
set_option maxRecDepth 100000 in
theorem pmMp_8_11 : pmMp 8 (68, (43, 704, false)) := ⟨_, rfl, ⟨_, rfl, ((lwd_22 0).trans rfl)⟩⟩
set_option maxRecDepth 100000 in
theorem pmMp_8_12 : pmMp 8 (71, (40, 690, true)) := ⟨_, rfl, ⟨_, rfl, ((lwd_21 18).trans rfl)⟩⟩
set_option maxRecDepth 100000 in
theorem pmMp_8 : ∀ e ∈ (pmMt[8]?).getD [], pmMp 8 e := List.forall_mem_cons.mpr ⟨pmMp_8_0, List.forall_mem_cons.mpr ⟨pmMp_8_1, List.forall_mem_cons.mpr ⟨pmMp_8_2, List.forall_mem_cons.mpr ⟨pmMp_8_3, List.forall_mem_cons.mpr ⟨pmMp_8_4, List.forall_mem_cons.mpr ⟨pmMp_8_5, List.forall_mem_cons.mpr ⟨pmMp_8_6, List.forall_mem_cons.mpr ⟨pmMp_8_7, List.forall_mem_cons.mpr ⟨pmMp_8_8, List.forall_mem_cons.mpr ⟨pmMp_8_9, List.forall_mem_cons.mpr ⟨pmMp_8_10, List.forall_mem_cons.mpr ⟨pmMp_8_11, List.forall_mem_cons.mpr ⟨pmMp_8_12, fun _ h => absurd h List.not_mem_nil⟩⟩⟩⟩⟩⟩⟩⟩⟩⟩⟩⟩⟩
set_option maxRecDepth 100000 in
theorem pmMp_9_0 : pmMp 9 (3, (9001, 232, false)) := ⟨_, rfl, ((lwd_7 8).trans rfl)⟩
set_option maxRecDepth 100000 in
theorem pmMp_9_1 : pmMp 9 (27, (9000, 720, false)) := ⟨_, rfl, ((lwd_22 16).trans rfl)⟩
set_option maxRecDepth 100000 in
theorem pmMp_9 : ∀ e ∈ (pmMt[9]?).getD [], pmMp 9 e := List.forall_mem_cons.mpr ⟨pmMp_9_0, List.forall_mem_cons.mpr ⟨pmMp_9_1, fun _ h => absurd h List.not_mem_nil⟩⟩
set_option maxRecDepth 100000 in
theorem pmMp_10_0 : pmMp 10 (3, (9001, 299, false)) := ⟨_, rfl, ((lwd_9 11).trans rfl)⟩
set_option maxRecDepth 100000 in
theorem pmMp_10_1 : pmMp 10 (33, (9000, 809, false)) := ⟨_, rfl, ((lwd_25 9).trans rfl)⟩
set_option maxRecDepth 100000 in
theorem pmMp_10_2 : pmMp 10 (39, (67, 810, false)) := ⟨_, rfl, ⟨_, rfl, ((lwd_25 10).trans rfl)⟩⟩
set_option maxRecDepth 100000 in
theorem pmMp_10 : ∀ e ∈ (pmMt[10]?).getD [], pmMp 10 e := List.forall_mem_cons.mpr ⟨pmMp_10_0, List.forall_mem_cons.mpr ⟨pmMp_10_1, List.forall_mem_cons.mpr ⟨pmMp_10_2, fun _ h => absurd h List.not_mem_nil⟩⟩⟩
set_option maxRecDepth 100000 in
theorem pmMp_11_0 : pmMp 11 (1, (9001, 160, false)) := ⟨_, rfl, ((lwd_5 0).trans rfl)⟩
set_option maxRecDepth 100000 in
theorem pmMp_11_1 : pmMp 11 (9, (1, 165, true)) := ⟨_, rfl, ⟨_, rfl, ((lwd_5 5).trans rfl)⟩⟩
set_option maxRecDepth 100000 in
theorem pmMp_11_2 : pmMp 11 (18, (2, 193, true)) := ⟨_, rfl, ⟨_, rfl, ((lwd_6 1).trans rfl)⟩⟩
set_option maxRecDepth 100000 in
theorem pmMp_11_3 : pmMp 11 (25, (4, 229, true)) := ⟨_, rfl, ⟨_, rfl, ((lwd_7 5).trans rfl)⟩⟩
set_option maxRecDepth 100000 in
theorem pmMp_11_4 : pmMp 11 (32, (5, 256, true)) := ⟨_, rfl, ⟨_, rfl, ((lwd_8 0).trans rfl)⟩⟩
set_option maxRecDepth 100000 in
theorem pmMp_11_5 : pmMp 11 (39, (6, 296, true)) := ⟨_, rfl, ⟨_, rfl, ((lwd_9 8).trans rfl)⟩⟩
set_option maxRecDepth 100000 in
theorem pmMp_11_6 : pmMp 11 (49, (7, 373, true)) := ⟨_, rfl, ⟨_, rfl, ((lwd_11 21).trans rfl)⟩⟩
set_option maxRecDepth 100000 in
theorem pmMp_11_7 : pmMp 11 (58, (8, 391, true)) := ⟨_, rfl, ⟨_, rfl, ((lwd_12 7).trans rfl)⟩⟩
set_option maxRecDepth 100000 in
theorem pmMp_11_8 : pmMp 11 (67, (9, 414, true)) := ⟨_, rfl, ⟨_, rfl, ((lwd_12 30).trans rfl)⟩⟩
set_option maxRecDepth 100000 in
theorem pmMp_11_9 : pmMp 11 (76, (10, 466, true)) := ⟨_, rfl, ⟨_, rfl, ((lwd_14 18).trans rfl)⟩⟩
set_option maxRecDepth 100000 in
theorem pmMp_11_10 : pmMp 11 (85, (11, 486, true)) := ⟨_, rfl, ⟨_, rfl, ((lwd_15 6).trans rfl)⟩⟩
set_option maxRecDepth 100000 in
theorem pmMp_11_11 : pmMp 11 (94, (12, 511, true)) := ⟨_, rfl, ⟨_, rfl, ((lwd_15 31).trans rfl)⟩⟩
set_option maxRecDepth 100000 in
theorem pmMp_11_12 : pmMp 11 (105, (14, 583, false)) := ⟨_, rfl, ⟨_, rfl, ((lwd_18 7).trans rfl)⟩⟩
set_option maxRecDepth 100000 in
theorem pmMp_11_13 : pmMp 11 (109, (15, 586, true)) := ⟨_, rfl, ⟨_, rfl, ((lwd_18 10).trans rfl)⟩⟩
set_option maxRecDepth 100000 in
theorem pmMp_11_14 : pmMp 11 (113, (18, 598, false)) := ⟨_, rfl, ⟨_, rfl, ((lwd_18 22).trans rfl)⟩⟩
set_option maxRecDepth 100000 in
theorem pmMp_11_15 : pmMp 11 (120, (19, 601, false)) := ⟨_, rfl, ⟨_, rfl, ((lwd_18 25).trans rfl)⟩⟩
set_option maxRecDepth 100000 in
theorem pmMp_11_16 : pmMp 11 (128, (21, 610, true)) := ⟨_, rfl, ⟨_, rfl, ((lwd_19 2).trans rfl)⟩⟩
set_option maxRecDepth 100000 in
theorem pmMp_11_17 : pmMp 11 (132, (22, 614, false)) := ⟨_, rfl, ⟨_, rfl, ((lwd_19 6).trans rfl)⟩⟩
set_option maxRecDepth 100000 in
theorem pmMp_11_18 : pmMp 11 (136, (24, 621, false)) := ⟨_, rfl, ⟨_, rfl, ((lwd_19 13).trans rfl)⟩⟩
set_option maxRecDepth 100000 in
theorem pmMp_11_19 : pmMp 11 (144, (26, 631, false)) := ⟨_, rfl, ⟨_, rfl, ((lwd_19 23).trans rfl)⟩⟩
set_option maxRecDepth 100000 in
theorem pmMp_11_20 : pmMp 11 (147, (27, 634, false)) := ⟨_, rfl, ⟨_, rfl, ((lwd_19 26).trans rfl)⟩⟩
set_option maxRecDepth 100000 in
theorem pmMp_11_21 : pmMp 11 (155, (3, 642, true)) := ⟨_, rfl, ⟨_, rfl, ((lwd_20 2).trans rfl)⟩⟩
set_option maxRecDepth 100000 in
theorem pmMp_11_22 : pmMp 11 (162, (30, 647, true)) := ⟨_, rfl, ⟨_, rfl, ((lwd_20 7).trans rfl)⟩⟩
set_option maxRecDepth 100000 in
theorem pmMp_11_23 : pmMp 11 (170, (32, 655, true)) := ⟨_, rfl, ⟨_, rfl, ((lwd_20 15).trans rfl)⟩⟩
set_option maxRecDepth 100000 in
theorem pmMp_11_24 : pmMp 11 (173, (45, 712, true)) := ⟨_, rfl, ⟨_, rfl, ((lwd_22 8).trans rfl)⟩⟩
set_option maxRecDepth 100000 in
theorem pmMp_11_25 : pmMp 11 (182, (46, 716, true)) := ⟨_, rfl, ⟨_, rfl, ((lwd_22 12).trans rfl)⟩⟩
set_option maxRecDepth 100000 in
theorem pmMp_11_26 : pmMp 11 (189, (48, 727, true)) := ⟨_, rfl, ⟨_, rfl, ((lwd_22 23).trans rfl)⟩⟩
set_option maxRecDepth 100000 in
theorem pmMp_11_27 : pmMp 11 (193, (56, 763, true)) := ⟨_, rfl, ⟨_, rfl, ((lwd_23 27).trans rfl)⟩⟩
set_option maxRecDepth 100000 in
theorem pmMp_11_28 : pmMp 11 (196, (58, 771, true)) := ⟨_, rfl, ⟨_, rfl, ((lwd_24 3).trans rfl)⟩⟩
set_option maxRecDepth 100000 in
theorem pmMp_11_29 : pmMp 11 (199, (59, 776, true)) := ⟨_, rfl, ⟨_, rfl, ((lwd_24 8).trans rfl)⟩⟩
set_option maxRecDepth 100000 in
theorem pmMp_11_30 : pmMp 11 (203, (65, 801, true)) := ⟨_, rfl, ⟨_, rfl, ((lwd_25 1).trans rfl)⟩⟩
set_option maxRecDepth 100000 in
theorem pmMp_11_31 : pmMp 11 (206, (61, 818, false)) := ⟨_, rfl, ⟨_, rfl, ((lwd_25 18).trans rfl)⟩⟩
set_option maxRecDepth 100000 in
theorem pmMp_11_32 : pmMp 11 (210, (69, 819, false)) := ⟨_, rfl, ⟨_, rfl, ((lwd_25 19).trans rfl)⟩⟩
set_option maxRecDepth 100000 in
theorem pmMp_11_33 : pmMp 11 (213, (71, 826, false)) := ⟨_, rfl, ⟨_, rfl, ((lwd_25 26).trans rfl)⟩⟩
set_option maxRecDepth 100000 in
theorem pmMp_11_34 : pmMp 11 (216, (72, 830, true)) := ⟨_, rfl, ⟨_, rfl, ((lwd_25 30).trans rfl)⟩⟩
set_option maxRecDepth 100000 in
theorem pmMp_11_35 : pmMp 11 (220, (77, 857, true)) := ⟨_, rfl, ⟨_, rfl, ((lwd_26 25).trans rfl)⟩⟩
set_option maxRecDepth 100000 in
theorem pmMp_11_36 : pmMp 11 (225, (82, 882, false)) := ⟨_, rfl, ⟨_, rfl, ((lwd_27 18).trans rfl)⟩⟩
set_option maxRecDepth 100000 in
theorem pmMp_11_37 : pmMp 11 (228, (85, 892, true)) := ⟨_, rfl, ⟨_, rfl, ((lwd_27 28).trans rfl)⟩⟩
set_option maxRecDepth 100000 in
theorem pmMp_11_38 : pmMp 11 (231, (86, 898, false)) := ⟨_, rfl, ⟨_, rfl, ((lwd_28 2).trans rfl)⟩⟩
set_option maxRecDepth 100000 in
theorem pmMp_11_39 : pmMp 11 (237, (88, 905, false)) := ⟨_, rfl, ⟨_, rfl, ((lwd_28 9).trans rfl)⟩⟩
set_option maxRecDepth 100000 in
theorem pmMp_11_40 : pmMp 11 (241, (80, 908, true)) := ⟨_, rfl, ⟨_, rfl, ((lwd_28 12).trans rfl)⟩⟩
set_option maxRecDepth 100000 in
theorem pmMp_11_41 : pmMp 11 (244, (89, 909, true)) := ⟨_, rfl, ⟨_, rfl, ((lwd_28 13).trans rfl)⟩⟩
set_option maxRecDepth 100000 in
theorem pmMp_11_42 : pmMp 11 (248, (99, 952, true)) := ⟨_, rfl, ⟨_, rfl, ((lwd_29 24).trans rfl)⟩⟩
set_option maxRecDepth 100000 in
theorem pmMp_11_43 : pmMp 11 (251, (101, 961, false)) := ⟨_, rfl, ⟨_, rfl, ((lwd_30 1).trans rfl)⟩⟩
set_option maxRecDepth 100000 in
theorem pmMp_11_44 : pmMp 11 (254, (108, 997, true)) := ⟨_, rfl, ⟨_, rfl, ((lwd_31 5).trans rfl)⟩⟩
set_option maxRecDepth 100000 in
theorem pmMp_11_45 : pmMp 11 (261, (111, 1009, true)) := ⟨_, rfl, ⟨_, rfl, ((lwd_31 17).trans rfl)⟩⟩
set_option maxRecDepth 100000 in
theorem pmMp_11_46 : pmMp 11 (264, (103, 973, true)) := ⟨_, rfl, ⟨_, rfl, ((lwd_30 13).trans rfl)⟩⟩
set_option maxRecDepth 100000 in
theorem pmMp_11_47 : pmMp 11 (267, (117, 1040, true)) := ⟨_, rfl, ⟨_, rfl, ((lwd_32 16).trans rfl)⟩⟩
set_option maxRecDepth 100000 in
theorem pmMp_11_48 : pmMp 11 (272, (66, 1062, true)) := ⟨_, rfl, ⟨_, rfl, ((lwd_33 6).trans rfl)⟩⟩
set_option maxRecDepth 100000 in
theorem pmMp_11_49 : pmMp 11 (275, (121, 1063, true)) := ⟨_, rfl, ⟨_, rfl, ((lwd_33 7).trans rfl)⟩⟩
set_option maxRecDepth 100000 in
theorem pmMp_11_50 : pmMp 11 (278, (123, 1074, false)) := ⟨_, rfl, ⟨_, rfl, ((lwd_33 18).trans rfl)⟩⟩
set_option maxRecDepth 100000 in
theorem pmMp_11_51 : pmMp 11 (285, (125, 1081, true)) := ⟨_, rfl, ⟨_, rfl, ((lwd_33 25).trans rfl)⟩⟩
set_option maxRecDepth 100000 in
theorem pmMp_11_52 : pmMp 11 (288, (118, 1094, true)) := ⟨_, rfl, ⟨_, rfl, ((lwd_34 6).trans rfl)⟩⟩
set_option maxRecDepth 100000 in
theorem pmMp_11_53 : pmMp 11 (292, (128, 1095, false)) := ⟨_, rfl, ⟨_, rfl, ((lwd_34 7).trans rfl)⟩⟩
set_option maxRecDepth 100000 in
theorem pmMp_11_54 : pmMp 11 (295, (130, 1102, true)) := ⟨_, rfl, ⟨_, rfl, ((lwd_34 14).trans rfl)⟩⟩
set_option maxRecDepth 100000 in
theorem pmMp_11_55 : pmMp 11 (308, (135, 1122, false)) := ⟨_, rfl, ⟨_, rfl, ((lwd_35 2).trans rfl)⟩⟩
set_option maxRecDepth 100000 in
theorem pmMp_11_56 : pmMp 11 (314, (62, 1126, true)) := ⟨_, rfl, ⟨_, rfl, ((lwd_35 6).trans rfl)⟩⟩
set_option maxRecDepth 100000 in
theorem pmMp_11_57 : pmMp 11 (317, (102, 965, true)) := ⟨_, rfl, ⟨_, rfl, ((lwd_30 5).trans rfl)⟩⟩
set_option maxRecDepth 100000 in
theorem pmMp_11_58 : pmMp 11 (321, (104, 977, true)) := ⟨_, rfl, ⟨_, rfl, ((lwd_30 17).trans rfl)⟩⟩
set_option maxRecDepth 100000 in
theorem pmMp_11_59 : pmMp 11 (325, (105, 985, true)) := ⟨_, rfl, ⟨_, rfl, ((lwd_30 25).trans rfl)⟩⟩
set_option maxRecDepth 100000 in
theorem pmMp_11_60 : pmMp 11 (328, (83, 885, false)) := ⟨_, rfl, ⟨_, rfl, ((lwd_27 21).trans rfl)⟩⟩
set_option maxRecDepth 100000 in
theorem pmMp_11 : ∀ e ∈ (pmMt[11]?).getD [], pmMp 11 e := List.forall_mem_cons.mpr ⟨pmMp_11_0, List.forall_mem_cons.mpr ⟨pmMp_11_1, List.forall_mem_cons.mpr ⟨pmMp_11_2, List.forall_mem_cons.mpr ⟨pmMp_11_3, List.forall_mem_cons.mpr ⟨pmMp_11_4, List.forall_mem_cons.mpr ⟨pmMp_11_5, List.forall_mem_cons.mpr ⟨pmMp_11_6, List.forall_mem_cons.mpr ⟨pmMp_11_7, List.forall_mem_cons.mpr ⟨pmMp_11_8, List.forall_mem_cons.mpr ⟨pmMp_11_9, List.forall_mem_cons.mpr ⟨pmMp_11_10, List.forall_mem_cons.mpr ⟨pmMp_11_11, List.forall_mem_cons.mpr ⟨pmMp_11_12, List.forall_mem_cons.mpr ⟨pmMp_11_13, List.forall_mem_cons.mpr ⟨pmMp_11_14, List.forall_mem_cons.mpr ⟨pmMp_11_15, List.forall_mem_cons.mpr ⟨pmMp_11_16, List.forall_mem_cons.mpr ⟨pmMp_11_17, List.forall_mem_cons.mpr ⟨pmMp_11_18, List.forall_mem_cons.mpr ⟨pmMp_11_19, List.forall_mem_cons.mpr ⟨pmMp_11_20, List.forall_mem_cons.mpr ⟨pmMp_11_21, List.forall_mem_cons.mpr ⟨pmMp_11_22, List.forall_mem_cons.mpr ⟨pmMp_11_23, List.forall_mem_cons.mpr ⟨pmMp_11_24, List.forall_mem_cons.mpr ⟨pmMp_11_25, List.forall_mem_cons.mpr ⟨pmMp_11_26, List.forall_mem_cons.mpr ⟨pmMp_11_27, List.forall_mem_cons.mpr ⟨pmMp_11_28, List.forall_mem_cons.mpr ⟨pmMp_11_29, List.forall_mem_cons.mpr ⟨pmMp_11_30, List.forall_mem_cons.mpr ⟨pmMp_11_31, List.forall_mem_cons.mpr ⟨pmMp_11_32, List.forall_mem_cons.mpr ⟨pmMp_11_33, List.forall_mem_cons.mpr ⟨pmMp_11_34, List.forall_mem_cons.mpr ⟨pmMp_11_35, List.forall_mem_cons.mpr ⟨pmMp_11_36, List.forall_mem_cons.mpr ⟨pmMp_11_37, List.forall_mem_cons.mpr ⟨pmMp_11_38, List.forall_mem_cons.mpr ⟨pmMp_11_39, List.forall_mem_cons.mpr ⟨pmMp_11_40, List.forall_mem_cons.mpr ⟨pmMp_11_41, List.forall_mem_cons.mpr ⟨pmMp_11_42, List.forall_mem_cons.mpr ⟨pmMp_11_43, List.forall_mem_cons.mpr ⟨pmMp_11_44, List.forall_mem_cons.mpr ⟨pmMp_11_45, List.forall_mem_cons.mpr ⟨pmMp_11_46, List.forall_mem_cons.mpr ⟨pmMp_11_47, List.forall_mem_cons.mpr ⟨pmMp_11_48, List.forall_mem_cons.mpr ⟨pmMp_11_49, List.forall_mem_cons.mpr ⟨pmMp_11_50, List.forall_mem_cons.mpr ⟨pmMp_11_51, List.forall_mem_cons.mpr ⟨pmMp_11_52, List.forall_mem_cons.mpr ⟨pmMp_11_53, List.forall_mem_cons.mpr ⟨pmMp_11_54, List.forall_mem_cons.mpr ⟨pmMp_11_55, List.forall_mem_cons.mpr ⟨pmMp_11_56, List.forall_mem_cons.mpr ⟨pmMp_11_57, List.forall_mem_cons.mpr ⟨pmMp_11_58, List.forall_mem_cons.mpr ⟨pmMp_11_59, List.forall_mem_cons.mpr ⟨pmMp_11_60, fun _ h => absurd h List.not_mem_nil⟩⟩⟩⟩⟩⟩⟩⟩⟩⟩⟩⟩⟩⟩⟩⟩⟩⟩⟩⟩⟩⟩⟩⟩⟩⟩⟩⟩⟩⟩⟩⟩⟩⟩⟩⟩⟩⟩⟩⟩⟩⟩⟩⟩⟩⟩⟩⟩⟩⟩⟩⟩⟩⟩⟩⟩⟩⟩⟩⟩⟩
set_option maxRecDepth 100000 in
theorem pmMp_12_0 : pmMp 12 (1, (9001, 1132, false)) := ⟨_, rfl, ((lwd_35 12).trans rfl)⟩
set_option maxRecDepth 100000 in
theorem pmMp_12_1 : pmMp 12 (135, (138, 1302, false)) := ⟨_, rfl, ⟨_, rfl, ((lwd_40 22).trans rfl)⟩⟩
set_option maxRecDepth 100000 in
theorem pmMp_12_2 : pmMp 12 (139, (140, 1309, false)) := ⟨_, rfl, ⟨_, rfl, ((lwd_40 29).trans rfl)⟩⟩
set_option maxRecDepth 100000 in
theorem pmMp_12_3 : pmMp 12 (142, (143, 1320, false)) := ⟨_, rfl, ⟨_, rfl, ((lwd_41 8).trans rfl)⟩⟩
set_option maxRecDepth 100000 in
theorem pmMp_12_4 : pmMp 12 (146, (144, 1323, false)) := ⟨_, rfl, ⟨_, rfl, ((lwd_41 11).trans rfl)⟩⟩
set_option maxRecDepth 100000 in
theorem pmMp_12_5 : pmMp 12 (150, (146, 1330, false)) := ⟨_, rfl, ⟨_, rfl, ((lwd_41 18).trans rfl)⟩⟩
set_option maxRecDepth 100000 in
theorem pmMp_12_6 : pmMp 12 (153, (147, 1333, false)) := ⟨_, rfl, ⟨_, rfl, ((lwd_41 21).trans rfl)⟩⟩
set_option maxRecDepth 100000 in
theorem pmMp_12_7 : pmMp 12 (157, (148, 1336, false)) := ⟨_, rfl, ⟨_, rfl, ((lwd_41 24).trans rfl)⟩⟩
set_option maxRecDepth 100000 in
theorem pmMp_12_8 : pmMp 12 (160, (149, 1340, false)) := ⟨_, rfl, ⟨_, rfl, ((lwd_41 28).trans rfl)⟩⟩
set_option maxRecDepth 100000 in
theorem pmMp_12_9 : pmMp 12 (166, (152, 1351, false)) := ⟨_, rfl, ⟨_, rfl, ((lwd_42 7).trans rfl)⟩⟩
set_option maxRecDepth 100000 in
theorem pmMp_12_10 : pmMp 12 (179, (156, 1367, false)) := ⟨_, rfl, ⟨_, rfl, ((lwd_42 23).trans rfl)⟩⟩
set_option maxRecDepth 100000 in
theorem pmMp_12_11 : pmMp 12 (183, (158, 1375, false)) := ⟨_, rfl, ⟨_, rfl, ((lwd_42 31).trans rfl)⟩⟩
set_option maxRecDepth 100000 in
theorem pmMp_12_12 : pmMp 12 (199, (160, 1383, false)) := ⟨_, rfl, ⟨_, rfl, ((lwd_43 7).trans rfl)⟩⟩
set_option maxRecDepth 100000 in
theorem pmMp_12_13 : pmMp 12 (202, (161, 1387, false)) := ⟨_, rfl, ⟨_, rfl, ((lwd_43 11).trans rfl)⟩⟩
set_option maxRecDepth 100000 in
theorem pmMp_12_14 : pmMp 12 (206, (162, 1391, false)) := ⟨_, rfl, ⟨_, rfl, ((lwd_43 15).trans rfl)⟩⟩
set_option maxRecDepth 100000 in
theorem pmMp_12_15 : pmMp 12 (209, (163, 1395, false)) := ⟨_, rfl, ⟨_, rfl, ((lwd_43 19).trans rfl)⟩⟩
set_option maxRecDepth 100000 in
theorem pmMp_12_16 : pmMp 12 (212, (157, 1371, false)) := ⟨_, rfl, ⟨_, rfl, ((lwd_42 27).trans rfl)⟩⟩
set_option maxRecDepth 100000 in
theorem pmMp_12_17 : pmMp 12 (215, (159, 1379, false)) := ⟨_, rfl, ⟨_, rfl, ((lwd_43 3).trans rfl)⟩⟩
set_option maxRecDepth 100000 in
theorem pmMp_12_18 : pmMp 12 (219, (164, 1399, false)) := ⟨_, rfl, ⟨_, rfl, ((lwd_43 23).trans rfl)⟩⟩
set_option maxRecDepth 100000 in
theorem pmMp_12_19 : pmMp 12 (222, (165, 1403, false)) := ⟨_, rfl, ⟨_, rfl, ((lwd_43 27).trans rfl)⟩⟩
set_option maxRecDepth 100000 in
theorem pmMp_12_20 : pmMp 12 (226, (154, 1359, false)) := ⟨_, rfl, ⟨_, rfl, ((lwd_42 15).trans rfl)⟩⟩
set_option maxRecDepth 100000 in
theorem pmMp_12_21 : pmMp 12 (229, (155, 1363, false)) := ⟨_, rfl, ⟨_, rfl, ((lwd_42 19).trans rfl)⟩⟩
set_option maxRecDepth 100000 in
theorem pmMp_12_22 : pmMp 12 (232, (169, 1419, false)) := ⟨_, rfl, ⟨_, rfl, ((lwd_44 11).trans rfl)⟩⟩
set_option maxRecDepth 100000 in
theorem pmMp_12_23 : pmMp 12 (235, (170, 1422, false)) := ⟨_, rfl, ⟨_, rfl, ((lwd_44 14).trans rfl)⟩⟩
set_option maxRecDepth 100000 in
theorem pmMp_12_24 : pmMp 12 (238, (171, 1426, false)) := ⟨_, rfl, ⟨_, rfl, ((lwd_44 18).trans rfl)⟩⟩
set_option maxRecDepth 100000 in
theorem pmMp_12_25 : pmMp 12 (241, (168, 1415, false)) := ⟨_, rfl, ⟨_, rfl, ((lwd_44 7).trans rfl)⟩⟩
set_option maxRecDepth 100000 in
theorem pmMp_12_26 : pmMp 12 (244, (172, 1430, false)) := ⟨_, rfl, ⟨_, rfl, ((lwd_44 22).trans rfl)⟩⟩
set_option maxRecDepth 100000 in
theorem pmMp_12_27 : pmMp 12 (250, (167, 1411, false)) := ⟨_, rfl, ⟨_, rfl, ((lwd_44 3).trans rfl)⟩⟩
set_option maxRecDepth 100000 in
theorem pmMp_12_28 : pmMp 12 (253, (176, 1446, false)) := ⟨_, rfl, ⟨_, rfl, ((lwd_45 6).trans rfl)⟩⟩
set_option maxRecDepth 100000 in
theorem pmMp_12_29 : pmMp 12 (256, (177, 1450, false)) := ⟨_, rfl, ⟨_, rfl, ((lwd_45 10).trans rfl)⟩⟩
set_option maxRecDepth 100000 in
theorem pmMp_12_30 : pmMp 12 (259, (178, 1453, false)) := ⟨_, rfl, ⟨_, rfl, ((lwd_45 13).trans rfl)⟩⟩
set_option maxRecDepth 100000 in
theorem pmMp_12_31 : pmMp 12 (263, (180, 1461, false)) := ⟨_, rfl, ⟨_, rfl, ((lwd_45 21).trans rfl)⟩⟩
set_option maxRecDepth 100000 in
theorem pmMp_12_32 : pmMp 12 (266, (175, 1442, false)) := ⟨_, rfl, ⟨_, rfl, ((lwd_45 2).trans rfl)⟩⟩
set_option maxRecDepth 100000 in
theorem pmMp_12_33 : pmMp 12 (269, (179, 1457, false)) := ⟨_, rfl, ⟨_, rfl, ((lwd_45 17).trans rfl)⟩⟩
set_option maxRecDepth 100000 in
theorem pmMp_12_34 : pmMp 12 (272, (188, 1493, false)) := ⟨_, rfl, ⟨_, rfl, ((lwd_46 21).trans rfl)⟩⟩
set_option maxRecDepth 100000 in
theorem pmMp_12_35 : pmMp 12 (276, (192, 1509, false)) := ⟨_, rfl, ⟨_, rfl, ((lwd_47 5).trans rfl)⟩⟩
set_option maxRecDepth 100000 in
theorem pmMp_12_36 : pmMp 12 (279, (193, 1512, false)) := ⟨_, rfl, ⟨_, rfl, ((lwd_47 8).trans rfl)⟩⟩
set_option maxRecDepth 100000 in
theorem pmMp_12_37 : pmMp 12 (282, (194, 1515, false)) := ⟨_, rfl, ⟨_, rfl, ((lwd_47 11).trans rfl)⟩⟩
set_option maxRecDepth 100000 in
theorem pmMp_12_38 : pmMp 12 (285, (195, 1518, false)) := ⟨_, rfl, ⟨_, rfl, ((lwd_47 14).trans rfl)⟩⟩
set_option maxRecDepth 100000 in
theorem pmMp_12_39 : pmMp 12 (291, (191, 1505, false)) := ⟨_, rfl, ⟨_, rfl, ((lwd_47 1).trans rfl)⟩⟩
set_option maxRecDepth 100000 in
theorem pmMp_12_40 : pmMp 12 (297, (196, 1522, false)) := ⟨_, rfl, ⟨_, rfl, ((lwd_47 18).trans rfl)⟩⟩
set_option maxRecDepth 100000 in
theorem pmMp_12_41 : pmMp 12 (300, (187, 1489, false)) := ⟨_, rfl, ⟨_, rfl, ((lwd_46 17).trans rfl)⟩⟩
set_option maxRecDepth 100000 in
theorem pmMp_12_42 : pmMp 12 (309, (200, 1538, false)) := ⟨_, rfl, ⟨_, rfl, ((lwd_48 2).trans rfl)⟩⟩
set_option maxRecDepth 100000 in
theorem pmMp_12_43 : pmMp 12 (315, (190, 1501, false)) := ⟨_, rfl, ⟨_, rfl, ((lwd_46 29).trans rfl)⟩⟩
set_option maxRecDepth 100000 in
theorem pmMp_12_44 : pmMp 12 (321, (186, 1485, false)) := ⟨_, rfl, ⟨_, rfl, ((lwd_46 13).trans rfl)⟩⟩
set_option maxRecDepth 100000 in
theorem pmMp_12_45 : pmMp 12 (330, (199, 1534, false)) := ⟨_, rfl, ⟨_, rfl, ((lwd_47 30).trans rfl)⟩⟩
set_option maxRecDepth 100000 in
theorem pmMp_12_46 : pmMp 12 (333, (174, 1438, false)) := ⟨_, rfl, ⟨_, rfl, ((lwd_44 30).trans rfl)⟩⟩
set_option maxRecDepth 100000 in
theorem pmMp_12_47 : pmMp 12 (336, (181, 1465, false)) := ⟨_, rfl, ⟨_, rfl, ((lwd_45 25).trans rfl)⟩⟩
set_option maxRecDepth 100000 in
theorem pmMp_12_48 : pmMp 12 (339, (185, 1481, false)) := ⟨_, rfl, ⟨_, rfl, ((lwd_46 9).trans rfl)⟩⟩
set_option maxRecDepth 100000 in
theorem pmMp_12_49 : pmMp 12 (342, (184, 1477, false)) := ⟨_, rfl, ⟨_, rfl, ((lwd_46 5).trans rfl)⟩⟩
set_option maxRecDepth 100000 in
theorem pmMp_12_50 : pmMp 12 (345, (198, 1530, false)) := ⟨_, rfl, ⟨_, rfl, ((lwd_47 26).trans rfl)⟩⟩
set_option maxRecDepth 100000 in
theorem pmMp_12_51 : pmMp 12 (348, (207, 1569, false)) := ⟨_, rfl, ⟨_, rfl, ((lwd_49 1).trans rfl)⟩⟩
set_option maxRecDepth 100000 in
theorem pmMp_12_52 : pmMp 12 (351, (210, 1581, false)) := ⟨_, rfl, ⟨_, rfl, ((lwd_49 13).trans rfl)⟩⟩
set_option maxRecDepth 100000 in
theorem pmMp_12_53 : pmMp 12 (354, (211, 1585, false)) := ⟨_, rfl, ⟨_, rfl, ((lwd_49 17).trans rfl)⟩⟩
set_option maxRecDepth 100000 in
theorem pmMp_12_54 : pmMp 12 (357, (212, 1589, false)) := ⟨_, rfl, ⟨_, rfl, ((lwd_49 21).trans rfl)⟩⟩
set_option maxRecDepth 100000 in
theorem pmMp_12_55 : pmMp 12 (360, (213, 1593, false)) := ⟨_, rfl, ⟨_, rfl, ((lwd_49 25).trans rfl)⟩⟩
set_option maxRecDepth 100000 in
theorem pmMp_12_56 : pmMp 12 (364, (202, 1550, false)) := ⟨_, rfl, ⟨_, rfl, ((lwd_48 14).trans rfl)⟩⟩
set_option maxRecDepth 100000 in
theorem pmMp_12_57 : pmMp 12 (367, (209, 1577, false)) := ⟨_, rfl, ⟨_, rfl, ((lwd_49 9).trans rfl)⟩⟩
set_option maxRecDepth 100000 in
theorem pmMp_12_58 : pmMp 12 (370, (214, 1597, false)) := ⟨_, rfl, ⟨_, rfl, ((lwd_49 29).trans rfl)⟩⟩
set_option maxRecDepth 100000 in
theorem pmMp_12_59 : pmMp 12 (373, (205, 1562, false)) := ⟨_, rfl, ⟨_, rfl, ((lwd_48 26).trans rfl)⟩⟩
set_option maxRecDepth 100000 in
theorem pmMp_12_60 : pmMp 12 (377, (206, 1565, false)) := ⟨_, rfl, ⟨_, rfl, ((lwd_48 29).trans rfl)⟩⟩
set_option maxRecDepth 100000 in
theorem pmMp_12_61 : pmMp 12 (380, (208, 1573, false)) := ⟨_, rfl, ⟨_, rfl, ((lwd_49 5).trans rfl)⟩⟩
set_option maxRecDepth 100000 in
theorem pmMp_12_62 : pmMp 12 (383, (218, 1613, false)) := ⟨_, rfl, ⟨_, rfl, ((lwd_50 13).trans rfl)⟩⟩
set_option maxRecDepth 100000 in
theorem pmMp_12_63 : pmMp 12 (386, (219, 1617, false)) := ⟨_, rfl, ⟨_, rfl, ((lwd_50 17).trans rfl)⟩⟩
set_option maxRecDepth 100000 in
theorem pmMp_12_64 : pmMp 12 (389, (220, 1621, false)) := ⟨_, rfl, ⟨_, rfl, ((lwd_50 21).trans rfl)⟩⟩
set_option maxRecDepth 100000 in
theorem pmMp_12_65 : pmMp 12 (392, (217, 1609, false)) := ⟨_, rfl, ⟨_, rfl, ((lwd_50 9).trans rfl)⟩⟩
set_option maxRecDepth 100000 in
theorem pmMp_12_66 : pmMp 12 (395, (221, 1625, false)) := ⟨_, rfl, ⟨_, rfl, ((lwd_50 25).trans rfl)⟩⟩
set_option maxRecDepth 100000 in
theorem pmMp_12_67 : pmMp 12 (398, (216, 1605, false)) := ⟨_, rfl, ⟨_, rfl, ((lwd_50 5).trans rfl)⟩⟩
set_option maxRecDepth 100000 in
theorem pmMp_12_68 : pmMp 12 (401, (224, 1637, false)) := ⟨_, rfl, ⟨_, rfl, ((lwd_51 5).trans rfl)⟩⟩
set_option maxRecDepth 100000 in
theorem pmMp_12_69 : pmMp 12 (404, (227, 1649, false)) := ⟨_, rfl, ⟨_, rfl, ((lwd_51 17).trans rfl)⟩⟩
set_option maxRecDepth 100000 in
theorem pmMp_12_70 : pmMp 12 (407, (226, 1645, false)) := ⟨_, rfl, ⟨_, rfl, ((lwd_51 13).trans rfl)⟩⟩
set_option maxRecDepth 100000 in
theorem pmMp_12_71 : pmMp 12 (410, (225, 1641, false)) := ⟨_, rfl, ⟨_, rfl, ((lwd_51 9).trans rfl)⟩⟩
set_option maxRecDepth 100000 in
theorem pmMp_12_72 : pmMp 12 (413, (229, 1657, false)) := ⟨_, rfl, ⟨_, rfl, ((lwd_51 25).trans rfl)⟩⟩
set_option maxRecDepth 100000 in
theorem pmMp_12_73 : pmMp 12 (416, (228, 1653, false)) := ⟨_, rfl, ⟨_, rfl, ((lwd_51 21).trans rfl)⟩⟩
set_option maxRecDepth 100000 in
theorem pmMp_12_74 : pmMp 12 (419, (233, 1673, false)) := ⟨_, rfl, ⟨_, rfl, ((lwd_52 9).trans rfl)⟩⟩
set_option maxRecDepth 100000 in
theorem pmMp_12_75 : pmMp 12 (422, (234, 1677, false)) := ⟨_, rfl, ⟨_, rfl, ((lwd_52 13).trans rfl)⟩⟩
set_option maxRecDepth 100000 in
theorem pmMp_12_76 : pmMp 12 (425, (235, 1681, false)) := ⟨_, rfl, ⟨_, rfl, ((lwd_52 17).trans rfl)⟩⟩
set_option maxRecDepth 100000 in
theorem pmMp_12_77 : pmMp 12 (430, (238, 1695, false)) := ⟨_, rfl, ⟨_, rfl, ((lwd_52 31).trans rfl)⟩⟩
set_option maxRecDepth 100000 in
theorem pmMp_12_78 : pmMp 12 (433, (242, 1711, false)) := ⟨_, rfl, ⟨_, rfl, ((lwd_53 15).trans rfl)⟩⟩
set_option maxRecDepth 100000 in
theorem pmMp_12 : ∀ e ∈ (pmMt[12]?).getD [], pmMp 12 e := List.forall_mem_cons.mpr ⟨pmMp_12_0, List.forall_mem_cons.mpr ⟨pmMp_12_1, List.forall_mem_cons.mpr ⟨pmMp_12_2, List.forall_mem_cons.mpr ⟨pmMp_12_3, List.forall_mem_cons.mpr ⟨pmMp_12_4, List.forall_mem_cons.mpr ⟨pmMp_12_5, List.forall_mem_cons.mpr ⟨pmMp_12_6, List.forall_mem_cons.mpr ⟨pmMp_12_7, List.forall_mem_cons.mpr ⟨pmMp_12_8, List.forall_mem_cons.mpr ⟨pmMp_12_9, List.forall_mem_cons.mpr ⟨pmMp_12_10, List.forall_mem_cons.mpr ⟨pmMp_12_11, List.forall_mem_cons.mpr ⟨pmMp_12_12, List.forall_mem_cons.mpr ⟨pmMp_12_13, List.forall_mem_cons.mpr ⟨pmMp_12_14, List.forall_mem_cons.mpr ⟨pmMp_12_15, List.forall_mem_cons.mpr ⟨pmMp_12_16, List.forall_mem_cons.mpr ⟨pmMp_12_17, List.forall_mem_cons.mpr ⟨pmMp_12_18, List.forall_mem_cons.mpr ⟨pmMp_12_19, List.forall_mem_cons.mpr ⟨pmMp_12_20, List.forall_mem_cons.mpr ⟨pmMp_12_21, List.forall_mem_cons.mpr ⟨pmMp_12_22, List.forall_mem_cons.mpr ⟨pmMp_12_23, List.forall_mem_cons.mpr ⟨pmMp_12_24, List.forall_mem_cons.mpr ⟨pmMp_12_25, List.forall_mem_cons.mpr ⟨pmMp_12_26, List.forall_mem_cons.mpr ⟨pmMp_12_27, List.forall_mem_cons.mpr ⟨pmMp_12_28, List.forall_mem_cons.mpr ⟨pmMp_12_29, List.forall_mem_cons.mpr ⟨pmMp_12_30, List.forall_mem_cons.mpr ⟨pmMp_12_31, List.forall_mem_cons.mpr ⟨pmMp_12_32, List.forall_mem_cons.mpr ⟨pmMp_12_33, List.forall_mem_cons.mpr ⟨pmMp_12_34, List.forall_mem_cons.mpr ⟨pmMp_12_35, List.forall_mem_cons.mpr ⟨pmMp_12_36, List.forall_mem_cons.mpr ⟨pmMp_12_37, List.forall_mem_cons.mpr ⟨pmMp_12_38, List.forall_mem_cons.mpr ⟨pmMp_12_39, List.forall_mem_cons.mpr ⟨pmMp_12_40, List.forall_mem_cons.mpr ⟨pmMp_12_41, List.forall_mem_cons.mpr ⟨pmMp_12_42, List.forall_mem_cons.mpr ⟨pmMp_12_43, List.forall_mem_cons.mpr ⟨pmMp_12_44, List.forall_mem_cons.mpr ⟨pmMp_12_45, List.forall_mem_cons.mpr ⟨pmMp_12_46, List.forall_mem_cons.mpr ⟨pmMp_12_47, List.forall_mem_cons.mpr ⟨pmMp_12_48, List.forall_mem_cons.mpr ⟨pmMp_12_49, List.forall_mem_cons.mpr ⟨pmMp_12_50, List.forall_mem_cons.mpr ⟨pmMp_12_51, List.forall_mem_cons.mpr ⟨pmMp_12_52, List.forall_mem_cons.mpr ⟨pmMp_12_53, List.forall_mem_cons.mpr ⟨pmMp_12_54, List.forall_mem_cons.mpr ⟨pmMp_12_55, List.forall_mem_cons.mpr ⟨pmMp_12_56, List.forall_mem_cons.mpr ⟨pmMp_12_57, List.forall_mem_cons.mpr ⟨pmMp_12_58, List.forall_mem_cons.mpr ⟨pmMp_12_59, List.forall_mem_cons.mpr ⟨pmMp_12_60, List.forall_mem_cons.mpr ⟨pmMp_12_61, List.forall_mem_cons.mpr ⟨pmMp_12_62, List.forall_mem_cons.mpr ⟨pmMp_12_63, List.forall_mem_cons.mpr ⟨pmMp_12_64, List.forall_mem_cons.mpr ⟨pmMp_12_65, List.forall_mem_cons.mpr ⟨pmMp_12_66, List.forall_mem_cons.mpr ⟨pmMp_12_67, List.forall_mem_cons.mpr ⟨pmMp_12_68, List.forall_mem_cons.mpr ⟨pmMp_12_69, List.forall_mem_cons.mpr ⟨pmMp_12_70, List.forall_mem_cons.mpr ⟨pmMp_12_71, List.forall_mem_cons.mpr ⟨pmMp_12_72, List.forall_mem_cons.mpr ⟨pmMp_12_73, List.forall_mem_cons.mpr ⟨pmMp_12_74, List.forall_mem_cons.mpr ⟨pmMp_12_75, List.forall_mem_cons.mpr ⟨pmMp_12_76, List.forall_mem_cons.mpr ⟨pmMp_12_77, List.forall_mem_cons.mpr ⟨pmMp_12_78, fun _ h => absurd h List.not_mem_nil⟩⟩⟩⟩⟩⟩⟩⟩⟩⟩⟩⟩⟩⟩⟩⟩⟩⟩⟩⟩⟩⟩⟩⟩⟩⟩⟩⟩⟩⟩⟩⟩⟩⟩⟩⟩⟩⟩⟩⟩⟩⟩⟩⟩⟩⟩⟩⟩⟩⟩⟩⟩⟩⟩⟩⟩⟩⟩⟩⟩⟩⟩⟩⟩⟩⟩⟩⟩⟩⟩⟩⟩⟩⟩⟩⟩⟩⟩⟩
set_option maxRecDepth 100000 in
theorem pmMp_13_0 : pmMp 13 (9, (0, 157, false)) := ⟨_, rfl, ⟨_, rfl, ((lwd_4 29).trans rfl)⟩⟩
set_option maxRecDepth 100000 in
theorem pmMp_13_1 : pmMp 13 (12, (136, 1129, false)) := ⟨_, rfl, ⟨_, rfl, ((lwd_35 9).trans rfl)⟩⟩
set_option maxRecDepth 100000 in
theorem pmMp_13_2 : pmMp 13 (13, (13, 579, false)) := ⟨_, rfl, ⟨_, rfl, ((lwd_18 3).trans rfl)⟩⟩
set_option maxRecDepth 100000 in
theorem pmMp_13_3 : pmMp 13 (17, (137, 1298, false)) := ⟨_, rfl, ⟨_, rfl, ((lwd_40 18).trans rfl)⟩⟩
set_option maxRecDepth 100000 in
theorem pmMp_13_4 : pmMp 13 (18, (17, 594, false)) := ⟨_, rfl, ⟨_, rfl, ((lwd_18 18).trans rfl)⟩⟩
set_option maxRecDepth 100000 in
theorem pmMp_13_5 : pmMp 13 (21, (139, 1305, false)) := ⟨_, rfl, ⟨_, rfl, ((lwd_40 25).trans rfl)⟩⟩
set_option maxRecDepth 100000 in
theorem pmMp_13_6 : pmMp 13 (22, (20, 606, false)) := ⟨_, rfl, ⟨_, rfl, ((lwd_18 30).trans rfl)⟩⟩
set_option maxRecDepth 100000 in
theorem pmMp_13_7 : pmMp 13 (26, (141, 1312, false)) := ⟨_, rfl, ⟨_, rfl, ((lwd_41 0).trans rfl)⟩⟩
set_option maxRecDepth 100000 in
theorem pmMp_13_8 : pmMp 13 (27, (23, 617, false)) := ⟨_, rfl, ⟨_, rfl, ((lwd_19 9).trans rfl)⟩⟩
set_option maxRecDepth 100000 in
theorem pmMp_13_9 : pmMp 13 (30, (142, 1316, false)) := ⟨_, rfl, ⟨_, rfl, ((lwd_41 4).trans rfl)⟩⟩
set_option maxRecDepth 100000 in
theorem pmMp_13_10 : pmMp 13 (31, (25, 627, false)) := ⟨_, rfl, ⟨_, rfl, ((lwd_19 19).trans rfl)⟩⟩
set_option maxRecDepth 100000 in
theorem pmMp_13_11 : pmMp 13 (35, (145, 1326, false)) := ⟨_, rfl, ⟨_, rfl, ((lwd_41 14).trans rfl)⟩⟩
set_option maxRecDepth 100000 in
theorem pmMp_13_12 : pmMp 13 (36, (28, 638, false)) := ⟨_, rfl, ⟨_, rfl, ((lwd_19 30).trans rfl)⟩⟩
set_option maxRecDepth 100000 in
theorem pmMp_13_13 : pmMp 13 (39, (150, 1343, false)) := ⟨_, rfl, ⟨_, rfl, ((lwd_41 31).trans rfl)⟩⟩
set_option maxRecDepth 100000 in
theorem pmMp_13_14 : pmMp 13 (40, (29, 643, false)) := ⟨_, rfl, ⟨_, rfl, ((lwd_20 3).trans rfl)⟩⟩
set_option maxRecDepth 100000 in
theorem pmMp_13_15 : pmMp 13 (44, (151, 1347, false)) := ⟨_, rfl, ⟨_, rfl, ((lwd_42 3).trans rfl)⟩⟩
set_option maxRecDepth 100000 in
theorem pmMp_13_16 : pmMp 13 (45, (31, 651, false)) := ⟨_, rfl, ⟨_, rfl, ((lwd_20 11).trans rfl)⟩⟩
set_option maxRecDepth 100000 in
theorem pmMp_13_17 : pmMp 13 (49, (153, 1355, false)) := ⟨_, rfl, ⟨_, rfl, ((lwd_42 11).trans rfl)⟩⟩
set_option maxRecDepth 100000 in
theorem pmMp_13_18 : pmMp 13 (50, (47, 723, false)) := ⟨_, rfl, ⟨_, rfl, ((lwd_22 19).trans rfl)⟩⟩
set_option maxRecDepth 100000 in
theorem pmMp_13_19 : pmMp 13 (54, (166, 1407, false)) := ⟨_, rfl, ⟨_, rfl, ((lwd_43 31).trans rfl)⟩⟩
set_option maxRecDepth 100000 in
theorem pmMp_13_20 : pmMp 13 (55, (57, 767, false)) := ⟨_, rfl, ⟨_, rfl, ((lwd_23 31).trans rfl)⟩⟩
set_option maxRecDepth 100000 in
theorem pmMp_13_21 : pmMp 13 (59, (173, 1434, false)) := ⟨_, rfl, ⟨_, rfl, ((lwd_44 26).trans rfl)⟩⟩
set_option maxRecDepth 100000 in
theorem pmMp_13_22 : pmMp 13 (60, (68, 814, false)) := ⟨_, rfl, ⟨_, rfl, ((lwd_25 14).trans rfl)⟩⟩
set_option maxRecDepth 100000 in
theorem pmMp_13_23 : pmMp 13 (64, (182, 1469, false)) := ⟨_, rfl, ⟨_, rfl, ((lwd_45 29).trans rfl)⟩⟩
set_option maxRecDepth 100000 in
theorem pmMp_13_24 : pmMp 13 (65, (70, 822, false)) := ⟨_, rfl, ⟨_, rfl, ((lwd_25 22).trans rfl)⟩⟩
set_option maxRecDepth 100000 in
theorem pmMp_13_25 : pmMp 13 (69, (183, 1473, false)) := ⟨_, rfl, ⟨_, rfl, ((lwd_46 1).trans rfl)⟩⟩
set_option maxRecDepth 100000 in
theorem pmMp_13_26 : pmMp 13 (70, (76, 853, false)) := ⟨_, rfl, ⟨_, rfl, ((lwd_26 21).trans rfl)⟩⟩
set_option maxRecDepth 100000 in
theorem pmMp_13_27 : pmMp 13 (73, (189, 1497, false)) := ⟨_, rfl, ⟨_, rfl, ((lwd_46 25).trans rfl)⟩⟩
set_option maxRecDepth 100000 in
theorem pmMp_13_28 : pmMp 13 (74, (84, 888, false)) := ⟨_, rfl, ⟨_, rfl, ((lwd_27 24).trans rfl)⟩⟩
set_option maxRecDepth 100000 in
theorem pmMp_13_29 : pmMp 13 (77, (197, 1526, false)) := ⟨_, rfl, ⟨_, rfl, ((lwd_47 22).trans rfl)⟩⟩
set_option maxRecDepth 100000 in
theorem pmMp_13_30 : pmMp 13 (78, (87, 901, false)) := ⟨_, rfl, ⟨_, rfl, ((lwd_28 5).trans rfl)⟩⟩
set_option maxRecDepth 100000 in
theorem pmMp_13_31 : pmMp 13 (81, (204, 1558, false)) := ⟨_, rfl, ⟨_, rfl, ((lwd_48 22).trans rfl)⟩⟩
set_option maxRecDepth 100000 in
theorem pmMp_13_32 : pmMp 13 (82, (100, 957, false)) := ⟨_, rfl, ⟨_, rfl, ((lwd_29 29).trans rfl)⟩⟩
set_option maxRecDepth 100000 in
theorem pmMp_13_33 : pmMp 13 (85, (215, 1601, false)) := ⟨_, rfl, ⟨_, rfl, ((lwd_50 1).trans rfl)⟩⟩
set_option maxRecDepth 100000 in
theorem pmMp_13_34 : pmMp 13 (86, (106, 989, false)) := ⟨_, rfl, ⟨_, rfl, ((lwd_30 29).trans rfl)⟩⟩
set_option maxRecDepth 100000 in
theorem pmMp_13_35 : pmMp 13 (89, (222, 1629, false)) := ⟨_, rfl, ⟨_, rfl, ((lwd_50 29).trans rfl)⟩⟩
set_option maxRecDepth 100000 in
theorem pmMp_13_36 : pmMp 13 (90, (107, 993, false)) := ⟨_, rfl, ⟨_, rfl, ((lwd_31 1).trans rfl)⟩⟩
set_option maxRecDepth 100000 in
theorem pmMp_13_37 : pmMp 13 (93, (201, 1546, false)) := ⟨_, rfl, ⟨_, rfl, ((lwd_48 10).trans rfl)⟩⟩
set_option maxRecDepth 100000 in
theorem pmMp_13_38 : pmMp 13 (94, (109, 1001, false)) := ⟨_, rfl, ⟨_, rfl, ((lwd_31 9).trans rfl)⟩⟩
set_option maxRecDepth 100000 in
theorem pmMp_13_39 : pmMp 13 (97, (203, 1554, false)) := ⟨_, rfl, ⟨_, rfl, ((lwd_48 18).trans rfl)⟩⟩
set_option maxRecDepth 100000 in
theorem pmMp_13_40 : pmMp 13 (98, (110, 1005, false)) := ⟨_, rfl, ⟨_, rfl, ((lwd_31 13).trans rfl)⟩⟩
set_option maxRecDepth 100000 in
theorem pmMp_13_41 : pmMp 13 (101, (223, 1633, false)) := ⟨_, rfl, ⟨_, rfl, ((lwd_51 1).trans rfl)⟩⟩
set_option maxRecDepth 100000 in
theorem pmMp_13_42 : pmMp 13 (102, (114, 1028, false)) := ⟨_, rfl, ⟨_, rfl, ((lwd_32 4).trans rfl)⟩⟩
set_option maxRecDepth 100000 in
theorem pmMp_13_43 : pmMp 13 (106, (230, 1661, false)) := ⟨_, rfl, ⟨_, rfl, ((lwd_51 29).trans rfl)⟩⟩
set_option maxRecDepth 100000 in
theorem pmMp_13_44 : pmMp 13 (107, (115, 1032, false)) := ⟨_, rfl, ⟨_, rfl, ((lwd_32 8).trans rfl)⟩⟩
set_option maxRecDepth 100000 in
theorem pmMp_13_45 : pmMp 13 (110, (231, 1665, false)) := ⟨_, rfl, ⟨_, rfl, ((lwd_52 1).trans rfl)⟩⟩
set_option maxRecDepth 100000 in
theorem pmMp_13_46 : pmMp 13 (111, (116, 1036, false)) := ⟨_, rfl, ⟨_, rfl, ((lwd_32 12).trans rfl)⟩⟩
set_option maxRecDepth 100000 in
theorem pmMp_13_47 : pmMp 13 (114, (232, 1669, false)) := ⟨_, rfl, ⟨_, rfl, ((lwd_52 5).trans rfl)⟩⟩
set_option maxRecDepth 100000 in
theorem pmMp_13_48 : pmMp 13 (115, (119, 1053, false)) := ⟨_, rfl, ⟨_, rfl, ((lwd_32 29).trans rfl)⟩⟩
set_option maxRecDepth 100000 in
theorem pmMp_13_49 : pmMp 13 (118, (236, 1685, false)) := ⟨_, rfl, ⟨_, rfl, ((lwd_52 21).trans rfl)⟩⟩
set_option maxRecDepth 100000 in
theorem pmMp_13_50 : pmMp 13 (119, (120, 1057, false)) := ⟨_, rfl, ⟨_, rfl, ((lwd_33 1).trans rfl)⟩⟩
set_option maxRecDepth 100000 in
theorem pmMp_13_51 : pmMp 13 (123, (237, 1689, false)) := ⟨_, rfl, ⟨_, rfl, ((lwd_52 25).trans rfl)⟩⟩
set_option maxRecDepth 100000 in
theorem pmMp_13_52 : pmMp 13 (124, (124, 1077, false)) := ⟨_, rfl, ⟨_, rfl, ((lwd_33 21).trans rfl)⟩⟩
set_option maxRecDepth 100000 in
theorem pmMp_13_53 : pmMp 13 (127, (239, 1699, false)) := ⟨_, rfl, ⟨_, rfl, ((lwd_53 3).trans rfl)⟩⟩
set_option maxRecDepth 100000 in
theorem pmMp_13_54 : pmMp 13 (128, (127, 1090, false)) := ⟨_, rfl, ⟨_, rfl, ((lwd_34 2).trans rfl)⟩⟩
set_option maxRecDepth 100000 in
theorem pmMp_13_55 : pmMp 13 (131, (240, 1703, false)) := ⟨_, rfl, ⟨_, rfl, ((lwd_53 7).trans rfl)⟩⟩
set_option maxRecDepth 100000 in
theorem pmMp_13_56 : pmMp 13 (132, (129, 1098, false)) := ⟨_, rfl, ⟨_, rfl, ((lwd_34 10).trans rfl)⟩⟩
set_option maxRecDepth 100000 in
theorem pmMp_13_57 : pmMp 13 (135, (241, 1707, false)) := ⟨_, rfl, ⟨_, rfl, ((lwd_53 11).trans rfl)⟩⟩
set_option maxRecDepth 100000 in
theorem pmMp_13_58 : pmMp 13 (136, (132, 1110, false)) := ⟨_, rfl, ⟨_, rfl, ((lwd_34 22).trans rfl)⟩⟩
set_option maxRecDepth 100000 in
theorem pmMp_13_59 : pmMp 13 (139, (243, 1715, false)) := ⟨_, rfl, ⟨_, rfl, ((lwd_53 19).trans rfl)⟩⟩
set_option maxRecDepth 100000 in
theorem pmMp_13_60 : pmMp 13 (140, (133, 1114, false)) := ⟨_, rfl, ⟨_, rfl, ((lwd_34 26).trans rfl)⟩⟩
set_option maxRecDepth 100000 in
theorem pmMp_13_61 : pmMp 13 (143, (244, 1719, false)) := ⟨_, rfl, ⟨_, rfl, ((lwd_53 23).trans rfl)⟩⟩
set_option maxRecDepth 100000 in
theorem pmMp_13_62 : pmMp 13 (144, (134, 1118, false)) := ⟨_, rfl, ⟨_, rfl, ((lwd_34 30).trans rfl)⟩⟩
set_option maxRecDepth 100000 in
theorem pmMp_13_63 : pmMp 13 (147, (245, 1723, false)) := ⟨_, rfl, ⟨_, rfl, ((lwd_53 27).trans rfl)⟩⟩
set_option maxRecDepth 100000 in
theorem pmMp_13 : ∀ e ∈ (pmMt[13]?).getD [], pmMp 13 e := List.forall_mem_cons.mpr ⟨pmMp_13_0, List.forall_mem_cons.mpr ⟨pmMp_13_1, List.forall_mem_cons.mpr ⟨pmMp_13_2, List.forall_mem_cons.mpr ⟨pmMp_13_3, List.forall_mem_cons.mpr ⟨pmMp_13_4, List.forall_mem_cons.mpr ⟨pmMp_13_5, List.forall_mem_cons.mpr ⟨pmMp_13_6, List.forall_mem_cons.mpr ⟨pmMp_13_7, List.forall_mem_cons.mpr ⟨pmMp_13_8, List.forall_mem_cons.mpr ⟨pmMp_13_9, List.forall_mem_cons.mpr ⟨pmMp_13_10, List.forall_mem_cons.mpr ⟨pmMp_13_11, List.forall_mem_cons.mpr ⟨pmMp_13_12, List.forall_mem_cons.mpr ⟨pmMp_13_13, List.forall_mem_cons.mpr ⟨pmMp_13_14, List.forall_mem_cons.mpr ⟨pmMp_13_15, List.forall_mem_cons.mpr ⟨pmMp_13_16, List.forall_mem_cons.mpr ⟨pmMp_13_17, List.forall_mem_cons.mpr ⟨pmMp_13_18, List.forall_mem_cons.mpr ⟨pmMp_13_19, List.forall_mem_cons.mpr ⟨pmMp_13_20, List.forall_mem_cons.mpr ⟨pmMp_13_21, List.forall_mem_cons.mpr ⟨pmMp_13_22, List.forall_mem_cons.mpr ⟨pmMp_13_23, List.forall_mem_cons.mpr ⟨pmMp_13_24, List.forall_mem_cons.mpr ⟨pmMp_13_25, List.forall_mem_cons.mpr ⟨pmMp_13_26, List.forall_mem_cons.mpr ⟨pmMp_13_27, List.forall_mem_cons.mpr ⟨pmMp_13_28, List.forall_mem_cons.mpr ⟨pmMp_13_29, List.forall_mem_cons.mpr ⟨pmMp_13_30, List.forall_mem_cons.mpr ⟨pmMp_13_31, List.forall_mem_cons.mpr ⟨pmMp_13_32, List.forall_mem_cons.mpr ⟨pmMp_13_33, List.forall_mem_cons.mpr ⟨pmMp_13_34, List.forall_mem_cons.mpr ⟨pmMp_13_35, List.forall_mem_cons.mpr ⟨pmMp_13_36, List.forall_mem_cons.mpr ⟨pmMp_13_37, List.forall_mem_cons.mpr ⟨pmMp_13_38, List.forall_mem_cons.mpr ⟨pmMp_13_39, List.forall_mem_cons.mpr ⟨pmMp_13_40, List.forall_mem_cons.mpr ⟨pmMp_13_41, List.forall_mem_cons.mpr ⟨pmMp_13_42, List.forall_mem_cons.mpr ⟨pmMp_13_43, List.forall_mem_cons.mpr ⟨pmMp_13_44, List.forall_mem_cons.mpr ⟨pmMp_13_45, List.forall_mem_cons.mpr ⟨pmMp_13_46, List.forall_mem_cons.mpr ⟨pmMp_13_47, List.forall_mem_cons.mpr ⟨pmMp_13_48, List.forall_mem_cons.mpr ⟨pmMp_13_49, List.forall_mem_cons.mpr ⟨pmMp_13_50, List.forall_mem_cons.mpr ⟨pmMp_13_51, List.forall_mem_cons.mpr ⟨pmMp_13_52, List.forall_mem_cons.mpr ⟨pmMp_13_53, List.forall_mem_cons.mpr ⟨pmMp_13_54, List.forall_mem_cons.mpr ⟨pmMp_13_55, List.forall_mem_cons.mpr ⟨pmMp_13_56, List.forall_mem_cons.mpr ⟨pmMp_13_57, List.forall_mem_cons.mpr ⟨pmMp_13_58, List.forall_mem_cons.mpr ⟨pmMp_13_59, List.forall_mem_cons.mpr ⟨pmMp_13_60, List.forall_mem_cons.mpr ⟨pmMp_13_61, List.forall_mem_cons.mpr ⟨pmMp_13_62, List.forall_mem_cons.mpr ⟨pmMp_13_63, fun _ h => absurd h List.not_mem_nil⟩⟩⟩⟩⟩⟩⟩⟩⟩⟩⟩⟩⟩⟩⟩⟩⟩⟩⟩⟩⟩⟩⟩⟩⟩⟩⟩⟩⟩⟩⟩⟩⟩⟩⟩⟩⟩⟩⟩⟩⟩⟩⟩⟩⟩⟩⟩⟩⟩⟩⟩⟩⟩⟩⟩⟩⟩⟩⟩⟩⟩⟩⟩⟩
set_option maxRecDepth 100000 in
theorem pmMp_14 : ∀ e ∈ (pmMt[14]?).getD [], pmMp 14 e := fun _ h => absurd h List.not_mem_nil
set_option maxRecDepth 100000 in
theorem pmMp_15 : ∀ e ∈ (pmMt[15]?).getD [], pmMp 15 e := fun _ h => absurd h List.not_mem_nil
set_option maxRecDepth 100000 in
theorem pmMp_all (o : Nat) : ∀ e ∈ (pmMt[o]?).getD [], pmMp o e := match o with
  | 0 => pmMp_0
  | 1 => pmMp_1
  | 2 => pmMp_2
  | 3 => pmMp_3
  | 4 => pmMp_4
  | 5 => pmMp_5
  | 6 => pmMp_6
  | 7 => pmMp_7
  | 8 => pmMp_8
  | 9 => pmMp_9
  | 10 => pmMp_10
  | 11 => pmMp_11
  | 12 => pmMp_12
  | 13 => pmMp_13
  | 14 => pmMp_14
  | 15 => pmMp_15
  | n + 16 => by rw [List.getElem?_eq_none (by show 16 ≤ n + 16; omega)]; exact fun _ h => absurd h List.not_mem_nil
set_option maxRecDepth 100000 in
theorem pmCp_0 : ∀ e ∈ (pmCt[0]?).getD [], pmCp 0 e := fun _ h => absurd h List.not_mem_nil
set_option maxRecDepth 100000 in
theorem pmCp_1 : ∀ e ∈ (pmCt[1]?).getD [], pmCp 1 e := fun _ h => absurd h List.not_mem_nil
set_option maxRecDepth 100000 in
theorem pmCp_2 : ∀ e ∈ (pmCt[2]?).getD [], pmCp 2 e := fun _ h => absurd h List.not_mem_nil
set_option maxRecDepth 100000 in
theorem pmCp_3_0 : pmCp 3 (88, (100000, 844)) := ⟨_, rfl, ((lwd_26 12).trans rfl)⟩
set_option maxRecDepth 100000 in
theorem pmCp_3 : ∀ e ∈ (pmCt[3]?).getD [], pmCp 3 e := List.forall_mem_cons.mpr ⟨pmCp_3_0, fun _ h => absurd h List.not_mem_nil⟩
set_option maxRecDepth 100000 in
theorem pmCp_4_0 : pmCp 4 (135, (65535, 1067)) := ⟨_, rfl, ((lwd_33 11).trans rfl)⟩
set_option maxRecDepth 100000 in
theorem pmCp_4 : ∀ e ∈ (pmCt[4]?).getD [], pmCp 4 e := List.forall_mem_cons.mpr ⟨pmCp_4_0, fun _ h => absurd h List.not_mem_nil⟩
set_option maxRecDepth 100000 in
theorem pmCp_5 : ∀ e ∈ (pmCt[5]?).getD [], pmCp 5 e := fun _ h => absurd h List.not_mem_nil
set_option maxRecDepth 100000 in
theorem pmCp_6 : ∀ e ∈ (pmCt[6]?).getD [], pmCp 6 e := fun _ h => absurd h List.not_mem_nil
set_option maxRecDepth 100000 in
theorem pmCp_7 : ∀ e ∈ (pmCt[7]?).getD [], pmCp 7 e := fun _ h => absurd h List.not_mem_nil
set_option maxRecDepth 100000 in
theorem pmCp_8 : ∀ e ∈ (pmCt[8]?).getD [], pmCp 8 e := fun _ h => absurd h List.not_mem_nil
set_option maxRecDepth 100000 in
theorem pmCp_9 : ∀ e ∈ (pmCt[9]?).getD [], pmCp 9 e := fun _ h => absurd h List.not_mem_nil
set_option maxRecDepth 100000 in
theorem pmCp_10 : ∀ e ∈ (pmCt[10]?).getD [], pmCp 10 e := fun _ h => absurd h List.not_mem_nil
set_option maxRecDepth 100000 in
theorem pmCp_11_0 : pmCp 11 (271, (65535, 1061)) := ⟨_, rfl, ((lwd_33 5).trans rfl)⟩
set_option maxRecDepth 100000 in
theorem pmCp_11 : ∀ e ∈ (pmCt[11]?).getD [], pmCp 11 e := List.forall_mem_cons.mpr ⟨pmCp_11_0, fun _ h => absurd h List.not_mem_nil⟩
set_option maxRecDepth 100000 in
theorem pmCp_12_0 : pmCp 12 (428, (65535, 1693)) := ⟨_, rfl, ((lwd_52 29).trans rfl)⟩
set_option maxRecDepth 100000 in
theorem pmCp_12_1 : pmCp 12 (429, (65536, 1694)) := ⟨_, rfl, ((lwd_52 30).trans rfl)⟩
set_option maxRecDepth 100000 in
theorem pmCp_12 : ∀ e ∈ (pmCt[12]?).getD [], pmCp 12 e := List.forall_mem_cons.mpr ⟨pmCp_12_0, List.forall_mem_cons.mpr ⟨pmCp_12_1, fun _ h => absurd h List.not_mem_nil⟩⟩
set_option maxRecDepth 100000 in
theorem pmCp_13 : ∀ e ∈ (pmCt[13]?).getD [], pmCp 13 e := fun _ h => absurd h List.not_mem_nil
set_option maxRecDepth 100000 in
theorem pmCp_14_0 : pmCp 14 (265, (1431655765, 624)) := ⟨_, rfl, ((lwd_19 16).trans rfl)⟩
set_option maxRecDepth 100000 in
theorem pmCp_14_1 : pmCp 14 (266, (858993459, 625)) := ⟨_, rfl, ((lwd_19 17).trans rfl)⟩
set_option maxRecDepth 100000 in
theorem pmCp_14_2 : pmCp 14 (267, (252645135, 626)) := ⟨_, rfl, ((lwd_19 18).trans rfl)⟩
set_option maxRecDepth 100000 in
theorem pmCp_14 : ∀ e ∈ (pmCt[14]?).getD [], pmCp 14 e := List.forall_mem_cons.mpr ⟨pmCp_14_0, List.forall_mem_cons.mpr ⟨pmCp_14_1, List.forall_mem_cons.mpr ⟨pmCp_14_2, fun _ h => absurd h List.not_mem_nil⟩⟩⟩
set_option maxRecDepth 100000 in
theorem pmCp_15 : ∀ e ∈ (pmCt[15]?).getD [], pmCp 15 e := fun _ h => absurd h List.not_mem_nil
set_option maxRecDepth 100000 in
theorem pmCp_all (o : Nat) : ∀ e ∈ (pmCt[o]?).getD [], pmCp o e := match o with
  | 0 => pmCp_0
  | 1 => pmCp_1
  | 2 => pmCp_2
  | 3 => pmCp_3
  | 4 => pmCp_4
  | 5 => pmCp_5
  | 6 => pmCp_6
  | 7 => pmCp_7
  | 8 => pmCp_8
  | 9 => pmCp_9
  | 10 => pmCp_10
  | 11 => pmCp_11
  | 12 => pmCp_12
  | 13 => pmCp_13
  | 14 => pmCp_14
  | 15 => pmCp_15
  | n + 16 => by rw [List.getElem?_eq_none (by show 16 ≤ n + 16; omega)]; exact fun _ h => absurd h List.not_mem_nil
set_option maxRecDepth 100000 in
theorem pmLp_0 : ∀ e ∈ (pmLt[0]?).getD [], pmLp 0 e := fun _ h => absurd h List.not_mem_nil
set_option maxRecDepth 100000 in
theorem pmLp_1 : ∀ e ∈ (pmLt[1]?).getD [], pmLp 1 e := fun _ h => absurd h List.not_mem_nil
set_option maxRecDepth 100000 in
theorem pmLp_2 : ∀ e ∈ (pmLt[2]?).getD [], pmLp 2 e := fun _ h => absurd h List.not_mem_nil
set_option maxRecDepth 100000 in
theorem pmLp_3_0 : pmLp 3 (57, (-1, 863)) := ⟨_, rfl, ((lwd_26 31).trans rfl)⟩
set_option maxRecDepth 100000 in
theorem pmLp_3_1 : pmLp 3 (59, (511, 897)) := ⟨_, rfl, ((lwd_28 1).trans rfl)⟩
set_option maxRecDepth 100000 in
theorem pmLp_3_2 : pmLp 3 (82, (-7046029254386353131, 861)) := ⟨_, rfl, ((lwd_26 29).trans rfl)⟩
set_option maxRecDepth 100000 in
theorem pmLp_3 : ∀ e ∈ (pmLt[3]?).getD [], pmLp 3 e := List.forall_mem_cons.mpr ⟨pmLp_3_0, List.forall_mem_cons.mpr ⟨pmLp_3_1, List.forall_mem_cons.mpr ⟨pmLp_3_2, fun _ h => absurd h List.not_mem_nil⟩⟩⟩
set_option maxRecDepth 100000 in
theorem pmLp_4_0 : pmLp 4 (121, (-1, 791)) := ⟨_, rfl, ((lwd_24 23).trans rfl)⟩
set_option maxRecDepth 100000 in
theorem pmLp_4 : ∀ e ∈ (pmLt[4]?).getD [], pmLp 4 e := List.forall_mem_cons.mpr ⟨pmLp_4_0, fun _ h => absurd h List.not_mem_nil⟩
set_option maxRecDepth 100000 in
theorem pmLp_5_0 : pmLp 5 (46, (15, 879)) := ⟨_, rfl, ((lwd_27 15).trans rfl)⟩
set_option maxRecDepth 100000 in
theorem pmLp_5_1 : pmLp 5 (48, (-1, 880)) := ⟨_, rfl, ((lwd_27 16).trans rfl)⟩
set_option maxRecDepth 100000 in
theorem pmLp_5_2 : pmLp 5 (50, (8, 881)) := ⟨_, rfl, ((lwd_27 17).trans rfl)⟩
set_option maxRecDepth 100000 in
theorem pmLp_5 : ∀ e ∈ (pmLt[5]?).getD [], pmLp 5 e := List.forall_mem_cons.mpr ⟨pmLp_5_0, List.forall_mem_cons.mpr ⟨pmLp_5_1, List.forall_mem_cons.mpr ⟨pmLp_5_2, fun _ h => absurd h List.not_mem_nil⟩⟩⟩
set_option maxRecDepth 100000 in
theorem pmLp_6 : ∀ e ∈ (pmLt[6]?).getD [], pmLp 6 e := fun _ h => absurd h List.not_mem_nil
set_option maxRecDepth 100000 in
theorem pmLp_7 : ∀ e ∈ (pmLt[7]?).getD [], pmLp 7 e := fun _ h => absurd h List.not_mem_nil
set_option maxRecDepth 100000 in
theorem pmLp_8 : ∀ e ∈ (pmLt[8]?).getD [], pmLp 8 e := fun _ h => absurd h List.not_mem_nil
set_option maxRecDepth 100000 in
theorem pmLp_9 : ∀ e ∈ (pmLt[9]?).getD [], pmLp 9 e := fun _ h => absurd h List.not_mem_nil
set_option maxRecDepth 100000 in
theorem pmLp_10_0 : pmLp 10 (27, (4369, 300)) := ⟨_, rfl, ((lwd_9 12).trans rfl)⟩
set_option maxRecDepth 100000 in
theorem pmLp_10 : ∀ e ∈ (pmLt[10]?).getD [], pmLp 10 e := List.forall_mem_cons.mpr ⟨pmLp_10_0, fun _ h => absurd h List.not_mem_nil⟩
set_option maxRecDepth 100000 in
theorem pmLp_11_0 : pmLp 11 (223, (-1, 605)) := ⟨_, rfl, ((lwd_18 29).trans rfl)⟩
set_option maxRecDepth 100000 in
theorem pmLp_11_1 : pmLp 11 (331, (15, 604)) := ⟨_, rfl, ((lwd_18 28).trans rfl)⟩
set_option maxRecDepth 100000 in
theorem pmLp_11 : ∀ e ∈ (pmLt[11]?).getD [], pmLp 11 e := List.forall_mem_cons.mpr ⟨pmLp_11_0, List.forall_mem_cons.mpr ⟨pmLp_11_1, fun _ h => absurd h List.not_mem_nil⟩⟩
set_option maxRecDepth 100000 in
theorem pmLp_12_0 : pmLp 12 (303, (4, 1542)) := ⟨_, rfl, ((lwd_48 6).trans rfl)⟩
set_option maxRecDepth 100000 in
theorem pmLp_12_1 : pmLp 12 (305, (3, 1543)) := ⟨_, rfl, ((lwd_48 7).trans rfl)⟩
set_option maxRecDepth 100000 in
theorem pmLp_12_2 : pmLp 12 (307, (16, 1544)) := ⟨_, rfl, ((lwd_48 8).trans rfl)⟩
set_option maxRecDepth 100000 in
theorem pmLp_12_3 : pmLp 12 (313, (4093, 1545)) := ⟨_, rfl, ((lwd_48 9).trans rfl)⟩
set_option maxRecDepth 100000 in
theorem pmLp_12 : ∀ e ∈ (pmLt[12]?).getD [], pmLp 12 e := List.forall_mem_cons.mpr ⟨pmLp_12_0, List.forall_mem_cons.mpr ⟨pmLp_12_1, List.forall_mem_cons.mpr ⟨pmLp_12_2, List.forall_mem_cons.mpr ⟨pmLp_12_3, fun _ h => absurd h List.not_mem_nil⟩⟩⟩⟩
set_option maxRecDepth 100000 in
theorem pmLp_13 : ∀ e ∈ (pmLt[13]?).getD [], pmLp 13 e := fun _ h => absurd h List.not_mem_nil
set_option maxRecDepth 100000 in
theorem pmLp_14 : ∀ e ∈ (pmLt[14]?).getD [], pmLp 14 e := fun _ h => absurd h List.not_mem_nil
set_option maxRecDepth 100000 in
theorem pmLp_15 : ∀ e ∈ (pmLt[15]?).getD [], pmLp 15 e := fun _ h => absurd h List.not_mem_nil
set_option maxRecDepth 100000 in
theorem pmLp_all (o : Nat) : ∀ e ∈ (pmLt[o]?).getD [], pmLp o e := match o with
  | 0 => pmLp_0
  | 1 => pmLp_1
  | 2 => pmLp_2
  | 3 => pmLp_3
  | 4 => pmLp_4
  | 5 => pmLp_5
  | 6 => pmLp_6
  | 7 => pmLp_7
  | 8 => pmLp_8
  | 9 => pmLp_9
  | 10 => pmLp_10
  | 11 => pmLp_11
  | 12 => pmLp_12
  | 13 => pmLp_13
  | 14 => pmLp_14
  | 15 => pmLp_15
  | n + 16 => by rw [List.getElem?_eq_none (by show 16 ≤ n + 16; omega)]; exact fun _ h => absurd h List.not_mem_nil
set_option maxRecDepth 100000 in
theorem pmNp_0_0 : pmNp 0 (9, (10, 515)) := ⟨_, _, _, _, rfl, rfl, ((lwd_16 3).trans rfl)⟩
set_option maxRecDepth 100000 in
theorem pmNp_0 : ∀ e ∈ (pmNt[0]?).getD [], pmNp 0 e := List.forall_mem_cons.mpr ⟨pmNp_0_0, fun _ h => absurd h List.not_mem_nil⟩
set_option maxRecDepth 100000 in
theorem pmNp_1 : ∀ e ∈ (pmNt[1]?).getD [], pmNp 1 e := fun _ h => absurd h List.not_mem_nil
set_option maxRecDepth 100000 in
theorem pmNp_2 : ∀ e ∈ (pmNt[2]?).getD [], pmNp 2 e := fun _ h => absurd h List.not_mem_nil
set_option maxRecDepth 100000 in
theorem pmNp_3 : ∀ e ∈ (pmNt[3]?).getD [], pmNp 3 e := fun _ h => absurd h List.not_mem_nil
set_option maxRecDepth 100000 in
theorem pmNp_4 : ∀ e ∈ (pmNt[4]?).getD [], pmNp 4 e := fun _ h => absurd h List.not_mem_nil
set_option maxRecDepth 100000 in
theorem pmNp_5 : ∀ e ∈ (pmNt[5]?).getD [], pmNp 5 e := fun _ h => absurd h List.not_mem_nil
set_option maxRecDepth 100000 in
theorem pmNp_6 : ∀ e ∈ (pmNt[6]?).getD [], pmNp 6 e := fun _ h => absurd h List.not_mem_nil
set_option maxRecDepth 100000 in
theorem pmNp_7_0 : pmNp 7 (9, (10, 490)) := ⟨_, _, _, _, rfl, rfl, ((lwd_15 10).trans rfl)⟩
set_option maxRecDepth 100000 in
theorem pmNp_7 : ∀ e ∈ (pmNt[7]?).getD [], pmNp 7 e := List.forall_mem_cons.mpr ⟨pmNp_7_0, fun _ h => absurd h List.not_mem_nil⟩
set_option maxRecDepth 100000 in
theorem pmNp_8 : ∀ e ∈ (pmNt[8]?).getD [], pmNp 8 e := fun _ h => absurd h List.not_mem_nil
set_option maxRecDepth 100000 in
theorem pmNp_9 : ∀ e ∈ (pmNt[9]?).getD [], pmNp 9 e := fun _ h => absurd h List.not_mem_nil
set_option maxRecDepth 100000 in
theorem pmNp_10 : ∀ e ∈ (pmNt[10]?).getD [], pmNp 10 e := fun _ h => absurd h List.not_mem_nil
set_option maxRecDepth 100000 in
theorem pmNp_11_0 : pmNp 11 (7, (6, 163)) := ⟨_, _, _, _, rfl, rfl, ((lwd_5 3).trans rfl)⟩
set_option maxRecDepth 100000 in
theorem pmNp_11_1 : pmNp 11 (16, (5, 191)) := ⟨_, _, _, _, rfl, rfl, ((lwd_5 31).trans rfl)⟩
set_option maxRecDepth 100000 in
theorem pmNp_11_2 : pmNp 11 (23, (9, 227)) := ⟨_, _, _, _, rfl, rfl, ((lwd_7 3).trans rfl)⟩
set_option maxRecDepth 100000 in
theorem pmNp_11_3 : pmNp 11 (30, (2, 254)) := ⟨_, _, _, _, rfl, rfl, ((lwd_7 30).trans rfl)⟩
set_option maxRecDepth 100000 in
theorem pmNp_11_4 : pmNp 11 (37, (10, 294)) := ⟨_, _, _, _, rfl, rfl, ((lwd_9 6).trans rfl)⟩
set_option maxRecDepth 100000 in
theorem pmNp_11_5 : pmNp 11 (47, (8, 371)) := ⟨_, _, _, _, rfl, rfl, ((lwd_11 19).trans rfl)⟩
set_option maxRecDepth 100000 in
theorem pmNp_11_6 : pmNp 11 (56, (1, 389)) := ⟨_, _, _, _, rfl, rfl, ((lwd_12 5).trans rfl)⟩
set_option maxRecDepth 100000 in
theorem pmNp_11_7 : pmNp 11 (65, (3, 412)) := ⟨_, _, _, _, rfl, rfl, ((lwd_12 28).trans rfl)⟩
set_option maxRecDepth 100000 in
theorem pmNp_11_8 : pmNp 11 (74, (4, 464)) := ⟨_, _, _, _, rfl, rfl, ((lwd_14 16).trans rfl)⟩
set_option maxRecDepth 100000 in
theorem pmNp_11_9 : pmNp 11 (83, (7, 484)) := ⟨_, _, _, _, rfl, rfl, ((lwd_15 4).trans rfl)⟩
set_option maxRecDepth 100000 in
theorem pmNp_11_10 : pmNp 11 (92, (0, 509)) := ⟨_, _, _, _, rfl, rfl, ((lwd_15 29).trans rfl)⟩
set_option maxRecDepth 100000 in
theorem pmNp_11 : ∀ e ∈ (pmNt[11]?).getD [], pmNp 11 e := List.forall_mem_cons.mpr ⟨pmNp_11_0, List.forall_mem_cons.mpr ⟨pmNp_11_1, List.forall_mem_cons.mpr ⟨pmNp_11_2, List.forall_mem_cons.mpr ⟨pmNp_11_3, List.forall_mem_cons.mpr ⟨pmNp_11_4, List.forall_mem_cons.mpr ⟨pmNp_11_5, List.forall_mem_cons.mpr ⟨pmNp_11_6, List.forall_mem_cons.mpr ⟨pmNp_11_7, List.forall_mem_cons.mpr ⟨pmNp_11_8, List.forall_mem_cons.mpr ⟨pmNp_11_9, List.forall_mem_cons.mpr ⟨pmNp_11_10, fun _ h => absurd h List.not_mem_nil⟩⟩⟩⟩⟩⟩⟩⟩⟩⟩⟩
set_option maxRecDepth 100000 in
theorem pmNp_12 : ∀ e ∈ (pmNt[12]?).getD [], pmNp 12 e := fun _ h => absurd h List.not_mem_nil
set_option maxRecDepth 100000 in
theorem pmNp_13_0 : pmNp 13 (7, (11, 155)) := ⟨_, _, _, _, rfl, rfl, ((lwd_4 27).trans rfl)⟩
set_option maxRecDepth 100000 in
theorem pmNp_13_1 : pmNp 13 (10, (12, 1127)) := ⟨_, _, _, _, rfl, rfl, ((lwd_35 7).trans rfl)⟩
set_option maxRecDepth 100000 in
theorem pmNp_13 : ∀ e ∈ (pmNt[13]?).getD [], pmNp 13 e := List.forall_mem_cons.mpr ⟨pmNp_13_0, List.forall_mem_cons.mpr ⟨pmNp_13_1, fun _ h => absurd h List.not_mem_nil⟩⟩
set_option maxRecDepth 100000 in
theorem pmNp_14 : ∀ e ∈ (pmNt[14]?).getD [], pmNp 14 e := fun _ h => absurd h List.not_mem_nil
set_option maxRecDepth 100000 in
theorem pmNp_15 : ∀ e ∈ (pmNt[15]?).getD [], pmNp 15 e := fun _ h => absurd h List.not_mem_nil
set_option maxRecDepth 100000 in
theorem pmNp_all (o : Nat) : ∀ e ∈ (pmNt[o]?).getD [], pmNp o e := match o with
  | 0 => pmNp_0
  | 1 => pmNp_1
  | 2 => pmNp_2
  | 3 => pmNp_3
  | 4 => pmNp_4
  | 5 => pmNp_5
  | 6 => pmNp_6
  | 7 => pmNp_7
  | 8 => pmNp_8
  | 9 => pmNp_9
  | 10 => pmNp_10
  | 11 => pmNp_11
  | 12 => pmNp_12
  | 13 => pmNp_13
  | 14 => pmNp_14
  | 15 => pmNp_15
  | n + 16 => by rw [List.getElem?_eq_none (by show 16 ≤ n + 16; omega)]; exact fun _ h => absurd h List.not_mem_nil
set_option maxRecDepth 100000 in
theorem pmGp_0 : ∀ e ∈ (pmGt[0]?).getD [], pmGp 0 e := fun _ h => absurd h List.not_mem_nil
set_option maxRecDepth 100000 in
theorem pmGp_1 : ∀ e ∈ (pmGt[1]?).getD [], pmGp 1 e := fun _ h => absurd h List.not_mem_nil
set_option maxRecDepth 100000 in
theorem pmGp_2 : ∀ e ∈ (pmGt[2]?).getD [], pmGp 2 e := fun _ h => absurd h List.not_mem_nil
set_option maxRecDepth 100000 in
theorem pmGp_3_0 : pmGp 3 (68, 834) := ⟨_, rfl, ((lwd_26 2).trans rfl)⟩
set_option maxRecDepth 100000 in
theorem pmGp_3 : ∀ e ∈ (pmGt[3]?).getD [], pmGp 3 e := List.forall_mem_cons.mpr ⟨pmGp_3_0, fun _ h => absurd h List.not_mem_nil⟩
set_option maxRecDepth 100000 in
theorem pmGp_4 : ∀ e ∈ (pmGt[4]?).getD [], pmGp 4 e := fun _ h => absurd h List.not_mem_nil
set_option maxRecDepth 100000 in
theorem pmGp_5 : ∀ e ∈ (pmGt[5]?).getD [], pmGp 5 e := fun _ h => absurd h List.not_mem_nil
set_option maxRecDepth 100000 in
theorem pmGp_6 : ∀ e ∈ (pmGt[6]?).getD [], pmGp 6 e := fun _ h => absurd h List.not_mem_nil
set_option maxRecDepth 100000 in
theorem pmGp_7 : ∀ e ∈ (pmGt[7]?).getD [], pmGp 7 e := fun _ h => absurd h List.not_mem_nil
set_option maxRecDepth 100000 in
theorem pmGp_8 : ∀ e ∈ (pmGt[8]?).getD [], pmGp 8 e := fun _ h => absurd h List.not_mem_nil
set_option maxRecDepth 100000 in
theorem pmGp_9 : ∀ e ∈ (pmGt[9]?).getD [], pmGp 9 e := fun _ h => absurd h List.not_mem_nil
set_option maxRecDepth 100000 in
theorem pmGp_10 : ∀ e ∈ (pmGt[10]?).getD [], pmGp 10 e := fun _ h => absurd h List.not_mem_nil
set_option maxRecDepth 100000 in
theorem pmGp_11 : ∀ e ∈ (pmGt[11]?).getD [], pmGp 11 e := fun _ h => absurd h List.not_mem_nil
set_option maxRecDepth 100000 in
theorem pmGp_12 : ∀ e ∈ (pmGt[12]?).getD [], pmGp 12 e := fun _ h => absurd h List.not_mem_nil
set_option maxRecDepth 100000 in
theorem pmGp_13 : ∀ e ∈ (pmGt[13]?).getD [], pmGp 13 e := fun _ h => absurd h List.not_mem_nil
set_option maxRecDepth 100000 in
theorem pmGp_14 : ∀ e ∈ (pmGt[14]?).getD [], pmGp 14 e := fun _ h => absurd h List.not_mem_nil
set_option maxRecDepth 100000 in
theorem pmGp_15 : ∀ e ∈ (pmGt[15]?).getD [], pmGp 15 e := fun _ h => absurd h List.not_mem_nil
set_option maxRecDepth 100000 in
theorem pmGp_all (o : Nat) : ∀ e ∈ (pmGt[o]?).getD [], pmGp o e := match o with
  | 0 => pmGp_0
  | 1 => pmGp_1
  | 2 => pmGp_2
  | 3 => pmGp_3
  | 4 => pmGp_4
  | 5 => pmGp_5
  | 6 => pmGp_6
  | 7 => pmGp_7
  | 8 => pmGp_8
  | 9 => pmGp_9
  | 10 => pmGp_10
  | 11 => pmGp_11
  | 12 => pmGp_12
  | 13 => pmGp_13
  | 14 => pmGp_14
  | 15 => pmGp_15
  | n + 16 => by rw [List.getElem?_eq_none (by show 16 ≤ n + 16; omega)]; exact fun _ h => absurd h List.not_mem_nil
set_option maxRecDepth 100000 in
theorem pmOp_0 : pmOp 0 := by unfold pmOp; exact ⟨_, rfl, by decide +kernel, by decide +kernel, by decide +kernel⟩
set_option maxRecDepth 100000 in
theorem pmOp_1 : pmOp 1 := by unfold pmOp; exact ⟨_, rfl, by decide +kernel, by decide +kernel, by decide +kernel⟩
set_option maxRecDepth 100000 in
theorem pmOp_2 : pmOp 2 := by unfold pmOp; exact ⟨_, rfl, by decide +kernel, by decide +kernel, by decide +kernel⟩
set_option maxRecDepth 100000 in
theorem pmOp_3 : pmOp 3 := by unfold pmOp; exact ⟨_, rfl, by decide +kernel, by decide +kernel, by decide +kernel⟩
set_option maxRecDepth 100000 in
theorem pmOp_4 : pmOp 4 := by unfold pmOp; exact ⟨_, rfl, by decide +kernel, by decide +kernel, by decide +kernel⟩
set_option maxRecDepth 100000 in
theorem pmOp_5 : pmOp 5 := by unfold pmOp; exact ⟨_, rfl, by decide +kernel, by decide +kernel, by decide +kernel⟩
set_option maxRecDepth 100000 in
theorem pmOp_6 : pmOp 6 := by unfold pmOp; exact ⟨_, rfl, by decide +kernel, by decide +kernel, by decide +kernel⟩
set_option maxRecDepth 100000 in
theorem pmOp_7 : pmOp 7 := by unfold pmOp; exact ⟨_, rfl, by decide +kernel, by decide +kernel, by decide +kernel⟩
set_option maxRecDepth 100000 in
theorem pmOp_8 : pmOp 8 := by unfold pmOp; exact ⟨_, rfl, by decide +kernel, by decide +kernel, by decide +kernel⟩
set_option maxRecDepth 100000 in
theorem pmOp_9 : pmOp 9 := by unfold pmOp; exact ⟨_, rfl, by decide +kernel, by decide +kernel, by decide +kernel⟩
set_option maxRecDepth 100000 in
theorem pmOp_10 : pmOp 10 := by unfold pmOp; exact ⟨_, rfl, by decide +kernel, by decide +kernel, by decide +kernel⟩
set_option maxRecDepth 100000 in
theorem pmOp_11 : pmOp 11 := by unfold pmOp; exact ⟨_, rfl, by decide +kernel, by decide +kernel, by decide +kernel⟩
set_option maxRecDepth 100000 in
theorem pmOp_12 : pmOp 12 := by unfold pmOp; exact ⟨_, rfl, by decide +kernel, by decide +kernel, by decide +kernel⟩
set_option maxRecDepth 100000 in
theorem pmOp_13 : pmOp 13 := by unfold pmOp; exact ⟨_, rfl, by decide +kernel, by decide +kernel, by decide +kernel⟩
set_option maxRecDepth 100000 in
theorem pmOp_14 : pmOp 14 := by unfold pmOp; exact ⟨_, rfl, by decide +kernel, by decide +kernel, by decide +kernel⟩

set_option maxRecDepth 100000 in
theorem pmOp_all : ∀ o, o < 15 → pmOp o
  | 0, _ => pmOp_0
  | 1, _ => pmOp_1
  | 2, _ => pmOp_2
  | 3, _ => pmOp_3
  | 4, _ => pmOp_4
  | 5, _ => pmOp_5
  | 6, _ => pmOp_6
  | 7, _ => pmOp_7
  | 8, _ => pmOp_8
  | 9, _ => pmOp_9
  | 10, _ => pmOp_10
  | 11, _ => pmOp_11
  | 12, _ => pmOp_12
  | 13, _ => pmOp_13
  | 14, _ => pmOp_14
  | n + 15, h => absurd h (by omega)
set_option maxRecDepth 100000 in
theorem pmKp_0 : pmKp 0 := ⟨RX0, TX0, 7, tyX0, _, _, _, rfl, rfl, rfl, rfl, rfl, rfl, rfl, rfl, by decide +kernel, tyX0_ok, nmX0⟩
set_option maxRecDepth 100000 in
theorem pmKp_1 : pmKp 1 := ⟨RX1, TX1, 5, tyX1, _, _, _, rfl, rfl, rfl, rfl, rfl, rfl, rfl, rfl, by decide +kernel, tyX1_ok, nmX1⟩
set_option maxRecDepth 100000 in
theorem pmKp_2 : pmKp 2 := ⟨RX2, TX2, 8, tyX2, _, _, _, rfl, rfl, rfl, rfl, rfl, rfl, rfl, rfl, by decide +kernel, tyX2_ok, nmX2⟩
set_option maxRecDepth 100000 in
theorem pmKp_3 : pmKp 3 := ⟨RX3, TX3, 15, tyX3, _, _, _, rfl, rfl, rfl, rfl, rfl, rfl, rfl, rfl, by decide +kernel, tyX3_ok, nmX3⟩
set_option maxRecDepth 100000 in
theorem pmKp_4 : pmKp 4 := ⟨RX4, TX4, 4, tyX4, _, _, _, rfl, rfl, rfl, rfl, rfl, rfl, rfl, rfl, by decide +kernel, tyX4_ok, nmX4⟩
set_option maxRecDepth 100000 in
theorem pmKp_5 : pmKp 5 := ⟨RX5, TX5, 6, tyX5, _, _, _, rfl, rfl, rfl, rfl, rfl, rfl, rfl, rfl, by decide +kernel, tyX5_ok, nmX5⟩
set_option maxRecDepth 100000 in
theorem pmKp_6 : pmKp 6 := ⟨RX6, TX6, 5, tyX6, _, _, _, rfl, rfl, rfl, rfl, rfl, rfl, rfl, rfl, by decide +kernel, tyX6_ok, nmX6⟩
set_option maxRecDepth 100000 in
theorem pmKp_7 : pmKp 7 := ⟨RX7, TX7, 5, tyX7, _, _, _, rfl, rfl, rfl, rfl, rfl, rfl, rfl, rfl, by decide +kernel, tyX7_ok, nmX7⟩
set_option maxRecDepth 100000 in
theorem pmKp_8 : pmKp 8 := ⟨RX8, TX8, 3, tyX8, _, _, _, rfl, rfl, rfl, rfl, rfl, rfl, rfl, rfl, by decide +kernel, tyX8_ok, nmX8⟩
set_option maxRecDepth 100000 in
theorem pmKp_9 : pmKp 9 := ⟨RX9, TX9, 5, tyX9, _, _, _, rfl, rfl, rfl, rfl, rfl, rfl, rfl, rfl, by decide +kernel, tyX9_ok, nmX9⟩
set_option maxRecDepth 100000 in
theorem pmKp_10 : pmKp 10 := ⟨RX10, TX10, 13, tyX10, _, _, _, rfl, rfl, rfl, rfl, rfl, rfl, rfl, rfl, by decide +kernel, tyX10_ok, nmX10⟩
set_option maxRecDepth 100000 in
theorem pmKp_11 : pmKp 11 := ⟨RX11, TX11, 13, tyX11, _, _, _, rfl, rfl, rfl, rfl, rfl, rfl, rfl, rfl, by decide +kernel, tyX11_ok, nmX11⟩
set_option maxRecDepth 100000 in
theorem pmKp_12 : pmKp 12 := ⟨RX12, TX12, 54, tyX12, _, _, _, rfl, rfl, rfl, rfl, rfl, rfl, rfl, rfl, by decide +kernel, tyX12_ok, nmX12⟩
set_option maxRecDepth 100000 in
theorem pmKp_all : ∀ ci, ci < 13 → pmKp ci
  | 0, _ => pmKp_0
  | 1, _ => pmKp_1
  | 2, _ => pmKp_2
  | 3, _ => pmKp_3
  | 4, _ => pmKp_4
  | 5, _ => pmKp_5
  | 6, _ => pmKp_6
  | 7, _ => pmKp_7
  | 8, _ => pmKp_8
  | 9, _ => pmKp_9
  | 10, _ => pmKp_10
  | 11, _ => pmKp_11
  | 12, _ => pmKp_12
  | n + 13, h => absurd h (by omega)
set_option maxRecDepth 100000 in
theorem pmds_0 : (parseMethodDescriptor "()I").map (fun d => d.parameters.length) = some 0 := by decide +kernel
set_option maxRecDepth 100000 in
theorem pmds_1 : (parseMethodDescriptor "()V").map (fun d => d.parameters.length) = some 0 := by decide +kernel
set_option maxRecDepth 100000 in
theorem pmds_2 : (parseMethodDescriptor "()Z").map (fun d => d.parameters.length) = some 0 := by decide +kernel
set_option maxRecDepth 100000 in
theorem pmds_3 : (parseMethodDescriptor "(C)Z").map (fun d => d.parameters.length) = some 1 := by decide +kernel
set_option maxRecDepth 100000 in
theorem pmds_4 : (parseMethodDescriptor "(I)I").map (fun d => d.parameters.length) = some 1 := by decide +kernel
set_option maxRecDepth 100000 in
theorem pmds_5 : (parseMethodDescriptor "(I)V").map (fun d => d.parameters.length) = some 1 := by decide +kernel
set_option maxRecDepth 100000 in
theorem pmds_6 : (parseMethodDescriptor "(I)Z").map (fun d => d.parameters.length) = some 1 := by decide +kernel
set_option maxRecDepth 100000 in
theorem pmds_7 : (parseMethodDescriptor "(II)I").map (fun d => d.parameters.length) = some 2 := by decide +kernel
set_option maxRecDepth 100000 in
theorem pmds_8 : (parseMethodDescriptor "(II)J").map (fun d => d.parameters.length) = some 2 := by decide +kernel
set_option maxRecDepth 100000 in
theorem pmds_9 : (parseMethodDescriptor "(II)V").map (fun d => d.parameters.length) = some 2 := by decide +kernel
set_option maxRecDepth 100000 in
theorem pmds_10 : (parseMethodDescriptor "(II)Z").map (fun d => d.parameters.length) = some 2 := by decide +kernel
set_option maxRecDepth 100000 in
theorem pmds_11 : (parseMethodDescriptor "(III)I").map (fun d => d.parameters.length) = some 3 := by decide +kernel
set_option maxRecDepth 100000 in
theorem pmds_12 : (parseMethodDescriptor "(III)V").map (fun d => d.parameters.length) = some 3 := by decide +kernel
set_option maxRecDepth 100000 in
theorem pmds_13 : (parseMethodDescriptor "(III)Z").map (fun d => d.parameters.length) = some 3 := by decide +kernel
set_option maxRecDepth 100000 in
theorem pmds_14 : (parseMethodDescriptor "(IIII)I").map (fun d => d.parameters.length) = some 4 := by decide +kernel
set_option maxRecDepth 100000 in
theorem pmds_15 : (parseMethodDescriptor "(IIII)Z").map (fun d => d.parameters.length) = some 4 := by decide +kernel
set_option maxRecDepth 100000 in
theorem pmds_16 : (parseMethodDescriptor "(IIIII)I").map (fun d => d.parameters.length) = some 5 := by decide +kernel
set_option maxRecDepth 100000 in
theorem pmds_17 : (parseMethodDescriptor "(IIIII)Z").map (fun d => d.parameters.length) = some 5 := by decide +kernel
set_option maxRecDepth 100000 in
theorem pmds_18 : (parseMethodDescriptor "(IIZ)I").map (fun d => d.parameters.length) = some 3 := by decide +kernel
set_option maxRecDepth 100000 in
theorem pmds_19 : (parseMethodDescriptor "(II[II)I").map (fun d => d.parameters.length) = some 4 := by decide +kernel
set_option maxRecDepth 100000 in
theorem pmds_20 : (parseMethodDescriptor "(IZ)I").map (fun d => d.parameters.length) = some 2 := by decide +kernel
set_option maxRecDepth 100000 in
theorem pmds_21 : (parseMethodDescriptor "(IZI)I").map (fun d => d.parameters.length) = some 3 := by decide +kernel
set_option maxRecDepth 100000 in
theorem pmds_22 : (parseMethodDescriptor "(IZII)Z").map (fun d => d.parameters.length) = some 4 := by decide +kernel
set_option maxRecDepth 100000 in
theorem pmds_23 : (parseMethodDescriptor "(J)I").map (fun d => d.parameters.length) = some 1 := by decide +kernel
set_option maxRecDepth 100000 in
theorem pmds_24 : (parseMethodDescriptor "(JI)I").map (fun d => d.parameters.length) = some 2 := by decide +kernel
set_option maxRecDepth 100000 in
theorem pmds_25 : (parseMethodDescriptor "(JII)J").map (fun d => d.parameters.length) = some 3 := by decide +kernel
set_option maxRecDepth 100000 in
theorem pmds_26 : (parseMethodDescriptor "(JII)Z").map (fun d => d.parameters.length) = some 3 := by decide +kernel
set_option maxRecDepth 100000 in
theorem pmds_27 : (parseMethodDescriptor "(JZI)I").map (fun d => d.parameters.length) = some 3 := by decide +kernel
set_option maxRecDepth 100000 in
theorem pmds_28 : (parseMethodDescriptor "(J[I)V").map (fun d => d.parameters.length) = some 2 := by decide +kernel
set_option maxRecDepth 100000 in
theorem pmds_29 : (parseMethodDescriptor "(LBentTale$Planner;JIIJ)V").map (fun d => d.parameters.length) = some 5 := by decide +kernel
set_option maxRecDepth 100000 in
theorem pmds_30 : (parseMethodDescriptor "(LBentTale$Stage;LBentTale$Laws;LBentTale$Planner;)V").map (fun d => d.parameters.length) = some 3 := by decide +kernel
set_option maxRecDepth 100000 in
theorem pmds_31 : (parseMethodDescriptor "(LBentTale$Stage;LBentTale$Play;)V").map (fun d => d.parameters.length) = some 2 := by decide +kernel
set_option maxRecDepth 100000 in
theorem pmds_32 : (parseMethodDescriptor "(LBentTale$Stage;LBentTale$Play;LBentTale$Teller;)V").map (fun d => d.parameters.length) = some 3 := by decide +kernel
set_option maxRecDepth 100000 in
theorem pmds_33 : (parseMethodDescriptor "(LBentTale$Stage;LBentTale$Wishes;)V").map (fun d => d.parameters.length) = some 2 := by decide +kernel
set_option maxRecDepth 100000 in
theorem pmds_34 : (parseMethodDescriptor "(LBentTale$Tape;)V").map (fun d => d.parameters.length) = some 1 := by decide +kernel
set_option maxRecDepth 100000 in
theorem pmds_35 : (parseMethodDescriptor "(LBentTale$Tape;II)I").map (fun d => d.parameters.length) = some 3 := by decide +kernel
set_option maxRecDepth 100000 in
theorem pmds_36 : (parseMethodDescriptor "(LBentTale$Tape;LBentTale$Laws;)V").map (fun d => d.parameters.length) = some 2 := by decide +kernel
set_option maxRecDepth 100000 in
theorem pmds_37 : (parseMethodDescriptor "(LBentTale$World;)V").map (fun d => d.parameters.length) = some 1 := by decide +kernel
set_option maxRecDepth 100000 in
theorem pmds_38 : (parseMethodDescriptor "(LBentTale$World;)Z").map (fun d => d.parameters.length) = some 1 := by decide +kernel
set_option maxRecDepth 100000 in
theorem pmds_39 : (parseMethodDescriptor "(LBentTale$World;I)I").map (fun d => d.parameters.length) = some 2 := by decide +kernel
set_option maxRecDepth 100000 in
theorem pmds_40 : (parseMethodDescriptor "(LBentTale$World;I)V").map (fun d => d.parameters.length) = some 2 := by decide +kernel
set_option maxRecDepth 100000 in
theorem pmds_41 : (parseMethodDescriptor "(LBentTale$World;I)Z").map (fun d => d.parameters.length) = some 2 := by decide +kernel
set_option maxRecDepth 100000 in
theorem pmds_42 : (parseMethodDescriptor "(LBentTale$World;II)I").map (fun d => d.parameters.length) = some 3 := by decide +kernel
set_option maxRecDepth 100000 in
theorem pmds_43 : (parseMethodDescriptor "(LBentTale$World;II)V").map (fun d => d.parameters.length) = some 3 := by decide +kernel
set_option maxRecDepth 100000 in
theorem pmds_44 : (parseMethodDescriptor "(LBentTale$World;II)Z").map (fun d => d.parameters.length) = some 3 := by decide +kernel
set_option maxRecDepth 100000 in
theorem pmds_45 : (parseMethodDescriptor "(LBentTale$World;III)I").map (fun d => d.parameters.length) = some 4 := by decide +kernel
set_option maxRecDepth 100000 in
theorem pmds_46 : (parseMethodDescriptor "(Z)I").map (fun d => d.parameters.length) = some 1 := by decide +kernel
set_option maxRecDepth 100000 in
theorem pmds_47 : (parseMethodDescriptor "(Z)V").map (fun d => d.parameters.length) = some 1 := by decide +kernel
set_option maxRecDepth 100000 in
theorem pmds_48 : (parseMethodDescriptor "(ZI)Z").map (fun d => d.parameters.length) = some 2 := by decide +kernel
set_option maxRecDepth 100000 in
theorem pmds_49 : (parseMethodDescriptor "([I)Z").map (fun d => d.parameters.length) = some 1 := by decide +kernel
set_option maxRecDepth 100000 in
theorem pmIp_0 : pmIp pmI_0 := ⟨rfl, by decide, pmds_1, by decide, Or.inr ⟨((lwd_4 31).trans rfl), ((lwd_4 11).trans rfl), Or.inr (Or.inr ⟨rfl, ((lwd_4 30).trans rfl), rfl, rfl⟩)⟩⟩
set_option maxRecDepth 100000 in
theorem pmIp_1 : pmIp pmI_1 := ⟨rfl, by decide, pmds_1, by decide, Or.inr ⟨((lwd_5 7).trans rfl), ((lwd_4 12).trans rfl), Or.inr (Or.inr ⟨rfl, ((lwd_5 6).trans rfl), rfl, rfl⟩)⟩⟩
set_option maxRecDepth 100000 in
theorem pmIp_2 : pmIp pmI_2 := ⟨rfl, by decide, pmds_1, by decide, Or.inr ⟨((lwd_6 3).trans rfl), ((lwd_4 13).trans rfl), Or.inr (Or.inr ⟨rfl, ((lwd_6 2).trans rfl), rfl, rfl⟩)⟩⟩
set_option maxRecDepth 100000 in
theorem pmIp_3 : pmIp pmI_3 := ⟨rfl, by decide, pmds_9, by decide, Or.inr ⟨((lwd_6 8).trans rfl), ((lwd_4 13).trans rfl), Or.inl ⟨rfl, ((lwd_6 7).trans rfl), ((lwd_0 0).trans rfl), by decide⟩⟩⟩
set_option maxRecDepth 100000 in
theorem pmIp_4 : pmIp pmI_4 := ⟨rfl, by decide, pmds_1, by decide, Or.inr ⟨((lwd_7 7).trans rfl), ((lwd_4 14).trans rfl), Or.inr (Or.inr ⟨rfl, ((lwd_7 6).trans rfl), rfl, rfl⟩)⟩⟩
set_option maxRecDepth 100000 in
theorem pmIp_5 : pmIp pmI_5 := ⟨rfl, by decide, pmds_1, by decide, Or.inr ⟨((lwd_8 2).trans rfl), ((lwd_4 15).trans rfl), Or.inr (Or.inr ⟨rfl, ((lwd_8 1).trans rfl), rfl, rfl⟩)⟩⟩
set_option maxRecDepth 100000 in
theorem pmIp_6 : pmIp pmI_6 := ⟨rfl, by decide, pmds_1, by decide, Or.inr ⟨((lwd_9 10).trans rfl), ((lwd_4 16).trans rfl), Or.inr (Or.inr ⟨rfl, ((lwd_9 9).trans rfl), rfl, rfl⟩)⟩⟩
set_option maxRecDepth 100000 in
theorem pmIp_7 : pmIp pmI_7 := ⟨rfl, by decide, pmds_34, by decide, Or.inr ⟨((lwd_11 23).trans rfl), ((lwd_4 17).trans rfl), Or.inr (Or.inr ⟨rfl, ((lwd_11 22).trans rfl), rfl, rfl⟩)⟩⟩
set_option maxRecDepth 100000 in
theorem pmIp_8 : pmIp pmI_8 := ⟨rfl, by decide, pmds_36, by decide, Or.inr ⟨((lwd_12 9).trans rfl), ((lwd_4 18).trans rfl), Or.inr (Or.inr ⟨rfl, ((lwd_12 8).trans rfl), rfl, rfl⟩)⟩⟩
set_option maxRecDepth 100000 in
theorem pmIp_9 : pmIp pmI_9 := ⟨rfl, by decide, pmds_33, by decide, Or.inr ⟨((lwd_13 0).trans rfl), ((lwd_4 19).trans rfl), Or.inr (Or.inr ⟨rfl, ((lwd_12 31).trans rfl), rfl, rfl⟩)⟩⟩
set_option maxRecDepth 100000 in
theorem pmIp_10 : pmIp pmI_10 := ⟨rfl, by decide, pmds_30, by decide, Or.inr ⟨((lwd_14 20).trans rfl), ((lwd_4 20).trans rfl), Or.inr (Or.inr ⟨rfl, ((lwd_14 19).trans rfl), rfl, rfl⟩)⟩⟩
set_option maxRecDepth 100000 in
theorem pmIp_11 : pmIp pmI_11 := ⟨rfl, by decide, pmds_31, by decide, Or.inr ⟨((lwd_15 8).trans rfl), ((lwd_4 21).trans rfl), Or.inr (Or.inr ⟨rfl, ((lwd_15 7).trans rfl), rfl, rfl⟩)⟩⟩
set_option maxRecDepth 100000 in
theorem pmIp_12 : pmIp pmI_12 := ⟨rfl, by decide, pmds_32, by decide, Or.inr ⟨((lwd_16 1).trans rfl), ((lwd_4 22).trans rfl), Or.inr (Or.inr ⟨rfl, ((lwd_16 0).trans rfl), rfl, rfl⟩)⟩⟩
set_option maxRecDepth 100000 in
theorem pmIp_13 : pmIp pmI_13 := ⟨rfl, by decide, pmds_10, by decide, Or.inr ⟨((lwd_18 6).trans rfl), ((lwd_4 11).trans rfl), Or.inl ⟨rfl, ((lwd_18 4).trans rfl), ((lwd_18 5).trans rfl), by decide⟩⟩⟩
set_option maxRecDepth 100000 in
theorem pmIp_14 : pmIp pmI_14 := ⟨rfl, by decide, pmds_6, by decide, Or.inr ⟨((lwd_18 9).trans rfl), ((lwd_4 11).trans rfl), Or.inr (Or.inl ⟨rfl, ((lwd_18 8).trans rfl)⟩)⟩⟩
set_option maxRecDepth 100000 in
theorem pmIp_15 : pmIp pmI_15 := ⟨rfl, by decide, pmds_10, by decide, Or.inr ⟨((lwd_18 13).trans rfl), ((lwd_4 13).trans rfl), Or.inl ⟨rfl, ((lwd_18 12).trans rfl), ((lwd_0 1).trans rfl), by decide⟩⟩⟩
set_option maxRecDepth 100000 in
theorem pmIp_16 : pmIp pmI_16 := ⟨rfl, by decide, pmds_10, by decide, Or.inr ⟨((lwd_18 17).trans rfl), ((lwd_4 13).trans rfl), Or.inl ⟨rfl, ((lwd_18 16).trans rfl), ((lwd_0 2).trans rfl), by decide⟩⟩⟩
set_option maxRecDepth 100000 in
theorem pmIp_17 : pmIp pmI_17 := ⟨rfl, by decide, pmds_10, by decide, Or.inr ⟨((lwd_18 21).trans rfl), ((lwd_4 11).trans rfl), Or.inl ⟨rfl, ((lwd_18 19).trans rfl), ((lwd_18 20).trans rfl), by decide⟩⟩⟩
set_option maxRecDepth 100000 in
theorem pmIp_18 : pmIp pmI_18 := ⟨rfl, by decide, pmds_6, by decide, Or.inr ⟨((lwd_18 24).trans rfl), ((lwd_4 11).trans rfl), Or.inr (Or.inl ⟨rfl, ((lwd_18 23).trans rfl)⟩)⟩⟩
set_option maxRecDepth 100000 in
theorem pmIp_19 : pmIp pmI_19 := ⟨rfl, by decide, pmds_25, by decide, Or.inr ⟨((lwd_18 27).trans rfl), ((lwd_4 11).trans rfl), Or.inr (Or.inl ⟨rfl, ((lwd_18 26).trans rfl)⟩)⟩⟩
set_option maxRecDepth 100000 in
theorem pmIp_20 : pmIp pmI_20 := ⟨rfl, by decide, pmds_20, by decide, Or.inr ⟨((lwd_19 1).trans rfl), ((lwd_4 11).trans rfl), Or.inl ⟨rfl, ((lwd_18 31).trans rfl), ((lwd_19 0).trans rfl), by decide⟩⟩⟩
set_option maxRecDepth 100000 in
theorem pmIp_21 : pmIp pmI_21 := ⟨rfl, by decide, pmds_46, by decide, Or.inr ⟨((lwd_19 5).trans rfl), ((lwd_4 13).trans rfl), Or.inl ⟨rfl, ((lwd_19 4).trans rfl), ((lwd_0 3).trans rfl), by decide⟩⟩⟩
set_option maxRecDepth 100000 in
theorem pmIp_22 : pmIp pmI_22 := ⟨rfl, by decide, pmds_4, by decide, Or.inr ⟨((lwd_19 8).trans rfl), ((lwd_4 11).trans rfl), Or.inr (Or.inl ⟨rfl, ((lwd_19 7).trans rfl)⟩)⟩⟩
set_option maxRecDepth 100000 in
theorem pmIp_23 : pmIp pmI_23 := ⟨rfl, by decide, pmds_20, by decide, Or.inr ⟨((lwd_19 12).trans rfl), ((lwd_4 11).trans rfl), Or.inl ⟨rfl, ((lwd_19 10).trans rfl), ((lwd_19 11).trans rfl), by decide⟩⟩⟩
set_option maxRecDepth 100000 in
theorem pmIp_24 : pmIp pmI_24 := ⟨rfl, by decide, pmds_4, by decide, Or.inr ⟨((lwd_19 15).trans rfl), ((lwd_4 24).trans rfl), Or.inr (Or.inl ⟨rfl, ((lwd_19 14).trans rfl)⟩)⟩⟩
set_option maxRecDepth 100000 in
theorem pmIp_25 : pmIp pmI_25 := ⟨rfl, by decide, pmds_22, by decide, Or.inr ⟨((lwd_19 22).trans rfl), ((lwd_4 11).trans rfl), Or.inl ⟨rfl, ((lwd_19 20).trans rfl), ((lwd_19 21).trans rfl), by decide⟩⟩⟩
set_option maxRecDepth 100000 in
theorem pmIp_26 : pmIp pmI_26 := ⟨rfl, by decide, pmds_6, by decide, Or.inr ⟨((lwd_19 25).trans rfl), ((lwd_4 11).trans rfl), Or.inr (Or.inl ⟨rfl, ((lwd_19 24).trans rfl)⟩)⟩⟩
set_option maxRecDepth 100000 in
theorem pmIp_27 : pmIp pmI_27 := ⟨rfl, by decide, pmds_48, by decide, Or.inr ⟨((lwd_19 29).trans rfl), ((lwd_4 11).trans rfl), Or.inl ⟨rfl, ((lwd_19 28).trans rfl), ((lwd_0 4).trans rfl), by decide⟩⟩⟩
set_option maxRecDepth 100000 in
theorem pmIp_28 : pmIp pmI_28 := ⟨rfl, by decide, pmds_10, by decide, Or.inr ⟨((lwd_20 1).trans rfl), ((lwd_4 11).trans rfl), Or.inl ⟨rfl, ((lwd_19 31).trans rfl), ((lwd_20 0).trans rfl), by decide⟩⟩⟩
set_option maxRecDepth 100000 in
theorem pmIp_29 : pmIp pmI_29 := ⟨rfl, by decide, pmds_16, by decide, Or.inr ⟨((lwd_20 6).trans rfl), ((lwd_4 11).trans rfl), Or.inl ⟨rfl, ((lwd_20 4).trans rfl), ((lwd_20 5).trans rfl), by decide⟩⟩⟩
set_option maxRecDepth 100000 in
theorem pmIp_30 : pmIp pmI_30 := ⟨rfl, by decide, pmds_5, by decide, Or.inr ⟨((lwd_20 10).trans rfl), ((lwd_4 12).trans rfl), Or.inl ⟨rfl, ((lwd_20 9).trans rfl), ((lwd_0 5).trans rfl), by decide⟩⟩⟩
set_option maxRecDepth 100000 in
theorem pmIp_31 : pmIp pmI_31 := ⟨rfl, by decide, pmds_11, by decide, Or.inr ⟨((lwd_20 14).trans rfl), ((lwd_4 11).trans rfl), Or.inl ⟨rfl, ((lwd_20 12).trans rfl), ((lwd_20 13).trans rfl), by decide⟩⟩⟩
set_option maxRecDepth 100000 in
theorem pmIp_32 : pmIp pmI_32 := ⟨rfl, by decide, pmds_4, by decide, Or.inr ⟨((lwd_20 18).trans rfl), ((lwd_4 17).trans rfl), Or.inl ⟨rfl, ((lwd_20 17).trans rfl), ((lwd_0 6).trans rfl), by decide⟩⟩⟩
set_option maxRecDepth 100000 in
theorem pmIp_33 : pmIp pmI_33 := ⟨rfl, by decide, pmds_5, by decide, Or.inr ⟨((lwd_20 22).trans rfl), ((lwd_4 12).trans rfl), Or.inl ⟨rfl, ((lwd_20 21).trans rfl), ((lwd_0 7).trans rfl), by decide⟩⟩⟩
set_option maxRecDepth 100000 in
theorem pmIp_34 : pmIp pmI_34 := ⟨rfl, by decide, pmds_6, by decide, Or.inr ⟨((lwd_20 29).trans rfl), ((lwd_4 17).trans rfl), Or.inl ⟨rfl, ((lwd_20 28).trans rfl), ((lwd_0 8).trans rfl), by decide⟩⟩⟩
set_option maxRecDepth 100000 in
theorem pmIp_35 : pmIp pmI_35 := ⟨rfl, by decide, pmds_6, by decide, Or.inr ⟨((lwd_21 1).trans rfl), ((lwd_4 17).trans rfl), Or.inl ⟨rfl, ((lwd_21 0).trans rfl), ((lwd_0 9).trans rfl), by decide⟩⟩⟩
set_option maxRecDepth 100000 in
theorem pmIp_36 : pmIp pmI_36 := ⟨rfl, by decide, pmds_6, by decide, Or.inr ⟨((lwd_21 5).trans rfl), ((lwd_4 17).trans rfl), Or.inl ⟨rfl, ((lwd_21 4).trans rfl), ((lwd_0 10).trans rfl), by decide⟩⟩⟩
set_option maxRecDepth 100000 in
theorem pmIp_37 : pmIp pmI_37 := ⟨rfl, by decide, pmds_0, by decide, Or.inr ⟨((lwd_21 9).trans rfl), ((lwd_4 12).trans rfl), Or.inl ⟨rfl, ((lwd_21 8).trans rfl), ((lwd_0 11).trans rfl), by decide⟩⟩⟩
set_option maxRecDepth 100000 in
theorem pmIp_38 : pmIp pmI_38 := ⟨rfl, by decide, pmds_6, by decide, Or.inr ⟨((lwd_21 13).trans rfl), ((lwd_4 17).trans rfl), Or.inl ⟨rfl, ((lwd_21 12).trans rfl), ((lwd_0 12).trans rfl), by decide⟩⟩⟩
set_option maxRecDepth 100000 in
theorem pmIp_39 : pmIp pmI_39 := ⟨rfl, by decide, pmds_6, by decide, Or.inr ⟨((lwd_21 17).trans rfl), ((lwd_4 12).trans rfl), Or.inl ⟨rfl, ((lwd_21 16).trans rfl), ((lwd_0 13).trans rfl), by decide⟩⟩⟩
set_option maxRecDepth 100000 in
theorem pmIp_40 : pmIp pmI_40 := ⟨rfl, by decide, pmds_4, by decide, Or.inr ⟨((lwd_21 21).trans rfl), ((lwd_4 12).trans rfl), Or.inl ⟨rfl, ((lwd_21 20).trans rfl), ((lwd_0 14).trans rfl), by decide⟩⟩⟩
set_option maxRecDepth 100000 in
theorem pmIp_41 : pmIp pmI_41 := ⟨rfl, by decide, pmds_12, by decide, Or.inr ⟨((lwd_21 27).trans rfl), ((lwd_4 17).trans rfl), Or.inl ⟨rfl, ((lwd_21 26).trans rfl), ((lwd_0 15).trans rfl), by decide⟩⟩⟩
set_option maxRecDepth 100000 in
theorem pmIp_42 : pmIp pmI_42 := ⟨rfl, by decide, pmds_6, by decide, Or.inr ⟨((lwd_21 31).trans rfl), ((lwd_4 17).trans rfl), Or.inl ⟨rfl, ((lwd_21 30).trans rfl), ((lwd_0 16).trans rfl), by decide⟩⟩⟩
set_option maxRecDepth 100000 in
theorem pmIp_43 : pmIp pmI_43 := ⟨rfl, by decide, pmds_6, by decide, Or.inr ⟨((lwd_22 3).trans rfl), ((lwd_4 17).trans rfl), Or.inl ⟨rfl, ((lwd_22 2).trans rfl), ((lwd_0 17).trans rfl), by decide⟩⟩⟩
set_option maxRecDepth 100000 in
theorem pmIp_44 : pmIp pmI_44 := ⟨rfl, by decide, pmds_3, by decide, Or.inr ⟨((lwd_22 7).trans rfl), ((lwd_4 12).trans rfl), Or.inl ⟨rfl, ((lwd_22 6).trans rfl), ((lwd_0 18).trans rfl), by decide⟩⟩⟩
set_option maxRecDepth 100000 in
theorem pmIp_45 : pmIp pmI_45 := ⟨rfl, by decide, pmds_1, by decide, Or.inr ⟨((lwd_22 11).trans rfl), ((lwd_4 12).trans rfl), Or.inl ⟨rfl, ((lwd_22 10).trans rfl), ((lwd_0 19).trans rfl), by decide⟩⟩⟩
set_option maxRecDepth 100000 in
theorem pmIp_46 : pmIp pmI_46 := ⟨rfl, by decide, pmds_19, by decide, Or.inr ⟨((lwd_22 15).trans rfl), ((lwd_4 14).trans rfl), Or.inl ⟨rfl, ((lwd_22 14).trans rfl), ((lwd_0 20).trans rfl), by decide⟩⟩⟩
set_option maxRecDepth 100000 in
theorem pmIp_47 : pmIp pmI_47 := ⟨rfl, by decide, pmds_4, by decide, Or.inr ⟨((lwd_22 22).trans rfl), ((lwd_4 11).trans rfl), Or.inl ⟨rfl, ((lwd_22 20).trans rfl), ((lwd_22 21).trans rfl), by decide⟩⟩⟩
set_option maxRecDepth 100000 in
theorem pmIp_48 : pmIp pmI_48 := ⟨rfl, by decide, pmds_4, by decide, Or.inr ⟨((lwd_22 26).trans rfl), ((lwd_4 18).trans rfl), Or.inl ⟨rfl, ((lwd_22 25).trans rfl), ((lwd_0 21).trans rfl), by decide⟩⟩⟩
set_option maxRecDepth 100000 in
theorem pmIp_49 : pmIp pmI_49 := ⟨rfl, by decide, pmds_2, by decide, Or.inr ⟨((lwd_22 31).trans rfl), ((lwd_4 18).trans rfl), Or.inl ⟨rfl, ((lwd_22 30).trans rfl), ((lwd_0 22).trans rfl), by decide⟩⟩⟩
set_option maxRecDepth 100000 in
theorem pmIp_50 : pmIp pmI_50 := ⟨rfl, by decide, pmds_2, by decide, Or.inr ⟨((lwd_23 5).trans rfl), ((lwd_4 18).trans rfl), Or.inl ⟨rfl, ((lwd_23 4).trans rfl), ((lwd_0 23).trans rfl), by decide⟩⟩⟩
set_option maxRecDepth 100000 in
theorem pmIp_51 : pmIp pmI_51 := ⟨rfl, by decide, pmds_4, by decide, Or.inr ⟨((lwd_23 8).trans rfl), ((lwd_4 18).trans rfl), Or.inr (Or.inl ⟨rfl, ((lwd_23 7).trans rfl)⟩)⟩⟩
set_option maxRecDepth 100000 in
theorem pmIp_52 : pmIp pmI_52 := ⟨rfl, by decide, pmds_10, by decide, Or.inr ⟨((lwd_23 12).trans rfl), ((lwd_4 18).trans rfl), Or.inl ⟨rfl, ((lwd_23 11).trans rfl), ((lwd_0 24).trans rfl), by decide⟩⟩⟩
set_option maxRecDepth 100000 in
theorem pmIp_53 : pmIp pmI_53 := ⟨rfl, by decide, pmds_2, by decide, Or.inr ⟨((lwd_23 18).trans rfl), ((lwd_4 18).trans rfl), Or.inl ⟨rfl, ((lwd_23 17).trans rfl), ((lwd_0 25).trans rfl), by decide⟩⟩⟩
set_option maxRecDepth 100000 in
theorem pmIp_54 : pmIp pmI_54 := ⟨rfl, by decide, pmds_6, by decide, Or.inr ⟨((lwd_23 22).trans rfl), ((lwd_4 18).trans rfl), Or.inl ⟨rfl, ((lwd_23 21).trans rfl), ((lwd_0 26).trans rfl), by decide⟩⟩⟩
set_option maxRecDepth 100000 in
theorem pmIp_55 : pmIp pmI_55 := ⟨rfl, by decide, pmds_2, by decide, Or.inr ⟨((lwd_23 26).trans rfl), ((lwd_4 12).trans rfl), Or.inl ⟨rfl, ((lwd_23 25).trans rfl), ((lwd_0 27).trans rfl), by decide⟩⟩⟩
set_option maxRecDepth 100000 in
theorem pmIp_56 : pmIp pmI_56 := ⟨rfl, by decide, pmds_4, by decide, Or.inr ⟨((lwd_23 30).trans rfl), ((lwd_4 15).trans rfl), Or.inl ⟨rfl, ((lwd_23 29).trans rfl), ((lwd_0 28).trans rfl), by decide⟩⟩⟩
set_option maxRecDepth 100000 in
theorem pmIp_57 : pmIp pmI_57 := ⟨rfl, by decide, pmds_2, by decide, Or.inr ⟨((lwd_24 2).trans rfl), ((lwd_4 11).trans rfl), Or.inl ⟨rfl, ((lwd_24 0).trans rfl), ((lwd_24 1).trans rfl), by decide⟩⟩⟩
set_option maxRecDepth 100000 in
theorem pmIp_58 : pmIp pmI_58 := ⟨rfl, by decide, pmds_1, by decide, Or.inr ⟨((lwd_24 6).trans rfl), ((lwd_4 13).trans rfl), Or.inl ⟨rfl, ((lwd_24 5).trans rfl), ((lwd_0 29).trans rfl), by decide⟩⟩⟩
set_option maxRecDepth 100000 in
theorem pmIp_59 : pmIp pmI_59 := ⟨rfl, by decide, pmds_37, by decide, Or.inr ⟨((lwd_24 11).trans rfl), ((lwd_4 20).trans rfl), Or.inl ⟨rfl, ((lwd_24 10).trans rfl), ((lwd_0 30).trans rfl), by decide⟩⟩⟩
set_option maxRecDepth 100000 in
theorem pmIp_60 : pmIp pmI_60 := ⟨rfl, by decide, pmds_37, by decide, Or.inr ⟨((lwd_24 15).trans rfl), ((lwd_4 20).trans rfl), Or.inl ⟨rfl, ((lwd_24 14).trans rfl), ((lwd_0 31).trans rfl), by decide⟩⟩⟩
set_option maxRecDepth 100000 in
theorem pmIp_61 : pmIp pmI_61 := ⟨rfl, by decide, pmds_24, by decide, Or.inr ⟨((lwd_24 18).trans rfl), ((lwd_4 11).trans rfl), Or.inr (Or.inl ⟨rfl, ((lwd_24 17).trans rfl)⟩)⟩⟩
set_option maxRecDepth 100000 in
theorem pmIp_62 : pmIp pmI_62 := ⟨rfl, by decide, pmds_4, by decide, Or.inr ⟨((lwd_24 22).trans rfl), ((lwd_4 16).trans rfl), Or.inl ⟨rfl, ((lwd_24 21).trans rfl), ((lwd_1 0).trans rfl), by decide⟩⟩⟩
set_option maxRecDepth 100000 in
theorem pmIp_63 : pmIp pmI_63 := ⟨rfl, by decide, pmds_40, by decide, Or.inr ⟨((lwd_24 29).trans rfl), ((lwd_4 20).trans rfl), Or.inl ⟨rfl, ((lwd_24 28).trans rfl), ((lwd_1 1).trans rfl), by decide⟩⟩⟩
set_option maxRecDepth 100000 in
theorem pmIp_64 : pmIp pmI_64 := ⟨rfl, by decide, pmds_44, by decide, Or.inr ⟨((lwd_25 0).trans rfl), ((lwd_4 20).trans rfl), Or.inr (Or.inl ⟨rfl, ((lwd_24 31).trans rfl)⟩)⟩⟩
set_option maxRecDepth 100000 in
theorem pmIp_65 : pmIp pmI_65 := ⟨rfl, by decide, pmds_37, by decide, Or.inr ⟨((lwd_25 4).trans rfl), ((lwd_4 22).trans rfl), Or.inl ⟨rfl, ((lwd_25 3).trans rfl), ((lwd_1 2).trans rfl), by decide⟩⟩⟩
set_option maxRecDepth 100000 in
theorem pmIp_66 : pmIp pmI_66 := ⟨rfl, by decide, pmds_37, by decide, Or.inr ⟨((lwd_25 8).trans rfl), ((lwd_4 16).trans rfl), Or.inl ⟨rfl, ((lwd_25 7).trans rfl), ((lwd_1 3).trans rfl), by decide⟩⟩⟩
set_option maxRecDepth 100000 in
theorem pmIp_67 : pmIp pmI_67 := ⟨rfl, by decide, pmds_1, by decide, Or.inr ⟨((lwd_25 13).trans rfl), ((lwd_4 16).trans rfl), Or.inl ⟨rfl, ((lwd_25 12).trans rfl), ((lwd_1 4).trans rfl), by decide⟩⟩⟩
set_option maxRecDepth 100000 in
theorem pmIp_68 : pmIp pmI_68 := ⟨rfl, by decide, pmds_21, by decide, Or.inr ⟨((lwd_25 17).trans rfl), ((lwd_4 11).trans rfl), Or.inl ⟨rfl, ((lwd_25 15).trans rfl), ((lwd_25 16).trans rfl), by decide⟩⟩⟩
set_option maxRecDepth 100000 in
theorem pmIp_69 : pmIp pmI_69 := ⟨rfl, by decide, pmds_4, by decide, Or.inr ⟨((lwd_25 21).trans rfl), ((lwd_4 11).trans rfl), Or.inr (Or.inl ⟨rfl, ((lwd_25 20).trans rfl)⟩)⟩⟩
set_option maxRecDepth 100000 in
theorem pmIp_70 : pmIp pmI_70 := ⟨rfl, by decide, pmds_7, by decide, Or.inr ⟨((lwd_25 25).trans rfl), ((lwd_4 11).trans rfl), Or.inl ⟨rfl, ((lwd_25 23).trans rfl), ((lwd_25 24).trans rfl), by decide⟩⟩⟩
set_option maxRecDepth 100000 in
theorem pmIp_71 : pmIp pmI_71 := ⟨rfl, by decide, pmds_10, by decide, Or.inr ⟨((lwd_25 29).trans rfl), ((lwd_4 11).trans rfl), Or.inl ⟨rfl, ((lwd_25 28).trans rfl), ((lwd_1 5).trans rfl), by decide⟩⟩⟩
set_option maxRecDepth 100000 in
theorem pmIp_72 : pmIp pmI_72 := ⟨rfl, by decide, pmds_26, by decide, Or.inr ⟨((lwd_26 1).trans rfl), ((lwd_4 19).trans rfl), Or.inl ⟨rfl, ((lwd_26 0).trans rfl), ((lwd_1 6).trans rfl), by decide⟩⟩⟩
set_option maxRecDepth 100000 in
theorem pmIp_73 : pmIp pmI_73 := ⟨rfl, by decide, pmds_28, by decide, Or.inr ⟨((lwd_26 7).trans rfl), ((lwd_4 19).trans rfl), Or.inl ⟨rfl, ((lwd_26 6).trans rfl), ((lwd_1 7).trans rfl), by decide⟩⟩⟩
set_option maxRecDepth 100000 in
theorem pmIp_74 : pmIp pmI_74 := ⟨rfl, by decide, pmds_28, by decide, Or.inr ⟨((lwd_26 16).trans rfl), ((lwd_4 19).trans rfl), Or.inl ⟨rfl, ((lwd_26 15).trans rfl), ((lwd_1 8).trans rfl), by decide⟩⟩⟩
set_option maxRecDepth 100000 in
theorem pmIp_75 : pmIp pmI_75 := ⟨rfl, by decide, pmds_0, by decide, Or.inr ⟨((lwd_26 20).trans rfl), ((lwd_4 19).trans rfl), Or.inl ⟨rfl, ((lwd_26 19).trans rfl), ((lwd_1 9).trans rfl), by decide⟩⟩⟩
set_option maxRecDepth 100000 in
theorem pmIp_76 : pmIp pmI_76 := ⟨rfl, by decide, pmds_11, by decide, Or.inr ⟨((lwd_26 24).trans rfl), ((lwd_4 11).trans rfl), Or.inl ⟨rfl, ((lwd_26 22).trans rfl), ((lwd_26 23).trans rfl), by decide⟩⟩⟩
set_option maxRecDepth 100000 in
theorem pmIp_77 : pmIp pmI_77 := ⟨rfl, by decide, pmds_25, by decide, Or.inr ⟨((lwd_26 28).trans rfl), ((lwd_4 19).trans rfl), Or.inl ⟨rfl, ((lwd_26 27).trans rfl), ((lwd_1 10).trans rfl), by decide⟩⟩⟩
set_option maxRecDepth 100000 in
theorem pmIp_78 : pmIp pmI_78 := ⟨rfl, by decide, pmds_0, by decide, Or.inr ⟨((lwd_27 3).trans rfl), ((lwd_4 13).trans rfl), Or.inl ⟨rfl, ((lwd_27 2).trans rfl), ((lwd_1 11).trans rfl), by decide⟩⟩⟩
set_option maxRecDepth 100000 in
theorem pmIp_79 : pmIp pmI_79 := ⟨rfl, by decide, pmds_29, by decide, Or.inr ⟨((lwd_27 6).trans rfl), ((lwd_4 19).trans rfl), Or.inr (Or.inl ⟨rfl, ((lwd_27 5).trans rfl)⟩)⟩⟩
set_option maxRecDepth 100000 in
theorem pmIp_80 : pmIp pmI_80 := ⟨rfl, by decide, pmds_26, by decide, Or.inr ⟨((lwd_27 10).trans rfl), ((lwd_4 13).trans rfl), Or.inl ⟨rfl, ((lwd_27 9).trans rfl), ((lwd_1 12).trans rfl), by decide⟩⟩⟩
set_option maxRecDepth 100000 in
theorem pmIp_81 : pmIp pmI_81 := ⟨rfl, by decide, pmds_25, by decide, Or.inr ⟨((lwd_27 14).trans rfl), ((lwd_4 13).trans rfl), Or.inl ⟨rfl, ((lwd_27 13).trans rfl), ((lwd_1 13).trans rfl), by decide⟩⟩⟩
set_option maxRecDepth 100000 in
theorem pmIp_82 : pmIp pmI_82 := ⟨rfl, by decide, pmds_24, by decide, Or.inr ⟨((lwd_27 20).trans rfl), ((lwd_4 11).trans rfl), Or.inr (Or.inl ⟨rfl, ((lwd_27 19).trans rfl)⟩)⟩⟩
set_option maxRecDepth 100000 in
theorem pmIp_83 : pmIp pmI_83 := ⟨rfl, by decide, pmds_7, by decide, Or.inr ⟨((lwd_27 23).trans rfl), ((lwd_4 11).trans rfl), Or.inr (Or.inl ⟨rfl, ((lwd_27 22).trans rfl)⟩)⟩⟩
set_option maxRecDepth 100000 in
theorem pmIp_84 : pmIp pmI_84 := ⟨rfl, by decide, pmds_4, by decide, Or.inr ⟨((lwd_27 27).trans rfl), ((lwd_4 11).trans rfl), Or.inl ⟨rfl, ((lwd_27 25).trans rfl), ((lwd_27 26).trans rfl), by decide⟩⟩⟩
set_option maxRecDepth 100000 in
theorem pmIp_85 : pmIp pmI_85 := ⟨rfl, by decide, pmds_24, by decide, Or.inr ⟨((lwd_27 31).trans rfl), ((lwd_4 19).trans rfl), Or.inl ⟨rfl, ((lwd_27 30).trans rfl), ((lwd_1 14).trans rfl), by decide⟩⟩⟩
set_option maxRecDepth 100000 in
theorem pmIp_86 : pmIp pmI_86 := ⟨rfl, by decide, pmds_4, by decide, Or.inr ⟨((lwd_28 4).trans rfl), ((lwd_4 11).trans rfl), Or.inr (Or.inl ⟨rfl, ((lwd_28 3).trans rfl)⟩)⟩⟩
set_option maxRecDepth 100000 in
theorem pmIp_87 : pmIp pmI_87 := ⟨rfl, by decide, pmds_11, by decide, Or.inr ⟨((lwd_28 8).trans rfl), ((lwd_4 11).trans rfl), Or.inl ⟨rfl, ((lwd_28 6).trans rfl), ((lwd_28 7).trans rfl), by decide⟩⟩⟩
set_option maxRecDepth 100000 in
theorem pmIp_88 : pmIp pmI_88 := ⟨rfl, by decide, pmds_11, by decide, Or.inr ⟨((lwd_28 11).trans rfl), ((lwd_4 11).trans rfl), Or.inr (Or.inl ⟨rfl, ((lwd_28 10).trans rfl)⟩)⟩⟩
set_option maxRecDepth 100000 in
theorem pmIp_89 : pmIp pmI_89 := ⟨rfl, by decide, pmds_43, by decide, Or.inr ⟨((lwd_28 16).trans rfl), ((lwd_4 20).trans rfl), Or.inl ⟨rfl, ((lwd_28 15).trans rfl), ((lwd_1 15).trans rfl), by decide⟩⟩⟩
set_option maxRecDepth 100000 in
theorem pmIp_90 : pmIp pmI_90 := ⟨rfl, by decide, pmds_40, by decide, Or.inr ⟨((lwd_28 20).trans rfl), ((lwd_4 20).trans rfl), Or.inl ⟨rfl, ((lwd_28 19).trans rfl), ((lwd_1 16).trans rfl), by decide⟩⟩⟩
set_option maxRecDepth 100000 in
theorem pmIp_91 : pmIp pmI_91 := ⟨rfl, by decide, pmds_42, by decide, Or.inr ⟨((lwd_28 25).trans rfl), ((lwd_4 20).trans rfl), Or.inl ⟨rfl, ((lwd_28 24).trans rfl), ((lwd_1 17).trans rfl), by decide⟩⟩⟩
set_option maxRecDepth 100000 in
theorem pmIp_92 : pmIp pmI_92 := ⟨rfl, by decide, pmds_43, by decide, Or.inr ⟨((lwd_28 30).trans rfl), ((lwd_4 20).trans rfl), Or.inr (Or.inl ⟨rfl, ((lwd_28 29).trans rfl)⟩)⟩⟩
set_option maxRecDepth 100000 in
theorem pmIp_93 : pmIp pmI_93 := ⟨rfl, by decide, pmds_18, by decide, Or.inr ⟨((lwd_29 2).trans rfl), ((lwd_4 15).trans rfl), Or.inr (Or.inl ⟨rfl, ((lwd_29 1).trans rfl)⟩)⟩⟩
set_option maxRecDepth 100000 in
theorem pmIp_94 : pmIp pmI_94 := ⟨rfl, by decide, pmds_40, by decide, Or.inr ⟨((lwd_29 6).trans rfl), ((lwd_4 15).trans rfl), Or.inl ⟨rfl, ((lwd_29 5).trans rfl), ((lwd_1 18).trans rfl), by decide⟩⟩⟩
set_option maxRecDepth 100000 in
theorem pmIp_95 : pmIp pmI_95 := ⟨rfl, by decide, pmds_44, by decide, Or.inr ⟨((lwd_29 10).trans rfl), ((lwd_4 15).trans rfl), Or.inl ⟨rfl, ((lwd_29 9).trans rfl), ((lwd_1 19).trans rfl), by decide⟩⟩⟩
set_option maxRecDepth 100000 in
theorem pmIp_96 : pmIp pmI_96 := ⟨rfl, by decide, pmds_40, by decide, Or.inr ⟨((lwd_29 13).trans rfl), ((lwd_4 15).trans rfl), Or.inr (Or.inl ⟨rfl, ((lwd_29 12).trans rfl)⟩)⟩⟩
set_option maxRecDepth 100000 in
theorem pmIp_97 : pmIp pmI_97 := ⟨rfl, by decide, pmds_40, by decide, Or.inr ⟨((lwd_29 18).trans rfl), ((lwd_4 20).trans rfl), Or.inl ⟨rfl, ((lwd_29 17).trans rfl), ((lwd_1 20).trans rfl), by decide⟩⟩⟩
set_option maxRecDepth 100000 in
theorem pmIp_98 : pmIp pmI_98 := ⟨rfl, by decide, pmds_37, by decide, Or.inr ⟨((lwd_29 23).trans rfl), ((lwd_4 15).trans rfl), Or.inl ⟨rfl, ((lwd_29 22).trans rfl), ((lwd_1 21).trans rfl), by decide⟩⟩⟩
set_option maxRecDepth 100000 in
theorem pmIp_99 : pmIp pmI_99 := ⟨rfl, by decide, pmds_5, by decide, Or.inr ⟨((lwd_29 27).trans rfl), ((lwd_4 22).trans rfl), Or.inl ⟨rfl, ((lwd_29 26).trans rfl), ((lwd_1 22).trans rfl), by decide⟩⟩⟩
set_option maxRecDepth 100000 in
theorem pmIp_100 : pmIp pmI_100 := ⟨rfl, by decide, pmds_7, by decide, Or.inr ⟨((lwd_30 0).trans rfl), ((lwd_4 11).trans rfl), Or.inl ⟨rfl, ((lwd_29 30).trans rfl), ((lwd_29 31).trans rfl), by decide⟩⟩⟩
set_option maxRecDepth 100000 in
theorem pmIp_101 : pmIp pmI_101 := ⟨rfl, by decide, pmds_4, by decide, Or.inr ⟨((lwd_30 4).trans rfl), ((lwd_4 11).trans rfl), Or.inl ⟨rfl, ((lwd_30 3).trans rfl), ((lwd_1 23).trans rfl), by decide⟩⟩⟩
set_option maxRecDepth 100000 in
theorem pmIp_102 : pmIp pmI_102 := ⟨rfl, by decide, pmds_41, by decide, Or.inr ⟨((lwd_30 8).trans rfl), ((lwd_4 21).trans rfl), Or.inl ⟨rfl, ((lwd_30 7).trans rfl), ((lwd_1 24).trans rfl), by decide⟩⟩⟩
set_option maxRecDepth 100000 in
theorem pmIp_103 : pmIp pmI_103 := ⟨rfl, by decide, pmds_39, by decide, Or.inr ⟨((lwd_30 16).trans rfl), ((lwd_4 21).trans rfl), Or.inl ⟨rfl, ((lwd_30 15).trans rfl), ((lwd_1 25).trans rfl), by decide⟩⟩⟩
set_option maxRecDepth 100000 in
theorem pmIp_104 : pmIp pmI_104 := ⟨rfl, by decide, pmds_40, by decide, Or.inr ⟨((lwd_30 20).trans rfl), ((lwd_4 21).trans rfl), Or.inl ⟨rfl, ((lwd_30 19).trans rfl), ((lwd_1 26).trans rfl), by decide⟩⟩⟩
set_option maxRecDepth 100000 in
theorem pmIp_105 : pmIp pmI_105 := ⟨rfl, by decide, pmds_9, by decide, Or.inr ⟨((lwd_30 28).trans rfl), ((lwd_4 22).trans rfl), Or.inl ⟨rfl, ((lwd_30 27).trans rfl), ((lwd_1 27).trans rfl), by decide⟩⟩⟩
set_option maxRecDepth 100000 in
theorem pmIp_106 : pmIp pmI_106 := ⟨rfl, by decide, pmds_7, by decide, Or.inr ⟨((lwd_31 0).trans rfl), ((lwd_4 11).trans rfl), Or.inl ⟨rfl, ((lwd_30 30).trans rfl), ((lwd_30 31).trans rfl), by decide⟩⟩⟩
set_option maxRecDepth 100000 in
theorem pmIp_107 : pmIp pmI_107 := ⟨rfl, by decide, pmds_4, by decide, Or.inr ⟨((lwd_31 4).trans rfl), ((lwd_4 11).trans rfl), Or.inl ⟨rfl, ((lwd_31 2).trans rfl), ((lwd_31 3).trans rfl), by decide⟩⟩⟩
set_option maxRecDepth 100000 in
theorem pmIp_108 : pmIp pmI_108 := ⟨rfl, by decide, pmds_39, by decide, Or.inr ⟨((lwd_31 8).trans rfl), ((lwd_4 15).trans rfl), Or.inl ⟨rfl, ((lwd_31 7).trans rfl), ((lwd_1 28).trans rfl), by decide⟩⟩⟩
set_option maxRecDepth 100000 in
theorem pmIp_109 : pmIp pmI_109 := ⟨rfl, by decide, pmds_4, by decide, Or.inr ⟨((lwd_31 12).trans rfl), ((lwd_4 11).trans rfl), Or.inl ⟨rfl, ((lwd_31 10).trans rfl), ((lwd_31 11).trans rfl), by decide⟩⟩⟩
set_option maxRecDepth 100000 in
theorem pmIp_110 : pmIp pmI_110 := ⟨rfl, by decide, pmds_4, by decide, Or.inr ⟨((lwd_31 16).trans rfl), ((lwd_4 11).trans rfl), Or.inl ⟨rfl, ((lwd_31 14).trans rfl), ((lwd_31 15).trans rfl), by decide⟩⟩⟩
set_option maxRecDepth 100000 in
theorem pmIp_111 : pmIp pmI_111 := ⟨rfl, by decide, pmds_39, by decide, Or.inr ⟨((lwd_31 20).trans rfl), ((lwd_4 21).trans rfl), Or.inl ⟨rfl, ((lwd_31 19).trans rfl), ((lwd_1 29).trans rfl), by decide⟩⟩⟩
set_option maxRecDepth 100000 in
theorem pmIp_112 : pmIp pmI_112 := ⟨rfl, by decide, pmds_41, by decide, Or.inr ⟨((lwd_31 24).trans rfl), ((lwd_4 21).trans rfl), Or.inl ⟨rfl, ((lwd_31 23).trans rfl), ((lwd_1 30).trans rfl), by decide⟩⟩⟩
set_option maxRecDepth 100000 in
theorem pmIp_113 : pmIp pmI_113 := ⟨rfl, by decide, pmds_38, by decide, Or.inr ⟨((lwd_31 31).trans rfl), ((lwd_4 16).trans rfl), Or.inl ⟨rfl, ((lwd_31 30).trans rfl), ((lwd_1 31).trans rfl), by decide⟩⟩⟩
set_option maxRecDepth 100000 in
theorem pmIp_114 : pmIp pmI_114 := ⟨rfl, by decide, pmds_0, by decide, Or.inr ⟨((lwd_32 7).trans rfl), ((lwd_4 11).trans rfl), Or.inl ⟨rfl, ((lwd_32 5).trans rfl), ((lwd_32 6).trans rfl), by decide⟩⟩⟩
set_option maxRecDepth 100000 in
theorem pmIp_115 : pmIp pmI_115 := ⟨rfl, by decide, pmds_7, by decide, Or.inr ⟨((lwd_32 11).trans rfl), ((lwd_4 11).trans rfl), Or.inl ⟨rfl, ((lwd_32 9).trans rfl), ((lwd_32 10).trans rfl), by decide⟩⟩⟩
set_option maxRecDepth 100000 in
theorem pmIp_116 : pmIp pmI_116 := ⟨rfl, by decide, pmds_4, by decide, Or.inr ⟨((lwd_32 15).trans rfl), ((lwd_4 11).trans rfl), Or.inl ⟨rfl, ((lwd_32 13).trans rfl), ((lwd_32 14).trans rfl), by decide⟩⟩⟩
set_option maxRecDepth 100000 in
theorem pmIp_117 : pmIp pmI_117 := ⟨rfl, by decide, pmds_45, by decide, Or.inr ⟨((lwd_32 19).trans rfl), ((lwd_4 22).trans rfl), Or.inl ⟨rfl, ((lwd_32 18).trans rfl), ((lwd_2 0).trans rfl), by decide⟩⟩⟩
set_option maxRecDepth 100000 in
theorem pmIp_118 : pmIp pmI_118 := ⟨rfl, by decide, pmds_7, by decide, Or.inr ⟨((lwd_32 23).trans rfl), ((lwd_4 22).trans rfl), Or.inl ⟨rfl, ((lwd_32 22).trans rfl), ((lwd_2 1).trans rfl), by decide⟩⟩⟩
set_option maxRecDepth 100000 in
theorem pmIp_119 : pmIp pmI_119 := ⟨rfl, by decide, pmds_4, by decide, Or.inr ⟨((lwd_33 0).trans rfl), ((lwd_4 11).trans rfl), Or.inl ⟨rfl, ((lwd_32 30).trans rfl), ((lwd_32 31).trans rfl), by decide⟩⟩⟩
set_option maxRecDepth 100000 in
theorem pmIp_120 : pmIp pmI_120 := ⟨rfl, by decide, pmds_14, by decide, Or.inr ⟨((lwd_33 4).trans rfl), ((lwd_4 11).trans rfl), Or.inl ⟨rfl, ((lwd_33 2).trans rfl), ((lwd_33 3).trans rfl), by decide⟩⟩⟩
set_option maxRecDepth 100000 in
theorem pmIp_121 : pmIp pmI_121 := ⟨rfl, by decide, pmds_45, by decide, Or.inr ⟨((lwd_33 10).trans rfl), ((lwd_4 20).trans rfl), Or.inl ⟨rfl, ((lwd_33 9).trans rfl), ((lwd_2 2).trans rfl), by decide⟩⟩⟩
set_option maxRecDepth 100000 in
theorem pmIp_122 : pmIp pmI_122 := ⟨rfl, by decide, pmds_27, by decide, Or.inr ⟨((lwd_33 15).trans rfl), ((lwd_4 20).trans rfl), Or.inl ⟨rfl, ((lwd_33 14).trans rfl), ((lwd_2 3).trans rfl), by decide⟩⟩⟩
set_option maxRecDepth 100000 in
theorem pmIp_123 : pmIp pmI_123 := ⟨rfl, by decide, pmds_23, by decide, Or.inr ⟨((lwd_33 20).trans rfl), ((lwd_4 11).trans rfl), Or.inr (Or.inl ⟨rfl, ((lwd_33 19).trans rfl)⟩)⟩⟩
set_option maxRecDepth 100000 in
theorem pmIp_124 : pmIp pmI_124 := ⟨rfl, by decide, pmds_4, by decide, Or.inr ⟨((lwd_33 24).trans rfl), ((lwd_4 11).trans rfl), Or.inl ⟨rfl, ((lwd_33 22).trans rfl), ((lwd_33 23).trans rfl), by decide⟩⟩⟩
set_option maxRecDepth 100000 in
theorem pmIp_125 : pmIp pmI_125 := ⟨rfl, by decide, pmds_4, by decide, Or.inr ⟨((lwd_33 28).trans rfl), ((lwd_4 22).trans rfl), Or.inl ⟨rfl, ((lwd_33 27).trans rfl), ((lwd_2 4).trans rfl), by decide⟩⟩⟩
set_option maxRecDepth 100000 in
theorem pmIp_126 : pmIp pmI_126 := ⟨rfl, by decide, pmds_7, by decide, Or.inr ⟨((lwd_34 1).trans rfl), ((lwd_4 22).trans rfl), Or.inl ⟨rfl, ((lwd_34 0).trans rfl), ((lwd_2 5).trans rfl), by decide⟩⟩⟩
set_option maxRecDepth 100000 in
theorem pmIp_127 : pmIp pmI_127 := ⟨rfl, by decide, pmds_11, by decide, Or.inr ⟨((lwd_34 5).trans rfl), ((lwd_4 11).trans rfl), Or.inl ⟨rfl, ((lwd_34 3).trans rfl), ((lwd_34 4).trans rfl), by decide⟩⟩⟩
set_option maxRecDepth 100000 in
theorem pmIp_128 : pmIp pmI_128 := ⟨rfl, by decide, pmds_7, by decide, Or.inr ⟨((lwd_34 9).trans rfl), ((lwd_4 11).trans rfl), Or.inr (Or.inl ⟨rfl, ((lwd_34 8).trans rfl)⟩)⟩⟩
set_option maxRecDepth 100000 in
theorem pmIp_129 : pmIp pmI_129 := ⟨rfl, by decide, pmds_7, by decide, Or.inr ⟨((lwd_34 13).trans rfl), ((lwd_4 11).trans rfl), Or.inl ⟨rfl, ((lwd_34 11).trans rfl), ((lwd_34 12).trans rfl), by decide⟩⟩⟩
set_option maxRecDepth 100000 in
theorem pmIp_130 : pmIp pmI_130 := ⟨rfl, by decide, pmds_35, by decide, Or.inr ⟨((lwd_34 17).trans rfl), ((lwd_4 22).trans rfl), Or.inl ⟨rfl, ((lwd_34 16).trans rfl), ((lwd_2 6).trans rfl), by decide⟩⟩⟩
set_option maxRecDepth 100000 in
theorem pmIp_131 : pmIp pmI_131 := ⟨rfl, by decide, pmds_4, by decide, Or.inr ⟨((lwd_34 21).trans rfl), ((lwd_4 12).trans rfl), Or.inl ⟨rfl, ((lwd_34 20).trans rfl), ((lwd_2 7).trans rfl), by decide⟩⟩⟩
set_option maxRecDepth 100000 in
theorem pmIp_132 : pmIp pmI_132 := ⟨rfl, by decide, pmds_4, by decide, Or.inr ⟨((lwd_34 25).trans rfl), ((lwd_4 11).trans rfl), Or.inl ⟨rfl, ((lwd_34 23).trans rfl), ((lwd_34 24).trans rfl), by decide⟩⟩⟩
set_option maxRecDepth 100000 in
theorem pmIp_133 : pmIp pmI_133 := ⟨rfl, by decide, pmds_4, by decide, Or.inr ⟨((lwd_34 29).trans rfl), ((lwd_4 11).trans rfl), Or.inl ⟨rfl, ((lwd_34 27).trans rfl), ((lwd_34 28).trans rfl), by decide⟩⟩⟩
set_option maxRecDepth 100000 in
theorem pmIp_134 : pmIp pmI_134 := ⟨rfl, by decide, pmds_4, by decide, Or.inr ⟨((lwd_35 1).trans rfl), ((lwd_4 11).trans rfl), Or.inl ⟨rfl, ((lwd_34 31).trans rfl), ((lwd_35 0).trans rfl), by decide⟩⟩⟩
set_option maxRecDepth 100000 in
theorem pmIp_135 : pmIp pmI_135 := ⟨rfl, by decide, pmds_4, by decide, Or.inr ⟨((lwd_35 5).trans rfl), ((lwd_4 11).trans rfl), Or.inl ⟨rfl, ((lwd_35 4).trans rfl), ((lwd_2 8).trans rfl), by decide⟩⟩⟩
set_option maxRecDepth 100000 in
theorem pmIp_136 : pmIp pmI_136 := ⟨rfl, by decide, pmds_1, by decide, Or.inr ⟨((lwd_35 11).trans rfl), ((lwd_4 23).trans rfl), Or.inr (Or.inr ⟨rfl, ((lwd_35 10).trans rfl), rfl, rfl⟩)⟩⟩
set_option maxRecDepth 100000 in
theorem pmIp_137 : pmIp pmI_137 := ⟨rfl, by decide, pmds_10, by decide, Or.inr ⟨((lwd_40 21).trans rfl), ((lwd_4 23).trans rfl), Or.inl ⟨rfl, ((lwd_40 19).trans rfl), ((lwd_40 20).trans rfl), by decide⟩⟩⟩
set_option maxRecDepth 100000 in
theorem pmIp_138 : pmIp pmI_138 := ⟨rfl, by decide, pmds_6, by decide, Or.inr ⟨((lwd_40 24).trans rfl), ((lwd_4 23).trans rfl), Or.inr (Or.inl ⟨rfl, ((lwd_40 23).trans rfl)⟩)⟩⟩
set_option maxRecDepth 100000 in
theorem pmIp_139 : pmIp pmI_139 := ⟨rfl, by decide, pmds_10, by decide, Or.inr ⟨((lwd_40 28).trans rfl), ((lwd_4 23).trans rfl), Or.inl ⟨rfl, ((lwd_40 26).trans rfl), ((lwd_40 27).trans rfl), by decide⟩⟩⟩
set_option maxRecDepth 100000 in
theorem pmIp_140 : pmIp pmI_140 := ⟨rfl, by decide, pmds_6, by decide, Or.inr ⟨((lwd_40 31).trans rfl), ((lwd_4 23).trans rfl), Or.inr (Or.inl ⟨rfl, ((lwd_40 30).trans rfl)⟩)⟩⟩
set_option maxRecDepth 100000 in
theorem pmIp_141 : pmIp pmI_141 := ⟨rfl, by decide, pmds_20, by decide, Or.inr ⟨((lwd_41 3).trans rfl), ((lwd_4 23).trans rfl), Or.inl ⟨rfl, ((lwd_41 1).trans rfl), ((lwd_41 2).trans rfl), by decide⟩⟩⟩
set_option maxRecDepth 100000 in
theorem pmIp_142 : pmIp pmI_142 := ⟨rfl, by decide, pmds_20, by decide, Or.inr ⟨((lwd_41 7).trans rfl), ((lwd_4 23).trans rfl), Or.inl ⟨rfl, ((lwd_41 5).trans rfl), ((lwd_41 6).trans rfl), by decide⟩⟩⟩
set_option maxRecDepth 100000 in
theorem pmIp_143 : pmIp pmI_143 := ⟨rfl, by decide, pmds_13, by decide, Or.inr ⟨((lwd_41 10).trans rfl), ((lwd_4 23).trans rfl), Or.inr (Or.inl ⟨rfl, ((lwd_41 9).trans rfl)⟩)⟩⟩
set_option maxRecDepth 100000 in
theorem pmIp_144 : pmIp pmI_144 := ⟨rfl, by decide, pmds_4, by decide, Or.inr ⟨((lwd_41 13).trans rfl), ((lwd_4 23).trans rfl), Or.inr (Or.inl ⟨rfl, ((lwd_41 12).trans rfl)⟩)⟩⟩
set_option maxRecDepth 100000 in
theorem pmIp_145 : pmIp pmI_145 := ⟨rfl, by decide, pmds_22, by decide, Or.inr ⟨((lwd_41 17).trans rfl), ((lwd_4 23).trans rfl), Or.inl ⟨rfl, ((lwd_41 15).trans rfl), ((lwd_41 16).trans rfl), by decide⟩⟩⟩
set_option maxRecDepth 100000 in
theorem pmIp_146 : pmIp pmI_146 := ⟨rfl, by decide, pmds_6, by decide, Or.inr ⟨((lwd_41 20).trans rfl), ((lwd_4 23).trans rfl), Or.inr (Or.inl ⟨rfl, ((lwd_41 19).trans rfl)⟩)⟩⟩
set_option maxRecDepth 100000 in
theorem pmIp_147 : pmIp pmI_147 := ⟨rfl, by decide, pmds_7, by decide, Or.inr ⟨((lwd_41 23).trans rfl), ((lwd_4 23).trans rfl), Or.inr (Or.inl ⟨rfl, ((lwd_41 22).trans rfl)⟩)⟩⟩
set_option maxRecDepth 100000 in
theorem pmIp_148 : pmIp pmI_148 := ⟨rfl, by decide, pmds_6, by decide, Or.inr ⟨((lwd_41 27).trans rfl), ((lwd_4 23).trans rfl), Or.inl ⟨rfl, ((lwd_41 26).trans rfl), ((lwd_2 9).trans rfl), by decide⟩⟩⟩
set_option maxRecDepth 100000 in
theorem pmIp_149 : pmIp pmI_149 := ⟨rfl, by decide, pmds_7, by decide, Or.inr ⟨((lwd_41 30).trans rfl), ((lwd_4 23).trans rfl), Or.inr (Or.inl ⟨rfl, ((lwd_41 29).trans rfl)⟩)⟩⟩
set_option maxRecDepth 100000 in
theorem pmIp_150 : pmIp pmI_150 := ⟨rfl, by decide, pmds_10, by decide, Or.inr ⟨((lwd_42 2).trans rfl), ((lwd_4 23).trans rfl), Or.inl ⟨rfl, ((lwd_42 0).trans rfl), ((lwd_42 1).trans rfl), by decide⟩⟩⟩
set_option maxRecDepth 100000 in
theorem pmIp_151 : pmIp pmI_151 := ⟨rfl, by decide, pmds_16, by decide, Or.inr ⟨((lwd_42 6).trans rfl), ((lwd_4 23).trans rfl), Or.inl ⟨rfl, ((lwd_42 4).trans rfl), ((lwd_42 5).trans rfl), by decide⟩⟩⟩
set_option maxRecDepth 100000 in
theorem pmIp_152 : pmIp pmI_152 := ⟨rfl, by decide, pmds_5, by decide, Or.inr ⟨((lwd_42 10).trans rfl), ((lwd_4 23).trans rfl), Or.inl ⟨rfl, ((lwd_42 9).trans rfl), ((lwd_2 10).trans rfl), by decide⟩⟩⟩
set_option maxRecDepth 100000 in
theorem pmIp_153 : pmIp pmI_153 := ⟨rfl, by decide, pmds_11, by decide, Or.inr ⟨((lwd_42 14).trans rfl), ((lwd_4 23).trans rfl), Or.inl ⟨rfl, ((lwd_42 12).trans rfl), ((lwd_42 13).trans rfl), by decide⟩⟩⟩
set_option maxRecDepth 100000 in
theorem pmIp_154 : pmIp pmI_154 := ⟨rfl, by decide, pmds_5, by decide, Or.inr ⟨((lwd_42 18).trans rfl), ((lwd_4 23).trans rfl), Or.inl ⟨rfl, ((lwd_42 17).trans rfl), ((lwd_2 11).trans rfl), by decide⟩⟩⟩
set_option maxRecDepth 100000 in
theorem pmIp_155 : pmIp pmI_155 := ⟨rfl, by decide, pmds_2, by decide, Or.inr ⟨((lwd_42 22).trans rfl), ((lwd_4 23).trans rfl), Or.inl ⟨rfl, ((lwd_42 21).trans rfl), ((lwd_2 12).trans rfl), by decide⟩⟩⟩
set_option maxRecDepth 100000 in
theorem pmIp_156 : pmIp pmI_156 := ⟨rfl, by decide, pmds_0, by decide, Or.inr ⟨((lwd_42 26).trans rfl), ((lwd_4 23).trans rfl), Or.inl ⟨rfl, ((lwd_42 25).trans rfl), ((lwd_2 13).trans rfl), by decide⟩⟩⟩
set_option maxRecDepth 100000 in
theorem pmIp_157 : pmIp pmI_157 := ⟨rfl, by decide, pmds_6, by decide, Or.inr ⟨((lwd_42 30).trans rfl), ((lwd_4 23).trans rfl), Or.inl ⟨rfl, ((lwd_42 29).trans rfl), ((lwd_2 14).trans rfl), by decide⟩⟩⟩
set_option maxRecDepth 100000 in
theorem pmIp_158 : pmIp pmI_158 := ⟨rfl, by decide, pmds_10, by decide, Or.inr ⟨((lwd_43 2).trans rfl), ((lwd_4 23).trans rfl), Or.inl ⟨rfl, ((lwd_43 1).trans rfl), ((lwd_2 15).trans rfl), by decide⟩⟩⟩
set_option maxRecDepth 100000 in
theorem pmIp_159 : pmIp pmI_159 := ⟨rfl, by decide, pmds_2, by decide, Or.inr ⟨((lwd_43 6).trans rfl), ((lwd_4 23).trans rfl), Or.inl ⟨rfl, ((lwd_43 5).trans rfl), ((lwd_2 16).trans rfl), by decide⟩⟩⟩
set_option maxRecDepth 100000 in
theorem pmIp_160 : pmIp pmI_160 := ⟨rfl, by decide, pmds_6, by decide, Or.inr ⟨((lwd_43 10).trans rfl), ((lwd_4 23).trans rfl), Or.inl ⟨rfl, ((lwd_43 9).trans rfl), ((lwd_2 17).trans rfl), by decide⟩⟩⟩
set_option maxRecDepth 100000 in
theorem pmIp_161 : pmIp pmI_161 := ⟨rfl, by decide, pmds_12, by decide, Or.inr ⟨((lwd_43 14).trans rfl), ((lwd_4 23).trans rfl), Or.inl ⟨rfl, ((lwd_43 13).trans rfl), ((lwd_2 18).trans rfl), by decide⟩⟩⟩
set_option maxRecDepth 100000 in
theorem pmIp_162 : pmIp pmI_162 := ⟨rfl, by decide, pmds_1, by decide, Or.inr ⟨((lwd_43 18).trans rfl), ((lwd_4 23).trans rfl), Or.inl ⟨rfl, ((lwd_43 17).trans rfl), ((lwd_2 19).trans rfl), by decide⟩⟩⟩
set_option maxRecDepth 100000 in
theorem pmIp_163 : pmIp pmI_163 := ⟨rfl, by decide, pmds_0, by decide, Or.inr ⟨((lwd_43 22).trans rfl), ((lwd_4 23).trans rfl), Or.inl ⟨rfl, ((lwd_43 21).trans rfl), ((lwd_2 20).trans rfl), by decide⟩⟩⟩
set_option maxRecDepth 100000 in
theorem pmIp_164 : pmIp pmI_164 := ⟨rfl, by decide, pmds_2, by decide, Or.inr ⟨((lwd_43 26).trans rfl), ((lwd_4 23).trans rfl), Or.inl ⟨rfl, ((lwd_43 25).trans rfl), ((lwd_2 21).trans rfl), by decide⟩⟩⟩
set_option maxRecDepth 100000 in
theorem pmIp_165 : pmIp pmI_165 := ⟨rfl, by decide, pmds_47, by decide, Or.inr ⟨((lwd_43 30).trans rfl), ((lwd_4 23).trans rfl), Or.inl ⟨rfl, ((lwd_43 29).trans rfl), ((lwd_2 22).trans rfl), by decide⟩⟩⟩
set_option maxRecDepth 100000 in
theorem pmIp_166 : pmIp pmI_166 := ⟨rfl, by decide, pmds_4, by decide, Or.inr ⟨((lwd_44 2).trans rfl), ((lwd_4 23).trans rfl), Or.inl ⟨rfl, ((lwd_44 0).trans rfl), ((lwd_44 1).trans rfl), by decide⟩⟩⟩
set_option maxRecDepth 100000 in
theorem pmIp_167 : pmIp pmI_167 := ⟨rfl, by decide, pmds_10, by decide, Or.inr ⟨((lwd_44 6).trans rfl), ((lwd_4 23).trans rfl), Or.inl ⟨rfl, ((lwd_44 5).trans rfl), ((lwd_2 23).trans rfl), by decide⟩⟩⟩
set_option maxRecDepth 100000 in
theorem pmIp_168 : pmIp pmI_168 := ⟨rfl, by decide, pmds_6, by decide, Or.inr ⟨((lwd_44 10).trans rfl), ((lwd_4 23).trans rfl), Or.inl ⟨rfl, ((lwd_44 9).trans rfl), ((lwd_2 24).trans rfl), by decide⟩⟩⟩
set_option maxRecDepth 100000 in
theorem pmIp_169 : pmIp pmI_169 := ⟨rfl, by decide, pmds_4, by decide, Or.inr ⟨((lwd_44 13).trans rfl), ((lwd_4 23).trans rfl), Or.inr (Or.inl ⟨rfl, ((lwd_44 12).trans rfl)⟩)⟩⟩
set_option maxRecDepth 100000 in
theorem pmIp_170 : pmIp pmI_170 := ⟨rfl, by decide, pmds_2, by decide, Or.inr ⟨((lwd_44 17).trans rfl), ((lwd_4 23).trans rfl), Or.inl ⟨rfl, ((lwd_44 16).trans rfl), ((lwd_2 25).trans rfl), by decide⟩⟩⟩
set_option maxRecDepth 100000 in
theorem pmIp_171 : pmIp pmI_171 := ⟨rfl, by decide, pmds_6, by decide, Or.inr ⟨((lwd_44 21).trans rfl), ((lwd_4 23).trans rfl), Or.inl ⟨rfl, ((lwd_44 20).trans rfl), ((lwd_2 26).trans rfl), by decide⟩⟩⟩
set_option maxRecDepth 100000 in
theorem pmIp_172 : pmIp pmI_172 := ⟨rfl, by decide, pmds_6, by decide, Or.inr ⟨((lwd_44 25).trans rfl), ((lwd_4 23).trans rfl), Or.inl ⟨rfl, ((lwd_44 24).trans rfl), ((lwd_2 27).trans rfl), by decide⟩⟩⟩
set_option maxRecDepth 100000 in
theorem pmIp_173 : pmIp pmI_173 := ⟨rfl, by decide, pmds_2, by decide, Or.inr ⟨((lwd_44 29).trans rfl), ((lwd_4 23).trans rfl), Or.inl ⟨rfl, ((lwd_44 27).trans rfl), ((lwd_44 28).trans rfl), by decide⟩⟩⟩
set_option maxRecDepth 100000 in
theorem pmIp_174 : pmIp pmI_174 := ⟨rfl, by decide, pmds_1, by decide, Or.inr ⟨((lwd_45 1).trans rfl), ((lwd_4 23).trans rfl), Or.inl ⟨rfl, ((lwd_45 0).trans rfl), ((lwd_2 28).trans rfl), by decide⟩⟩⟩
set_option maxRecDepth 100000 in
theorem pmIp_175 : pmIp pmI_175 := ⟨rfl, by decide, pmds_1, by decide, Or.inr ⟨((lwd_45 5).trans rfl), ((lwd_4 23).trans rfl), Or.inl ⟨rfl, ((lwd_45 4).trans rfl), ((lwd_2 29).trans rfl), by decide⟩⟩⟩
set_option maxRecDepth 100000 in
theorem pmIp_176 : pmIp pmI_176 := ⟨rfl, by decide, pmds_6, by decide, Or.inr ⟨((lwd_45 9).trans rfl), ((lwd_4 23).trans rfl), Or.inl ⟨rfl, ((lwd_45 8).trans rfl), ((lwd_2 30).trans rfl), by decide⟩⟩⟩
set_option maxRecDepth 100000 in
theorem pmIp_177 : pmIp pmI_177 := ⟨rfl, by decide, pmds_4, by decide, Or.inr ⟨((lwd_45 12).trans rfl), ((lwd_4 23).trans rfl), Or.inr (Or.inl ⟨rfl, ((lwd_45 11).trans rfl)⟩)⟩⟩
set_option maxRecDepth 100000 in
theorem pmIp_178 : pmIp pmI_178 := ⟨rfl, by decide, pmds_9, by decide, Or.inr ⟨((lwd_45 16).trans rfl), ((lwd_4 23).trans rfl), Or.inl ⟨rfl, ((lwd_45 15).trans rfl), ((lwd_2 31).trans rfl), by decide⟩⟩⟩
set_option maxRecDepth 100000 in
theorem pmIp_179 : pmIp pmI_179 := ⟨rfl, by decide, pmds_5, by decide, Or.inr ⟨((lwd_45 20).trans rfl), ((lwd_4 23).trans rfl), Or.inl ⟨rfl, ((lwd_45 19).trans rfl), ((lwd_3 0).trans rfl), by decide⟩⟩⟩
set_option maxRecDepth 100000 in
theorem pmIp_180 : pmIp pmI_180 := ⟨rfl, by decide, pmds_10, by decide, Or.inr ⟨((lwd_45 24).trans rfl), ((lwd_4 23).trans rfl), Or.inl ⟨rfl, ((lwd_45 23).trans rfl), ((lwd_3 1).trans rfl), by decide⟩⟩⟩
set_option maxRecDepth 100000 in
theorem pmIp_181 : pmIp pmI_181 := ⟨rfl, by decide, pmds_5, by decide, Or.inr ⟨((lwd_45 28).trans rfl), ((lwd_4 23).trans rfl), Or.inl ⟨rfl, ((lwd_45 27).trans rfl), ((lwd_3 2).trans rfl), by decide⟩⟩⟩
set_option maxRecDepth 100000 in
theorem pmIp_182 : pmIp pmI_182 := ⟨rfl, by decide, pmds_21, by decide, Or.inr ⟨((lwd_46 0).trans rfl), ((lwd_4 23).trans rfl), Or.inl ⟨rfl, ((lwd_45 30).trans rfl), ((lwd_45 31).trans rfl), by decide⟩⟩⟩
set_option maxRecDepth 100000 in
theorem pmIp_183 : pmIp pmI_183 := ⟨rfl, by decide, pmds_7, by decide, Or.inr ⟨((lwd_46 4).trans rfl), ((lwd_4 23).trans rfl), Or.inl ⟨rfl, ((lwd_46 2).trans rfl), ((lwd_46 3).trans rfl), by decide⟩⟩⟩
set_option maxRecDepth 100000 in
theorem pmIp_184 : pmIp pmI_184 := ⟨rfl, by decide, pmds_10, by decide, Or.inr ⟨((lwd_46 8).trans rfl), ((lwd_4 23).trans rfl), Or.inl ⟨rfl, ((lwd_46 7).trans rfl), ((lwd_3 3).trans rfl), by decide⟩⟩⟩
set_option maxRecDepth 100000 in
theorem pmIp_185 : pmIp pmI_185 := ⟨rfl, by decide, pmds_6, by decide, Or.inr ⟨((lwd_46 12).trans rfl), ((lwd_4 23).trans rfl), Or.inl ⟨rfl, ((lwd_46 11).trans rfl), ((lwd_3 4).trans rfl), by decide⟩⟩⟩
set_option maxRecDepth 100000 in
theorem pmIp_186 : pmIp pmI_186 := ⟨rfl, by decide, pmds_5, by decide, Or.inr ⟨((lwd_46 16).trans rfl), ((lwd_4 23).trans rfl), Or.inl ⟨rfl, ((lwd_46 15).trans rfl), ((lwd_3 5).trans rfl), by decide⟩⟩⟩
set_option maxRecDepth 100000 in
theorem pmIp_187 : pmIp pmI_187 := ⟨rfl, by decide, pmds_13, by decide, Or.inr ⟨((lwd_46 20).trans rfl), ((lwd_4 23).trans rfl), Or.inl ⟨rfl, ((lwd_46 19).trans rfl), ((lwd_3 6).trans rfl), by decide⟩⟩⟩
set_option maxRecDepth 100000 in
theorem pmIp_188 : pmIp pmI_188 := ⟨rfl, by decide, pmds_17, by decide, Or.inr ⟨((lwd_46 24).trans rfl), ((lwd_4 23).trans rfl), Or.inl ⟨rfl, ((lwd_46 23).trans rfl), ((lwd_3 7).trans rfl), by decide⟩⟩⟩
set_option maxRecDepth 100000 in
theorem pmIp_189 : pmIp pmI_189 := ⟨rfl, by decide, pmds_11, by decide, Or.inr ⟨((lwd_46 28).trans rfl), ((lwd_4 23).trans rfl), Or.inl ⟨rfl, ((lwd_46 26).trans rfl), ((lwd_46 27).trans rfl), by decide⟩⟩⟩
set_option maxRecDepth 100000 in
theorem pmIp_190 : pmIp pmI_190 := ⟨rfl, by decide, pmds_10, by decide, Or.inr ⟨((lwd_47 0).trans rfl), ((lwd_4 23).trans rfl), Or.inl ⟨rfl, ((lwd_46 31).trans rfl), ((lwd_3 8).trans rfl), by decide⟩⟩⟩
set_option maxRecDepth 100000 in
theorem pmIp_191 : pmIp pmI_191 := ⟨rfl, by decide, pmds_13, by decide, Or.inr ⟨((lwd_47 4).trans rfl), ((lwd_4 23).trans rfl), Or.inl ⟨rfl, ((lwd_47 3).trans rfl), ((lwd_3 9).trans rfl), by decide⟩⟩⟩
set_option maxRecDepth 100000 in
theorem pmIp_192 : pmIp pmI_192 := ⟨rfl, by decide, pmds_4, by decide, Or.inr ⟨((lwd_47 7).trans rfl), ((lwd_4 23).trans rfl), Or.inr (Or.inl ⟨rfl, ((lwd_47 6).trans rfl)⟩)⟩⟩
set_option maxRecDepth 100000 in
theorem pmIp_193 : pmIp pmI_193 := ⟨rfl, by decide, pmds_4, by decide, Or.inr ⟨((lwd_47 10).trans rfl), ((lwd_4 23).trans rfl), Or.inr (Or.inl ⟨rfl, ((lwd_47 9).trans rfl)⟩)⟩⟩
set_option maxRecDepth 100000 in
theorem pmIp_194 : pmIp pmI_194 := ⟨rfl, by decide, pmds_4, by decide, Or.inr ⟨((lwd_47 13).trans rfl), ((lwd_4 23).trans rfl), Or.inr (Or.inl ⟨rfl, ((lwd_47 12).trans rfl)⟩)⟩⟩
set_option maxRecDepth 100000 in
theorem pmIp_195 : pmIp pmI_195 := ⟨rfl, by decide, pmds_10, by decide, Or.inr ⟨((lwd_47 17).trans rfl), ((lwd_4 23).trans rfl), Or.inl ⟨rfl, ((lwd_47 16).trans rfl), ((lwd_3 10).trans rfl), by decide⟩⟩⟩
set_option maxRecDepth 100000 in
theorem pmIp_196 : pmIp pmI_196 := ⟨rfl, by decide, pmds_12, by decide, Or.inr ⟨((lwd_47 21).trans rfl), ((lwd_4 23).trans rfl), Or.inl ⟨rfl, ((lwd_47 20).trans rfl), ((lwd_3 11).trans rfl), by decide⟩⟩⟩
set_option maxRecDepth 100000 in
theorem pmIp_197 : pmIp pmI_197 := ⟨rfl, by decide, pmds_4, by decide, Or.inr ⟨((lwd_47 25).trans rfl), ((lwd_4 23).trans rfl), Or.inl ⟨rfl, ((lwd_47 23).trans rfl), ((lwd_47 24).trans rfl), by decide⟩⟩⟩
set_option maxRecDepth 100000 in
theorem pmIp_198 : pmIp pmI_198 := ⟨rfl, by decide, pmds_5, by decide, Or.inr ⟨((lwd_47 29).trans rfl), ((lwd_4 23).trans rfl), Or.inl ⟨rfl, ((lwd_47 28).trans rfl), ((lwd_3 12).trans rfl), by decide⟩⟩⟩
set_option maxRecDepth 100000 in
theorem pmIp_199 : pmIp pmI_199 := ⟨rfl, by decide, pmds_7, by decide, Or.inr ⟨((lwd_48 1).trans rfl), ((lwd_4 23).trans rfl), Or.inl ⟨rfl, ((lwd_48 0).trans rfl), ((lwd_3 13).trans rfl), by decide⟩⟩⟩
set_option maxRecDepth 100000 in
theorem pmIp_200 : pmIp pmI_200 := ⟨rfl, by decide, pmds_8, by decide, Or.inr ⟨((lwd_48 5).trans rfl), ((lwd_4 23).trans rfl), Or.inl ⟨rfl, ((lwd_48 4).trans rfl), ((lwd_3 14).trans rfl), by decide⟩⟩⟩
set_option maxRecDepth 100000 in
theorem pmIp_201 : pmIp pmI_201 := ⟨rfl, by decide, pmds_4, by decide, Or.inr ⟨((lwd_48 13).trans rfl), ((lwd_4 23).trans rfl), Or.inl ⟨rfl, ((lwd_48 11).trans rfl), ((lwd_48 12).trans rfl), by decide⟩⟩⟩
set_option maxRecDepth 100000 in
theorem pmIp_202 : pmIp pmI_202 := ⟨rfl, by decide, pmds_6, by decide, Or.inr ⟨((lwd_48 17).trans rfl), ((lwd_4 23).trans rfl), Or.inl ⟨rfl, ((lwd_48 16).trans rfl), ((lwd_3 15).trans rfl), by decide⟩⟩⟩
set_option maxRecDepth 100000 in
theorem pmIp_203 : pmIp pmI_203 := ⟨rfl, by decide, pmds_4, by decide, Or.inr ⟨((lwd_48 21).trans rfl), ((lwd_4 23).trans rfl), Or.inl ⟨rfl, ((lwd_48 19).trans rfl), ((lwd_48 20).trans rfl), by decide⟩⟩⟩
set_option maxRecDepth 100000 in
theorem pmIp_204 : pmIp pmI_204 := ⟨rfl, by decide, pmds_11, by decide, Or.inr ⟨((lwd_48 25).trans rfl), ((lwd_4 23).trans rfl), Or.inl ⟨rfl, ((lwd_48 23).trans rfl), ((lwd_48 24).trans rfl), by decide⟩⟩⟩
set_option maxRecDepth 100000 in
theorem pmIp_205 : pmIp pmI_205 := ⟨rfl, by decide, pmds_11, by decide, Or.inr ⟨((lwd_48 28).trans rfl), ((lwd_4 23).trans rfl), Or.inr (Or.inl ⟨rfl, ((lwd_48 27).trans rfl)⟩)⟩⟩
set_option maxRecDepth 100000 in
theorem pmIp_206 : pmIp pmI_206 := ⟨rfl, by decide, pmds_10, by decide, Or.inr ⟨((lwd_49 0).trans rfl), ((lwd_4 23).trans rfl), Or.inl ⟨rfl, ((lwd_48 31).trans rfl), ((lwd_3 16).trans rfl), by decide⟩⟩⟩
set_option maxRecDepth 100000 in
theorem pmIp_207 : pmIp pmI_207 := ⟨rfl, by decide, pmds_6, by decide, Or.inr ⟨((lwd_49 4).trans rfl), ((lwd_4 23).trans rfl), Or.inl ⟨rfl, ((lwd_49 3).trans rfl), ((lwd_3 17).trans rfl), by decide⟩⟩⟩
set_option maxRecDepth 100000 in
theorem pmIp_208 : pmIp pmI_208 := ⟨rfl, by decide, pmds_9, by decide, Or.inr ⟨((lwd_49 8).trans rfl), ((lwd_4 23).trans rfl), Or.inl ⟨rfl, ((lwd_49 7).trans rfl), ((lwd_3 18).trans rfl), by decide⟩⟩⟩
set_option maxRecDepth 100000 in
theorem pmIp_209 : pmIp pmI_209 := ⟨rfl, by decide, pmds_7, by decide, Or.inr ⟨((lwd_49 12).trans rfl), ((lwd_4 23).trans rfl), Or.inl ⟨rfl, ((lwd_49 11).trans rfl), ((lwd_3 19).trans rfl), by decide⟩⟩⟩
set_option maxRecDepth 100000 in
theorem pmIp_210 : pmIp pmI_210 := ⟨rfl, by decide, pmds_7, by decide, Or.inr ⟨((lwd_49 16).trans rfl), ((lwd_4 23).trans rfl), Or.inl ⟨rfl, ((lwd_49 15).trans rfl), ((lwd_3 20).trans rfl), by decide⟩⟩⟩
set_option maxRecDepth 100000 in
theorem pmIp_211 : pmIp pmI_211 := ⟨rfl, by decide, pmds_9, by decide, Or.inr ⟨((lwd_49 20).trans rfl), ((lwd_4 23).trans rfl), Or.inl ⟨rfl, ((lwd_49 19).trans rfl), ((lwd_3 21).trans rfl), by decide⟩⟩⟩
set_option maxRecDepth 100000 in
theorem pmIp_212 : pmIp pmI_212 := ⟨rfl, by decide, pmds_12, by decide, Or.inr ⟨((lwd_49 24).trans rfl), ((lwd_4 23).trans rfl), Or.inl ⟨rfl, ((lwd_49 23).trans rfl), ((lwd_3 22).trans rfl), by decide⟩⟩⟩
set_option maxRecDepth 100000 in
theorem pmIp_213 : pmIp pmI_213 := ⟨rfl, by decide, pmds_15, by decide, Or.inr ⟨((lwd_49 28).trans rfl), ((lwd_4 23).trans rfl), Or.inl ⟨rfl, ((lwd_49 27).trans rfl), ((lwd_3 23).trans rfl), by decide⟩⟩⟩
set_option maxRecDepth 100000 in
theorem pmIp_214 : pmIp pmI_214 := ⟨rfl, by decide, pmds_1, by decide, Or.inr ⟨((lwd_50 0).trans rfl), ((lwd_4 23).trans rfl), Or.inl ⟨rfl, ((lwd_49 31).trans rfl), ((lwd_3 24).trans rfl), by decide⟩⟩⟩
set_option maxRecDepth 100000 in
theorem pmIp_215 : pmIp pmI_215 := ⟨rfl, by decide, pmds_7, by decide, Or.inr ⟨((lwd_50 4).trans rfl), ((lwd_4 23).trans rfl), Or.inl ⟨rfl, ((lwd_50 2).trans rfl), ((lwd_50 3).trans rfl), by decide⟩⟩⟩
set_option maxRecDepth 100000 in
theorem pmIp_216 : pmIp pmI_216 := ⟨rfl, by decide, pmds_4, by decide, Or.inr ⟨((lwd_50 8).trans rfl), ((lwd_4 23).trans rfl), Or.inl ⟨rfl, ((lwd_50 7).trans rfl), ((lwd_3 25).trans rfl), by decide⟩⟩⟩
set_option maxRecDepth 100000 in
theorem pmIp_217 : pmIp pmI_217 := ⟨rfl, by decide, pmds_6, by decide, Or.inr ⟨((lwd_50 12).trans rfl), ((lwd_4 23).trans rfl), Or.inl ⟨rfl, ((lwd_50 11).trans rfl), ((lwd_3 26).trans rfl), by decide⟩⟩⟩
set_option maxRecDepth 100000 in
theorem pmIp_218 : pmIp pmI_218 := ⟨rfl, by decide, pmds_10, by decide, Or.inr ⟨((lwd_50 16).trans rfl), ((lwd_4 23).trans rfl), Or.inl ⟨rfl, ((lwd_50 15).trans rfl), ((lwd_3 27).trans rfl), by decide⟩⟩⟩
set_option maxRecDepth 100000 in
theorem pmIp_219 : pmIp pmI_219 := ⟨rfl, by decide, pmds_10, by decide, Or.inr ⟨((lwd_50 20).trans rfl), ((lwd_4 23).trans rfl), Or.inl ⟨rfl, ((lwd_50 19).trans rfl), ((lwd_3 28).trans rfl), by decide⟩⟩⟩
set_option maxRecDepth 100000 in
theorem pmIp_220 : pmIp pmI_220 := ⟨rfl, by decide, pmds_4, by decide, Or.inr ⟨((lwd_50 24).trans rfl), ((lwd_4 23).trans rfl), Or.inl ⟨rfl, ((lwd_50 23).trans rfl), ((lwd_3 29).trans rfl), by decide⟩⟩⟩
set_option maxRecDepth 100000 in
theorem pmIp_221 : pmIp pmI_221 := ⟨rfl, by decide, pmds_5, by decide, Or.inr ⟨((lwd_50 28).trans rfl), ((lwd_4 23).trans rfl), Or.inl ⟨rfl, ((lwd_50 27).trans rfl), ((lwd_3 30).trans rfl), by decide⟩⟩⟩
set_option maxRecDepth 100000 in
theorem pmIp_222 : pmIp pmI_222 := ⟨rfl, by decide, pmds_7, by decide, Or.inr ⟨((lwd_51 0).trans rfl), ((lwd_4 23).trans rfl), Or.inl ⟨rfl, ((lwd_50 30).trans rfl), ((lwd_50 31).trans rfl), by decide⟩⟩⟩
set_option maxRecDepth 100000 in
theorem pmIp_223 : pmIp pmI_223 := ⟨rfl, by decide, pmds_4, by decide, Or.inr ⟨((lwd_51 4).trans rfl), ((lwd_4 23).trans rfl), Or.inl ⟨rfl, ((lwd_51 2).trans rfl), ((lwd_51 3).trans rfl), by decide⟩⟩⟩
set_option maxRecDepth 100000 in
theorem pmIp_224 : pmIp pmI_224 := ⟨rfl, by decide, pmds_2, by decide, Or.inr ⟨((lwd_51 8).trans rfl), ((lwd_4 23).trans rfl), Or.inl ⟨rfl, ((lwd_51 7).trans rfl), ((lwd_3 31).trans rfl), by decide⟩⟩⟩
set_option maxRecDepth 100000 in
theorem pmIp_225 : pmIp pmI_225 := ⟨rfl, by decide, pmds_6, by decide, Or.inr ⟨((lwd_51 12).trans rfl), ((lwd_4 23).trans rfl), Or.inl ⟨rfl, ((lwd_51 11).trans rfl), ((lwd_4 0).trans rfl), by decide⟩⟩⟩
set_option maxRecDepth 100000 in
theorem pmIp_226 : pmIp pmI_226 := ⟨rfl, by decide, pmds_10, by decide, Or.inr ⟨((lwd_51 16).trans rfl), ((lwd_4 23).trans rfl), Or.inl ⟨rfl, ((lwd_51 15).trans rfl), ((lwd_4 1).trans rfl), by decide⟩⟩⟩
set_option maxRecDepth 100000 in
theorem pmIp_227 : pmIp pmI_227 := ⟨rfl, by decide, pmds_5, by decide, Or.inr ⟨((lwd_51 20).trans rfl), ((lwd_4 23).trans rfl), Or.inl ⟨rfl, ((lwd_51 19).trans rfl), ((lwd_4 2).trans rfl), by decide⟩⟩⟩
set_option maxRecDepth 100000 in
theorem pmIp_228 : pmIp pmI_228 := ⟨rfl, by decide, pmds_6, by decide, Or.inr ⟨((lwd_51 24).trans rfl), ((lwd_4 23).trans rfl), Or.inl ⟨rfl, ((lwd_51 23).trans rfl), ((lwd_4 3).trans rfl), by decide⟩⟩⟩
set_option maxRecDepth 100000 in
theorem pmIp_229 : pmIp pmI_229 := ⟨rfl, by decide, pmds_10, by decide, Or.inr ⟨((lwd_51 28).trans rfl), ((lwd_4 23).trans rfl), Or.inl ⟨rfl, ((lwd_51 27).trans rfl), ((lwd_4 4).trans rfl), by decide⟩⟩⟩
set_option maxRecDepth 100000 in
theorem pmIp_230 : pmIp pmI_230 := ⟨rfl, by decide, pmds_0, by decide, Or.inr ⟨((lwd_52 0).trans rfl), ((lwd_4 23).trans rfl), Or.inl ⟨rfl, ((lwd_51 30).trans rfl), ((lwd_51 31).trans rfl), by decide⟩⟩⟩
set_option maxRecDepth 100000 in
theorem pmIp_231 : pmIp pmI_231 := ⟨rfl, by decide, pmds_7, by decide, Or.inr ⟨((lwd_52 4).trans rfl), ((lwd_4 23).trans rfl), Or.inl ⟨rfl, ((lwd_52 2).trans rfl), ((lwd_52 3).trans rfl), by decide⟩⟩⟩
set_option maxRecDepth 100000 in
theorem pmIp_232 : pmIp pmI_232 := ⟨rfl, by decide, pmds_4, by decide, Or.inr ⟨((lwd_52 8).trans rfl), ((lwd_4 23).trans rfl), Or.inl ⟨rfl, ((lwd_52 6).trans rfl), ((lwd_52 7).trans rfl), by decide⟩⟩⟩
set_option maxRecDepth 100000 in
theorem pmIp_233 : pmIp pmI_233 := ⟨rfl, by decide, pmds_12, by decide, Or.inr ⟨((lwd_52 12).trans rfl), ((lwd_4 23).trans rfl), Or.inl ⟨rfl, ((lwd_52 11).trans rfl), ((lwd_4 5).trans rfl), by decide⟩⟩⟩
set_option maxRecDepth 100000 in
theorem pmIp_234 : pmIp pmI_234 := ⟨rfl, by decide, pmds_10, by decide, Or.inr ⟨((lwd_52 16).trans rfl), ((lwd_4 23).trans rfl), Or.inl ⟨rfl, ((lwd_52 15).trans rfl), ((lwd_4 6).trans rfl), by decide⟩⟩⟩
set_option maxRecDepth 100000 in
theorem pmIp_235 : pmIp pmI_235 := ⟨rfl, by decide, pmds_5, by decide, Or.inr ⟨((lwd_52 20).trans rfl), ((lwd_4 23).trans rfl), Or.inl ⟨rfl, ((lwd_52 19).trans rfl), ((lwd_4 7).trans rfl), by decide⟩⟩⟩
set_option maxRecDepth 100000 in
theorem pmIp_236 : pmIp pmI_236 := ⟨rfl, by decide, pmds_4, by decide, Or.inr ⟨((lwd_52 24).trans rfl), ((lwd_4 23).trans rfl), Or.inl ⟨rfl, ((lwd_52 22).trans rfl), ((lwd_52 23).trans rfl), by decide⟩⟩⟩
set_option maxRecDepth 100000 in
theorem pmIp_237 : pmIp pmI_237 := ⟨rfl, by decide, pmds_14, by decide, Or.inr ⟨((lwd_52 28).trans rfl), ((lwd_4 23).trans rfl), Or.inl ⟨rfl, ((lwd_52 26).trans rfl), ((lwd_52 27).trans rfl), by decide⟩⟩⟩
set_option maxRecDepth 100000 in
theorem pmIp_238 : pmIp pmI_238 := ⟨rfl, by decide, pmds_7, by decide, Or.inr ⟨((lwd_53 2).trans rfl), ((lwd_4 23).trans rfl), Or.inl ⟨rfl, ((lwd_53 1).trans rfl), ((lwd_4 8).trans rfl), by decide⟩⟩⟩
set_option maxRecDepth 100000 in
theorem pmIp_239 : pmIp pmI_239 := ⟨rfl, by decide, pmds_4, by decide, Or.inr ⟨((lwd_53 6).trans rfl), ((lwd_4 23).trans rfl), Or.inl ⟨rfl, ((lwd_53 4).trans rfl), ((lwd_53 5).trans rfl), by decide⟩⟩⟩
set_option maxRecDepth 100000 in
theorem pmIp_240 : pmIp pmI_240 := ⟨rfl, by decide, pmds_11, by decide, Or.inr ⟨((lwd_53 10).trans rfl), ((lwd_4 23).trans rfl), Or.inl ⟨rfl, ((lwd_53 8).trans rfl), ((lwd_53 9).trans rfl), by decide⟩⟩⟩
set_option maxRecDepth 100000 in
theorem pmIp_241 : pmIp pmI_241 := ⟨rfl, by decide, pmds_7, by decide, Or.inr ⟨((lwd_53 14).trans rfl), ((lwd_4 23).trans rfl), Or.inl ⟨rfl, ((lwd_53 12).trans rfl), ((lwd_53 13).trans rfl), by decide⟩⟩⟩
set_option maxRecDepth 100000 in
theorem pmIp_242 : pmIp pmI_242 := ⟨rfl, by decide, pmds_4, by decide, Or.inr ⟨((lwd_53 18).trans rfl), ((lwd_4 23).trans rfl), Or.inl ⟨rfl, ((lwd_53 17).trans rfl), ((lwd_4 9).trans rfl), by decide⟩⟩⟩
set_option maxRecDepth 100000 in
theorem pmIp_243 : pmIp pmI_243 := ⟨rfl, by decide, pmds_4, by decide, Or.inr ⟨((lwd_53 22).trans rfl), ((lwd_4 23).trans rfl), Or.inl ⟨rfl, ((lwd_53 20).trans rfl), ((lwd_53 21).trans rfl), by decide⟩⟩⟩
set_option maxRecDepth 100000 in
theorem pmIp_244 : pmIp pmI_244 := ⟨rfl, by decide, pmds_4, by decide, Or.inr ⟨((lwd_53 26).trans rfl), ((lwd_4 23).trans rfl), Or.inl ⟨rfl, ((lwd_53 24).trans rfl), ((lwd_53 25).trans rfl), by decide⟩⟩⟩
set_option maxRecDepth 100000 in
theorem pmIp_245 : pmIp pmI_245 := ⟨rfl, by decide, pmds_4, by decide, Or.inr ⟨((lwd_53 30).trans rfl), ((lwd_4 23).trans rfl), Or.inl ⟨rfl, ((lwd_53 28).trans rfl), ((lwd_53 29).trans rfl), by decide⟩⟩⟩
set_option maxRecDepth 100000 in
theorem pmIp_246 : pmIp pmI_246 := ⟨rfl, by decide, pmds_49, by decide, Or.inl rfl⟩
set_option maxRecDepth 100000 in
theorem pmIa_0 : ∀ q ∈ pmAll_0, pmIp q.1 := List.forall_mem_cons.mpr ⟨pmIp_0, List.forall_mem_cons.mpr ⟨pmIp_1, List.forall_mem_cons.mpr ⟨pmIp_2, List.forall_mem_cons.mpr ⟨pmIp_3, List.forall_mem_cons.mpr ⟨pmIp_4, List.forall_mem_cons.mpr ⟨pmIp_5, List.forall_mem_cons.mpr ⟨pmIp_6, List.forall_mem_cons.mpr ⟨pmIp_7, List.forall_mem_cons.mpr ⟨pmIp_8, List.forall_mem_cons.mpr ⟨pmIp_9, List.forall_mem_cons.mpr ⟨pmIp_10, List.forall_mem_cons.mpr ⟨pmIp_11, List.forall_mem_cons.mpr ⟨pmIp_12, List.forall_mem_cons.mpr ⟨pmIp_13, List.forall_mem_cons.mpr ⟨pmIp_14, List.forall_mem_cons.mpr ⟨pmIp_15, fun _ h => absurd h List.not_mem_nil⟩⟩⟩⟩⟩⟩⟩⟩⟩⟩⟩⟩⟩⟩⟩⟩
set_option maxRecDepth 100000 in
theorem pmIa_1 : ∀ q ∈ pmAll_1, pmIp q.1 := List.forall_mem_cons.mpr ⟨pmIp_16, List.forall_mem_cons.mpr ⟨pmIp_17, List.forall_mem_cons.mpr ⟨pmIp_18, List.forall_mem_cons.mpr ⟨pmIp_19, List.forall_mem_cons.mpr ⟨pmIp_20, List.forall_mem_cons.mpr ⟨pmIp_21, List.forall_mem_cons.mpr ⟨pmIp_22, List.forall_mem_cons.mpr ⟨pmIp_23, List.forall_mem_cons.mpr ⟨pmIp_24, List.forall_mem_cons.mpr ⟨pmIp_25, List.forall_mem_cons.mpr ⟨pmIp_26, List.forall_mem_cons.mpr ⟨pmIp_27, List.forall_mem_cons.mpr ⟨pmIp_28, List.forall_mem_cons.mpr ⟨pmIp_29, List.forall_mem_cons.mpr ⟨pmIp_30, List.forall_mem_cons.mpr ⟨pmIp_31, fun _ h => absurd h List.not_mem_nil⟩⟩⟩⟩⟩⟩⟩⟩⟩⟩⟩⟩⟩⟩⟩⟩
set_option maxRecDepth 100000 in
theorem pmIa_2 : ∀ q ∈ pmAll_2, pmIp q.1 := List.forall_mem_cons.mpr ⟨pmIp_32, List.forall_mem_cons.mpr ⟨pmIp_33, List.forall_mem_cons.mpr ⟨pmIp_34, List.forall_mem_cons.mpr ⟨pmIp_35, List.forall_mem_cons.mpr ⟨pmIp_36, List.forall_mem_cons.mpr ⟨pmIp_37, List.forall_mem_cons.mpr ⟨pmIp_38, List.forall_mem_cons.mpr ⟨pmIp_39, List.forall_mem_cons.mpr ⟨pmIp_40, List.forall_mem_cons.mpr ⟨pmIp_41, List.forall_mem_cons.mpr ⟨pmIp_42, List.forall_mem_cons.mpr ⟨pmIp_43, List.forall_mem_cons.mpr ⟨pmIp_44, List.forall_mem_cons.mpr ⟨pmIp_45, List.forall_mem_cons.mpr ⟨pmIp_46, List.forall_mem_cons.mpr ⟨pmIp_47, fun _ h => absurd h List.not_mem_nil⟩⟩⟩⟩⟩⟩⟩⟩⟩⟩⟩⟩⟩⟩⟩⟩
set_option maxRecDepth 100000 in
theorem pmIa_3 : ∀ q ∈ pmAll_3, pmIp q.1 := List.forall_mem_cons.mpr ⟨pmIp_48, List.forall_mem_cons.mpr ⟨pmIp_49, List.forall_mem_cons.mpr ⟨pmIp_50, List.forall_mem_cons.mpr ⟨pmIp_51, List.forall_mem_cons.mpr ⟨pmIp_52, List.forall_mem_cons.mpr ⟨pmIp_53, List.forall_mem_cons.mpr ⟨pmIp_54, List.forall_mem_cons.mpr ⟨pmIp_55, List.forall_mem_cons.mpr ⟨pmIp_56, List.forall_mem_cons.mpr ⟨pmIp_57, List.forall_mem_cons.mpr ⟨pmIp_58, List.forall_mem_cons.mpr ⟨pmIp_59, List.forall_mem_cons.mpr ⟨pmIp_60, List.forall_mem_cons.mpr ⟨pmIp_61, List.forall_mem_cons.mpr ⟨pmIp_62, List.forall_mem_cons.mpr ⟨pmIp_63, fun _ h => absurd h List.not_mem_nil⟩⟩⟩⟩⟩⟩⟩⟩⟩⟩⟩⟩⟩⟩⟩⟩
set_option maxRecDepth 100000 in
theorem pmIa_4 : ∀ q ∈ pmAll_4, pmIp q.1 := List.forall_mem_cons.mpr ⟨pmIp_64, List.forall_mem_cons.mpr ⟨pmIp_65, List.forall_mem_cons.mpr ⟨pmIp_66, List.forall_mem_cons.mpr ⟨pmIp_67, List.forall_mem_cons.mpr ⟨pmIp_68, List.forall_mem_cons.mpr ⟨pmIp_69, List.forall_mem_cons.mpr ⟨pmIp_70, List.forall_mem_cons.mpr ⟨pmIp_71, List.forall_mem_cons.mpr ⟨pmIp_72, List.forall_mem_cons.mpr ⟨pmIp_73, List.forall_mem_cons.mpr ⟨pmIp_74, List.forall_mem_cons.mpr ⟨pmIp_75, List.forall_mem_cons.mpr ⟨pmIp_76, List.forall_mem_cons.mpr ⟨pmIp_77, List.forall_mem_cons.mpr ⟨pmIp_78, List.forall_mem_cons.mpr ⟨pmIp_79, fun _ h => absurd h List.not_mem_nil⟩⟩⟩⟩⟩⟩⟩⟩⟩⟩⟩⟩⟩⟩⟩⟩
set_option maxRecDepth 100000 in
theorem pmIa_5 : ∀ q ∈ pmAll_5, pmIp q.1 := List.forall_mem_cons.mpr ⟨pmIp_80, List.forall_mem_cons.mpr ⟨pmIp_81, List.forall_mem_cons.mpr ⟨pmIp_82, List.forall_mem_cons.mpr ⟨pmIp_83, List.forall_mem_cons.mpr ⟨pmIp_84, List.forall_mem_cons.mpr ⟨pmIp_85, List.forall_mem_cons.mpr ⟨pmIp_86, List.forall_mem_cons.mpr ⟨pmIp_87, List.forall_mem_cons.mpr ⟨pmIp_88, List.forall_mem_cons.mpr ⟨pmIp_89, List.forall_mem_cons.mpr ⟨pmIp_90, List.forall_mem_cons.mpr ⟨pmIp_91, List.forall_mem_cons.mpr ⟨pmIp_92, List.forall_mem_cons.mpr ⟨pmIp_93, List.forall_mem_cons.mpr ⟨pmIp_94, List.forall_mem_cons.mpr ⟨pmIp_95, fun _ h => absurd h List.not_mem_nil⟩⟩⟩⟩⟩⟩⟩⟩⟩⟩⟩⟩⟩⟩⟩⟩
set_option maxRecDepth 100000 in
theorem pmIa_6 : ∀ q ∈ pmAll_6, pmIp q.1 := List.forall_mem_cons.mpr ⟨pmIp_96, List.forall_mem_cons.mpr ⟨pmIp_97, List.forall_mem_cons.mpr ⟨pmIp_98, List.forall_mem_cons.mpr ⟨pmIp_99, List.forall_mem_cons.mpr ⟨pmIp_100, List.forall_mem_cons.mpr ⟨pmIp_101, List.forall_mem_cons.mpr ⟨pmIp_102, List.forall_mem_cons.mpr ⟨pmIp_103, List.forall_mem_cons.mpr ⟨pmIp_104, List.forall_mem_cons.mpr ⟨pmIp_105, List.forall_mem_cons.mpr ⟨pmIp_106, List.forall_mem_cons.mpr ⟨pmIp_107, List.forall_mem_cons.mpr ⟨pmIp_108, List.forall_mem_cons.mpr ⟨pmIp_109, List.forall_mem_cons.mpr ⟨pmIp_110, List.forall_mem_cons.mpr ⟨pmIp_111, fun _ h => absurd h List.not_mem_nil⟩⟩⟩⟩⟩⟩⟩⟩⟩⟩⟩⟩⟩⟩⟩⟩
set_option maxRecDepth 100000 in
theorem pmIa_7 : ∀ q ∈ pmAll_7, pmIp q.1 := List.forall_mem_cons.mpr ⟨pmIp_112, List.forall_mem_cons.mpr ⟨pmIp_113, List.forall_mem_cons.mpr ⟨pmIp_114, List.forall_mem_cons.mpr ⟨pmIp_115, List.forall_mem_cons.mpr ⟨pmIp_116, List.forall_mem_cons.mpr ⟨pmIp_117, List.forall_mem_cons.mpr ⟨pmIp_118, List.forall_mem_cons.mpr ⟨pmIp_119, List.forall_mem_cons.mpr ⟨pmIp_120, List.forall_mem_cons.mpr ⟨pmIp_121, List.forall_mem_cons.mpr ⟨pmIp_122, List.forall_mem_cons.mpr ⟨pmIp_123, List.forall_mem_cons.mpr ⟨pmIp_124, List.forall_mem_cons.mpr ⟨pmIp_125, List.forall_mem_cons.mpr ⟨pmIp_126, List.forall_mem_cons.mpr ⟨pmIp_127, fun _ h => absurd h List.not_mem_nil⟩⟩⟩⟩⟩⟩⟩⟩⟩⟩⟩⟩⟩⟩⟩⟩
set_option maxRecDepth 100000 in
theorem pmIa_8 : ∀ q ∈ pmAll_8, pmIp q.1 := List.forall_mem_cons.mpr ⟨pmIp_128, List.forall_mem_cons.mpr ⟨pmIp_129, List.forall_mem_cons.mpr ⟨pmIp_130, List.forall_mem_cons.mpr ⟨pmIp_131, List.forall_mem_cons.mpr ⟨pmIp_132, List.forall_mem_cons.mpr ⟨pmIp_133, List.forall_mem_cons.mpr ⟨pmIp_134, List.forall_mem_cons.mpr ⟨pmIp_135, List.forall_mem_cons.mpr ⟨pmIp_136, List.forall_mem_cons.mpr ⟨pmIp_137, List.forall_mem_cons.mpr ⟨pmIp_138, List.forall_mem_cons.mpr ⟨pmIp_139, List.forall_mem_cons.mpr ⟨pmIp_140, List.forall_mem_cons.mpr ⟨pmIp_141, List.forall_mem_cons.mpr ⟨pmIp_142, List.forall_mem_cons.mpr ⟨pmIp_143, fun _ h => absurd h List.not_mem_nil⟩⟩⟩⟩⟩⟩⟩⟩⟩⟩⟩⟩⟩⟩⟩⟩
set_option maxRecDepth 100000 in
theorem pmIa_9 : ∀ q ∈ pmAll_9, pmIp q.1 := List.forall_mem_cons.mpr ⟨pmIp_144, List.forall_mem_cons.mpr ⟨pmIp_145, List.forall_mem_cons.mpr ⟨pmIp_146, List.forall_mem_cons.mpr ⟨pmIp_147, List.forall_mem_cons.mpr ⟨pmIp_148, List.forall_mem_cons.mpr ⟨pmIp_149, List.forall_mem_cons.mpr ⟨pmIp_150, List.forall_mem_cons.mpr ⟨pmIp_151, List.forall_mem_cons.mpr ⟨pmIp_152, List.forall_mem_cons.mpr ⟨pmIp_153, List.forall_mem_cons.mpr ⟨pmIp_154, List.forall_mem_cons.mpr ⟨pmIp_155, List.forall_mem_cons.mpr ⟨pmIp_156, List.forall_mem_cons.mpr ⟨pmIp_157, List.forall_mem_cons.mpr ⟨pmIp_158, List.forall_mem_cons.mpr ⟨pmIp_159, fun _ h => absurd h List.not_mem_nil⟩⟩⟩⟩⟩⟩⟩⟩⟩⟩⟩⟩⟩⟩⟩⟩
set_option maxRecDepth 100000 in
theorem pmIa_10 : ∀ q ∈ pmAll_10, pmIp q.1 := List.forall_mem_cons.mpr ⟨pmIp_160, List.forall_mem_cons.mpr ⟨pmIp_161, List.forall_mem_cons.mpr ⟨pmIp_162, List.forall_mem_cons.mpr ⟨pmIp_163, List.forall_mem_cons.mpr ⟨pmIp_164, List.forall_mem_cons.mpr ⟨pmIp_165, List.forall_mem_cons.mpr ⟨pmIp_166, List.forall_mem_cons.mpr ⟨pmIp_167, List.forall_mem_cons.mpr ⟨pmIp_168, List.forall_mem_cons.mpr ⟨pmIp_169, List.forall_mem_cons.mpr ⟨pmIp_170, List.forall_mem_cons.mpr ⟨pmIp_171, List.forall_mem_cons.mpr ⟨pmIp_172, List.forall_mem_cons.mpr ⟨pmIp_173, List.forall_mem_cons.mpr ⟨pmIp_174, List.forall_mem_cons.mpr ⟨pmIp_175, fun _ h => absurd h List.not_mem_nil⟩⟩⟩⟩⟩⟩⟩⟩⟩⟩⟩⟩⟩⟩⟩⟩
set_option maxRecDepth 100000 in
theorem pmIa_11 : ∀ q ∈ pmAll_11, pmIp q.1 := List.forall_mem_cons.mpr ⟨pmIp_176, List.forall_mem_cons.mpr ⟨pmIp_177, List.forall_mem_cons.mpr ⟨pmIp_178, List.forall_mem_cons.mpr ⟨pmIp_179, List.forall_mem_cons.mpr ⟨pmIp_180, List.forall_mem_cons.mpr ⟨pmIp_181, List.forall_mem_cons.mpr ⟨pmIp_182, List.forall_mem_cons.mpr ⟨pmIp_183, List.forall_mem_cons.mpr ⟨pmIp_184, List.forall_mem_cons.mpr ⟨pmIp_185, List.forall_mem_cons.mpr ⟨pmIp_186, List.forall_mem_cons.mpr ⟨pmIp_187, List.forall_mem_cons.mpr ⟨pmIp_188, List.forall_mem_cons.mpr ⟨pmIp_189, List.forall_mem_cons.mpr ⟨pmIp_190, List.forall_mem_cons.mpr ⟨pmIp_191, fun _ h => absurd h List.not_mem_nil⟩⟩⟩⟩⟩⟩⟩⟩⟩⟩⟩⟩⟩⟩⟩⟩
set_option maxRecDepth 100000 in
theorem pmIa_12 : ∀ q ∈ pmAll_12, pmIp q.1 := List.forall_mem_cons.mpr ⟨pmIp_192, List.forall_mem_cons.mpr ⟨pmIp_193, List.forall_mem_cons.mpr ⟨pmIp_194, List.forall_mem_cons.mpr ⟨pmIp_195, List.forall_mem_cons.mpr ⟨pmIp_196, List.forall_mem_cons.mpr ⟨pmIp_197, List.forall_mem_cons.mpr ⟨pmIp_198, List.forall_mem_cons.mpr ⟨pmIp_199, List.forall_mem_cons.mpr ⟨pmIp_200, List.forall_mem_cons.mpr ⟨pmIp_201, List.forall_mem_cons.mpr ⟨pmIp_202, List.forall_mem_cons.mpr ⟨pmIp_203, List.forall_mem_cons.mpr ⟨pmIp_204, List.forall_mem_cons.mpr ⟨pmIp_205, List.forall_mem_cons.mpr ⟨pmIp_206, List.forall_mem_cons.mpr ⟨pmIp_207, fun _ h => absurd h List.not_mem_nil⟩⟩⟩⟩⟩⟩⟩⟩⟩⟩⟩⟩⟩⟩⟩⟩
set_option maxRecDepth 100000 in
theorem pmIa_13 : ∀ q ∈ pmAll_13, pmIp q.1 := List.forall_mem_cons.mpr ⟨pmIp_208, List.forall_mem_cons.mpr ⟨pmIp_209, List.forall_mem_cons.mpr ⟨pmIp_210, List.forall_mem_cons.mpr ⟨pmIp_211, List.forall_mem_cons.mpr ⟨pmIp_212, List.forall_mem_cons.mpr ⟨pmIp_213, List.forall_mem_cons.mpr ⟨pmIp_214, List.forall_mem_cons.mpr ⟨pmIp_215, List.forall_mem_cons.mpr ⟨pmIp_216, List.forall_mem_cons.mpr ⟨pmIp_217, List.forall_mem_cons.mpr ⟨pmIp_218, List.forall_mem_cons.mpr ⟨pmIp_219, List.forall_mem_cons.mpr ⟨pmIp_220, List.forall_mem_cons.mpr ⟨pmIp_221, List.forall_mem_cons.mpr ⟨pmIp_222, List.forall_mem_cons.mpr ⟨pmIp_223, fun _ h => absurd h List.not_mem_nil⟩⟩⟩⟩⟩⟩⟩⟩⟩⟩⟩⟩⟩⟩⟩⟩
set_option maxRecDepth 100000 in
theorem pmIa_14 : ∀ q ∈ pmAll_14, pmIp q.1 := List.forall_mem_cons.mpr ⟨pmIp_224, List.forall_mem_cons.mpr ⟨pmIp_225, List.forall_mem_cons.mpr ⟨pmIp_226, List.forall_mem_cons.mpr ⟨pmIp_227, List.forall_mem_cons.mpr ⟨pmIp_228, List.forall_mem_cons.mpr ⟨pmIp_229, List.forall_mem_cons.mpr ⟨pmIp_230, List.forall_mem_cons.mpr ⟨pmIp_231, List.forall_mem_cons.mpr ⟨pmIp_232, List.forall_mem_cons.mpr ⟨pmIp_233, List.forall_mem_cons.mpr ⟨pmIp_234, List.forall_mem_cons.mpr ⟨pmIp_235, List.forall_mem_cons.mpr ⟨pmIp_236, List.forall_mem_cons.mpr ⟨pmIp_237, List.forall_mem_cons.mpr ⟨pmIp_238, List.forall_mem_cons.mpr ⟨pmIp_239, fun _ h => absurd h List.not_mem_nil⟩⟩⟩⟩⟩⟩⟩⟩⟩⟩⟩⟩⟩⟩⟩⟩
set_option maxRecDepth 100000 in
theorem pmIa_15 : ∀ q ∈ pmAll_15, pmIp q.1 := List.forall_mem_cons.mpr ⟨pmIp_240, List.forall_mem_cons.mpr ⟨pmIp_241, List.forall_mem_cons.mpr ⟨pmIp_242, List.forall_mem_cons.mpr ⟨pmIp_243, List.forall_mem_cons.mpr ⟨pmIp_244, List.forall_mem_cons.mpr ⟨pmIp_245, List.forall_mem_cons.mpr ⟨pmIp_246, fun _ h => absurd h List.not_mem_nil⟩⟩⟩⟩⟩⟩⟩
set_option maxRecDepth 100000 in
theorem pmIa : ∀ q ∈ pmAll, pmIp q.1 := List.forall_mem_append.mpr ⟨pmIa_0, List.forall_mem_append.mpr ⟨pmIa_1, List.forall_mem_append.mpr ⟨pmIa_2, List.forall_mem_append.mpr ⟨pmIa_3, List.forall_mem_append.mpr ⟨pmIa_4, List.forall_mem_append.mpr ⟨pmIa_5, List.forall_mem_append.mpr ⟨pmIa_6, List.forall_mem_append.mpr ⟨pmIa_7, List.forall_mem_append.mpr ⟨pmIa_8, List.forall_mem_append.mpr ⟨pmIa_9, List.forall_mem_append.mpr ⟨pmIa_10, List.forall_mem_append.mpr ⟨pmIa_11, List.forall_mem_append.mpr ⟨pmIa_12, List.forall_mem_append.mpr ⟨pmIa_13, List.forall_mem_append.mpr ⟨pmIa_14, pmIa_15⟩⟩⟩⟩⟩⟩⟩⟩⟩⟩⟩⟩⟩⟩⟩
set_option maxRecDepth 100000 in
theorem pmw_int : pmWd 190 = some (.arrayClass .int) := ((lwd_5 30).trans rfl)
set_option maxRecDepth 100000 in
theorem pmw_long : pmWd 370 = some (.arrayClass .long) := ((lwd_11 18).trans rfl)
set_option maxRecDepth 100000 in
theorem pmw_boolean : pmWd 1296 = some (.arrayClass .boolean) := ((lwd_40 16).trans rfl)
set_option maxRecDepth 100000 in
theorem pmw_byte : pmWd 1297 = some (.arrayClass .byte) := ((lwd_40 17).trans rfl)
set_option maxRecDepth 100000 in
theorem pmw_over : pmWd 491 = some (.arrayOver (.object "BentTale$World")) := ((lwd_15 11).trans rfl)
set_option maxRecDepth 100000 in
theorem pmw_native : pmWd 722 = some (.native arraycopyName) := ((lwd_22 18).trans rfl)
set_option maxRecDepth 100000 in
theorem pmw_statics : pmWd 835 = some (.laysStatic "BentTale$Planner" "UNITS" "[I") := ((lwd_26 3).trans rfl)
set_option maxRecDepth 100000 in
theorem pmw_cpst : pmWd 721 = some (.static arraycopyName) := ((lwd_22 17).trans rfl)
set_option maxRecDepth 100000 in
theorem pmw_sysi : pmWd 154 = some (.initialized "java/lang/System") := ((lwd_4 26).trans rfl)
set_option maxRecDepth 100000 in
theorem pmw_plani : pmWd 147 = some (.initialized "BentTale$Planner") := ((lwd_4 19).trans rfl)
set_option maxRecDepth 100000 in
theorem pmw_obji : pmWd 161 = some (.instanceMethod objectInit) := ((lwd_5 1).trans rfl)
set_option maxRecDepth 100000 in
theorem pmw_objc : pmWd 162 = some (.code objectInit ⟨#[0xb1]⟩ 1 none) := ((lwd_5 2).trans rfl)
set_option maxRecDepth 100000 in
theorem pmw_mathi : pmWd 153 = some (.initialized "java/lang/Math") := ((lwd_4 25).trans rfl)
set_option maxRecDepth 100000 in
theorem pmw_maxs : pmWd 842 = some (.static Lib.Math.max.name) := ((lwd_26 10).trans rfl)
set_option maxRecDepth 100000 in
theorem pmw_mins : pmWd 664 = some (.static Lib.Math.min.name) := ((lwd_20 24).trans rfl)
set_option maxRecDepth 100000 in
theorem pmw_maxc : pmWd 843 = some (.code Lib.Math.max.name Lib.Math.max.code 2 (some .int)) := ((lwd_26 11).trans rfl)
set_option maxRecDepth 100000 in
theorem pmw_minc : pmWd 665 = some (.code Lib.Math.min.name Lib.Math.min.code 2 (some .int)) := ((lwd_20 25).trans rfl)
