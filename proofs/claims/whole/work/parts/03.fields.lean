/-! What the words of the tables say of entries and methods. -/
def gtbl : List Cond := lw_tbl.filter goodWord
/-- an entry of a class's pool is the k-th field of the class ci -/
def FL (own : String) (idx ci k : Nat) : Prop := ∃ (C : String) (T : u_T) (N : Nat), classes[ci]? = some (C, T, N) ∧ k < N ∧ Cond.fieldLink own idx (T k).1 (T k).2.1 (T k).2.2.1 ∈ gtbl ∧ ∀ w ∈ u_ws C T N, w ∈ gtbl
/-- .. of a type, written outside of a constructor, or in its own class's one -/
def PL (own : String) (nm : String) (idx ci k : Nat) (ty : FieldType) : Prop := ∃ (C : String) (T : u_T) (N : Nat) (ty0 : Nat → FieldType), classes[ci]? = some (C, T, N) ∧ k < N ∧ Cond.fieldLink own idx (T k).1 (T k).2.1 (T k).2.2.1 ∈ gtbl ∧ (∀ w ∈ u_ws C T N, w ∈ gtbl) ∧
  (∀ k, k < N → parseFieldDescriptor (T k).2.2.1 = some (ty0 k)) ∧ (∀ a, a < N → ∀ b, b < N → a ≠ b → (T a).2.1 ≠ (T b).2.1) ∧ parseFieldDescriptor (T k).2.2.1 = some ty ∧ ((T k).2.2.2 = false ∨ (T k).2.2.2 = true ∧ nm = "<init>" ∧ (T k).1 = own)
def notRef (v : Value) : Bool := match v with
  | .ref _ => false
  | _ => true
/-- class ci of C with N fields, which begin as dv -/
def NL (own : String) (idx ci N : Nat) (dv : List Value) : Prop := ∃ (C : String) (T : u_T) (ty0 : Nat → FieldType), classes[ci]? = some (C, T, N) ∧ Cond.classLink own idx C ∈ gtbl ∧ Cond.instantiable C N ∈ gtbl ∧ Cond.initialized C ∈ gtbl ∧ (∀ w ∈ u_ws C T N, w ∈ gtbl) ∧ (∀ k, k < N → parseFieldDescriptor (T k).2.2.1 = some (ty0 k)) ∧ (∀ j, j < N → defaultValue (ty0 j) = vp_V dv j) ∧ dv.all notRef = true
def MF (y : MethodName) (cc : ByteArray) (nL : Nat) (ret : Option FieldType) (n : Nat) : Prop := Cond.code y cc nL ret ∈ gtbl ∧ Cond.initialized y.cls ∈ gtbl ∧ (y.cls ≠ "java/lang/invoke/MethodHandle" ∧ y.cls ≠ "java/lang/invoke/VarHandle" ∧ (parseMethodDescriptor y.desc).map (fun d => d.parameters.length) = some n) ∧ plainName y.cls = true ∧ nL ≤ 45
def IM (y : MethodName) : Prop := Cond.instanceMethod y ∈ gtbl ∧ Cond.selects y.cls y y ∈ gtbl
def RL : String := "FallSchoolLaw"
theorem inT {w : Cond} (h : w ∈ tables_1) (g : goodWord w = true) : w ∈ gtbl := List.mem_filter.mpr ⟨List.mem_append_right _ h, g⟩
theorem inT1 {w : Cond} (h : w ∈ tables_1_1) : w ∈ tables_1 := List.mem_append_left _ h
theorem inT2 {w : Cond} (h : w ∈ tables_1_2) : w ∈ tables_1 := List.mem_append_right _ (List.mem_append_left _ h)
theorem inT3 {w : Cond} (h : w ∈ tables_1_3) : w ∈ tables_1 := List.mem_append_right _ (List.mem_append_right _ (List.mem_append_left _ h))
theorem inT4 {w : Cond} (h : w ∈ tables_1_4) : w ∈ tables_1 := List.mem_append_right _ (List.mem_append_right _ (List.mem_append_right _ (List.mem_append_left _ h)))
theorem inT5 {w : Cond} (h : w ∈ tables_1_5) : w ∈ tables_1 := List.mem_append_right _ (List.mem_append_right _ (List.mem_append_right _ (List.mem_append_right _ (List.mem_append_left _ h))))
theorem inT6 {w : Cond} (h : w ∈ tables_1_6) : w ∈ tables_1 := List.mem_append_right _ (List.mem_append_right _ (List.mem_append_right _ (List.mem_append_right _ (List.mem_append_right _ (List.mem_append_left _ h)))))
theorem inT7 {w : Cond} (h : w ∈ tables_1_7) : w ∈ tables_1 := List.mem_append_right _ (List.mem_append_right _ (List.mem_append_right _ (List.mem_append_right _ (List.mem_append_right _ (List.mem_append_right _ (List.mem_append_left _ h))))))
theorem inT8 {w : Cond} (h : w ∈ tables_1_8) : w ∈ tables_1 := List.mem_append_right _ (List.mem_append_right _ (List.mem_append_right _ (List.mem_append_right _ (List.mem_append_right _ (List.mem_append_right _ (List.mem_append_right _ (h)))))))
theorem inS {w : Cond} (h : w ∈ k2_sels lw_privs) (g : goodWord w = true) : w ∈ gtbl := List.mem_filter.mpr ⟨List.mem_append_left _ h, g⟩
theorem inL {ws : List Cond} (ps : List Nat) (hp : ws = ps.filterMap (fun i => tables_1[i]?)) (hg : ws.all goodWord = true) : ∀ w ∈ ws, w ∈ gtbl := by
  intro w hw
  have h1 := List.all_eq_true.mp hg w hw
  rw [hp] at hw
  obtain ⟨i, -, hi⟩ := List.mem_filterMap.mp hw
  exact inT (List.mem_of_getElem? hi) h1
theorem inX0 : ∀ w ∈ u_ws RX0 TX0 12, w ∈ gtbl := inL [391, 393, 395, 397, 399, 401, 403, 405, 407, 409, 411, 413] (by decide +kernel) (by decide +kernel)
theorem inX1 : ∀ w ∈ u_ws RX1 TX1 15, w ∈ gtbl := inL [166, 168, 170, 172, 174, 176, 178, 180, 182, 184, 186, 188, 190, 192, 194] (by decide +kernel) (by decide +kernel)
theorem inX2 : ∀ w ∈ u_ws RX2 TX2 3, w ∈ gtbl := inL [201, 203, 205] (by decide +kernel) (by decide +kernel)
theorem inX3 : ∀ w ∈ u_ws RX3 TX3 8, w ∈ gtbl := inL [91, 93, 95, 97, 99, 101, 103, 105] (by decide +kernel) (by decide +kernel)
theorem inX4 : ∀ w ∈ u_ws RX4 TX4 5, w ∈ gtbl := inL [455, 457, 459, 461, 463] (by decide +kernel) (by decide +kernel)
theorem inX5 : ∀ w ∈ u_ws RX5 TX5 9, w ∈ gtbl := inL [280, 282, 284, 286, 288, 290, 292, 294, 296] (by decide +kernel) (by decide +kernel)
theorem inX6 : ∀ w ∈ u_ws RX6 TX6 9, w ∈ gtbl := inL [230, 232, 234, 236, 238, 240, 242, 244, 246] (by decide +kernel) (by decide +kernel)
theorem inX7 : ∀ w ∈ u_ws RX7 TX7 13, w ∈ gtbl := inL [332, 334, 336, 338, 340, 342, 344, 346, 348, 350, 352, 354, 356] (by decide +kernel) (by decide +kernel)
theorem inX8 : ∀ w ∈ u_ws RX8 TX8 6, w ∈ gtbl := inL [480, 482, 484, 486, 488, 490] (by decide +kernel) (by decide +kernel)
theorem inX9 : ∀ w ∈ u_ws RX9 TX9 4, w ∈ gtbl := inL [45, 47, 49, 51] (by decide +kernel) (by decide +kernel)
theorem inX10 : ∀ w ∈ u_ws RX10 TX10 5, w ∈ gtbl := inL [430, 432, 434, 436, 438] (by decide +kernel) (by decide +kernel)
theorem inX11 : ∀ w ∈ u_ws RX11 TX11 14, w ∈ gtbl := inL [508, 510, 512, 514, 516, 518, 520, 522, 524, 526, 528, 530, 532, 534] (by decide +kernel) (by decide +kernel)
theorem inX12 : ∀ w ∈ u_ws RX12 TX12 77, w ∈ gtbl := inL [1254, 1256, 1258, 1260, 1262, 1264, 1266, 1268, 1270, 1272, 1274, 1276, 1278, 1280, 1282, 1284, 1286, 1288, 1290, 1292, 1294, 1296, 1298, 1300, 1302, 1304, 1306, 1308, 1310, 1312, 1314, 1316, 1318, 1320, 1322, 1324, 1326, 1328, 1330, 1332, 1334, 1336, 1338, 1340, 1342, 1344, 1346, 1348, 1350, 1352, 1354, 1356, 1358, 1360, 1362, 1364, 1366, 1368, 1370, 1372, 1374, 1376, 1378, 1380, 1382, 1384, 1386, 1388, 1390, 1392, 1394, 1396, 1398, 1400, 1402, 1404, 1406] (by decide +kernel) (by decide +kernel)
theorem wf_X9_9 : Cond.fieldLink RX9 9 (TX9 0).1 (TX9 0).2.1 (TX9 0).2.2.1 ∈ gtbl := inT (inT1 (List.mem_of_getElem? (i := 37) (by decide +kernel))) (by decide +kernel)
theorem fl_X9_9 : FL RX9 9 9 0 := ⟨RX9, TX9, 4, rfl, by decide, wf_X9_9, inX9⟩
theorem pl_X9_9 : PL RX9 "<init>" 9 9 0 (.array .byte) := ⟨RX9, TX9, 4, tyX9, rfl, by decide, wf_X9_9, inX9, tyX9_ok, nmX9, by decide +kernel, Or.inr ⟨rfl, rfl, rfl⟩⟩
theorem wf_X9_15 : Cond.fieldLink RX9 15 (TX9 1).1 (TX9 1).2.1 (TX9 1).2.2.1 ∈ gtbl := inT (inT1 (List.mem_of_getElem? (i := 38) (by decide +kernel))) (by decide +kernel)
theorem fl_X9_15 : FL RX9 15 9 1 := ⟨RX9, TX9, 4, rfl, by decide, wf_X9_15, inX9⟩
theorem pl_X9_15 (nm : String) : PL RX9 nm 15 9 1 .int := ⟨RX9, TX9, 4, tyX9, rfl, by decide, wf_X9_15, inX9, tyX9_ok, nmX9, by decide +kernel, Or.inl rfl⟩
theorem wf_X11_105 : Cond.fieldLink RX11 105 (TX9 1).1 (TX9 1).2.1 (TX9 1).2.2.1 ∈ gtbl := inT (inT1 (List.mem_of_getElem? (i := 39) (by decide +kernel))) (by decide +kernel)
theorem fl_X11_105 : FL RX11 105 9 1 := ⟨RX9, TX9, 4, rfl, by decide, wf_X11_105, inX9⟩
theorem pl_X11_105 (nm : String) : PL RX11 nm 105 9 1 .int := ⟨RX9, TX9, 4, tyX9, rfl, by decide, wf_X11_105, inX9, tyX9_ok, nmX9, by decide +kernel, Or.inl rfl⟩
theorem wf_X9_19 : Cond.fieldLink RX9 19 (TX9 2).1 (TX9 2).2.1 (TX9 2).2.2.1 ∈ gtbl := inT (inT1 (List.mem_of_getElem? (i := 40) (by decide +kernel))) (by decide +kernel)
theorem fl_X9_19 : FL RX9 19 9 2 := ⟨RX9, TX9, 4, rfl, by decide, wf_X9_19, inX9⟩
theorem pl_X9_19 (nm : String) : PL RX9 nm 19 9 2 .int := ⟨RX9, TX9, 4, tyX9, rfl, by decide, wf_X9_19, inX9, tyX9_ok, nmX9, by decide +kernel, Or.inl rfl⟩
theorem wf_X6_103 : Cond.fieldLink RX6 103 (TX9 2).1 (TX9 2).2.1 (TX9 2).2.2.1 ∈ gtbl := inT (inT1 (List.mem_of_getElem? (i := 41) (by decide +kernel))) (by decide +kernel)
theorem fl_X6_103 : FL RX6 103 9 2 := ⟨RX9, TX9, 4, rfl, by decide, wf_X6_103, inX9⟩
theorem pl_X6_103 (nm : String) : PL RX6 nm 103 9 2 .int := ⟨RX9, TX9, 4, tyX9, rfl, by decide, wf_X6_103, inX9, tyX9_ok, nmX9, by decide +kernel, Or.inl rfl⟩
theorem wf_X2_121 : Cond.fieldLink RX2 121 (TX9 2).1 (TX9 2).2.1 (TX9 2).2.2.1 ∈ gtbl := inT (inT1 (List.mem_of_getElem? (i := 42) (by decide +kernel))) (by decide +kernel)
theorem fl_X2_121 : FL RX2 121 9 2 := ⟨RX9, TX9, 4, rfl, by decide, wf_X2_121, inX9⟩
theorem pl_X2_121 (nm : String) : PL RX2 nm 121 9 2 .int := ⟨RX9, TX9, 4, tyX9, rfl, by decide, wf_X2_121, inX9, tyX9_ok, nmX9, by decide +kernel, Or.inl rfl⟩
theorem wf_X9_22 : Cond.fieldLink RX9 22 (TX9 3).1 (TX9 3).2.1 (TX9 3).2.2.1 ∈ gtbl := inT (inT1 (List.mem_of_getElem? (i := 43) (by decide +kernel))) (by decide +kernel)
theorem fl_X9_22 : FL RX9 22 9 3 := ⟨RX9, TX9, 4, rfl, by decide, wf_X9_22, inX9⟩
theorem pl_X9_22 (nm : String) : PL RX9 nm 22 9 3 .int := ⟨RX9, TX9, 4, tyX9, rfl, by decide, wf_X9_22, inX9, tyX9_ok, nmX9, by decide +kernel, Or.inl rfl⟩
theorem wf_X11_116 : Cond.fieldLink RX11 116 (TX9 3).1 (TX9 3).2.1 (TX9 3).2.2.1 ∈ gtbl := inT (inT1 (List.mem_of_getElem? (i := 44) (by decide +kernel))) (by decide +kernel)
theorem fl_X11_116 : FL RX11 116 9 3 := ⟨RX9, TX9, 4, rfl, by decide, wf_X11_116, inX9⟩
theorem pl_X11_116 (nm : String) : PL RX11 nm 116 9 3 .int := ⟨RX9, TX9, 4, tyX9, rfl, by decide, wf_X11_116, inX9, tyX9_ok, nmX9, by decide +kernel, Or.inl rfl⟩
theorem wf_X3_9 : Cond.fieldLink RX3 9 (TX3 0).1 (TX3 0).2.1 (TX3 0).2.2.1 ∈ gtbl := inT (inT1 (List.mem_of_getElem? (i := 73) (by decide +kernel))) (by decide +kernel)
theorem fl_X3_9 : FL RX3 9 3 0 := ⟨RX3, TX3, 8, rfl, by decide, wf_X3_9, inX3⟩
theorem pl_X3_9 (nm : String) : PL RX3 nm 9 3 0 .int := ⟨RX3, TX3, 8, tyX3, rfl, by decide, wf_X3_9, inX3, tyX3_ok, nmX3, by decide +kernel, Or.inl rfl⟩
theorem wf_X2_105 : Cond.fieldLink RX2 105 (TX3 0).1 (TX3 0).2.1 (TX3 0).2.2.1 ∈ gtbl := inT (inT1 (List.mem_of_getElem? (i := 74) (by decide +kernel))) (by decide +kernel)
theorem fl_X2_105 : FL RX2 105 3 0 := ⟨RX3, TX3, 8, rfl, by decide, wf_X2_105, inX3⟩
theorem pl_X2_105 (nm : String) : PL RX2 nm 105 3 0 .int := ⟨RX3, TX3, 8, tyX3, rfl, by decide, wf_X2_105, inX3, tyX3_ok, nmX3, by decide +kernel, Or.inl rfl⟩
theorem wf_X11_321 : Cond.fieldLink RX11 321 (TX3 0).1 (TX3 0).2.1 (TX3 0).2.2.1 ∈ gtbl := inT (inT1 (List.mem_of_getElem? (i := 75) (by decide +kernel))) (by decide +kernel)
theorem fl_X11_321 : FL RX11 321 3 0 := ⟨RX3, TX3, 8, rfl, by decide, wf_X11_321, inX3⟩
theorem pl_X11_321 (nm : String) : PL RX11 nm 321 3 0 .int := ⟨RX3, TX3, 8, tyX3, rfl, by decide, wf_X11_321, inX3, tyX3_ok, nmX3, by decide +kernel, Or.inl rfl⟩
theorem wf_X3_15 : Cond.fieldLink RX3 15 (TX3 1).1 (TX3 1).2.1 (TX3 1).2.2.1 ∈ gtbl := inT (inT1 (List.mem_of_getElem? (i := 76) (by decide +kernel))) (by decide +kernel)
theorem fl_X3_15 : FL RX3 15 3 1 := ⟨RX3, TX3, 8, rfl, by decide, wf_X3_15, inX3⟩
theorem pl_X3_15 : PL RX3 "<init>" 15 3 1 (.array .int) := ⟨RX3, TX3, 8, tyX3, rfl, by decide, wf_X3_15, inX3, tyX3_ok, nmX3, by decide +kernel, Or.inr ⟨rfl, rfl, rfl⟩⟩
theorem wf_X2_166 : Cond.fieldLink RX2 166 (TX3 1).1 (TX3 1).2.1 (TX3 1).2.2.1 ∈ gtbl := inT (inT1 (List.mem_of_getElem? (i := 77) (by decide +kernel))) (by decide +kernel)
theorem fl_X2_166 : FL RX2 166 3 1 := ⟨RX3, TX3, 8, rfl, by decide, wf_X2_166, inX3⟩
theorem wf_X3_19 : Cond.fieldLink RX3 19 (TX3 2).1 (TX3 2).2.1 (TX3 2).2.2.1 ∈ gtbl := inT (inT1 (List.mem_of_getElem? (i := 78) (by decide +kernel))) (by decide +kernel)
theorem fl_X3_19 : FL RX3 19 3 2 := ⟨RX3, TX3, 8, rfl, by decide, wf_X3_19, inX3⟩
theorem pl_X3_19 (nm : String) : PL RX3 nm 19 3 2 .int := ⟨RX3, TX3, 8, tyX3, rfl, by decide, wf_X3_19, inX3, tyX3_ok, nmX3, by decide +kernel, Or.inl rfl⟩
theorem wf_X2_108 : Cond.fieldLink RX2 108 (TX3 2).1 (TX3 2).2.1 (TX3 2).2.2.1 ∈ gtbl := inT (inT1 (List.mem_of_getElem? (i := 79) (by decide +kernel))) (by decide +kernel)
theorem fl_X2_108 : FL RX2 108 3 2 := ⟨RX3, TX3, 8, rfl, by decide, wf_X2_108, inX3⟩
theorem pl_X2_108 (nm : String) : PL RX2 nm 108 3 2 .int := ⟨RX3, TX3, 8, tyX3, rfl, by decide, wf_X2_108, inX3, tyX3_ok, nmX3, by decide +kernel, Or.inl rfl⟩
theorem wf_X11_363 : Cond.fieldLink RX11 363 (TX3 2).1 (TX3 2).2.1 (TX3 2).2.2.1 ∈ gtbl := inT (inT1 (List.mem_of_getElem? (i := 80) (by decide +kernel))) (by decide +kernel)
theorem fl_X11_363 : FL RX11 363 3 2 := ⟨RX3, TX3, 8, rfl, by decide, wf_X11_363, inX3⟩
theorem pl_X11_363 (nm : String) : PL RX11 nm 363 3 2 .int := ⟨RX3, TX3, 8, tyX3, rfl, by decide, wf_X11_363, inX3, tyX3_ok, nmX3, by decide +kernel, Or.inl rfl⟩
theorem wf_X3_22 : Cond.fieldLink RX3 22 (TX3 3).1 (TX3 3).2.1 (TX3 3).2.2.1 ∈ gtbl := inT (inT1 (List.mem_of_getElem? (i := 81) (by decide +kernel))) (by decide +kernel)
theorem fl_X3_22 : FL RX3 22 3 3 := ⟨RX3, TX3, 8, rfl, by decide, wf_X3_22, inX3⟩
theorem pl_X3_22 : PL RX3 "<init>" 22 3 3 (.array .int) := ⟨RX3, TX3, 8, tyX3, rfl, by decide, wf_X3_22, inX3, tyX3_ok, nmX3, by decide +kernel, Or.inr ⟨rfl, rfl, rfl⟩⟩
theorem wf_X2_169 : Cond.fieldLink RX2 169 (TX3 3).1 (TX3 3).2.1 (TX3 3).2.2.1 ∈ gtbl := inT (inT1 (List.mem_of_getElem? (i := 82) (by decide +kernel))) (by decide +kernel)
theorem fl_X2_169 : FL RX2 169 3 3 := ⟨RX3, TX3, 8, rfl, by decide, wf_X2_169, inX3⟩
theorem wf_X3_25 : Cond.fieldLink RX3 25 (TX3 4).1 (TX3 4).2.1 (TX3 4).2.2.1 ∈ gtbl := inT (inT1 (List.mem_of_getElem? (i := 83) (by decide +kernel))) (by decide +kernel)
theorem fl_X3_25 : FL RX3 25 3 4 := ⟨RX3, TX3, 8, rfl, by decide, wf_X3_25, inX3⟩
theorem pl_X3_25 : PL RX3 "<init>" 25 3 4 (.array .int) := ⟨RX3, TX3, 8, tyX3, rfl, by decide, wf_X3_25, inX3, tyX3_ok, nmX3, by decide +kernel, Or.inr ⟨rfl, rfl, rfl⟩⟩
theorem wf_X2_172 : Cond.fieldLink RX2 172 (TX3 4).1 (TX3 4).2.1 (TX3 4).2.2.1 ∈ gtbl := inT (inT1 (List.mem_of_getElem? (i := 84) (by decide +kernel))) (by decide +kernel)
theorem fl_X2_172 : FL RX2 172 3 4 := ⟨RX3, TX3, 8, rfl, by decide, wf_X2_172, inX3⟩
theorem wf_X3_28 : Cond.fieldLink RX3 28 (TX3 5).1 (TX3 5).2.1 (TX3 5).2.2.1 ∈ gtbl := inT (inT1 (List.mem_of_getElem? (i := 85) (by decide +kernel))) (by decide +kernel)
theorem fl_X3_28 : FL RX3 28 3 5 := ⟨RX3, TX3, 8, rfl, by decide, wf_X3_28, inX3⟩
theorem pl_X3_28 : PL RX3 "<init>" 28 3 5 (.array .int) := ⟨RX3, TX3, 8, tyX3, rfl, by decide, wf_X3_28, inX3, tyX3_ok, nmX3, by decide +kernel, Or.inr ⟨rfl, rfl, rfl⟩⟩
theorem wf_X11_326 : Cond.fieldLink RX11 326 (TX3 5).1 (TX3 5).2.1 (TX3 5).2.2.1 ∈ gtbl := inT (inT1 (List.mem_of_getElem? (i := 86) (by decide +kernel))) (by decide +kernel)
theorem fl_X11_326 : FL RX11 326 3 5 := ⟨RX3, TX3, 8, rfl, by decide, wf_X11_326, inX3⟩
theorem wf_X3_31 : Cond.fieldLink RX3 31 (TX3 6).1 (TX3 6).2.1 (TX3 6).2.2.1 ∈ gtbl := inT (inT1 (List.mem_of_getElem? (i := 87) (by decide +kernel))) (by decide +kernel)
theorem fl_X3_31 : FL RX3 31 3 6 := ⟨RX3, TX3, 8, rfl, by decide, wf_X3_31, inX3⟩
theorem pl_X3_31 : PL RX3 "<init>" 31 3 6 (.array .int) := ⟨RX3, TX3, 8, tyX3, rfl, by decide, wf_X3_31, inX3, tyX3_ok, nmX3, by decide +kernel, Or.inr ⟨rfl, rfl, rfl⟩⟩
theorem wf_X11_332 : Cond.fieldLink RX11 332 (TX3 6).1 (TX3 6).2.1 (TX3 6).2.2.1 ∈ gtbl := inT (inT1 (List.mem_of_getElem? (i := 88) (by decide +kernel))) (by decide +kernel)
theorem fl_X11_332 : FL RX11 332 3 6 := ⟨RX3, TX3, 8, rfl, by decide, wf_X11_332, inX3⟩
theorem wf_X3_34 : Cond.fieldLink RX3 34 (TX3 7).1 (TX3 7).2.1 (TX3 7).2.2.1 ∈ gtbl := inT (inT1 (List.mem_of_getElem? (i := 89) (by decide +kernel))) (by decide +kernel)
theorem fl_X3_34 : FL RX3 34 3 7 := ⟨RX3, TX3, 8, rfl, by decide, wf_X3_34, inX3⟩
theorem pl_X3_34 (nm : String) : PL RX3 nm 34 3 7 .int := ⟨RX3, TX3, 8, tyX3, rfl, by decide, wf_X3_34, inX3, tyX3_ok, nmX3, by decide +kernel, Or.inl rfl⟩
theorem wf_X11_329 : Cond.fieldLink RX11 329 (TX3 7).1 (TX3 7).2.1 (TX3 7).2.2.1 ∈ gtbl := inT (inT1 (List.mem_of_getElem? (i := 90) (by decide +kernel))) (by decide +kernel)
theorem fl_X11_329 : FL RX11 329 3 7 := ⟨RX3, TX3, 8, rfl, by decide, wf_X11_329, inX3⟩
theorem pl_X11_329 (nm : String) : PL RX11 nm 329 3 7 .int := ⟨RX3, TX3, 8, tyX3, rfl, by decide, wf_X11_329, inX3, tyX3_ok, nmX3, by decide +kernel, Or.inl rfl⟩
theorem wf_X1_9 : Cond.fieldLink RX1 9 (TX1 0).1 (TX1 0).2.1 (TX1 0).2.2.1 ∈ gtbl := inT (inT1 (List.mem_of_getElem? (i := 109) (by decide +kernel))) (by decide +kernel)
theorem fl_X1_9 : FL RX1 9 1 0 := ⟨RX1, TX1, 15, rfl, by decide, wf_X1_9, inX1⟩
theorem pl_X1_9 (nm : String) : PL RX1 nm 9 1 0 .int := ⟨RX1, TX1, 15, tyX1, rfl, by decide, wf_X1_9, inX1, tyX1_ok, nmX1, by decide +kernel, Or.inl rfl⟩
theorem wf_X2_115 : Cond.fieldLink RX2 115 (TX1 0).1 (TX1 0).2.1 (TX1 0).2.2.1 ∈ gtbl := inT (inT1 (List.mem_of_getElem? (i := 110) (by decide +kernel))) (by decide +kernel)
theorem fl_X2_115 : FL RX2 115 1 0 := ⟨RX1, TX1, 15, rfl, by decide, wf_X2_115, inX1⟩
theorem pl_X2_115 (nm : String) : PL RX2 nm 115 1 0 .int := ⟨RX1, TX1, 15, tyX1, rfl, by decide, wf_X2_115, inX1, tyX1_ok, nmX1, by decide +kernel, Or.inl rfl⟩
theorem wf_X11_351 : Cond.fieldLink RX11 351 (TX1 0).1 (TX1 0).2.1 (TX1 0).2.2.1 ∈ gtbl := inT (inT1 (List.mem_of_getElem? (i := 111) (by decide +kernel))) (by decide +kernel)
theorem fl_X11_351 : FL RX11 351 1 0 := ⟨RX1, TX1, 15, rfl, by decide, wf_X11_351, inX1⟩
theorem pl_X11_351 (nm : String) : PL RX11 nm 351 1 0 .int := ⟨RX1, TX1, 15, tyX1, rfl, by decide, wf_X11_351, inX1, tyX1_ok, nmX1, by decide +kernel, Or.inl rfl⟩
theorem wf_X1_15 : Cond.fieldLink RX1 15 (TX1 1).1 (TX1 1).2.1 (TX1 1).2.2.1 ∈ gtbl := inT (inT1 (List.mem_of_getElem? (i := 112) (by decide +kernel))) (by decide +kernel)
theorem fl_X1_15 : FL RX1 15 1 1 := ⟨RX1, TX1, 15, rfl, by decide, wf_X1_15, inX1⟩
theorem pl_X1_15 (nm : String) : PL RX1 nm 15 1 1 .int := ⟨RX1, TX1, 15, tyX1, rfl, by decide, wf_X1_15, inX1, tyX1_ok, nmX1, by decide +kernel, Or.inl rfl⟩
theorem wf_X2_93 : Cond.fieldLink RX2 93 (TX1 1).1 (TX1 1).2.1 (TX1 1).2.2.1 ∈ gtbl := inT (inT1 (List.mem_of_getElem? (i := 113) (by decide +kernel))) (by decide +kernel)
theorem fl_X2_93 : FL RX2 93 1 1 := ⟨RX1, TX1, 15, rfl, by decide, wf_X2_93, inX1⟩
theorem pl_X2_93 (nm : String) : PL RX2 nm 93 1 1 .int := ⟨RX1, TX1, 15, tyX1, rfl, by decide, wf_X2_93, inX1, tyX1_ok, nmX1, by decide +kernel, Or.inl rfl⟩
theorem wf_X11_354 : Cond.fieldLink RX11 354 (TX1 1).1 (TX1 1).2.1 (TX1 1).2.2.1 ∈ gtbl := inT (inT1 (List.mem_of_getElem? (i := 114) (by decide +kernel))) (by decide +kernel)
theorem fl_X11_354 : FL RX11 354 1 1 := ⟨RX1, TX1, 15, rfl, by decide, wf_X11_354, inX1⟩
theorem pl_X11_354 (nm : String) : PL RX11 nm 354 1 1 .int := ⟨RX1, TX1, 15, tyX1, rfl, by decide, wf_X11_354, inX1, tyX1_ok, nmX1, by decide +kernel, Or.inl rfl⟩
theorem wf_X1_18 : Cond.fieldLink RX1 18 (TX1 2).1 (TX1 2).2.1 (TX1 2).2.2.1 ∈ gtbl := inT (inT1 (List.mem_of_getElem? (i := 115) (by decide +kernel))) (by decide +kernel)
theorem fl_X1_18 : FL RX1 18 1 2 := ⟨RX1, TX1, 15, rfl, by decide, wf_X1_18, inX1⟩
theorem pl_X1_18 (nm : String) : PL RX1 nm 18 1 2 .int := ⟨RX1, TX1, 15, tyX1, rfl, by decide, wf_X1_18, inX1, tyX1_ok, nmX1, by decide +kernel, Or.inl rfl⟩
theorem wf_X8_37 : Cond.fieldLink RX8 37 (TX1 2).1 (TX1 2).2.1 (TX1 2).2.2.1 ∈ gtbl := inT (inT1 (List.mem_of_getElem? (i := 116) (by decide +kernel))) (by decide +kernel)
theorem fl_X8_37 : FL RX8 37 1 2 := ⟨RX1, TX1, 15, rfl, by decide, wf_X8_37, inX1⟩
theorem pl_X8_37 (nm : String) : PL RX8 nm 37 1 2 .int := ⟨RX1, TX1, 15, tyX1, rfl, by decide, wf_X8_37, inX1, tyX1_ok, nmX1, by decide +kernel, Or.inl rfl⟩
theorem wf_X4_41 : Cond.fieldLink RX4 41 (TX1 2).1 (TX1 2).2.1 (TX1 2).2.2.1 ∈ gtbl := inT (inT1 (List.mem_of_getElem? (i := 117) (by decide +kernel))) (by decide +kernel)
theorem fl_X4_41 : FL RX4 41 1 2 := ⟨RX1, TX1, 15, rfl, by decide, wf_X4_41, inX1⟩
theorem pl_X4_41 (nm : String) : PL RX4 nm 41 1 2 .int := ⟨RX1, TX1, 15, tyX1, rfl, by decide, wf_X4_41, inX1, tyX1_ok, nmX1, by decide +kernel, Or.inl rfl⟩
theorem wf_X11_125 : Cond.fieldLink RX11 125 (TX1 2).1 (TX1 2).2.1 (TX1 2).2.2.1 ∈ gtbl := inT (inT1 (List.mem_of_getElem? (i := 118) (by decide +kernel))) (by decide +kernel)
theorem fl_X11_125 : FL RX11 125 1 2 := ⟨RX1, TX1, 15, rfl, by decide, wf_X11_125, inX1⟩
theorem pl_X11_125 (nm : String) : PL RX11 nm 125 1 2 .int := ⟨RX1, TX1, 15, tyX1, rfl, by decide, wf_X11_125, inX1, tyX1_ok, nmX1, by decide +kernel, Or.inl rfl⟩
theorem wf_X2_118 : Cond.fieldLink RX2 118 (TX1 2).1 (TX1 2).2.1 (TX1 2).2.2.1 ∈ gtbl := inT (inT1 (List.mem_of_getElem? (i := 119) (by decide +kernel))) (by decide +kernel)
theorem fl_X2_118 : FL RX2 118 1 2 := ⟨RX1, TX1, 15, rfl, by decide, wf_X2_118, inX1⟩
theorem pl_X2_118 (nm : String) : PL RX2 nm 118 1 2 .int := ⟨RX1, TX1, 15, tyX1, rfl, by decide, wf_X2_118, inX1, tyX1_ok, nmX1, by decide +kernel, Or.inl rfl⟩
theorem wf_X1_21 : Cond.fieldLink RX1 21 (TX1 3).1 (TX1 3).2.1 (TX1 3).2.2.1 ∈ gtbl := inT (inT1 (List.mem_of_getElem? (i := 120) (by decide +kernel))) (by decide +kernel)
theorem fl_X1_21 : FL RX1 21 1 3 := ⟨RX1, TX1, 15, rfl, by decide, wf_X1_21, inX1⟩
theorem pl_X1_21 : PL RX1 "<init>" 21 1 3 (.array .int) := ⟨RX1, TX1, 15, tyX1, rfl, by decide, wf_X1_21, inX1, tyX1_ok, nmX1, by decide +kernel, Or.inr ⟨rfl, rfl, rfl⟩⟩
theorem wf_X0_99 : Cond.fieldLink RX0 99 (TX1 3).1 (TX1 3).2.1 (TX1 3).2.2.1 ∈ gtbl := inT (inT1 (List.mem_of_getElem? (i := 121) (by decide +kernel))) (by decide +kernel)
theorem fl_X0_99 : FL RX0 99 1 3 := ⟨RX1, TX1, 15, rfl, by decide, wf_X0_99, inX1⟩
theorem wf_X2_127 : Cond.fieldLink RX2 127 (TX1 3).1 (TX1 3).2.1 (TX1 3).2.2.1 ∈ gtbl := inT (inT1 (List.mem_of_getElem? (i := 122) (by decide +kernel))) (by decide +kernel)
theorem fl_X2_127 : FL RX2 127 1 3 := ⟨RX1, TX1, 15, rfl, by decide, wf_X2_127, inX1⟩
theorem wf_X11_138 : Cond.fieldLink RX11 138 (TX1 3).1 (TX1 3).2.1 (TX1 3).2.2.1 ∈ gtbl := inT (inT1 (List.mem_of_getElem? (i := 123) (by decide +kernel))) (by decide +kernel)
theorem fl_X11_138 : FL RX11 138 1 3 := ⟨RX1, TX1, 15, rfl, by decide, wf_X11_138, inX1⟩
theorem wf_X8_68 : Cond.fieldLink RX8 68 (TX1 3).1 (TX1 3).2.1 (TX1 3).2.2.1 ∈ gtbl := inT (inT1 (List.mem_of_getElem? (i := 124) (by decide +kernel))) (by decide +kernel)
theorem fl_X8_68 : FL RX8 68 1 3 := ⟨RX1, TX1, 15, rfl, by decide, wf_X8_68, inX1⟩
theorem wf_X1_25 : Cond.fieldLink RX1 25 (TX1 4).1 (TX1 4).2.1 (TX1 4).2.2.1 ∈ gtbl := inT (inT1 (List.mem_of_getElem? (i := 125) (by decide +kernel))) (by decide +kernel)
theorem fl_X1_25 : FL RX1 25 1 4 := ⟨RX1, TX1, 15, rfl, by decide, wf_X1_25, inX1⟩
theorem pl_X1_25 : PL RX1 "<init>" 25 1 4 (.array .int) := ⟨RX1, TX1, 15, tyX1, rfl, by decide, wf_X1_25, inX1, tyX1_ok, nmX1, by decide +kernel, Or.inr ⟨rfl, rfl, rfl⟩⟩
theorem wf_X0_71 : Cond.fieldLink RX0 71 (TX1 4).1 (TX1 4).2.1 (TX1 4).2.2.1 ∈ gtbl := inT (inT1 (List.mem_of_getElem? (i := 126) (by decide +kernel))) (by decide +kernel)
theorem fl_X0_71 : FL RX0 71 1 4 := ⟨RX1, TX1, 15, rfl, by decide, wf_X0_71, inX1⟩
theorem wf_X10_50 : Cond.fieldLink RX10 50 (TX1 4).1 (TX1 4).2.1 (TX1 4).2.2.1 ∈ gtbl := inT (inT1 (List.mem_of_getElem? (i := 127) (by decide +kernel))) (by decide +kernel)
theorem fl_X10_50 : FL RX10 50 1 4 := ⟨RX1, TX1, 15, rfl, by decide, wf_X10_50, inX1⟩
theorem wf_X8_65 : Cond.fieldLink RX8 65 (TX1 4).1 (TX1 4).2.1 (TX1 4).2.2.1 ∈ gtbl := inT (inT1 (List.mem_of_getElem? (i := 128) (by decide +kernel))) (by decide +kernel)
theorem fl_X8_65 : FL RX8 65 1 4 := ⟨RX1, TX1, 15, rfl, by decide, wf_X8_65, inX1⟩
theorem wf_X11_141 : Cond.fieldLink RX11 141 (TX1 4).1 (TX1 4).2.1 (TX1 4).2.2.1 ∈ gtbl := inT (inT1 (List.mem_of_getElem? (i := 129) (by decide +kernel))) (by decide +kernel)
theorem fl_X11_141 : FL RX11 141 1 4 := ⟨RX1, TX1, 15, rfl, by decide, wf_X11_141, inX1⟩
theorem wf_X1_28 : Cond.fieldLink RX1 28 (TX1 5).1 (TX1 5).2.1 (TX1 5).2.2.1 ∈ gtbl := inT (inT1 (List.mem_of_getElem? (i := 130) (by decide +kernel))) (by decide +kernel)
theorem fl_X1_28 : FL RX1 28 1 5 := ⟨RX1, TX1, 15, rfl, by decide, wf_X1_28, inX1⟩
theorem pl_X1_28 (nm : String) : PL RX1 nm 28 1 5 .long := ⟨RX1, TX1, 15, tyX1, rfl, by decide, wf_X1_28, inX1, tyX1_ok, nmX1, by decide +kernel, Or.inl rfl⟩
theorem wf_X2_162 : Cond.fieldLink RX2 162 (TX1 5).1 (TX1 5).2.1 (TX1 5).2.2.1 ∈ gtbl := inT (inT1 (List.mem_of_getElem? (i := 131) (by decide +kernel))) (by decide +kernel)
theorem fl_X2_162 : FL RX2 162 1 5 := ⟨RX1, TX1, 15, rfl, by decide, wf_X2_162, inX1⟩
theorem pl_X2_162 (nm : String) : PL RX2 nm 162 1 5 .long := ⟨RX1, TX1, 15, tyX1, rfl, by decide, wf_X2_162, inX1, tyX1_ok, nmX1, by decide +kernel, Or.inl rfl⟩
theorem wf_X1_32 : Cond.fieldLink RX1 32 (TX1 6).1 (TX1 6).2.1 (TX1 6).2.2.1 ∈ gtbl := inT (inT1 (List.mem_of_getElem? (i := 132) (by decide +kernel))) (by decide +kernel)
theorem fl_X1_32 : FL RX1 32 1 6 := ⟨RX1, TX1, 15, rfl, by decide, wf_X1_32, inX1⟩
theorem pl_X1_32 (nm : String) : PL RX1 nm 32 1 6 .int := ⟨RX1, TX1, 15, tyX1, rfl, by decide, wf_X1_32, inX1, tyX1_ok, nmX1, by decide +kernel, Or.inl rfl⟩
theorem wf_X2_96 : Cond.fieldLink RX2 96 (TX1 6).1 (TX1 6).2.1 (TX1 6).2.2.1 ∈ gtbl := inT (inT1 (List.mem_of_getElem? (i := 133) (by decide +kernel))) (by decide +kernel)
theorem fl_X2_96 : FL RX2 96 1 6 := ⟨RX1, TX1, 15, rfl, by decide, wf_X2_96, inX1⟩
theorem pl_X2_96 (nm : String) : PL RX2 nm 96 1 6 .int := ⟨RX1, TX1, 15, tyX1, rfl, by decide, wf_X2_96, inX1, tyX1_ok, nmX1, by decide +kernel, Or.inl rfl⟩
theorem wf_X7_70 : Cond.fieldLink RX7 70 (TX1 6).1 (TX1 6).2.1 (TX1 6).2.2.1 ∈ gtbl := inT (inT1 (List.mem_of_getElem? (i := 134) (by decide +kernel))) (by decide +kernel)
theorem fl_X7_70 : FL RX7 70 1 6 := ⟨RX1, TX1, 15, rfl, by decide, wf_X7_70, inX1⟩
theorem pl_X7_70 (nm : String) : PL RX7 nm 70 1 6 .int := ⟨RX1, TX1, 15, tyX1, rfl, by decide, wf_X7_70, inX1, tyX1_ok, nmX1, by decide +kernel, Or.inl rfl⟩
theorem wf_X11_357 : Cond.fieldLink RX11 357 (TX1 6).1 (TX1 6).2.1 (TX1 6).2.2.1 ∈ gtbl := inT (inT1 (List.mem_of_getElem? (i := 135) (by decide +kernel))) (by decide +kernel)
theorem fl_X11_357 : FL RX11 357 1 6 := ⟨RX1, TX1, 15, rfl, by decide, wf_X11_357, inX1⟩
theorem pl_X11_357 (nm : String) : PL RX11 nm 357 1 6 .int := ⟨RX1, TX1, 15, tyX1, rfl, by decide, wf_X11_357, inX1, tyX1_ok, nmX1, by decide +kernel, Or.inl rfl⟩
theorem wf_X1_35 : Cond.fieldLink RX1 35 (TX1 7).1 (TX1 7).2.1 (TX1 7).2.2.1 ∈ gtbl := inT (inT1 (List.mem_of_getElem? (i := 136) (by decide +kernel))) (by decide +kernel)
theorem fl_X1_35 : FL RX1 35 1 7 := ⟨RX1, TX1, 15, rfl, by decide, wf_X1_35, inX1⟩
theorem pl_X1_35 : PL RX1 "<init>" 35 1 7 (.array .int) := ⟨RX1, TX1, 15, tyX1, rfl, by decide, wf_X1_35, inX1, tyX1_ok, nmX1, by decide +kernel, Or.inr ⟨rfl, rfl, rfl⟩⟩
theorem wf_X7_53 : Cond.fieldLink RX7 53 (TX1 7).1 (TX1 7).2.1 (TX1 7).2.2.1 ∈ gtbl := inT (inT1 (List.mem_of_getElem? (i := 137) (by decide +kernel))) (by decide +kernel)
theorem fl_X7_53 : FL RX7 53 1 7 := ⟨RX1, TX1, 15, rfl, by decide, wf_X7_53, inX1⟩
theorem wf_X2_138 : Cond.fieldLink RX2 138 (TX1 7).1 (TX1 7).2.1 (TX1 7).2.2.1 ∈ gtbl := inT (inT1 (List.mem_of_getElem? (i := 138) (by decide +kernel))) (by decide +kernel)
theorem fl_X2_138 : FL RX2 138 1 7 := ⟨RX1, TX1, 15, rfl, by decide, wf_X2_138, inX1⟩
theorem wf_X1_38 : Cond.fieldLink RX1 38 (TX1 8).1 (TX1 8).2.1 (TX1 8).2.2.1 ∈ gtbl := inT (inT1 (List.mem_of_getElem? (i := 139) (by decide +kernel))) (by decide +kernel)
theorem fl_X1_38 : FL RX1 38 1 8 := ⟨RX1, TX1, 15, rfl, by decide, wf_X1_38, inX1⟩
theorem pl_X1_38 : PL RX1 "<init>" 38 1 8 (.array .int) := ⟨RX1, TX1, 15, tyX1, rfl, by decide, wf_X1_38, inX1, tyX1_ok, nmX1, by decide +kernel, Or.inr ⟨rfl, rfl, rfl⟩⟩
theorem wf_X0_62 : Cond.fieldLink RX0 62 (TX1 8).1 (TX1 8).2.1 (TX1 8).2.2.1 ∈ gtbl := inT (inT1 (List.mem_of_getElem? (i := 140) (by decide +kernel))) (by decide +kernel)
theorem fl_X0_62 : FL RX0 62 1 8 := ⟨RX1, TX1, 15, rfl, by decide, wf_X0_62, inX1⟩
theorem wf_X2_141 : Cond.fieldLink RX2 141 (TX1 8).1 (TX1 8).2.1 (TX1 8).2.2.1 ∈ gtbl := inT (inT1 (List.mem_of_getElem? (i := 141) (by decide +kernel))) (by decide +kernel)
theorem fl_X2_141 : FL RX2 141 1 8 := ⟨RX1, TX1, 15, rfl, by decide, wf_X2_141, inX1⟩
theorem wf_X11_166 : Cond.fieldLink RX11 166 (TX1 8).1 (TX1 8).2.1 (TX1 8).2.2.1 ∈ gtbl := inT (inT1 (List.mem_of_getElem? (i := 142) (by decide +kernel))) (by decide +kernel)
theorem fl_X11_166 : FL RX11 166 1 8 := ⟨RX1, TX1, 15, rfl, by decide, wf_X11_166, inX1⟩
theorem wf_X1_41 : Cond.fieldLink RX1 41 (TX1 9).1 (TX1 9).2.1 (TX1 9).2.2.1 ∈ gtbl := inT (inT1 (List.mem_of_getElem? (i := 143) (by decide +kernel))) (by decide +kernel)
theorem fl_X1_41 : FL RX1 41 1 9 := ⟨RX1, TX1, 15, rfl, by decide, wf_X1_41, inX1⟩
theorem pl_X1_41 (nm : String) : PL RX1 nm 41 1 9 .int := ⟨RX1, TX1, 15, tyX1, rfl, by decide, wf_X1_41, inX1, tyX1_ok, nmX1, by decide +kernel, Or.inl rfl⟩
theorem wf_X2_99 : Cond.fieldLink RX2 99 (TX1 9).1 (TX1 9).2.1 (TX1 9).2.2.1 ∈ gtbl := inT (inT1 (List.mem_of_getElem? (i := 144) (by decide +kernel))) (by decide +kernel)
theorem fl_X2_99 : FL RX2 99 1 9 := ⟨RX1, TX1, 15, rfl, by decide, wf_X2_99, inX1⟩
theorem pl_X2_99 (nm : String) : PL RX2 nm 99 1 9 .int := ⟨RX1, TX1, 15, tyX1, rfl, by decide, wf_X2_99, inX1, tyX1_ok, nmX1, by decide +kernel, Or.inl rfl⟩
theorem wf_X0_105 : Cond.fieldLink RX0 105 (TX1 9).1 (TX1 9).2.1 (TX1 9).2.2.1 ∈ gtbl := inT (inT1 (List.mem_of_getElem? (i := 145) (by decide +kernel))) (by decide +kernel)
theorem fl_X0_105 : FL RX0 105 1 9 := ⟨RX1, TX1, 15, rfl, by decide, wf_X0_105, inX1⟩
theorem pl_X0_105 (nm : String) : PL RX0 nm 105 1 9 .int := ⟨RX1, TX1, 15, tyX1, rfl, by decide, wf_X0_105, inX1, tyX1_ok, nmX1, by decide +kernel, Or.inl rfl⟩
theorem wf_X7_73 : Cond.fieldLink RX7 73 (TX1 9).1 (TX1 9).2.1 (TX1 9).2.2.1 ∈ gtbl := inT (inT1 (List.mem_of_getElem? (i := 146) (by decide +kernel))) (by decide +kernel)
theorem fl_X7_73 : FL RX7 73 1 9 := ⟨RX1, TX1, 15, rfl, by decide, wf_X7_73, inX1⟩
theorem pl_X7_73 (nm : String) : PL RX7 nm 73 1 9 .int := ⟨RX1, TX1, 15, tyX1, rfl, by decide, wf_X7_73, inX1, tyX1_ok, nmX1, by decide +kernel, Or.inl rfl⟩
theorem wf_X11_274 : Cond.fieldLink RX11 274 (TX1 9).1 (TX1 9).2.1 (TX1 9).2.2.1 ∈ gtbl := inT (inT1 (List.mem_of_getElem? (i := 147) (by decide +kernel))) (by decide +kernel)
theorem fl_X11_274 : FL RX11 274 1 9 := ⟨RX1, TX1, 15, rfl, by decide, wf_X11_274, inX1⟩
theorem pl_X11_274 (nm : String) : PL RX11 nm 274 1 9 .int := ⟨RX1, TX1, 15, tyX1, rfl, by decide, wf_X11_274, inX1, tyX1_ok, nmX1, by decide +kernel, Or.inl rfl⟩
theorem wf_X1_44 : Cond.fieldLink RX1 44 (TX1 10).1 (TX1 10).2.1 (TX1 10).2.2.1 ∈ gtbl := inT (inT1 (List.mem_of_getElem? (i := 148) (by decide +kernel))) (by decide +kernel)
theorem fl_X1_44 : FL RX1 44 1 10 := ⟨RX1, TX1, 15, rfl, by decide, wf_X1_44, inX1⟩
theorem pl_X1_44 : PL RX1 "<init>" 44 1 10 (.array .int) := ⟨RX1, TX1, 15, tyX1, rfl, by decide, wf_X1_44, inX1, tyX1_ok, nmX1, by decide +kernel, Or.inr ⟨rfl, rfl, rfl⟩⟩
theorem wf_X7_64 : Cond.fieldLink RX7 64 (TX1 10).1 (TX1 10).2.1 (TX1 10).2.2.1 ∈ gtbl := inT (inT1 (List.mem_of_getElem? (i := 149) (by decide +kernel))) (by decide +kernel)
theorem fl_X7_64 : FL RX7 64 1 10 := ⟨RX1, TX1, 15, rfl, by decide, wf_X7_64, inX1⟩
theorem wf_X2_147 : Cond.fieldLink RX2 147 (TX1 10).1 (TX1 10).2.1 (TX1 10).2.2.1 ∈ gtbl := inT (inT1 (List.mem_of_getElem? (i := 150) (by decide +kernel))) (by decide +kernel)
theorem fl_X2_147 : FL RX2 147 1 10 := ⟨RX1, TX1, 15, rfl, by decide, wf_X2_147, inX1⟩
theorem wf_X1_47 : Cond.fieldLink RX1 47 (TX1 11).1 (TX1 11).2.1 (TX1 11).2.2.1 ∈ gtbl := inT (inT1 (List.mem_of_getElem? (i := 151) (by decide +kernel))) (by decide +kernel)
theorem fl_X1_47 : FL RX1 47 1 11 := ⟨RX1, TX1, 15, rfl, by decide, wf_X1_47, inX1⟩
theorem pl_X1_47 : PL RX1 "<init>" 47 1 11 (.array .int) := ⟨RX1, TX1, 15, tyX1, rfl, by decide, wf_X1_47, inX1, tyX1_ok, nmX1, by decide +kernel, Or.inr ⟨rfl, rfl, rfl⟩⟩
theorem wf_X0_117 : Cond.fieldLink RX0 117 (TX1 11).1 (TX1 11).2.1 (TX1 11).2.2.1 ∈ gtbl := inT (inT1 (List.mem_of_getElem? (i := 152) (by decide +kernel))) (by decide +kernel)
theorem fl_X0_117 : FL RX0 117 1 11 := ⟨RX1, TX1, 15, rfl, by decide, wf_X0_117, inX1⟩
theorem wf_X11_175 : Cond.fieldLink RX11 175 (TX1 11).1 (TX1 11).2.1 (TX1 11).2.2.1 ∈ gtbl := inT (inT1 (List.mem_of_getElem? (i := 153) (by decide +kernel))) (by decide +kernel)
theorem fl_X11_175 : FL RX11 175 1 11 := ⟨RX1, TX1, 15, rfl, by decide, wf_X11_175, inX1⟩
theorem wf_X2_150 : Cond.fieldLink RX2 150 (TX1 11).1 (TX1 11).2.1 (TX1 11).2.2.1 ∈ gtbl := inT (inT1 (List.mem_of_getElem? (i := 154) (by decide +kernel))) (by decide +kernel)
theorem fl_X2_150 : FL RX2 150 1 11 := ⟨RX1, TX1, 15, rfl, by decide, wf_X2_150, inX1⟩
theorem wf_X1_50 : Cond.fieldLink RX1 50 (TX1 12).1 (TX1 12).2.1 (TX1 12).2.2.1 ∈ gtbl := inT (inT1 (List.mem_of_getElem? (i := 155) (by decide +kernel))) (by decide +kernel)
theorem fl_X1_50 : FL RX1 50 1 12 := ⟨RX1, TX1, 15, rfl, by decide, wf_X1_50, inX1⟩
theorem pl_X1_50 : PL RX1 "<init>" 50 1 12 (.array .int) := ⟨RX1, TX1, 15, tyX1, rfl, by decide, wf_X1_50, inX1, tyX1_ok, nmX1, by decide +kernel, Or.inr ⟨rfl, rfl, rfl⟩⟩
theorem wf_X0_111 : Cond.fieldLink RX0 111 (TX1 12).1 (TX1 12).2.1 (TX1 12).2.2.1 ∈ gtbl := inT (inT1 (List.mem_of_getElem? (i := 156) (by decide +kernel))) (by decide +kernel)
theorem fl_X0_111 : FL RX0 111 1 12 := ⟨RX1, TX1, 15, rfl, by decide, wf_X0_111, inX1⟩
theorem wf_X11_178 : Cond.fieldLink RX11 178 (TX1 12).1 (TX1 12).2.1 (TX1 12).2.2.1 ∈ gtbl := inT (inT1 (List.mem_of_getElem? (i := 157) (by decide +kernel))) (by decide +kernel)
theorem fl_X11_178 : FL RX11 178 1 12 := ⟨RX1, TX1, 15, rfl, by decide, wf_X11_178, inX1⟩
theorem wf_X2_153 : Cond.fieldLink RX2 153 (TX1 12).1 (TX1 12).2.1 (TX1 12).2.2.1 ∈ gtbl := inT (inT1 (List.mem_of_getElem? (i := 158) (by decide +kernel))) (by decide +kernel)
theorem fl_X2_153 : FL RX2 153 1 12 := ⟨RX1, TX1, 15, rfl, by decide, wf_X2_153, inX1⟩
theorem wf_X1_53 : Cond.fieldLink RX1 53 (TX1 13).1 (TX1 13).2.1 (TX1 13).2.2.1 ∈ gtbl := inT (inT1 (List.mem_of_getElem? (i := 159) (by decide +kernel))) (by decide +kernel)
theorem fl_X1_53 : FL RX1 53 1 13 := ⟨RX1, TX1, 15, rfl, by decide, wf_X1_53, inX1⟩
theorem pl_X1_53 : PL RX1 "<init>" 53 1 13 (.array .int) := ⟨RX1, TX1, 15, tyX1, rfl, by decide, wf_X1_53, inX1, tyX1_ok, nmX1, by decide +kernel, Or.inr ⟨rfl, rfl, rfl⟩⟩
theorem wf_X0_114 : Cond.fieldLink RX0 114 (TX1 13).1 (TX1 13).2.1 (TX1 13).2.2.1 ∈ gtbl := inT (inT1 (List.mem_of_getElem? (i := 160) (by decide +kernel))) (by decide +kernel)
theorem fl_X0_114 : FL RX0 114 1 13 := ⟨RX1, TX1, 15, rfl, by decide, wf_X0_114, inX1⟩
theorem wf_X11_181 : Cond.fieldLink RX11 181 (TX1 13).1 (TX1 13).2.1 (TX1 13).2.2.1 ∈ gtbl := inT (inT1 (List.mem_of_getElem? (i := 161) (by decide +kernel))) (by decide +kernel)
theorem fl_X11_181 : FL RX11 181 1 13 := ⟨RX1, TX1, 15, rfl, by decide, wf_X11_181, inX1⟩
theorem wf_X2_156 : Cond.fieldLink RX2 156 (TX1 13).1 (TX1 13).2.1 (TX1 13).2.2.1 ∈ gtbl := inT (inT1 (List.mem_of_getElem? (i := 162) (by decide +kernel))) (by decide +kernel)
theorem fl_X2_156 : FL RX2 156 1 13 := ⟨RX1, TX1, 15, rfl, by decide, wf_X2_156, inX1⟩
theorem wf_X1_59 : Cond.fieldLink RX1 59 (TX1 14).1 (TX1 14).2.1 (TX1 14).2.2.1 ∈ gtbl := inT (inT1 (List.mem_of_getElem? (i := 163) (by decide +kernel))) (by decide +kernel)
theorem fl_X1_59 : FL RX1 59 1 14 := ⟨RX1, TX1, 15, rfl, by decide, wf_X1_59, inX1⟩
theorem pl_X1_59 : PL RX1 "<init>" 59 1 14 (.object "FallSchool$Lessons") := ⟨RX1, TX1, 15, tyX1, rfl, by decide, wf_X1_59, inX1, tyX1_ok, nmX1, by decide +kernel, Or.inr ⟨rfl, rfl, rfl⟩⟩
theorem wf_X2_45 : Cond.fieldLink RX2 45 (TX1 14).1 (TX1 14).2.1 (TX1 14).2.2.1 ∈ gtbl := inT (inT1 (List.mem_of_getElem? (i := 164) (by decide +kernel))) (by decide +kernel)
theorem fl_X2_45 : FL RX2 45 1 14 := ⟨RX1, TX1, 15, rfl, by decide, wf_X2_45, inX1⟩
theorem wf_X11_317 : Cond.fieldLink RX11 317 (TX1 14).1 (TX1 14).2.1 (TX1 14).2.2.1 ∈ gtbl := inT (inT1 (List.mem_of_getElem? (i := 165) (by decide +kernel))) (by decide +kernel)
theorem fl_X11_317 : FL RX11 317 1 14 := ⟨RX1, TX1, 15, rfl, by decide, wf_X11_317, inX1⟩
theorem wf_X2_22 : Cond.fieldLink RX2 22 (TX2 0).1 (TX2 0).2.1 (TX2 0).2.2.1 ∈ gtbl := inT (inT1 (List.mem_of_getElem? (i := 197) (by decide +kernel))) (by decide +kernel)
theorem fl_X2_22 : FL RX2 22 2 0 := ⟨RX2, TX2, 3, rfl, by decide, wf_X2_22, inX2⟩
theorem pl_X2_22 : PL RX2 "<init>" 22 2 0 (.object "FallSchool$Tape") := ⟨RX2, TX2, 3, tyX2, rfl, by decide, wf_X2_22, inX2, tyX2_ok, nmX2, by decide +kernel, Or.inr ⟨rfl, rfl, rfl⟩⟩
theorem wf_X2_12 : Cond.fieldLink RX2 12 (TX2 1).1 (TX2 1).2.1 (TX2 1).2.2.1 ∈ gtbl := inT (inT1 (List.mem_of_getElem? (i := 198) (by decide +kernel))) (by decide +kernel)
theorem fl_X2_12 : FL RX2 12 2 1 := ⟨RX2, TX2, 3, rfl, by decide, wf_X2_12, inX2⟩
theorem pl_X2_12 (nm : String) : PL RX2 nm 12 2 1 (.object "FallSchool$Ground") := ⟨RX2, TX2, 3, tyX2, rfl, by decide, wf_X2_12, inX2, tyX2_ok, nmX2, by decide +kernel, Or.inl rfl⟩
theorem wf_X11_51 : Cond.fieldLink RX11 51 (TX2 1).1 (TX2 1).2.1 (TX2 1).2.2.1 ∈ gtbl := inT (inT1 (List.mem_of_getElem? (i := 199) (by decide +kernel))) (by decide +kernel)
theorem fl_X11_51 : FL RX11 51 2 1 := ⟨RX2, TX2, 3, rfl, by decide, wf_X11_51, inX2⟩
theorem pl_X11_51 (nm : String) : PL RX11 nm 51 2 1 (.object "FallSchool$Ground") := ⟨RX2, TX2, 3, tyX2, rfl, by decide, wf_X11_51, inX2, tyX2_ok, nmX2, by decide +kernel, Or.inl rfl⟩
theorem wf_X2_18 : Cond.fieldLink RX2 18 (TX2 2).1 (TX2 2).2.1 (TX2 2).2.2.1 ∈ gtbl := inT (inT1 (List.mem_of_getElem? (i := 200) (by decide +kernel))) (by decide +kernel)
theorem fl_X2_18 : FL RX2 18 2 2 := ⟨RX2, TX2, 3, rfl, by decide, wf_X2_18, inX2⟩
theorem pl_X2_18 (nm : String) : PL RX2 nm 18 2 2 .int := ⟨RX2, TX2, 3, tyX2, rfl, by decide, wf_X2_18, inX2, tyX2_ok, nmX2, by decide +kernel, Or.inl rfl⟩
theorem wf_X6_37 : Cond.fieldLink RX6 37 (TX6 0).1 (TX6 0).2.1 (TX6 0).2.2.1 ∈ gtbl := inT (inT1 (List.mem_of_getElem? (i := 214) (by decide +kernel))) (by decide +kernel)
theorem fl_X6_37 : FL RX6 37 6 0 := ⟨RX6, TX6, 9, rfl, by decide, wf_X6_37, inX6⟩
theorem pl_X6_37 : PL RX6 "<init>" 37 6 0 (.object "FallSchool$Tape") := ⟨RX6, TX6, 9, tyX6, rfl, by decide, wf_X6_37, inX6, tyX6_ok, nmX6, by decide +kernel, Or.inr ⟨rfl, rfl, rfl⟩⟩
theorem wf_X6_9 : Cond.fieldLink RX6 9 (TX6 1).1 (TX6 1).2.1 (TX6 1).2.2.1 ∈ gtbl := inT (inT1 (List.mem_of_getElem? (i := 215) (by decide +kernel))) (by decide +kernel)
theorem fl_X6_9 : FL RX6 9 6 1 := ⟨RX6, TX6, 9, rfl, by decide, wf_X6_9, inX6⟩
theorem pl_X6_9 : PL RX6 "<init>" 9 6 1 (.array .int) := ⟨RX6, TX6, 9, tyX6, rfl, by decide, wf_X6_9, inX6, tyX6_ok, nmX6, by decide +kernel, Or.inr ⟨rfl, rfl, rfl⟩⟩
theorem wf_X5_15 : Cond.fieldLink RX5 15 (TX6 1).1 (TX6 1).2.1 (TX6 1).2.2.1 ∈ gtbl := inT (inT1 (List.mem_of_getElem? (i := 216) (by decide +kernel))) (by decide +kernel)
theorem fl_X5_15 : FL RX5 15 6 1 := ⟨RX6, TX6, 9, rfl, by decide, wf_X5_15, inX6⟩
theorem wf_X6_15 : Cond.fieldLink RX6 15 (TX6 2).1 (TX6 2).2.1 (TX6 2).2.2.1 ∈ gtbl := inT (inT1 (List.mem_of_getElem? (i := 217) (by decide +kernel))) (by decide +kernel)
theorem fl_X6_15 : FL RX6 15 6 2 := ⟨RX6, TX6, 9, rfl, by decide, wf_X6_15, inX6⟩
theorem pl_X6_15 (nm : String) : PL RX6 nm 15 6 2 .int := ⟨RX6, TX6, 9, tyX6, rfl, by decide, wf_X6_15, inX6, tyX6_ok, nmX6, by decide +kernel, Or.inl rfl⟩
theorem wf_X5_21 : Cond.fieldLink RX5 21 (TX6 2).1 (TX6 2).2.1 (TX6 2).2.2.1 ∈ gtbl := inT (inT1 (List.mem_of_getElem? (i := 218) (by decide +kernel))) (by decide +kernel)
theorem fl_X5_21 : FL RX5 21 6 2 := ⟨RX6, TX6, 9, rfl, by decide, wf_X5_21, inX6⟩
theorem pl_X5_21 (nm : String) : PL RX5 nm 21 6 2 .int := ⟨RX6, TX6, 9, tyX6, rfl, by decide, wf_X5_21, inX6, tyX6_ok, nmX6, by decide +kernel, Or.inl rfl⟩
theorem wf_X6_19 : Cond.fieldLink RX6 19 (TX6 3).1 (TX6 3).2.1 (TX6 3).2.2.1 ∈ gtbl := inT (inT1 (List.mem_of_getElem? (i := 219) (by decide +kernel))) (by decide +kernel)
theorem fl_X6_19 : FL RX6 19 6 3 := ⟨RX6, TX6, 9, rfl, by decide, wf_X6_19, inX6⟩
theorem pl_X6_19 (nm : String) : PL RX6 nm 19 6 3 .int := ⟨RX6, TX6, 9, tyX6, rfl, by decide, wf_X6_19, inX6, tyX6_ok, nmX6, by decide +kernel, Or.inl rfl⟩
theorem wf_X6_22 : Cond.fieldLink RX6 22 (TX6 4).1 (TX6 4).2.1 (TX6 4).2.2.1 ∈ gtbl := inT (inT1 (List.mem_of_getElem? (i := 220) (by decide +kernel))) (by decide +kernel)
theorem fl_X6_22 : FL RX6 22 6 4 := ⟨RX6, TX6, 9, rfl, by decide, wf_X6_22, inX6⟩
theorem pl_X6_22 (nm : String) : PL RX6 nm 22 6 4 .int := ⟨RX6, TX6, 9, tyX6, rfl, by decide, wf_X6_22, inX6, tyX6_ok, nmX6, by decide +kernel, Or.inl rfl⟩
theorem wf_X5_32 : Cond.fieldLink RX5 32 (TX6 4).1 (TX6 4).2.1 (TX6 4).2.2.1 ∈ gtbl := inT (inT1 (List.mem_of_getElem? (i := 221) (by decide +kernel))) (by decide +kernel)
theorem fl_X5_32 : FL RX5 32 6 4 := ⟨RX6, TX6, 9, rfl, by decide, wf_X5_32, inX6⟩
theorem pl_X5_32 (nm : String) : PL RX5 nm 32 6 4 .int := ⟨RX6, TX6, 9, tyX6, rfl, by decide, wf_X5_32, inX6, tyX6_ok, nmX6, by decide +kernel, Or.inl rfl⟩
theorem wf_X6_25 : Cond.fieldLink RX6 25 (TX6 5).1 (TX6 5).2.1 (TX6 5).2.2.1 ∈ gtbl := inT (inT1 (List.mem_of_getElem? (i := 222) (by decide +kernel))) (by decide +kernel)
theorem fl_X6_25 : FL RX6 25 6 5 := ⟨RX6, TX6, 9, rfl, by decide, wf_X6_25, inX6⟩
theorem pl_X6_25 : PL RX6 "<init>" 25 6 5 (.array .int) := ⟨RX6, TX6, 9, tyX6, rfl, by decide, wf_X6_25, inX6, tyX6_ok, nmX6, by decide +kernel, Or.inr ⟨rfl, rfl, rfl⟩⟩
theorem wf_X5_36 : Cond.fieldLink RX5 36 (TX6 5).1 (TX6 5).2.1 (TX6 5).2.2.1 ∈ gtbl := inT (inT1 (List.mem_of_getElem? (i := 223) (by decide +kernel))) (by decide +kernel)
theorem fl_X5_36 : FL RX5 36 6 5 := ⟨RX6, TX6, 9, rfl, by decide, wf_X5_36, inX6⟩
theorem wf_X6_28 : Cond.fieldLink RX6 28 (TX6 6).1 (TX6 6).2.1 (TX6 6).2.2.1 ∈ gtbl := inT (inT1 (List.mem_of_getElem? (i := 224) (by decide +kernel))) (by decide +kernel)
theorem fl_X6_28 : FL RX6 28 6 6 := ⟨RX6, TX6, 9, rfl, by decide, wf_X6_28, inX6⟩
theorem pl_X6_28 : PL RX6 "<init>" 28 6 6 (.array .int) := ⟨RX6, TX6, 9, tyX6, rfl, by decide, wf_X6_28, inX6, tyX6_ok, nmX6, by decide +kernel, Or.inr ⟨rfl, rfl, rfl⟩⟩
theorem wf_X5_40 : Cond.fieldLink RX5 40 (TX6 6).1 (TX6 6).2.1 (TX6 6).2.2.1 ∈ gtbl := inT (inT1 (List.mem_of_getElem? (i := 225) (by decide +kernel))) (by decide +kernel)
theorem fl_X5_40 : FL RX5 40 6 6 := ⟨RX6, TX6, 9, rfl, by decide, wf_X5_40, inX6⟩
theorem wf_X6_31 : Cond.fieldLink RX6 31 (TX6 7).1 (TX6 7).2.1 (TX6 7).2.2.1 ∈ gtbl := inT (inT1 (List.mem_of_getElem? (i := 226) (by decide +kernel))) (by decide +kernel)
theorem fl_X6_31 : FL RX6 31 6 7 := ⟨RX6, TX6, 9, rfl, by decide, wf_X6_31, inX6⟩
theorem pl_X6_31 : PL RX6 "<init>" 31 6 7 (.array .int) := ⟨RX6, TX6, 9, tyX6, rfl, by decide, wf_X6_31, inX6, tyX6_ok, nmX6, by decide +kernel, Or.inr ⟨rfl, rfl, rfl⟩⟩
theorem wf_X5_44 : Cond.fieldLink RX5 44 (TX6 7).1 (TX6 7).2.1 (TX6 7).2.2.1 ∈ gtbl := inT (inT1 (List.mem_of_getElem? (i := 227) (by decide +kernel))) (by decide +kernel)
theorem fl_X5_44 : FL RX5 44 6 7 := ⟨RX6, TX6, 9, rfl, by decide, wf_X5_44, inX6⟩
theorem wf_X6_34 : Cond.fieldLink RX6 34 (TX6 8).1 (TX6 8).2.1 (TX6 8).2.2.1 ∈ gtbl := inT (inT1 (List.mem_of_getElem? (i := 228) (by decide +kernel))) (by decide +kernel)
theorem fl_X6_34 : FL RX6 34 6 8 := ⟨RX6, TX6, 9, rfl, by decide, wf_X6_34, inX6⟩
theorem pl_X6_34 : PL RX6 "<init>" 34 6 8 (.array .int) := ⟨RX6, TX6, 9, tyX6, rfl, by decide, wf_X6_34, inX6, tyX6_ok, nmX6, by decide +kernel, Or.inr ⟨rfl, rfl, rfl⟩⟩
theorem wf_X5_48 : Cond.fieldLink RX5 48 (TX6 8).1 (TX6 8).2.1 (TX6 8).2.2.1 ∈ gtbl := inT (inT1 (List.mem_of_getElem? (i := 229) (by decide +kernel))) (by decide +kernel)
theorem fl_X5_48 : FL RX5 48 6 8 := ⟨RX6, TX6, 9, rfl, by decide, wf_X5_48, inX6⟩
theorem wf_X5_31 : Cond.fieldLink RX5 31 (TX5 0).1 (TX5 0).2.1 (TX5 0).2.2.1 ∈ gtbl := inT (inT2 (List.mem_of_getElem? (i := 31) (by decide +kernel))) (by decide +kernel)
theorem fl_X5_31 : FL RX5 31 5 0 := ⟨RX5, TX5, 9, rfl, by decide, wf_X5_31, inX5⟩
theorem pl_X5_31 : PL RX5 "<init>" 31 5 0 (.array .int) := ⟨RX5, TX5, 9, tyX5, rfl, by decide, wf_X5_31, inX5, tyX5_ok, nmX5, by decide +kernel, Or.inr ⟨rfl, rfl, rfl⟩⟩
theorem wf_X5_35 : Cond.fieldLink RX5 35 (TX5 1).1 (TX5 1).2.1 (TX5 1).2.2.1 ∈ gtbl := inT (inT2 (List.mem_of_getElem? (i := 32) (by decide +kernel))) (by decide +kernel)
theorem fl_X5_35 : FL RX5 35 5 1 := ⟨RX5, TX5, 9, rfl, by decide, wf_X5_35, inX5⟩
theorem pl_X5_35 : PL RX5 "<init>" 35 5 1 .int := ⟨RX5, TX5, 9, tyX5, rfl, by decide, wf_X5_35, inX5, tyX5_ok, nmX5, by decide +kernel, Or.inr ⟨rfl, rfl, rfl⟩⟩
theorem wf_X5_39 : Cond.fieldLink RX5 39 (TX5 2).1 (TX5 2).2.1 (TX5 2).2.2.1 ∈ gtbl := inT (inT2 (List.mem_of_getElem? (i := 33) (by decide +kernel))) (by decide +kernel)
theorem fl_X5_39 : FL RX5 39 5 2 := ⟨RX5, TX5, 9, rfl, by decide, wf_X5_39, inX5⟩
theorem pl_X5_39 : PL RX5 "<init>" 39 5 2 (.array .int) := ⟨RX5, TX5, 9, tyX5, rfl, by decide, wf_X5_39, inX5, tyX5_ok, nmX5, by decide +kernel, Or.inr ⟨rfl, rfl, rfl⟩⟩
theorem wf_X5_43 : Cond.fieldLink RX5 43 (TX5 3).1 (TX5 3).2.1 (TX5 3).2.2.1 ∈ gtbl := inT (inT2 (List.mem_of_getElem? (i := 34) (by decide +kernel))) (by decide +kernel)
theorem fl_X5_43 : FL RX5 43 5 3 := ⟨RX5, TX5, 9, rfl, by decide, wf_X5_43, inX5⟩
theorem pl_X5_43 : PL RX5 "<init>" 43 5 3 (.array .int) := ⟨RX5, TX5, 9, tyX5, rfl, by decide, wf_X5_43, inX5, tyX5_ok, nmX5, by decide +kernel, Or.inr ⟨rfl, rfl, rfl⟩⟩
theorem wf_X5_47 : Cond.fieldLink RX5 47 (TX5 4).1 (TX5 4).2.1 (TX5 4).2.2.1 ∈ gtbl := inT (inT2 (List.mem_of_getElem? (i := 35) (by decide +kernel))) (by decide +kernel)
theorem fl_X5_47 : FL RX5 47 5 4 := ⟨RX5, TX5, 9, rfl, by decide, wf_X5_47, inX5⟩
theorem pl_X5_47 : PL RX5 "<init>" 47 5 4 (.array .int) := ⟨RX5, TX5, 9, tyX5, rfl, by decide, wf_X5_47, inX5, tyX5_ok, nmX5, by decide +kernel, Or.inr ⟨rfl, rfl, rfl⟩⟩
theorem wf_X5_51 : Cond.fieldLink RX5 51 (TX5 5).1 (TX5 5).2.1 (TX5 5).2.2.1 ∈ gtbl := inT (inT2 (List.mem_of_getElem? (i := 36) (by decide +kernel))) (by decide +kernel)
theorem fl_X5_51 : FL RX5 51 5 5 := ⟨RX5, TX5, 9, rfl, by decide, wf_X5_51, inX5⟩
theorem pl_X5_51 : PL RX5 "<init>" 51 5 5 (.array .int) := ⟨RX5, TX5, 9, tyX5, rfl, by decide, wf_X5_51, inX5, tyX5_ok, nmX5, by decide +kernel, Or.inr ⟨rfl, rfl, rfl⟩⟩
theorem wf_X5_52 : Cond.fieldLink RX5 52 (TX5 6).1 (TX5 6).2.1 (TX5 6).2.2.1 ∈ gtbl := inT (inT2 (List.mem_of_getElem? (i := 37) (by decide +kernel))) (by decide +kernel)
theorem fl_X5_52 : FL RX5 52 5 6 := ⟨RX5, TX5, 9, rfl, by decide, wf_X5_52, inX5⟩
theorem pl_X5_52 : PL RX5 "<init>" 52 5 6 .boolean := ⟨RX5, TX5, 9, tyX5, rfl, by decide, wf_X5_52, inX5, tyX5_ok, nmX5, by decide +kernel, Or.inr ⟨rfl, rfl, rfl⟩⟩
theorem wf_X5_56 : Cond.fieldLink RX5 56 (TX5 7).1 (TX5 7).2.1 (TX5 7).2.2.1 ∈ gtbl := inT (inT2 (List.mem_of_getElem? (i := 38) (by decide +kernel))) (by decide +kernel)
theorem fl_X5_56 : FL RX5 56 5 7 := ⟨RX5, TX5, 9, rfl, by decide, wf_X5_56, inX5⟩
theorem pl_X5_56 : PL RX5 "<init>" 56 5 7 .boolean := ⟨RX5, TX5, 9, tyX5, rfl, by decide, wf_X5_56, inX5, tyX5_ok, nmX5, by decide +kernel, Or.inr ⟨rfl, rfl, rfl⟩⟩
theorem wf_X5_11 : Cond.fieldLink RX5 11 (TX5 8).1 (TX5 8).2.1 (TX5 8).2.2.1 ∈ gtbl := inT (inT2 (List.mem_of_getElem? (i := 39) (by decide +kernel))) (by decide +kernel)
theorem fl_X5_11 : FL RX5 11 5 8 := ⟨RX5, TX5, 9, rfl, by decide, wf_X5_11, inX5⟩
theorem pl_X5_11 : PL RX5 "<init>" 11 5 8 (.array .long) := ⟨RX5, TX5, 9, tyX5, rfl, by decide, wf_X5_11, inX5, tyX5_ok, nmX5, by decide +kernel, Or.inr ⟨rfl, rfl, rfl⟩⟩
theorem wf_X0_47 : Cond.fieldLink RX0 47 (TX7 0).1 (TX7 0).2.1 (TX7 0).2.2.1 ∈ gtbl := inT (inT2 (List.mem_of_getElem? (i := 67) (by decide +kernel))) (by decide +kernel)
theorem fl_X0_47 : FL RX0 47 7 0 := ⟨RX7, TX7, 13, rfl, by decide, wf_X0_47, inX7⟩
theorem pl_X0_47 (nm : String) : PL RX0 nm 47 7 0 (.object "FallSchool$Ground") := ⟨RX7, TX7, 13, tyX7, rfl, by decide, wf_X0_47, inX7, tyX7_ok, nmX7, by decide +kernel, Or.inl rfl⟩
theorem wf_X7_49 : Cond.fieldLink RX7 49 (TX7 0).1 (TX7 0).2.1 (TX7 0).2.2.1 ∈ gtbl := inT (inT2 (List.mem_of_getElem? (i := 68) (by decide +kernel))) (by decide +kernel)
theorem fl_X7_49 : FL RX7 49 7 0 := ⟨RX7, TX7, 13, rfl, by decide, wf_X7_49, inX7⟩
theorem pl_X7_49 (nm : String) : PL RX7 nm 49 7 0 (.object "FallSchool$Ground") := ⟨RX7, TX7, 13, tyX7, rfl, by decide, wf_X7_49, inX7, tyX7_ok, nmX7, by decide +kernel, Or.inl rfl⟩
theorem wf_X4_35 : Cond.fieldLink RX4 35 (TX7 0).1 (TX7 0).2.1 (TX7 0).2.2.1 ∈ gtbl := inT (inT2 (List.mem_of_getElem? (i := 69) (by decide +kernel))) (by decide +kernel)
theorem fl_X4_35 : FL RX4 35 7 0 := ⟨RX7, TX7, 13, rfl, by decide, wf_X4_35, inX7⟩
theorem pl_X4_35 (nm : String) : PL RX4 nm 35 7 0 (.object "FallSchool$Ground") := ⟨RX7, TX7, 13, tyX7, rfl, by decide, wf_X4_35, inX7, tyX7_ok, nmX7, by decide +kernel, Or.inl rfl⟩
theorem wf_X11_122 : Cond.fieldLink RX11 122 (TX7 0).1 (TX7 0).2.1 (TX7 0).2.2.1 ∈ gtbl := inT (inT2 (List.mem_of_getElem? (i := 70) (by decide +kernel))) (by decide +kernel)
theorem fl_X11_122 : FL RX11 122 7 0 := ⟨RX7, TX7, 13, rfl, by decide, wf_X11_122, inX7⟩
theorem pl_X11_122 (nm : String) : PL RX11 nm 122 7 0 (.object "FallSchool$Ground") := ⟨RX7, TX7, 13, tyX7, rfl, by decide, wf_X11_122, inX7, tyX7_ok, nmX7, by decide +kernel, Or.inl rfl⟩
theorem wf_X7_9 : Cond.fieldLink RX7 9 (TX7 1).1 (TX7 1).2.1 (TX7 1).2.2.1 ∈ gtbl := inT (inT2 (List.mem_of_getElem? (i := 71) (by decide +kernel))) (by decide +kernel)
theorem fl_X7_9 : FL RX7 9 7 1 := ⟨RX7, TX7, 13, rfl, by decide, wf_X7_9, inX7⟩
theorem pl_X7_9 (nm : String) : PL RX7 nm 9 7 1 .int := ⟨RX7, TX7, 13, tyX7, rfl, by decide, wf_X7_9, inX7, tyX7_ok, nmX7, by decide +kernel, Or.inl rfl⟩
theorem wf_X11_131 : Cond.fieldLink RX11 131 (TX7 1).1 (TX7 1).2.1 (TX7 1).2.2.1 ∈ gtbl := inT (inT2 (List.mem_of_getElem? (i := 72) (by decide +kernel))) (by decide +kernel)
theorem fl_X11_131 : FL RX11 131 7 1 := ⟨RX7, TX7, 13, rfl, by decide, wf_X11_131, inX7⟩
theorem pl_X11_131 (nm : String) : PL RX11 nm 131 7 1 .int := ⟨RX7, TX7, 13, tyX7, rfl, by decide, wf_X11_131, inX7, tyX7_ok, nmX7, by decide +kernel, Or.inl rfl⟩
theorem wf_X7_15 : Cond.fieldLink RX7 15 (TX7 2).1 (TX7 2).2.1 (TX7 2).2.2.1 ∈ gtbl := inT (inT2 (List.mem_of_getElem? (i := 73) (by decide +kernel))) (by decide +kernel)
theorem fl_X7_15 : FL RX7 15 7 2 := ⟨RX7, TX7, 13, rfl, by decide, wf_X7_15, inX7⟩
theorem pl_X7_15 (nm : String) : PL RX7 nm 15 7 2 .int := ⟨RX7, TX7, 13, tyX7, rfl, by decide, wf_X7_15, inX7, tyX7_ok, nmX7, by decide +kernel, Or.inl rfl⟩
theorem wf_X11_335 : Cond.fieldLink RX11 335 (TX7 2).1 (TX7 2).2.1 (TX7 2).2.2.1 ∈ gtbl := inT (inT2 (List.mem_of_getElem? (i := 74) (by decide +kernel))) (by decide +kernel)
theorem fl_X11_335 : FL RX11 335 7 2 := ⟨RX7, TX7, 13, rfl, by decide, wf_X11_335, inX7⟩
theorem pl_X11_335 (nm : String) : PL RX11 nm 335 7 2 .int := ⟨RX7, TX7, 13, tyX7, rfl, by decide, wf_X11_335, inX7, tyX7_ok, nmX7, by decide +kernel, Or.inl rfl⟩
theorem wf_X7_18 : Cond.fieldLink RX7 18 (TX7 3).1 (TX7 3).2.1 (TX7 3).2.2.1 ∈ gtbl := inT (inT2 (List.mem_of_getElem? (i := 75) (by decide +kernel))) (by decide +kernel)
theorem fl_X7_18 : FL RX7 18 7 3 := ⟨RX7, TX7, 13, rfl, by decide, wf_X7_18, inX7⟩
theorem pl_X7_18 (nm : String) : PL RX7 nm 18 7 3 .int := ⟨RX7, TX7, 13, tyX7, rfl, by decide, wf_X7_18, inX7, tyX7_ok, nmX7, by decide +kernel, Or.inl rfl⟩
theorem wf_X0_58 : Cond.fieldLink RX0 58 (TX7 3).1 (TX7 3).2.1 (TX7 3).2.2.1 ∈ gtbl := inT (inT2 (List.mem_of_getElem? (i := 76) (by decide +kernel))) (by decide +kernel)
theorem fl_X0_58 : FL RX0 58 7 3 := ⟨RX7, TX7, 13, rfl, by decide, wf_X0_58, inX7⟩
theorem pl_X0_58 (nm : String) : PL RX0 nm 58 7 3 .int := ⟨RX7, TX7, 13, tyX7, rfl, by decide, wf_X0_58, inX7, tyX7_ok, nmX7, by decide +kernel, Or.inl rfl⟩
theorem wf_X11_200 : Cond.fieldLink RX11 200 (TX7 3).1 (TX7 3).2.1 (TX7 3).2.2.1 ∈ gtbl := inT (inT2 (List.mem_of_getElem? (i := 77) (by decide +kernel))) (by decide +kernel)
theorem fl_X11_200 : FL RX11 200 7 3 := ⟨RX7, TX7, 13, rfl, by decide, wf_X11_200, inX7⟩
theorem pl_X11_200 (nm : String) : PL RX11 nm 200 7 3 .int := ⟨RX7, TX7, 13, tyX7, rfl, by decide, wf_X11_200, inX7, tyX7_ok, nmX7, by decide +kernel, Or.inl rfl⟩
theorem wf_X7_21 : Cond.fieldLink RX7 21 (TX7 4).1 (TX7 4).2.1 (TX7 4).2.2.1 ∈ gtbl := inT (inT2 (List.mem_of_getElem? (i := 78) (by decide +kernel))) (by decide +kernel)
theorem fl_X7_21 : FL RX7 21 7 4 := ⟨RX7, TX7, 13, rfl, by decide, wf_X7_21, inX7⟩
theorem pl_X7_21 : PL RX7 "<init>" 21 7 4 (.array .int) := ⟨RX7, TX7, 13, tyX7, rfl, by decide, wf_X7_21, inX7, tyX7_ok, nmX7, by decide +kernel, Or.inr ⟨rfl, rfl, rfl⟩⟩
theorem wf_X0_59 : Cond.fieldLink RX0 59 (TX7 4).1 (TX7 4).2.1 (TX7 4).2.2.1 ∈ gtbl := inT (inT2 (List.mem_of_getElem? (i := 79) (by decide +kernel))) (by decide +kernel)
theorem fl_X0_59 : FL RX0 59 7 4 := ⟨RX7, TX7, 13, rfl, by decide, wf_X0_59, inX7⟩
theorem wf_X11_163 : Cond.fieldLink RX11 163 (TX7 4).1 (TX7 4).2.1 (TX7 4).2.2.1 ∈ gtbl := inT (inT2 (List.mem_of_getElem? (i := 80) (by decide +kernel))) (by decide +kernel)
theorem fl_X11_163 : FL RX11 163 7 4 := ⟨RX7, TX7, 13, rfl, by decide, wf_X11_163, inX7⟩
theorem wf_X7_25 : Cond.fieldLink RX7 25 (TX7 5).1 (TX7 5).2.1 (TX7 5).2.2.1 ∈ gtbl := inT (inT2 (List.mem_of_getElem? (i := 81) (by decide +kernel))) (by decide +kernel)
theorem fl_X7_25 : FL RX7 25 7 5 := ⟨RX7, TX7, 13, rfl, by decide, wf_X7_25, inX7⟩
theorem pl_X7_25 : PL RX7 "<init>" 25 7 5 (.array .int) := ⟨RX7, TX7, 13, tyX7, rfl, by decide, wf_X7_25, inX7, tyX7_ok, nmX7, by decide +kernel, Or.inr ⟨rfl, rfl, rfl⟩⟩
theorem wf_X11_172 : Cond.fieldLink RX11 172 (TX7 5).1 (TX7 5).2.1 (TX7 5).2.2.1 ∈ gtbl := inT (inT2 (List.mem_of_getElem? (i := 82) (by decide +kernel))) (by decide +kernel)
theorem fl_X11_172 : FL RX11 172 7 5 := ⟨RX7, TX7, 13, rfl, by decide, wf_X11_172, inX7⟩
theorem wf_X7_28 : Cond.fieldLink RX7 28 (TX7 6).1 (TX7 6).2.1 (TX7 6).2.2.1 ∈ gtbl := inT (inT2 (List.mem_of_getElem? (i := 83) (by decide +kernel))) (by decide +kernel)
theorem fl_X7_28 : FL RX7 28 7 6 := ⟨RX7, TX7, 13, rfl, by decide, wf_X7_28, inX7⟩
theorem pl_X7_28 (nm : String) : PL RX7 nm 28 7 6 .int := ⟨RX7, TX7, 13, tyX7, rfl, by decide, wf_X7_28, inX7, tyX7_ok, nmX7, by decide +kernel, Or.inl rfl⟩
theorem wf_X11_257 : Cond.fieldLink RX11 257 (TX7 6).1 (TX7 6).2.1 (TX7 6).2.2.1 ∈ gtbl := inT (inT2 (List.mem_of_getElem? (i := 84) (by decide +kernel))) (by decide +kernel)
theorem fl_X11_257 : FL RX11 257 7 6 := ⟨RX7, TX7, 13, rfl, by decide, wf_X11_257, inX7⟩
theorem pl_X11_257 (nm : String) : PL RX11 nm 257 7 6 .int := ⟨RX7, TX7, 13, tyX7, rfl, by decide, wf_X11_257, inX7, tyX7_ok, nmX7, by decide +kernel, Or.inl rfl⟩
theorem wf_X7_31 : Cond.fieldLink RX7 31 (TX7 7).1 (TX7 7).2.1 (TX7 7).2.2.1 ∈ gtbl := inT (inT2 (List.mem_of_getElem? (i := 85) (by decide +kernel))) (by decide +kernel)
theorem fl_X7_31 : FL RX7 31 7 7 := ⟨RX7, TX7, 13, rfl, by decide, wf_X7_31, inX7⟩
theorem pl_X7_31 (nm : String) : PL RX7 nm 31 7 7 .int := ⟨RX7, TX7, 13, tyX7, rfl, by decide, wf_X7_31, inX7, tyX7_ok, nmX7, by decide +kernel, Or.inl rfl⟩
theorem wf_X7_34 : Cond.fieldLink RX7 34 (TX7 8).1 (TX7 8).2.1 (TX7 8).2.2.1 ∈ gtbl := inT (inT2 (List.mem_of_getElem? (i := 86) (by decide +kernel))) (by decide +kernel)
theorem fl_X7_34 : FL RX7 34 7 8 := ⟨RX7, TX7, 13, rfl, by decide, wf_X7_34, inX7⟩
theorem pl_X7_34 (nm : String) : PL RX7 nm 34 7 8 .int := ⟨RX7, TX7, 13, tyX7, rfl, by decide, wf_X7_34, inX7, tyX7_ok, nmX7, by decide +kernel, Or.inl rfl⟩
theorem wf_X7_37 : Cond.fieldLink RX7 37 (TX7 9).1 (TX7 9).2.1 (TX7 9).2.2.1 ∈ gtbl := inT (inT2 (List.mem_of_getElem? (i := 87) (by decide +kernel))) (by decide +kernel)
theorem fl_X7_37 : FL RX7 37 7 9 := ⟨RX7, TX7, 13, rfl, by decide, wf_X7_37, inX7⟩
theorem pl_X7_37 (nm : String) : PL RX7 nm 37 7 9 .int := ⟨RX7, TX7, 13, tyX7, rfl, by decide, wf_X7_37, inX7, tyX7_ok, nmX7, by decide +kernel, Or.inl rfl⟩
theorem wf_X11_225 : Cond.fieldLink RX11 225 (TX7 9).1 (TX7 9).2.1 (TX7 9).2.2.1 ∈ gtbl := inT (inT2 (List.mem_of_getElem? (i := 88) (by decide +kernel))) (by decide +kernel)
theorem fl_X11_225 : FL RX11 225 7 9 := ⟨RX7, TX7, 13, rfl, by decide, wf_X11_225, inX7⟩
theorem pl_X11_225 (nm : String) : PL RX11 nm 225 7 9 .int := ⟨RX7, TX7, 13, tyX7, rfl, by decide, wf_X11_225, inX7, tyX7_ok, nmX7, by decide +kernel, Or.inl rfl⟩
theorem wf_X7_40 : Cond.fieldLink RX7 40 (TX7 10).1 (TX7 10).2.1 (TX7 10).2.2.1 ∈ gtbl := inT (inT2 (List.mem_of_getElem? (i := 89) (by decide +kernel))) (by decide +kernel)
theorem fl_X7_40 : FL RX7 40 7 10 := ⟨RX7, TX7, 13, rfl, by decide, wf_X7_40, inX7⟩
theorem pl_X7_40 : PL RX7 "<init>" 40 7 10 (.array .int) := ⟨RX7, TX7, 13, tyX7, rfl, by decide, wf_X7_40, inX7, tyX7_ok, nmX7, by decide +kernel, Or.inr ⟨rfl, rfl, rfl⟩⟩
theorem wf_X7_43 : Cond.fieldLink RX7 43 (TX7 11).1 (TX7 11).2.1 (TX7 11).2.2.1 ∈ gtbl := inT (inT2 (List.mem_of_getElem? (i := 90) (by decide +kernel))) (by decide +kernel)
theorem fl_X7_43 : FL RX7 43 7 11 := ⟨RX7, TX7, 13, rfl, by decide, wf_X7_43, inX7⟩
theorem pl_X7_43 : PL RX7 "<init>" 43 7 11 (.array .int) := ⟨RX7, TX7, 13, tyX7, rfl, by decide, wf_X7_43, inX7, tyX7_ok, nmX7, by decide +kernel, Or.inr ⟨rfl, rfl, rfl⟩⟩
theorem wf_X7_46 : Cond.fieldLink RX7 46 (TX7 12).1 (TX7 12).2.1 (TX7 12).2.2.1 ∈ gtbl := inT (inT2 (List.mem_of_getElem? (i := 91) (by decide +kernel))) (by decide +kernel)
theorem fl_X7_46 : FL RX7 46 7 12 := ⟨RX7, TX7, 13, rfl, by decide, wf_X7_46, inX7⟩
theorem pl_X7_46 : PL RX7 "<init>" 46 7 12 (.array .int) := ⟨RX7, TX7, 13, tyX7, rfl, by decide, wf_X7_46, inX7, tyX7_ok, nmX7, by decide +kernel, Or.inr ⟨rfl, rfl, rfl⟩⟩
theorem wf_X0_43 : Cond.fieldLink RX0 43 (TX0 0).1 (TX0 0).2.1 (TX0 0).2.2.1 ∈ gtbl := inT (inT2 (List.mem_of_getElem? (i := 126) (by decide +kernel))) (by decide +kernel)
theorem fl_X0_43 : FL RX0 43 0 0 := ⟨RX0, TX0, 12, rfl, by decide, wf_X0_43, inX0⟩
theorem pl_X0_43 (nm : String) : PL RX0 nm 43 0 0 (.object "FallSchool$School") := ⟨RX0, TX0, 12, tyX0, rfl, by decide, wf_X0_43, inX0, tyX0_ok, nmX0, by decide +kernel, Or.inl rfl⟩
theorem wf_X0_53 : Cond.fieldLink RX0 53 (TX0 1).1 (TX0 1).2.1 (TX0 1).2.2.1 ∈ gtbl := inT (inT2 (List.mem_of_getElem? (i := 127) (by decide +kernel))) (by decide +kernel)
theorem fl_X0_53 : FL RX0 53 0 1 := ⟨RX0, TX0, 12, rfl, by decide, wf_X0_53, inX0⟩
theorem pl_X0_53 (nm : String) : PL RX0 nm 53 0 1 (.object "FallSchool$Ground") := ⟨RX0, TX0, 12, tyX0, rfl, by decide, wf_X0_53, inX0, tyX0_ok, nmX0, by decide +kernel, Or.inl rfl⟩
theorem wf_X10_46 : Cond.fieldLink RX10 46 (TX0 1).1 (TX0 1).2.1 (TX0 1).2.2.1 ∈ gtbl := inT (inT2 (List.mem_of_getElem? (i := 128) (by decide +kernel))) (by decide +kernel)
theorem fl_X10_46 : FL RX10 46 0 1 := ⟨RX0, TX0, 12, rfl, by decide, wf_X10_46, inX0⟩
theorem pl_X10_46 (nm : String) : PL RX10 nm 46 0 1 (.object "FallSchool$Ground") := ⟨RX0, TX0, 12, tyX0, rfl, by decide, wf_X10_46, inX0, tyX0_ok, nmX0, by decide +kernel, Or.inl rfl⟩
theorem wf_X0_54 : Cond.fieldLink RX0 54 (TX0 2).1 (TX0 2).2.1 (TX0 2).2.2.1 ∈ gtbl := inT (inT2 (List.mem_of_getElem? (i := 129) (by decide +kernel))) (by decide +kernel)
theorem fl_X0_54 : FL RX0 54 0 2 := ⟨RX0, TX0, 12, rfl, by decide, wf_X0_54, inX0⟩
theorem pl_X0_54 (nm : String) : PL RX0 nm 54 0 2 (.object "FallSchool$Rule") := ⟨RX0, TX0, 12, tyX0, rfl, by decide, wf_X0_54, inX0, tyX0_ok, nmX0, by decide +kernel, Or.inl rfl⟩
theorem wf_X0_9 : Cond.fieldLink RX0 9 (TX0 3).1 (TX0 3).2.1 (TX0 3).2.2.1 ∈ gtbl := inT (inT2 (List.mem_of_getElem? (i := 130) (by decide +kernel))) (by decide +kernel)
theorem fl_X0_9 : FL RX0 9 0 3 := ⟨RX0, TX0, 12, rfl, by decide, wf_X0_9, inX0⟩
theorem pl_X0_9 (nm : String) : PL RX0 nm 9 0 3 .int := ⟨RX0, TX0, 12, tyX0, rfl, by decide, wf_X0_9, inX0, tyX0_ok, nmX0, by decide +kernel, Or.inl rfl⟩
theorem wf_X0_15 : Cond.fieldLink RX0 15 (TX0 4).1 (TX0 4).2.1 (TX0 4).2.2.1 ∈ gtbl := inT (inT2 (List.mem_of_getElem? (i := 131) (by decide +kernel))) (by decide +kernel)
theorem fl_X0_15 : FL RX0 15 0 4 := ⟨RX0, TX0, 12, rfl, by decide, wf_X0_15, inX0⟩
theorem pl_X0_15 (nm : String) : PL RX0 nm 15 0 4 .int := ⟨RX0, TX0, 12, tyX0, rfl, by decide, wf_X0_15, inX0, tyX0_ok, nmX0, by decide +kernel, Or.inl rfl⟩
theorem wf_X4_55 : Cond.fieldLink RX4 55 (TX0 4).1 (TX0 4).2.1 (TX0 4).2.2.1 ∈ gtbl := inT (inT2 (List.mem_of_getElem? (i := 132) (by decide +kernel))) (by decide +kernel)
theorem fl_X4_55 : FL RX4 55 0 4 := ⟨RX0, TX0, 12, rfl, by decide, wf_X4_55, inX0⟩
theorem pl_X4_55 (nm : String) : PL RX4 nm 55 0 4 .int := ⟨RX0, TX0, 12, tyX0, rfl, by decide, wf_X4_55, inX0, tyX0_ok, nmX0, by decide +kernel, Or.inl rfl⟩
theorem wf_X0_18 : Cond.fieldLink RX0 18 (TX0 5).1 (TX0 5).2.1 (TX0 5).2.2.1 ∈ gtbl := inT (inT2 (List.mem_of_getElem? (i := 133) (by decide +kernel))) (by decide +kernel)
theorem fl_X0_18 : FL RX0 18 0 5 := ⟨RX0, TX0, 12, rfl, by decide, wf_X0_18, inX0⟩
theorem pl_X0_18 (nm : String) : PL RX0 nm 18 0 5 .int := ⟨RX0, TX0, 12, tyX0, rfl, by decide, wf_X0_18, inX0, tyX0_ok, nmX0, by decide +kernel, Or.inl rfl⟩
theorem wf_X4_52 : Cond.fieldLink RX4 52 (TX0 5).1 (TX0 5).2.1 (TX0 5).2.2.1 ∈ gtbl := inT (inT2 (List.mem_of_getElem? (i := 134) (by decide +kernel))) (by decide +kernel)
theorem fl_X4_52 : FL RX4 52 0 5 := ⟨RX0, TX0, 12, rfl, by decide, wf_X4_52, inX0⟩
theorem pl_X4_52 (nm : String) : PL RX4 nm 52 0 5 .int := ⟨RX0, TX0, 12, tyX0, rfl, by decide, wf_X4_52, inX0, tyX0_ok, nmX0, by decide +kernel, Or.inl rfl⟩
theorem wf_X10_39 : Cond.fieldLink RX10 39 (TX0 5).1 (TX0 5).2.1 (TX0 5).2.2.1 ∈ gtbl := inT (inT2 (List.mem_of_getElem? (i := 135) (by decide +kernel))) (by decide +kernel)
theorem fl_X10_39 : FL RX10 39 0 5 := ⟨RX0, TX0, 12, rfl, by decide, wf_X10_39, inX0⟩
theorem pl_X10_39 (nm : String) : PL RX10 nm 39 0 5 .int := ⟨RX0, TX0, 12, tyX0, rfl, by decide, wf_X10_39, inX0, tyX0_ok, nmX0, by decide +kernel, Or.inl rfl⟩
theorem wf_X11_197 : Cond.fieldLink RX11 197 (TX0 5).1 (TX0 5).2.1 (TX0 5).2.2.1 ∈ gtbl := inT (inT2 (List.mem_of_getElem? (i := 136) (by decide +kernel))) (by decide +kernel)
theorem fl_X11_197 : FL RX11 197 0 5 := ⟨RX0, TX0, 12, rfl, by decide, wf_X11_197, inX0⟩
theorem pl_X11_197 (nm : String) : PL RX11 nm 197 0 5 .int := ⟨RX0, TX0, 12, tyX0, rfl, by decide, wf_X11_197, inX0, tyX0_ok, nmX0, by decide +kernel, Or.inl rfl⟩
theorem wf_X0_21 : Cond.fieldLink RX0 21 (TX0 6).1 (TX0 6).2.1 (TX0 6).2.2.1 ∈ gtbl := inT (inT2 (List.mem_of_getElem? (i := 137) (by decide +kernel))) (by decide +kernel)
theorem fl_X0_21 : FL RX0 21 0 6 := ⟨RX0, TX0, 12, rfl, by decide, wf_X0_21, inX0⟩
theorem pl_X0_21 (nm : String) : PL RX0 nm 21 0 6 .int := ⟨RX0, TX0, 12, tyX0, rfl, by decide, wf_X0_21, inX0, tyX0_ok, nmX0, by decide +kernel, Or.inl rfl⟩
theorem wf_X10_58 : Cond.fieldLink RX10 58 (TX0 6).1 (TX0 6).2.1 (TX0 6).2.2.1 ∈ gtbl := inT (inT2 (List.mem_of_getElem? (i := 138) (by decide +kernel))) (by decide +kernel)
theorem fl_X10_58 : FL RX10 58 0 6 := ⟨RX0, TX0, 12, rfl, by decide, wf_X10_58, inX0⟩
theorem pl_X10_58 (nm : String) : PL RX10 nm 58 0 6 .int := ⟨RX0, TX0, 12, tyX0, rfl, by decide, wf_X10_58, inX0, tyX0_ok, nmX0, by decide +kernel, Or.inl rfl⟩
theorem wf_X11_231 : Cond.fieldLink RX11 231 (TX0 6).1 (TX0 6).2.1 (TX0 6).2.2.1 ∈ gtbl := inT (inT2 (List.mem_of_getElem? (i := 139) (by decide +kernel))) (by decide +kernel)
theorem fl_X11_231 : FL RX11 231 0 6 := ⟨RX0, TX0, 12, rfl, by decide, wf_X11_231, inX0⟩
theorem pl_X11_231 (nm : String) : PL RX11 nm 231 0 6 .int := ⟨RX0, TX0, 12, tyX0, rfl, by decide, wf_X11_231, inX0, tyX0_ok, nmX0, by decide +kernel, Or.inl rfl⟩
theorem wf_X0_24 : Cond.fieldLink RX0 24 (TX0 7).1 (TX0 7).2.1 (TX0 7).2.2.1 ∈ gtbl := inT (inT2 (List.mem_of_getElem? (i := 140) (by decide +kernel))) (by decide +kernel)
theorem fl_X0_24 : FL RX0 24 0 7 := ⟨RX0, TX0, 12, rfl, by decide, wf_X0_24, inX0⟩
theorem pl_X0_24 (nm : String) : PL RX0 nm 24 0 7 .int := ⟨RX0, TX0, 12, tyX0, rfl, by decide, wf_X0_24, inX0, tyX0_ok, nmX0, by decide +kernel, Or.inl rfl⟩
theorem wf_X10_71 : Cond.fieldLink RX10 71 (TX0 7).1 (TX0 7).2.1 (TX0 7).2.2.1 ∈ gtbl := inT (inT2 (List.mem_of_getElem? (i := 141) (by decide +kernel))) (by decide +kernel)
theorem fl_X10_71 : FL RX10 71 0 7 := ⟨RX0, TX0, 12, rfl, by decide, wf_X10_71, inX0⟩
theorem pl_X10_71 (nm : String) : PL RX10 nm 71 0 7 .int := ⟨RX0, TX0, 12, tyX0, rfl, by decide, wf_X10_71, inX0, tyX0_ok, nmX0, by decide +kernel, Or.inl rfl⟩
theorem wf_X11_234 : Cond.fieldLink RX11 234 (TX0 7).1 (TX0 7).2.1 (TX0 7).2.2.1 ∈ gtbl := inT (inT2 (List.mem_of_getElem? (i := 142) (by decide +kernel))) (by decide +kernel)
theorem fl_X11_234 : FL RX11 234 0 7 := ⟨RX0, TX0, 12, rfl, by decide, wf_X11_234, inX0⟩
theorem pl_X11_234 (nm : String) : PL RX11 nm 234 0 7 .int := ⟨RX0, TX0, 12, tyX0, rfl, by decide, wf_X11_234, inX0, tyX0_ok, nmX0, by decide +kernel, Or.inl rfl⟩
theorem wf_X0_27 : Cond.fieldLink RX0 27 (TX0 8).1 (TX0 8).2.1 (TX0 8).2.2.1 ∈ gtbl := inT (inT2 (List.mem_of_getElem? (i := 143) (by decide +kernel))) (by decide +kernel)
theorem fl_X0_27 : FL RX0 27 0 8 := ⟨RX0, TX0, 12, rfl, by decide, wf_X0_27, inX0⟩
theorem pl_X0_27 (nm : String) : PL RX0 nm 27 0 8 .int := ⟨RX0, TX0, 12, tyX0, rfl, by decide, wf_X0_27, inX0, tyX0_ok, nmX0, by decide +kernel, Or.inl rfl⟩
theorem wf_X4_62 : Cond.fieldLink RX4 62 (TX0 8).1 (TX0 8).2.1 (TX0 8).2.2.1 ∈ gtbl := inT (inT2 (List.mem_of_getElem? (i := 144) (by decide +kernel))) (by decide +kernel)
theorem fl_X4_62 : FL RX4 62 0 8 := ⟨RX0, TX0, 12, rfl, by decide, wf_X4_62, inX0⟩
theorem pl_X4_62 (nm : String) : PL RX4 nm 62 0 8 .int := ⟨RX0, TX0, 12, tyX0, rfl, by decide, wf_X4_62, inX0, tyX0_ok, nmX0, by decide +kernel, Or.inl rfl⟩
theorem wf_X10_61 : Cond.fieldLink RX10 61 (TX0 8).1 (TX0 8).2.1 (TX0 8).2.2.1 ∈ gtbl := inT (inT2 (List.mem_of_getElem? (i := 145) (by decide +kernel))) (by decide +kernel)
theorem fl_X10_61 : FL RX10 61 0 8 := ⟨RX0, TX0, 12, rfl, by decide, wf_X10_61, inX0⟩
theorem pl_X10_61 (nm : String) : PL RX10 nm 61 0 8 .int := ⟨RX0, TX0, 12, tyX0, rfl, by decide, wf_X10_61, inX0, tyX0_ok, nmX0, by decide +kernel, Or.inl rfl⟩
theorem wf_X11_203 : Cond.fieldLink RX11 203 (TX0 8).1 (TX0 8).2.1 (TX0 8).2.2.1 ∈ gtbl := inT (inT2 (List.mem_of_getElem? (i := 146) (by decide +kernel))) (by decide +kernel)
theorem fl_X11_203 : FL RX11 203 0 8 := ⟨RX0, TX0, 12, rfl, by decide, wf_X11_203, inX0⟩
theorem pl_X11_203 (nm : String) : PL RX11 nm 203 0 8 .int := ⟨RX0, TX0, 12, tyX0, rfl, by decide, wf_X11_203, inX0, tyX0_ok, nmX0, by decide +kernel, Or.inl rfl⟩
theorem wf_X0_30 : Cond.fieldLink RX0 30 (TX0 9).1 (TX0 9).2.1 (TX0 9).2.2.1 ∈ gtbl := inT (inT2 (List.mem_of_getElem? (i := 147) (by decide +kernel))) (by decide +kernel)
theorem fl_X0_30 : FL RX0 30 0 9 := ⟨RX0, TX0, 12, rfl, by decide, wf_X0_30, inX0⟩
theorem pl_X0_30 (nm : String) : PL RX0 nm 30 0 9 .int := ⟨RX0, TX0, 12, tyX0, rfl, by decide, wf_X0_30, inX0, tyX0_ok, nmX0, by decide +kernel, Or.inl rfl⟩
theorem wf_X0_33 : Cond.fieldLink RX0 33 (TX0 10).1 (TX0 10).2.1 (TX0 10).2.2.1 ∈ gtbl := inT (inT2 (List.mem_of_getElem? (i := 148) (by decide +kernel))) (by decide +kernel)
theorem fl_X0_33 : FL RX0 33 0 10 := ⟨RX0, TX0, 12, rfl, by decide, wf_X0_33, inX0⟩
theorem pl_X0_33 (nm : String) : PL RX0 nm 33 0 10 .boolean := ⟨RX0, TX0, 12, tyX0, rfl, by decide, wf_X0_33, inX0, tyX0_ok, nmX0, by decide +kernel, Or.inl rfl⟩
theorem wf_X10_42 : Cond.fieldLink RX10 42 (TX0 10).1 (TX0 10).2.1 (TX0 10).2.2.1 ∈ gtbl := inT (inT2 (List.mem_of_getElem? (i := 149) (by decide +kernel))) (by decide +kernel)
theorem fl_X10_42 : FL RX10 42 0 10 := ⟨RX0, TX0, 12, rfl, by decide, wf_X10_42, inX0⟩
theorem pl_X10_42 (nm : String) : PL RX10 nm 42 0 10 .boolean := ⟨RX0, TX0, 12, tyX0, rfl, by decide, wf_X10_42, inX0, tyX0_ok, nmX0, by decide +kernel, Or.inl rfl⟩
theorem wf_X0_39 : Cond.fieldLink RX0 39 (TX0 11).1 (TX0 11).2.1 (TX0 11).2.2.1 ∈ gtbl := inT (inT2 (List.mem_of_getElem? (i := 150) (by decide +kernel))) (by decide +kernel)
theorem fl_X0_39 : FL RX0 39 0 11 := ⟨RX0, TX0, 12, rfl, by decide, wf_X0_39, inX0⟩
theorem pl_X0_39 : PL RX0 "<init>" 39 0 11 (.array .int) := ⟨RX0, TX0, 12, tyX0, rfl, by decide, wf_X0_39, inX0, tyX0_ok, nmX0, by decide +kernel, Or.inr ⟨rfl, rfl, rfl⟩⟩
theorem wf_X10_25 : Cond.fieldLink RX10 25 (TX10 0).1 (TX10 0).2.1 (TX10 0).2.2.1 ∈ gtbl := inT (inT2 (List.mem_of_getElem? (i := 182) (by decide +kernel))) (by decide +kernel)
theorem fl_X10_25 : FL RX10 25 10 0 := ⟨RX10, TX10, 5, rfl, by decide, wf_X10_25, inX10⟩
theorem pl_X10_25 : PL RX10 "<init>" 25 10 0 (.object "FallSchool$Fall") := ⟨RX10, TX10, 5, tyX10, rfl, by decide, wf_X10_25, inX10, tyX10_ok, nmX10, by decide +kernel, Or.inr ⟨rfl, rfl, rfl⟩⟩
theorem wf_X10_9 : Cond.fieldLink RX10 9 (TX10 1).1 (TX10 1).2.1 (TX10 1).2.2.1 ∈ gtbl := inT (inT2 (List.mem_of_getElem? (i := 183) (by decide +kernel))) (by decide +kernel)
theorem fl_X10_9 : FL RX10 9 10 1 := ⟨RX10, TX10, 5, rfl, by decide, wf_X10_9, inX10⟩
theorem pl_X10_9 : PL RX10 "<init>" 9 10 1 (.array .int) := ⟨RX10, TX10, 5, tyX10, rfl, by decide, wf_X10_9, inX10, tyX10_ok, nmX10, by decide +kernel, Or.inr ⟨rfl, rfl, rfl⟩⟩
theorem wf_X10_15 : Cond.fieldLink RX10 15 (TX10 2).1 (TX10 2).2.1 (TX10 2).2.2.1 ∈ gtbl := inT (inT2 (List.mem_of_getElem? (i := 184) (by decide +kernel))) (by decide +kernel)
theorem fl_X10_15 : FL RX10 15 10 2 := ⟨RX10, TX10, 5, rfl, by decide, wf_X10_15, inX10⟩
theorem pl_X10_15 : PL RX10 "<init>" 15 10 2 (.array .int) := ⟨RX10, TX10, 5, tyX10, rfl, by decide, wf_X10_15, inX10, tyX10_ok, nmX10, by decide +kernel, Or.inr ⟨rfl, rfl, rfl⟩⟩
theorem wf_X11_251 : Cond.fieldLink RX11 251 (TX10 2).1 (TX10 2).2.1 (TX10 2).2.2.1 ∈ gtbl := inT (inT2 (List.mem_of_getElem? (i := 185) (by decide +kernel))) (by decide +kernel)
theorem fl_X11_251 : FL RX11 251 10 2 := ⟨RX10, TX10, 5, rfl, by decide, wf_X11_251, inX10⟩
theorem wf_X10_18 : Cond.fieldLink RX10 18 (TX10 3).1 (TX10 3).2.1 (TX10 3).2.2.1 ∈ gtbl := inT (inT2 (List.mem_of_getElem? (i := 186) (by decide +kernel))) (by decide +kernel)
theorem fl_X10_18 : FL RX10 18 10 3 := ⟨RX10, TX10, 5, rfl, by decide, wf_X10_18, inX10⟩
theorem pl_X10_18 (nm : String) : PL RX10 nm 18 10 3 .int := ⟨RX10, TX10, 5, tyX10, rfl, by decide, wf_X10_18, inX10, tyX10_ok, nmX10, by decide +kernel, Or.inl rfl⟩
theorem wf_X11_245 : Cond.fieldLink RX11 245 (TX10 3).1 (TX10 3).2.1 (TX10 3).2.2.1 ∈ gtbl := inT (inT2 (List.mem_of_getElem? (i := 187) (by decide +kernel))) (by decide +kernel)
theorem fl_X11_245 : FL RX11 245 10 3 := ⟨RX10, TX10, 5, rfl, by decide, wf_X11_245, inX10⟩
theorem pl_X11_245 (nm : String) : PL RX11 nm 245 10 3 .int := ⟨RX10, TX10, 5, tyX10, rfl, by decide, wf_X11_245, inX10, tyX10_ok, nmX10, by decide +kernel, Or.inl rfl⟩
theorem wf_X10_22 : Cond.fieldLink RX10 22 (TX10 4).1 (TX10 4).2.1 (TX10 4).2.2.1 ∈ gtbl := inT (inT2 (List.mem_of_getElem? (i := 188) (by decide +kernel))) (by decide +kernel)
theorem fl_X10_22 : FL RX10 22 10 4 := ⟨RX10, TX10, 5, rfl, by decide, wf_X10_22, inX10⟩
theorem pl_X10_22 (nm : String) : PL RX10 nm 22 10 4 .int := ⟨RX10, TX10, 5, tyX10, rfl, by decide, wf_X10_22, inX10, tyX10_ok, nmX10, by decide +kernel, Or.inl rfl⟩
theorem wf_X11_248 : Cond.fieldLink RX11 248 (TX10 4).1 (TX10 4).2.1 (TX10 4).2.2.1 ∈ gtbl := inT (inT2 (List.mem_of_getElem? (i := 189) (by decide +kernel))) (by decide +kernel)
theorem fl_X11_248 : FL RX11 248 10 4 := ⟨RX10, TX10, 5, rfl, by decide, wf_X11_248, inX10⟩
theorem pl_X11_248 (nm : String) : PL RX11 nm 248 10 4 .int := ⟨RX10, TX10, 5, tyX10, rfl, by decide, wf_X11_248, inX10, tyX10_ok, nmX10, by decide +kernel, Or.inl rfl⟩
theorem wf_X4_25 : Cond.fieldLink RX4 25 (TX4 0).1 (TX4 0).2.1 (TX4 0).2.2.1 ∈ gtbl := inT (inT2 (List.mem_of_getElem? (i := 207) (by decide +kernel))) (by decide +kernel)
theorem fl_X4_25 : FL RX4 25 4 0 := ⟨RX4, TX4, 5, rfl, by decide, wf_X4_25, inX4⟩
theorem pl_X4_25 : PL RX4 "<init>" 25 4 0 (.object "FallSchool$Fall") := ⟨RX4, TX4, 5, tyX4, rfl, by decide, wf_X4_25, inX4, tyX4_ok, nmX4, by decide +kernel, Or.inr ⟨rfl, rfl, rfl⟩⟩
theorem wf_X4_9 : Cond.fieldLink RX4 9 (TX4 1).1 (TX4 1).2.1 (TX4 1).2.2.1 ∈ gtbl := inT (inT2 (List.mem_of_getElem? (i := 208) (by decide +kernel))) (by decide +kernel)
theorem fl_X4_9 : FL RX4 9 4 1 := ⟨RX4, TX4, 5, rfl, by decide, wf_X4_9, inX4⟩
theorem pl_X4_9 (nm : String) : PL RX4 nm 9 4 1 .int := ⟨RX4, TX4, 5, tyX4, rfl, by decide, wf_X4_9, inX4, tyX4_ok, nmX4, by decide +kernel, Or.inl rfl⟩
theorem wf_X11_265 : Cond.fieldLink RX11 265 (TX4 1).1 (TX4 1).2.1 (TX4 1).2.2.1 ∈ gtbl := inT (inT2 (List.mem_of_getElem? (i := 209) (by decide +kernel))) (by decide +kernel)
theorem fl_X11_265 : FL RX11 265 4 1 := ⟨RX4, TX4, 5, rfl, by decide, wf_X11_265, inX4⟩
theorem pl_X11_265 (nm : String) : PL RX11 nm 265 4 1 .int := ⟨RX4, TX4, 5, tyX4, rfl, by decide, wf_X11_265, inX4, tyX4_ok, nmX4, by decide +kernel, Or.inl rfl⟩
theorem wf_X4_15 : Cond.fieldLink RX4 15 (TX4 2).1 (TX4 2).2.1 (TX4 2).2.2.1 ∈ gtbl := inT (inT2 (List.mem_of_getElem? (i := 210) (by decide +kernel))) (by decide +kernel)
theorem fl_X4_15 : FL RX4 15 4 2 := ⟨RX4, TX4, 5, rfl, by decide, wf_X4_15, inX4⟩
theorem pl_X4_15 (nm : String) : PL RX4 nm 15 4 2 .int := ⟨RX4, TX4, 5, tyX4, rfl, by decide, wf_X4_15, inX4, tyX4_ok, nmX4, by decide +kernel, Or.inl rfl⟩
theorem wf_X11_268 : Cond.fieldLink RX11 268 (TX4 2).1 (TX4 2).2.1 (TX4 2).2.2.1 ∈ gtbl := inT (inT2 (List.mem_of_getElem? (i := 211) (by decide +kernel))) (by decide +kernel)
theorem fl_X11_268 : FL RX11 268 4 2 := ⟨RX4, TX4, 5, rfl, by decide, wf_X11_268, inX4⟩
theorem pl_X11_268 (nm : String) : PL RX11 nm 268 4 2 .int := ⟨RX4, TX4, 5, tyX4, rfl, by decide, wf_X11_268, inX4, tyX4_ok, nmX4, by decide +kernel, Or.inl rfl⟩
theorem wf_X4_18 : Cond.fieldLink RX4 18 (TX4 3).1 (TX4 3).2.1 (TX4 3).2.2.1 ∈ gtbl := inT (inT2 (List.mem_of_getElem? (i := 212) (by decide +kernel))) (by decide +kernel)
theorem fl_X4_18 : FL RX4 18 4 3 := ⟨RX4, TX4, 5, rfl, by decide, wf_X4_18, inX4⟩
theorem pl_X4_18 (nm : String) : PL RX4 nm 18 4 3 .int := ⟨RX4, TX4, 5, tyX4, rfl, by decide, wf_X4_18, inX4, tyX4_ok, nmX4, by decide +kernel, Or.inl rfl⟩
theorem wf_X11_271 : Cond.fieldLink RX11 271 (TX4 3).1 (TX4 3).2.1 (TX4 3).2.2.1 ∈ gtbl := inT (inT2 (List.mem_of_getElem? (i := 213) (by decide +kernel))) (by decide +kernel)
theorem fl_X11_271 : FL RX11 271 4 3 := ⟨RX4, TX4, 5, rfl, by decide, wf_X11_271, inX4⟩
theorem pl_X11_271 (nm : String) : PL RX11 nm 271 4 3 .int := ⟨RX4, TX4, 5, tyX4, rfl, by decide, wf_X11_271, inX4, tyX4_ok, nmX4, by decide +kernel, Or.inl rfl⟩
theorem wf_X4_21 : Cond.fieldLink RX4 21 (TX4 4).1 (TX4 4).2.1 (TX4 4).2.2.1 ∈ gtbl := inT (inT2 (List.mem_of_getElem? (i := 214) (by decide +kernel))) (by decide +kernel)
theorem fl_X4_21 : FL RX4 21 4 4 := ⟨RX4, TX4, 5, rfl, by decide, wf_X4_21, inX4⟩
theorem pl_X4_21 : PL RX4 "<init>" 21 4 4 (.array .int) := ⟨RX4, TX4, 5, tyX4, rfl, by decide, wf_X4_21, inX4, tyX4_ok, nmX4, by decide +kernel, Or.inr ⟨rfl, rfl, rfl⟩⟩
theorem wf_X8_9 : Cond.fieldLink RX8 9 (TX8 0).1 (TX8 0).2.1 (TX8 0).2.2.1 ∈ gtbl := inT (inT2 (List.mem_of_getElem? (i := 232) (by decide +kernel))) (by decide +kernel)
theorem fl_X8_9 : FL RX8 9 8 0 := ⟨RX8, TX8, 6, rfl, by decide, wf_X8_9, inX8⟩
theorem pl_X8_9 : PL RX8 "<init>" 9 8 0 (.array .long) := ⟨RX8, TX8, 6, tyX8, rfl, by decide, wf_X8_9, inX8, tyX8_ok, nmX8, by decide +kernel, Or.inr ⟨rfl, rfl, rfl⟩⟩
theorem wf_X8_15 : Cond.fieldLink RX8 15 (TX8 1).1 (TX8 1).2.1 (TX8 1).2.2.1 ∈ gtbl := inT (inT2 (List.mem_of_getElem? (i := 233) (by decide +kernel))) (by decide +kernel)
theorem fl_X8_15 : FL RX8 15 8 1 := ⟨RX8, TX8, 6, rfl, by decide, wf_X8_15, inX8⟩
theorem pl_X8_15 : PL RX8 "<init>" 15 8 1 (.array .long) := ⟨RX8, TX8, 6, tyX8, rfl, by decide, wf_X8_15, inX8, tyX8_ok, nmX8, by decide +kernel, Or.inr ⟨rfl, rfl, rfl⟩⟩
theorem wf_X8_18 : Cond.fieldLink RX8 18 (TX8 2).1 (TX8 2).2.1 (TX8 2).2.2.1 ∈ gtbl := inT (inT2 (List.mem_of_getElem? (i := 234) (by decide +kernel))) (by decide +kernel)
theorem fl_X8_18 : FL RX8 18 8 2 := ⟨RX8, TX8, 6, rfl, by decide, wf_X8_18, inX8⟩
theorem pl_X8_18 (nm : String) : PL RX8 nm 18 8 2 .int := ⟨RX8, TX8, 6, tyX8, rfl, by decide, wf_X8_18, inX8, tyX8_ok, nmX8, by decide +kernel, Or.inl rfl⟩
theorem wf_X11_287 : Cond.fieldLink RX11 287 (TX8 2).1 (TX8 2).2.1 (TX8 2).2.2.1 ∈ gtbl := inT (inT2 (List.mem_of_getElem? (i := 235) (by decide +kernel))) (by decide +kernel)
theorem fl_X11_287 : FL RX11 287 8 2 := ⟨RX8, TX8, 6, rfl, by decide, wf_X11_287, inX8⟩
theorem pl_X11_287 (nm : String) : PL RX11 nm 287 8 2 .int := ⟨RX8, TX8, 6, tyX8, rfl, by decide, wf_X11_287, inX8, tyX8_ok, nmX8, by decide +kernel, Or.inl rfl⟩
theorem wf_X8_22 : Cond.fieldLink RX8 22 (TX8 3).1 (TX8 3).2.1 (TX8 3).2.2.1 ∈ gtbl := inT (inT2 (List.mem_of_getElem? (i := 236) (by decide +kernel))) (by decide +kernel)
theorem fl_X8_22 : FL RX8 22 8 3 := ⟨RX8, TX8, 6, rfl, by decide, wf_X8_22, inX8⟩
theorem pl_X8_22 : PL RX8 "<init>" 22 8 3 (.array .int) := ⟨RX8, TX8, 6, tyX8, rfl, by decide, wf_X8_22, inX8, tyX8_ok, nmX8, by decide +kernel, Or.inr ⟨rfl, rfl, rfl⟩⟩
theorem wf_X11_290 : Cond.fieldLink RX11 290 (TX8 3).1 (TX8 3).2.1 (TX8 3).2.2.1 ∈ gtbl := inT (inT2 (List.mem_of_getElem? (i := 237) (by decide +kernel))) (by decide +kernel)
theorem fl_X11_290 : FL RX11 290 8 3 := ⟨RX8, TX8, 6, rfl, by decide, wf_X11_290, inX8⟩
theorem wf_X8_26 : Cond.fieldLink RX8 26 (TX8 4).1 (TX8 4).2.1 (TX8 4).2.2.1 ∈ gtbl := inT (inT2 (List.mem_of_getElem? (i := 238) (by decide +kernel))) (by decide +kernel)
theorem fl_X8_26 : FL RX8 26 8 4 := ⟨RX8, TX8, 6, rfl, by decide, wf_X8_26, inX8⟩
theorem pl_X8_26 : PL RX8 "<init>" 26 8 4 (.array .boolean) := ⟨RX8, TX8, 6, tyX8, rfl, by decide, wf_X8_26, inX8, tyX8_ok, nmX8, by decide +kernel, Or.inr ⟨rfl, rfl, rfl⟩⟩
theorem wf_X8_30 : Cond.fieldLink RX8 30 (TX8 5).1 (TX8 5).2.1 (TX8 5).2.2.1 ∈ gtbl := inT (inT2 (List.mem_of_getElem? (i := 239) (by decide +kernel))) (by decide +kernel)
theorem fl_X8_30 : FL RX8 30 8 5 := ⟨RX8, TX8, 6, rfl, by decide, wf_X8_30, inX8⟩
theorem pl_X8_30 : PL RX8 "<init>" 30 8 5 (.array .long) := ⟨RX8, TX8, 6, tyX8, rfl, by decide, wf_X8_30, inX8, tyX8_ok, nmX8, by decide +kernel, Or.inr ⟨rfl, rfl, rfl⟩⟩
theorem wf_X11_10 : Cond.fieldLink RX11 10 (TX11 0).1 (TX11 0).2.1 (TX11 0).2.2.1 ∈ gtbl := inT (inT3 (List.mem_of_getElem? (i := 14) (by decide +kernel))) (by decide +kernel)
theorem fl_X11_10 : FL RX11 10 11 0 := ⟨RX11, TX11, 14, rfl, by decide, wf_X11_10, inX11⟩
theorem pl_X11_10 : PL RX11 "<init>" 10 11 0 (.object "FallSchool$Tape") := ⟨RX11, TX11, 14, tyX11, rfl, by decide, wf_X11_10, inX11, tyX11_ok, nmX11, by decide +kernel, Or.inr ⟨rfl, rfl, rfl⟩⟩
theorem wf_X11_21 : Cond.fieldLink RX11 21 (TX11 1).1 (TX11 1).2.1 (TX11 1).2.2.1 ∈ gtbl := inT (inT3 (List.mem_of_getElem? (i := 15) (by decide +kernel))) (by decide +kernel)
theorem fl_X11_21 : FL RX11 21 11 1 := ⟨RX11, TX11, 14, rfl, by decide, wf_X11_21, inX11⟩
theorem pl_X11_21 : PL RX11 "<init>" 21 11 1 (.object "FallSchool$GroundReader") := ⟨RX11, TX11, 14, tyX11, rfl, by decide, wf_X11_21, inX11, tyX11_ok, nmX11, by decide +kernel, Or.inr ⟨rfl, rfl, rfl⟩⟩
theorem wf_X11_28 : Cond.fieldLink RX11 28 (TX11 2).1 (TX11 2).2.1 (TX11 2).2.2.1 ∈ gtbl := inT (inT3 (List.mem_of_getElem? (i := 16) (by decide +kernel))) (by decide +kernel)
theorem fl_X11_28 : FL RX11 28 11 2 := ⟨RX11, TX11, 14, rfl, by decide, wf_X11_28, inX11⟩
theorem pl_X11_28 : PL RX11 "<init>" 28 11 2 (.object "FallSchool$RuleReader") := ⟨RX11, TX11, 14, tyX11, rfl, by decide, wf_X11_28, inX11, tyX11_ok, nmX11, by decide +kernel, Or.inr ⟨rfl, rfl, rfl⟩⟩
theorem wf_X11_37 : Cond.fieldLink RX11 37 (TX11 3).1 (TX11 3).2.1 (TX11 3).2.2.1 ∈ gtbl := inT (inT3 (List.mem_of_getElem? (i := 17) (by decide +kernel))) (by decide +kernel)
theorem fl_X11_37 : FL RX11 37 11 3 := ⟨RX11, TX11, 14, rfl, by decide, wf_X11_37, inX11⟩
theorem pl_X11_37 : PL RX11 "<init>" 37 11 3 (.object "FallSchool$Rule") := ⟨RX11, TX11, 14, tyX11, rfl, by decide, wf_X11_37, inX11, tyX11_ok, nmX11, by decide +kernel, Or.inr ⟨rfl, rfl, rfl⟩⟩
theorem wf_X11_41 : Cond.fieldLink RX11 41 (TX11 4).1 (TX11 4).2.1 (TX11 4).2.2.1 ∈ gtbl := inT (inT3 (List.mem_of_getElem? (i := 18) (by decide +kernel))) (by decide +kernel)
theorem fl_X11_41 : FL RX11 41 11 4 := ⟨RX11, TX11, 14, rfl, by decide, wf_X11_41, inX11⟩
theorem pl_X11_41 : PL RX11 "<init>" 41 11 4 (.array (.object "FallSchool$Rule")) := ⟨RX11, TX11, 14, tyX11, rfl, by decide, wf_X11_41, inX11, tyX11_ok, nmX11, by decide +kernel, Or.inr ⟨rfl, rfl, rfl⟩⟩
theorem wf_X11_45 : Cond.fieldLink RX11 45 (TX11 5).1 (TX11 5).2.1 (TX11 5).2.2.1 ∈ gtbl := inT (inT3 (List.mem_of_getElem? (i := 19) (by decide +kernel))) (by decide +kernel)
theorem fl_X11_45 : FL RX11 45 11 5 := ⟨RX11, TX11, 14, rfl, by decide, wf_X11_45, inX11⟩
theorem pl_X11_45 (nm : String) : PL RX11 nm 45 11 5 .int := ⟨RX11, TX11, 14, tyX11, rfl, by decide, wf_X11_45, inX11, tyX11_ok, nmX11, by decide +kernel, Or.inl rfl⟩
theorem wf_X11_58 : Cond.fieldLink RX11 58 (TX11 6).1 (TX11 6).2.1 (TX11 6).2.2.1 ∈ gtbl := inT (inT3 (List.mem_of_getElem? (i := 20) (by decide +kernel))) (by decide +kernel)
theorem fl_X11_58 : FL RX11 58 11 6 := ⟨RX11, TX11, 14, rfl, by decide, wf_X11_58, inX11⟩
theorem pl_X11_58 : PL RX11 "<init>" 58 11 6 (.object "FallSchool$School") := ⟨RX11, TX11, 14, tyX11, rfl, by decide, wf_X11_58, inX11, tyX11_ok, nmX11, by decide +kernel, Or.inr ⟨rfl, rfl, rfl⟩⟩
theorem wf_X11_62 : Cond.fieldLink RX11 62 (TX11 7).1 (TX11 7).2.1 (TX11 7).2.2.1 ∈ gtbl := inT (inT3 (List.mem_of_getElem? (i := 21) (by decide +kernel))) (by decide +kernel)
theorem fl_X11_62 : FL RX11 62 11 7 := ⟨RX11, TX11, 14, rfl, by decide, wf_X11_62, inX11⟩
theorem pl_X11_62 : PL RX11 "<init>" 62 11 7 (.object "FallSchool$School") := ⟨RX11, TX11, 14, tyX11, rfl, by decide, wf_X11_62, inX11, tyX11_ok, nmX11, by decide +kernel, Or.inr ⟨rfl, rfl, rfl⟩⟩
theorem wf_X11_65 : Cond.fieldLink RX11 65 (TX11 8).1 (TX11 8).2.1 (TX11 8).2.2.1 ∈ gtbl := inT (inT3 (List.mem_of_getElem? (i := 22) (by decide +kernel))) (by decide +kernel)
theorem fl_X11_65 : FL RX11 65 11 8 := ⟨RX11, TX11, 14, rfl, by decide, wf_X11_65, inX11⟩
theorem pl_X11_65 : PL RX11 "<init>" 65 11 8 (.array (.object "FallSchool$School")) := ⟨RX11, TX11, 14, tyX11, rfl, by decide, wf_X11_65, inX11, tyX11_ok, nmX11, by decide +kernel, Or.inr ⟨rfl, rfl, rfl⟩⟩
theorem wf_X11_74 : Cond.fieldLink RX11 74 (TX11 9).1 (TX11 9).2.1 (TX11 9).2.2.1 ∈ gtbl := inT (inT3 (List.mem_of_getElem? (i := 23) (by decide +kernel))) (by decide +kernel)
theorem fl_X11_74 : FL RX11 74 11 9 := ⟨RX11, TX11, 14, rfl, by decide, wf_X11_74, inX11⟩
theorem pl_X11_74 : PL RX11 "<init>" 74 11 9 (.object "FallSchool$Fall") := ⟨RX11, TX11, 14, tyX11, rfl, by decide, wf_X11_74, inX11, tyX11_ok, nmX11, by decide +kernel, Or.inr ⟨rfl, rfl, rfl⟩⟩
theorem wf_X11_83 : Cond.fieldLink RX11 83 (TX11 10).1 (TX11 10).2.1 (TX11 10).2.2.1 ∈ gtbl := inT (inT3 (List.mem_of_getElem? (i := 24) (by decide +kernel))) (by decide +kernel)
theorem fl_X11_83 : FL RX11 83 11 10 := ⟨RX11, TX11, 14, rfl, by decide, wf_X11_83, inX11⟩
theorem pl_X11_83 : PL RX11 "<init>" 83 11 10 (.object "FallSchool$Way") := ⟨RX11, TX11, 14, tyX11, rfl, by decide, wf_X11_83, inX11, tyX11_ok, nmX11, by decide +kernel, Or.inr ⟨rfl, rfl, rfl⟩⟩
theorem wf_X11_90 : Cond.fieldLink RX11 90 (TX11 11).1 (TX11 11).2.1 (TX11 11).2.2.1 ∈ gtbl := inT (inT3 (List.mem_of_getElem? (i := 25) (by decide +kernel))) (by decide +kernel)
theorem fl_X11_90 : FL RX11 90 11 11 := ⟨RX11, TX11, 14, rfl, by decide, wf_X11_90, inX11⟩
theorem pl_X11_90 : PL RX11 "<init>" 90 11 11 (.object "FallSchool$Origins") := ⟨RX11, TX11, 14, tyX11, rfl, by decide, wf_X11_90, inX11, tyX11_ok, nmX11, by decide +kernel, Or.inr ⟨rfl, rfl, rfl⟩⟩
theorem wf_X11_97 : Cond.fieldLink RX11 97 (TX11 12).1 (TX11 12).2.1 (TX11 12).2.2.1 ∈ gtbl := inT (inT3 (List.mem_of_getElem? (i := 26) (by decide +kernel))) (by decide +kernel)
theorem fl_X11_97 : FL RX11 97 11 12 := ⟨RX11, TX11, 14, rfl, by decide, wf_X11_97, inX11⟩
theorem pl_X11_97 : PL RX11 "<init>" 97 11 12 (.object "FallSchool$Slopes") := ⟨RX11, TX11, 14, tyX11, rfl, by decide, wf_X11_97, inX11, tyX11_ok, nmX11, by decide +kernel, Or.inr ⟨rfl, rfl, rfl⟩⟩
theorem wf_X11_101 : Cond.fieldLink RX11 101 (TX11 13).1 (TX11 13).2.1 (TX11 13).2.2.1 ∈ gtbl := inT (inT3 (List.mem_of_getElem? (i := 27) (by decide +kernel))) (by decide +kernel)
theorem fl_X11_101 : FL RX11 101 11 13 := ⟨RX11, TX11, 14, rfl, by decide, wf_X11_101, inX11⟩
theorem pl_X11_101 : PL RX11 "<init>" 101 11 13 (.array .int) := ⟨RX11, TX11, 14, tyX11, rfl, by decide, wf_X11_101, inX11, tyX11_ok, nmX11, by decide +kernel, Or.inr ⟨rfl, rfl, rfl⟩⟩
theorem wf_J0_38 : Cond.fieldLink RJ0 38 "java/lang/String" "COMPACT_STRINGS" "Z" ∈ gtbl := inT (inT3 (List.mem_of_getElem? (i := 106) (by decide +kernel))) (by decide +kernel)
theorem wf_J0_1053 : Cond.fieldLink RJ0 1053 "jdk/internal/util/Preconditions" "SIOOBE_FORMATTER" "Ljava/util/function/BiFunction;" ∈ gtbl := inT (inT3 (List.mem_of_getElem? (i := 122) (by decide +kernel))) (by decide +kernel)
theorem wf_J2_44 : Cond.fieldLink RJ2 44 "java/lang/StringUTF16" "$assertionsDisabled" "Z" ∈ gtbl := inT (inT3 (List.mem_of_getElem? (i := 140) (by decide +kernel))) (by decide +kernel)
theorem wf_J2_59 : Cond.fieldLink RJ2 59 "java/lang/StringUTF16" "HI_BYTE_SHIFT" "I" ∈ gtbl := inT (inT3 (List.mem_of_getElem? (i := 142) (by decide +kernel))) (by decide +kernel)
theorem wf_J2_63 : Cond.fieldLink RJ2 63 "java/lang/StringUTF16" "LO_BYTE_SHIFT" "I" ∈ gtbl := inT (inT3 (List.mem_of_getElem? (i := 144) (by decide +kernel))) (by decide +kernel)
theorem wf_X12_9 : Cond.fieldLink RX12 9 (TX12 1).1 (TX12 1).2.1 (TX12 1).2.2.1 ∈ gtbl := inT (inT5 (List.mem_of_getElem? (i := 218) (by decide +kernel))) (by decide +kernel)
theorem fl_X12_9 : FL RX12 9 12 1 := ⟨RX12, TX12, 77, rfl, by decide, wf_X12_9, inX12⟩
theorem pl_X12_9 : PL RX12 "<init>" 9 12 1 (.array .int) := ⟨RX12, TX12, 77, tyX12, rfl, by decide, wf_X12_9, inX12, tyX12_ok, nmX12, by decide +kernel, Or.inr ⟨rfl, rfl, rfl⟩⟩
theorem wf_X12_13 : Cond.fieldLink RX12 13 (TX12 2).1 (TX12 2).2.1 (TX12 2).2.2.1 ∈ gtbl := inT (inT5 (List.mem_of_getElem? (i := 219) (by decide +kernel))) (by decide +kernel)
theorem fl_X12_13 : FL RX12 13 12 2 := ⟨RX12, TX12, 77, rfl, by decide, wf_X12_13, inX12⟩
theorem pl_X12_13 : PL RX12 "<init>" 13 12 2 (.array .int) := ⟨RX12, TX12, 77, tyX12, rfl, by decide, wf_X12_13, inX12, tyX12_ok, nmX12, by decide +kernel, Or.inr ⟨rfl, rfl, rfl⟩⟩
theorem wf_X12_16 : Cond.fieldLink RX12 16 (TX12 3).1 (TX12 3).2.1 (TX12 3).2.2.1 ∈ gtbl := inT (inT5 (List.mem_of_getElem? (i := 220) (by decide +kernel))) (by decide +kernel)
theorem fl_X12_16 : FL RX12 16 12 3 := ⟨RX12, TX12, 77, rfl, by decide, wf_X12_16, inX12⟩
theorem pl_X12_16 : PL RX12 "<init>" 16 12 3 (.array .int) := ⟨RX12, TX12, 77, tyX12, rfl, by decide, wf_X12_16, inX12, tyX12_ok, nmX12, by decide +kernel, Or.inr ⟨rfl, rfl, rfl⟩⟩
theorem wf_X12_19 : Cond.fieldLink RX12 19 (TX12 4).1 (TX12 4).2.1 (TX12 4).2.2.1 ∈ gtbl := inT (inT5 (List.mem_of_getElem? (i := 221) (by decide +kernel))) (by decide +kernel)
theorem fl_X12_19 : FL RX12 19 12 4 := ⟨RX12, TX12, 77, rfl, by decide, wf_X12_19, inX12⟩
theorem pl_X12_19 : PL RX12 "<init>" 19 12 4 (.array .int) := ⟨RX12, TX12, 77, tyX12, rfl, by decide, wf_X12_19, inX12, tyX12_ok, nmX12, by decide +kernel, Or.inr ⟨rfl, rfl, rfl⟩⟩
theorem wf_X12_22 : Cond.fieldLink RX12 22 (TX12 5).1 (TX12 5).2.1 (TX12 5).2.2.1 ∈ gtbl := inT (inT5 (List.mem_of_getElem? (i := 222) (by decide +kernel))) (by decide +kernel)
theorem fl_X12_22 : FL RX12 22 12 5 := ⟨RX12, TX12, 77, rfl, by decide, wf_X12_22, inX12⟩
theorem pl_X12_22 : PL RX12 "<init>" 22 12 5 (.array .int) := ⟨RX12, TX12, 77, tyX12, rfl, by decide, wf_X12_22, inX12, tyX12_ok, nmX12, by decide +kernel, Or.inr ⟨rfl, rfl, rfl⟩⟩
theorem wf_X12_25 : Cond.fieldLink RX12 25 (TX12 6).1 (TX12 6).2.1 (TX12 6).2.2.1 ∈ gtbl := inT (inT5 (List.mem_of_getElem? (i := 223) (by decide +kernel))) (by decide +kernel)
theorem fl_X12_25 : FL RX12 25 12 6 := ⟨RX12, TX12, 77, rfl, by decide, wf_X12_25, inX12⟩
theorem pl_X12_25 : PL RX12 "<init>" 25 12 6 (.array .int) := ⟨RX12, TX12, 77, tyX12, rfl, by decide, wf_X12_25, inX12, tyX12_ok, nmX12, by decide +kernel, Or.inr ⟨rfl, rfl, rfl⟩⟩
theorem wf_X12_28 : Cond.fieldLink RX12 28 (TX12 7).1 (TX12 7).2.1 (TX12 7).2.2.1 ∈ gtbl := inT (inT5 (List.mem_of_getElem? (i := 224) (by decide +kernel))) (by decide +kernel)
theorem fl_X12_28 : FL RX12 28 12 7 := ⟨RX12, TX12, 77, rfl, by decide, wf_X12_28, inX12⟩
theorem pl_X12_28 : PL RX12 "<init>" 28 12 7 (.array .int) := ⟨RX12, TX12, 77, tyX12, rfl, by decide, wf_X12_28, inX12, tyX12_ok, nmX12, by decide +kernel, Or.inr ⟨rfl, rfl, rfl⟩⟩
theorem wf_X12_31 : Cond.fieldLink RX12 31 (TX12 8).1 (TX12 8).2.1 (TX12 8).2.2.1 ∈ gtbl := inT (inT5 (List.mem_of_getElem? (i := 225) (by decide +kernel))) (by decide +kernel)
theorem fl_X12_31 : FL RX12 31 12 8 := ⟨RX12, TX12, 77, rfl, by decide, wf_X12_31, inX12⟩
theorem pl_X12_31 : PL RX12 "<init>" 31 12 8 (.array .int) := ⟨RX12, TX12, 77, tyX12, rfl, by decide, wf_X12_31, inX12, tyX12_ok, nmX12, by decide +kernel, Or.inr ⟨rfl, rfl, rfl⟩⟩
theorem wf_X12_34 : Cond.fieldLink RX12 34 (TX12 9).1 (TX12 9).2.1 (TX12 9).2.2.1 ∈ gtbl := inT (inT5 (List.mem_of_getElem? (i := 226) (by decide +kernel))) (by decide +kernel)
theorem fl_X12_34 : FL RX12 34 12 9 := ⟨RX12, TX12, 77, rfl, by decide, wf_X12_34, inX12⟩
theorem pl_X12_34 : PL RX12 "<init>" 34 12 9 (.array .int) := ⟨RX12, TX12, 77, tyX12, rfl, by decide, wf_X12_34, inX12, tyX12_ok, nmX12, by decide +kernel, Or.inr ⟨rfl, rfl, rfl⟩⟩
theorem wf_X12_37 : Cond.fieldLink RX12 37 (TX12 10).1 (TX12 10).2.1 (TX12 10).2.2.1 ∈ gtbl := inT (inT5 (List.mem_of_getElem? (i := 227) (by decide +kernel))) (by decide +kernel)
theorem fl_X12_37 : FL RX12 37 12 10 := ⟨RX12, TX12, 77, rfl, by decide, wf_X12_37, inX12⟩
theorem pl_X12_37 : PL RX12 "<init>" 37 12 10 (.array .int) := ⟨RX12, TX12, 77, tyX12, rfl, by decide, wf_X12_37, inX12, tyX12_ok, nmX12, by decide +kernel, Or.inr ⟨rfl, rfl, rfl⟩⟩
theorem wf_X12_40 : Cond.fieldLink RX12 40 (TX12 11).1 (TX12 11).2.1 (TX12 11).2.2.1 ∈ gtbl := inT (inT5 (List.mem_of_getElem? (i := 228) (by decide +kernel))) (by decide +kernel)
theorem fl_X12_40 : FL RX12 40 12 11 := ⟨RX12, TX12, 77, rfl, by decide, wf_X12_40, inX12⟩
theorem pl_X12_40 : PL RX12 "<init>" 40 12 11 (.array .int) := ⟨RX12, TX12, 77, tyX12, rfl, by decide, wf_X12_40, inX12, tyX12_ok, nmX12, by decide +kernel, Or.inr ⟨rfl, rfl, rfl⟩⟩
theorem wf_X12_43 : Cond.fieldLink RX12 43 (TX12 12).1 (TX12 12).2.1 (TX12 12).2.2.1 ∈ gtbl := inT (inT5 (List.mem_of_getElem? (i := 229) (by decide +kernel))) (by decide +kernel)
theorem fl_X12_43 : FL RX12 43 12 12 := ⟨RX12, TX12, 77, rfl, by decide, wf_X12_43, inX12⟩
theorem pl_X12_43 : PL RX12 "<init>" 43 12 12 (.array .int) := ⟨RX12, TX12, 77, tyX12, rfl, by decide, wf_X12_43, inX12, tyX12_ok, nmX12, by decide +kernel, Or.inr ⟨rfl, rfl, rfl⟩⟩
theorem wf_X12_46 : Cond.fieldLink RX12 46 (TX12 13).1 (TX12 13).2.1 (TX12 13).2.2.1 ∈ gtbl := inT (inT5 (List.mem_of_getElem? (i := 230) (by decide +kernel))) (by decide +kernel)
theorem fl_X12_46 : FL RX12 46 12 13 := ⟨RX12, TX12, 77, rfl, by decide, wf_X12_46, inX12⟩
theorem pl_X12_46 : PL RX12 "<init>" 46 12 13 (.array .int) := ⟨RX12, TX12, 77, tyX12, rfl, by decide, wf_X12_46, inX12, tyX12_ok, nmX12, by decide +kernel, Or.inr ⟨rfl, rfl, rfl⟩⟩
theorem wf_X12_49 : Cond.fieldLink RX12 49 (TX12 14).1 (TX12 14).2.1 (TX12 14).2.2.1 ∈ gtbl := inT (inT5 (List.mem_of_getElem? (i := 231) (by decide +kernel))) (by decide +kernel)
theorem fl_X12_49 : FL RX12 49 12 14 := ⟨RX12, TX12, 77, rfl, by decide, wf_X12_49, inX12⟩
theorem pl_X12_49 : PL RX12 "<init>" 49 12 14 (.array .int) := ⟨RX12, TX12, 77, tyX12, rfl, by decide, wf_X12_49, inX12, tyX12_ok, nmX12, by decide +kernel, Or.inr ⟨rfl, rfl, rfl⟩⟩
theorem wf_X12_52 : Cond.fieldLink RX12 52 (TX12 15).1 (TX12 15).2.1 (TX12 15).2.2.1 ∈ gtbl := inT (inT5 (List.mem_of_getElem? (i := 232) (by decide +kernel))) (by decide +kernel)
theorem fl_X12_52 : FL RX12 52 12 15 := ⟨RX12, TX12, 77, rfl, by decide, wf_X12_52, inX12⟩
theorem pl_X12_52 : PL RX12 "<init>" 52 12 15 (.array .int) := ⟨RX12, TX12, 77, tyX12, rfl, by decide, wf_X12_52, inX12, tyX12_ok, nmX12, by decide +kernel, Or.inr ⟨rfl, rfl, rfl⟩⟩
theorem wf_X12_55 : Cond.fieldLink RX12 55 (TX12 16).1 (TX12 16).2.1 (TX12 16).2.2.1 ∈ gtbl := inT (inT5 (List.mem_of_getElem? (i := 233) (by decide +kernel))) (by decide +kernel)
theorem fl_X12_55 : FL RX12 55 12 16 := ⟨RX12, TX12, 77, rfl, by decide, wf_X12_55, inX12⟩
theorem pl_X12_55 : PL RX12 "<init>" 55 12 16 (.array .int) := ⟨RX12, TX12, 77, tyX12, rfl, by decide, wf_X12_55, inX12, tyX12_ok, nmX12, by decide +kernel, Or.inr ⟨rfl, rfl, rfl⟩⟩
theorem wf_X12_58 : Cond.fieldLink RX12 58 (TX12 17).1 (TX12 17).2.1 (TX12 17).2.2.1 ∈ gtbl := inT (inT5 (List.mem_of_getElem? (i := 234) (by decide +kernel))) (by decide +kernel)
theorem fl_X12_58 : FL RX12 58 12 17 := ⟨RX12, TX12, 77, rfl, by decide, wf_X12_58, inX12⟩
theorem pl_X12_58 : PL RX12 "<init>" 58 12 17 (.array .int) := ⟨RX12, TX12, 77, tyX12, rfl, by decide, wf_X12_58, inX12, tyX12_ok, nmX12, by decide +kernel, Or.inr ⟨rfl, rfl, rfl⟩⟩
theorem wf_X12_61 : Cond.fieldLink RX12 61 (TX12 18).1 (TX12 18).2.1 (TX12 18).2.2.1 ∈ gtbl := inT (inT5 (List.mem_of_getElem? (i := 235) (by decide +kernel))) (by decide +kernel)
theorem fl_X12_61 : FL RX12 61 12 18 := ⟨RX12, TX12, 77, rfl, by decide, wf_X12_61, inX12⟩
theorem pl_X12_61 : PL RX12 "<init>" 61 12 18 (.array .int) := ⟨RX12, TX12, 77, tyX12, rfl, by decide, wf_X12_61, inX12, tyX12_ok, nmX12, by decide +kernel, Or.inr ⟨rfl, rfl, rfl⟩⟩
theorem wf_X12_64 : Cond.fieldLink RX12 64 (TX12 19).1 (TX12 19).2.1 (TX12 19).2.2.1 ∈ gtbl := inT (inT5 (List.mem_of_getElem? (i := 236) (by decide +kernel))) (by decide +kernel)
theorem fl_X12_64 : FL RX12 64 12 19 := ⟨RX12, TX12, 77, rfl, by decide, wf_X12_64, inX12⟩
theorem pl_X12_64 : PL RX12 "<init>" 64 12 19 (.array .int) := ⟨RX12, TX12, 77, tyX12, rfl, by decide, wf_X12_64, inX12, tyX12_ok, nmX12, by decide +kernel, Or.inr ⟨rfl, rfl, rfl⟩⟩
theorem wf_X12_67 : Cond.fieldLink RX12 67 (TX12 20).1 (TX12 20).2.1 (TX12 20).2.2.1 ∈ gtbl := inT (inT5 (List.mem_of_getElem? (i := 237) (by decide +kernel))) (by decide +kernel)
theorem fl_X12_67 : FL RX12 67 12 20 := ⟨RX12, TX12, 77, rfl, by decide, wf_X12_67, inX12⟩
theorem pl_X12_67 : PL RX12 "<init>" 67 12 20 (.array .int) := ⟨RX12, TX12, 77, tyX12, rfl, by decide, wf_X12_67, inX12, tyX12_ok, nmX12, by decide +kernel, Or.inr ⟨rfl, rfl, rfl⟩⟩
theorem wf_X12_70 : Cond.fieldLink RX12 70 (TX12 21).1 (TX12 21).2.1 (TX12 21).2.2.1 ∈ gtbl := inT (inT5 (List.mem_of_getElem? (i := 238) (by decide +kernel))) (by decide +kernel)
theorem fl_X12_70 : FL RX12 70 12 21 := ⟨RX12, TX12, 77, rfl, by decide, wf_X12_70, inX12⟩
theorem pl_X12_70 : PL RX12 "<init>" 70 12 21 (.array .int) := ⟨RX12, TX12, 77, tyX12, rfl, by decide, wf_X12_70, inX12, tyX12_ok, nmX12, by decide +kernel, Or.inr ⟨rfl, rfl, rfl⟩⟩
theorem wf_X12_73 : Cond.fieldLink RX12 73 (TX12 22).1 (TX12 22).2.1 (TX12 22).2.2.1 ∈ gtbl := inT (inT5 (List.mem_of_getElem? (i := 239) (by decide +kernel))) (by decide +kernel)
theorem fl_X12_73 : FL RX12 73 12 22 := ⟨RX12, TX12, 77, rfl, by decide, wf_X12_73, inX12⟩
theorem pl_X12_73 : PL RX12 "<init>" 73 12 22 (.array .int) := ⟨RX12, TX12, 77, tyX12, rfl, by decide, wf_X12_73, inX12, tyX12_ok, nmX12, by decide +kernel, Or.inr ⟨rfl, rfl, rfl⟩⟩
theorem wf_X12_76 : Cond.fieldLink RX12 76 (TX12 23).1 (TX12 23).2.1 (TX12 23).2.2.1 ∈ gtbl := inT (inT6 (List.mem_of_getElem? (i := 0) (by decide +kernel))) (by decide +kernel)
theorem fl_X12_76 : FL RX12 76 12 23 := ⟨RX12, TX12, 77, rfl, by decide, wf_X12_76, inX12⟩
theorem pl_X12_76 : PL RX12 "<init>" 76 12 23 (.array .int) := ⟨RX12, TX12, 77, tyX12, rfl, by decide, wf_X12_76, inX12, tyX12_ok, nmX12, by decide +kernel, Or.inr ⟨rfl, rfl, rfl⟩⟩
theorem wf_X12_79 : Cond.fieldLink RX12 79 (TX12 24).1 (TX12 24).2.1 (TX12 24).2.2.1 ∈ gtbl := inT (inT6 (List.mem_of_getElem? (i := 1) (by decide +kernel))) (by decide +kernel)
theorem fl_X12_79 : FL RX12 79 12 24 := ⟨RX12, TX12, 77, rfl, by decide, wf_X12_79, inX12⟩
theorem pl_X12_79 : PL RX12 "<init>" 79 12 24 (.array .int) := ⟨RX12, TX12, 77, tyX12, rfl, by decide, wf_X12_79, inX12, tyX12_ok, nmX12, by decide +kernel, Or.inr ⟨rfl, rfl, rfl⟩⟩
theorem wf_X12_82 : Cond.fieldLink RX12 82 (TX12 25).1 (TX12 25).2.1 (TX12 25).2.2.1 ∈ gtbl := inT (inT6 (List.mem_of_getElem? (i := 2) (by decide +kernel))) (by decide +kernel)
theorem fl_X12_82 : FL RX12 82 12 25 := ⟨RX12, TX12, 77, rfl, by decide, wf_X12_82, inX12⟩
theorem pl_X12_82 : PL RX12 "<init>" 82 12 25 (.array .int) := ⟨RX12, TX12, 77, tyX12, rfl, by decide, wf_X12_82, inX12, tyX12_ok, nmX12, by decide +kernel, Or.inr ⟨rfl, rfl, rfl⟩⟩
theorem wf_X12_85 : Cond.fieldLink RX12 85 (TX12 26).1 (TX12 26).2.1 (TX12 26).2.2.1 ∈ gtbl := inT (inT6 (List.mem_of_getElem? (i := 3) (by decide +kernel))) (by decide +kernel)
theorem fl_X12_85 : FL RX12 85 12 26 := ⟨RX12, TX12, 77, rfl, by decide, wf_X12_85, inX12⟩
theorem pl_X12_85 : PL RX12 "<init>" 85 12 26 (.array .int) := ⟨RX12, TX12, 77, tyX12, rfl, by decide, wf_X12_85, inX12, tyX12_ok, nmX12, by decide +kernel, Or.inr ⟨rfl, rfl, rfl⟩⟩
theorem wf_X12_321 : Cond.fieldLink RX12 321 (TX12 27).1 (TX12 27).2.1 (TX12 27).2.2.1 ∈ gtbl := inT (inT6 (List.mem_of_getElem? (i := 4) (by decide +kernel))) (by decide +kernel)
theorem fl_X12_321 : FL RX12 321 12 27 := ⟨RX12, TX12, 77, rfl, by decide, wf_X12_321, inX12⟩
theorem pl_X12_321 (nm : String) : PL RX12 nm 321 12 27 .int := ⟨RX12, TX12, 77, tyX12, rfl, by decide, wf_X12_321, inX12, tyX12_ok, nmX12, by decide +kernel, Or.inl rfl⟩
theorem wf_X12_187 : Cond.fieldLink RX12 187 (TX12 28).1 (TX12 28).2.1 (TX12 28).2.2.1 ∈ gtbl := inT (inT6 (List.mem_of_getElem? (i := 5) (by decide +kernel))) (by decide +kernel)
theorem fl_X12_187 : FL RX12 187 12 28 := ⟨RX12, TX12, 77, rfl, by decide, wf_X12_187, inX12⟩
theorem pl_X12_187 (nm : String) : PL RX12 nm 187 12 28 .int := ⟨RX12, TX12, 77, tyX12, rfl, by decide, wf_X12_187, inX12, tyX12_ok, nmX12, by decide +kernel, Or.inl rfl⟩
theorem wf_X12_217 : Cond.fieldLink RX12 217 (TX12 29).1 (TX12 29).2.1 (TX12 29).2.2.1 ∈ gtbl := inT (inT6 (List.mem_of_getElem? (i := 6) (by decide +kernel))) (by decide +kernel)
theorem fl_X12_217 : FL RX12 217 12 29 := ⟨RX12, TX12, 77, rfl, by decide, wf_X12_217, inX12⟩
theorem pl_X12_217 (nm : String) : PL RX12 nm 217 12 29 .int := ⟨RX12, TX12, 77, tyX12, rfl, by decide, wf_X12_217, inX12, tyX12_ok, nmX12, by decide +kernel, Or.inl rfl⟩
theorem wf_X12_214 : Cond.fieldLink RX12 214 (TX12 30).1 (TX12 30).2.1 (TX12 30).2.2.1 ∈ gtbl := inT (inT6 (List.mem_of_getElem? (i := 7) (by decide +kernel))) (by decide +kernel)
theorem fl_X12_214 : FL RX12 214 12 30 := ⟨RX12, TX12, 77, rfl, by decide, wf_X12_214, inX12⟩
theorem pl_X12_214 (nm : String) : PL RX12 nm 214 12 30 .int := ⟨RX12, TX12, 77, tyX12, rfl, by decide, wf_X12_214, inX12, tyX12_ok, nmX12, by decide +kernel, Or.inl rfl⟩
theorem wf_X12_243 : Cond.fieldLink RX12 243 (TX12 31).1 (TX12 31).2.1 (TX12 31).2.2.1 ∈ gtbl := inT (inT6 (List.mem_of_getElem? (i := 8) (by decide +kernel))) (by decide +kernel)
theorem fl_X12_243 : FL RX12 243 12 31 := ⟨RX12, TX12, 77, rfl, by decide, wf_X12_243, inX12⟩
theorem pl_X12_243 (nm : String) : PL RX12 nm 243 12 31 .int := ⟨RX12, TX12, 77, tyX12, rfl, by decide, wf_X12_243, inX12, tyX12_ok, nmX12, by decide +kernel, Or.inl rfl⟩
theorem wf_X12_384 : Cond.fieldLink RX12 384 (TX12 32).1 (TX12 32).2.1 (TX12 32).2.2.1 ∈ gtbl := inT (inT6 (List.mem_of_getElem? (i := 9) (by decide +kernel))) (by decide +kernel)
theorem fl_X12_384 : FL RX12 384 12 32 := ⟨RX12, TX12, 77, rfl, by decide, wf_X12_384, inX12⟩
theorem pl_X12_384 (nm : String) : PL RX12 nm 384 12 32 .int := ⟨RX12, TX12, 77, tyX12, rfl, by decide, wf_X12_384, inX12, tyX12_ok, nmX12, by decide +kernel, Or.inl rfl⟩
theorem wf_X12_246 : Cond.fieldLink RX12 246 (TX12 33).1 (TX12 33).2.1 (TX12 33).2.2.1 ∈ gtbl := inT (inT6 (List.mem_of_getElem? (i := 10) (by decide +kernel))) (by decide +kernel)
theorem fl_X12_246 : FL RX12 246 12 33 := ⟨RX12, TX12, 77, rfl, by decide, wf_X12_246, inX12⟩
theorem pl_X12_246 (nm : String) : PL RX12 nm 246 12 33 .int := ⟨RX12, TX12, 77, tyX12, rfl, by decide, wf_X12_246, inX12, tyX12_ok, nmX12, by decide +kernel, Or.inl rfl⟩
theorem wf_X12_287 : Cond.fieldLink RX12 287 (TX12 34).1 (TX12 34).2.1 (TX12 34).2.2.1 ∈ gtbl := inT (inT6 (List.mem_of_getElem? (i := 11) (by decide +kernel))) (by decide +kernel)
theorem fl_X12_287 : FL RX12 287 12 34 := ⟨RX12, TX12, 77, rfl, by decide, wf_X12_287, inX12⟩
theorem pl_X12_287 (nm : String) : PL RX12 nm 287 12 34 .int := ⟨RX12, TX12, 77, tyX12, rfl, by decide, wf_X12_287, inX12, tyX12_ok, nmX12, by decide +kernel, Or.inl rfl⟩
theorem wf_X12_249 : Cond.fieldLink RX12 249 (TX12 35).1 (TX12 35).2.1 (TX12 35).2.2.1 ∈ gtbl := inT (inT6 (List.mem_of_getElem? (i := 12) (by decide +kernel))) (by decide +kernel)
theorem fl_X12_249 : FL RX12 249 12 35 := ⟨RX12, TX12, 77, rfl, by decide, wf_X12_249, inX12⟩
theorem pl_X12_249 (nm : String) : PL RX12 nm 249 12 35 .int := ⟨RX12, TX12, 77, tyX12, rfl, by decide, wf_X12_249, inX12, tyX12_ok, nmX12, by decide +kernel, Or.inl rfl⟩
theorem wf_X12_284 : Cond.fieldLink RX12 284 (TX12 36).1 (TX12 36).2.1 (TX12 36).2.2.1 ∈ gtbl := inT (inT6 (List.mem_of_getElem? (i := 13) (by decide +kernel))) (by decide +kernel)
theorem fl_X12_284 : FL RX12 284 12 36 := ⟨RX12, TX12, 77, rfl, by decide, wf_X12_284, inX12⟩
theorem pl_X12_284 (nm : String) : PL RX12 nm 284 12 36 .int := ⟨RX12, TX12, 77, tyX12, rfl, by decide, wf_X12_284, inX12, tyX12_ok, nmX12, by decide +kernel, Or.inl rfl⟩
theorem wf_X12_88 : Cond.fieldLink RX12 88 (TX12 37).1 (TX12 37).2.1 (TX12 37).2.2.1 ∈ gtbl := inT (inT6 (List.mem_of_getElem? (i := 14) (by decide +kernel))) (by decide +kernel)
theorem fl_X12_88 : FL RX12 88 12 37 := ⟨RX12, TX12, 77, rfl, by decide, wf_X12_88, inX12⟩
theorem pl_X12_88 (nm : String) : PL RX12 nm 88 12 37 .int := ⟨RX12, TX12, 77, tyX12, rfl, by decide, wf_X12_88, inX12, tyX12_ok, nmX12, by decide +kernel, Or.inl rfl⟩
theorem wf_X12_92 : Cond.fieldLink RX12 92 (TX12 38).1 (TX12 38).2.1 (TX12 38).2.2.1 ∈ gtbl := inT (inT6 (List.mem_of_getElem? (i := 15) (by decide +kernel))) (by decide +kernel)
theorem fl_X12_92 : FL RX12 92 12 38 := ⟨RX12, TX12, 77, rfl, by decide, wf_X12_92, inX12⟩
theorem pl_X12_92 : PL RX12 "<init>" 92 12 38 (.array .byte) := ⟨RX12, TX12, 77, tyX12, rfl, by decide, wf_X12_92, inX12, tyX12_ok, nmX12, by decide +kernel, Or.inr ⟨rfl, rfl, rfl⟩⟩
theorem wf_X12_96 : Cond.fieldLink RX12 96 (TX12 39).1 (TX12 39).2.1 (TX12 39).2.2.1 ∈ gtbl := inT (inT6 (List.mem_of_getElem? (i := 16) (by decide +kernel))) (by decide +kernel)
theorem fl_X12_96 : FL RX12 96 12 39 := ⟨RX12, TX12, 77, rfl, by decide, wf_X12_96, inX12⟩
theorem pl_X12_96 : PL RX12 "<init>" 96 12 39 (.array .int) := ⟨RX12, TX12, 77, tyX12, rfl, by decide, wf_X12_96, inX12, tyX12_ok, nmX12, by decide +kernel, Or.inr ⟨rfl, rfl, rfl⟩⟩
theorem wf_X12_99 : Cond.fieldLink RX12 99 (TX12 40).1 (TX12 40).2.1 (TX12 40).2.2.1 ∈ gtbl := inT (inT6 (List.mem_of_getElem? (i := 17) (by decide +kernel))) (by decide +kernel)
theorem fl_X12_99 : FL RX12 99 12 40 := ⟨RX12, TX12, 77, rfl, by decide, wf_X12_99, inX12⟩
theorem pl_X12_99 : PL RX12 "<init>" 99 12 40 (.array .int) := ⟨RX12, TX12, 77, tyX12, rfl, by decide, wf_X12_99, inX12, tyX12_ok, nmX12, by decide +kernel, Or.inr ⟨rfl, rfl, rfl⟩⟩
theorem wf_X12_102 : Cond.fieldLink RX12 102 (TX12 41).1 (TX12 41).2.1 (TX12 41).2.2.1 ∈ gtbl := inT (inT6 (List.mem_of_getElem? (i := 18) (by decide +kernel))) (by decide +kernel)
theorem fl_X12_102 : FL RX12 102 12 41 := ⟨RX12, TX12, 77, rfl, by decide, wf_X12_102, inX12⟩
theorem pl_X12_102 : PL RX12 "<init>" 102 12 41 (.array .int) := ⟨RX12, TX12, 77, tyX12, rfl, by decide, wf_X12_102, inX12, tyX12_ok, nmX12, by decide +kernel, Or.inr ⟨rfl, rfl, rfl⟩⟩
theorem wf_X12_105 : Cond.fieldLink RX12 105 (TX12 42).1 (TX12 42).2.1 (TX12 42).2.2.1 ∈ gtbl := inT (inT6 (List.mem_of_getElem? (i := 19) (by decide +kernel))) (by decide +kernel)
theorem fl_X12_105 : FL RX12 105 12 42 := ⟨RX12, TX12, 77, rfl, by decide, wf_X12_105, inX12⟩
theorem pl_X12_105 : PL RX12 "<init>" 105 12 42 (.array .int) := ⟨RX12, TX12, 77, tyX12, rfl, by decide, wf_X12_105, inX12, tyX12_ok, nmX12, by decide +kernel, Or.inr ⟨rfl, rfl, rfl⟩⟩
theorem wf_X12_108 : Cond.fieldLink RX12 108 (TX12 43).1 (TX12 43).2.1 (TX12 43).2.2.1 ∈ gtbl := inT (inT6 (List.mem_of_getElem? (i := 20) (by decide +kernel))) (by decide +kernel)
theorem fl_X12_108 : FL RX12 108 12 43 := ⟨RX12, TX12, 77, rfl, by decide, wf_X12_108, inX12⟩
theorem pl_X12_108 : PL RX12 "<init>" 108 12 43 (.array .int) := ⟨RX12, TX12, 77, tyX12, rfl, by decide, wf_X12_108, inX12, tyX12_ok, nmX12, by decide +kernel, Or.inr ⟨rfl, rfl, rfl⟩⟩
theorem wf_X12_111 : Cond.fieldLink RX12 111 (TX12 44).1 (TX12 44).2.1 (TX12 44).2.2.1 ∈ gtbl := inT (inT6 (List.mem_of_getElem? (i := 21) (by decide +kernel))) (by decide +kernel)
theorem fl_X12_111 : FL RX12 111 12 44 := ⟨RX12, TX12, 77, rfl, by decide, wf_X12_111, inX12⟩
theorem pl_X12_111 : PL RX12 "<init>" 111 12 44 (.array .int) := ⟨RX12, TX12, 77, tyX12, rfl, by decide, wf_X12_111, inX12, tyX12_ok, nmX12, by decide +kernel, Or.inr ⟨rfl, rfl, rfl⟩⟩
theorem wf_X12_114 : Cond.fieldLink RX12 114 (TX12 45).1 (TX12 45).2.1 (TX12 45).2.2.1 ∈ gtbl := inT (inT6 (List.mem_of_getElem? (i := 22) (by decide +kernel))) (by decide +kernel)
theorem fl_X12_114 : FL RX12 114 12 45 := ⟨RX12, TX12, 77, rfl, by decide, wf_X12_114, inX12⟩
theorem pl_X12_114 : PL RX12 "<init>" 114 12 45 (.array .int) := ⟨RX12, TX12, 77, tyX12, rfl, by decide, wf_X12_114, inX12, tyX12_ok, nmX12, by decide +kernel, Or.inr ⟨rfl, rfl, rfl⟩⟩
theorem wf_X12_117 : Cond.fieldLink RX12 117 (TX12 46).1 (TX12 46).2.1 (TX12 46).2.2.1 ∈ gtbl := inT (inT6 (List.mem_of_getElem? (i := 23) (by decide +kernel))) (by decide +kernel)
theorem fl_X12_117 : FL RX12 117 12 46 := ⟨RX12, TX12, 77, rfl, by decide, wf_X12_117, inX12⟩
theorem pl_X12_117 : PL RX12 "<init>" 117 12 46 (.array .boolean) := ⟨RX12, TX12, 77, tyX12, rfl, by decide, wf_X12_117, inX12, tyX12_ok, nmX12, by decide +kernel, Or.inr ⟨rfl, rfl, rfl⟩⟩
theorem wf_X12_121 : Cond.fieldLink RX12 121 (TX12 47).1 (TX12 47).2.1 (TX12 47).2.2.1 ∈ gtbl := inT (inT6 (List.mem_of_getElem? (i := 24) (by decide +kernel))) (by decide +kernel)
theorem fl_X12_121 : FL RX12 121 12 47 := ⟨RX12, TX12, 77, rfl, by decide, wf_X12_121, inX12⟩
theorem pl_X12_121 : PL RX12 "<init>" 121 12 47 (.array .long) := ⟨RX12, TX12, 77, tyX12, rfl, by decide, wf_X12_121, inX12, tyX12_ok, nmX12, by decide +kernel, Or.inr ⟨rfl, rfl, rfl⟩⟩
theorem wf_X12_125 : Cond.fieldLink RX12 125 (TX12 48).1 (TX12 48).2.1 (TX12 48).2.2.1 ∈ gtbl := inT (inT6 (List.mem_of_getElem? (i := 25) (by decide +kernel))) (by decide +kernel)
theorem fl_X12_125 : FL RX12 125 12 48 := ⟨RX12, TX12, 77, rfl, by decide, wf_X12_125, inX12⟩
theorem pl_X12_125 : PL RX12 "<init>" 125 12 48 (.array .long) := ⟨RX12, TX12, 77, tyX12, rfl, by decide, wf_X12_125, inX12, tyX12_ok, nmX12, by decide +kernel, Or.inr ⟨rfl, rfl, rfl⟩⟩
theorem wf_X12_437 : Cond.fieldLink RX12 437 (TX12 49).1 (TX12 49).2.1 (TX12 49).2.2.1 ∈ gtbl := inT (inT6 (List.mem_of_getElem? (i := 26) (by decide +kernel))) (by decide +kernel)
theorem fl_X12_437 : FL RX12 437 12 49 := ⟨RX12, TX12, 77, rfl, by decide, wf_X12_437, inX12⟩
theorem pl_X12_437 (nm : String) : PL RX12 nm 437 12 49 .int := ⟨RX12, TX12, 77, tyX12, rfl, by decide, wf_X12_437, inX12, tyX12_ok, nmX12, by decide +kernel, Or.inl rfl⟩
theorem wf_X12_434 : Cond.fieldLink RX12 434 (TX12 50).1 (TX12 50).2.1 (TX12 50).2.2.1 ∈ gtbl := inT (inT6 (List.mem_of_getElem? (i := 27) (by decide +kernel))) (by decide +kernel)
theorem fl_X12_434 : FL RX12 434 12 50 := ⟨RX12, TX12, 77, rfl, by decide, wf_X12_434, inX12⟩
theorem pl_X12_434 (nm : String) : PL RX12 nm 434 12 50 .int := ⟨RX12, TX12, 77, tyX12, rfl, by decide, wf_X12_434, inX12, tyX12_ok, nmX12, by decide +kernel, Or.inl rfl⟩
theorem wf_X12_443 : Cond.fieldLink RX12 443 (TX12 51).1 (TX12 51).2.1 (TX12 51).2.2.1 ∈ gtbl := inT (inT6 (List.mem_of_getElem? (i := 28) (by decide +kernel))) (by decide +kernel)
theorem fl_X12_443 : FL RX12 443 12 51 := ⟨RX12, TX12, 77, rfl, by decide, wf_X12_443, inX12⟩
theorem pl_X12_443 (nm : String) : PL RX12 nm 443 12 51 .int := ⟨RX12, TX12, 77, tyX12, rfl, by decide, wf_X12_443, inX12, tyX12_ok, nmX12, by decide +kernel, Or.inl rfl⟩
theorem wf_X12_463 : Cond.fieldLink RX12 463 (TX12 52).1 (TX12 52).2.1 (TX12 52).2.2.1 ∈ gtbl := inT (inT6 (List.mem_of_getElem? (i := 29) (by decide +kernel))) (by decide +kernel)
theorem fl_X12_463 : FL RX12 463 12 52 := ⟨RX12, TX12, 77, rfl, by decide, wf_X12_463, inX12⟩
theorem pl_X12_463 (nm : String) : PL RX12 nm 463 12 52 .int := ⟨RX12, TX12, 77, tyX12, rfl, by decide, wf_X12_463, inX12, tyX12_ok, nmX12, by decide +kernel, Or.inl rfl⟩
theorem wf_X12_128 : Cond.fieldLink RX12 128 (TX12 53).1 (TX12 53).2.1 (TX12 53).2.2.1 ∈ gtbl := inT (inT6 (List.mem_of_getElem? (i := 30) (by decide +kernel))) (by decide +kernel)
theorem fl_X12_128 : FL RX12 128 12 53 := ⟨RX12, TX12, 77, rfl, by decide, wf_X12_128, inX12⟩
theorem pl_X12_128 : PL RX12 "<init>" 128 12 53 (.array .int) := ⟨RX12, TX12, 77, tyX12, rfl, by decide, wf_X12_128, inX12, tyX12_ok, nmX12, by decide +kernel, Or.inr ⟨rfl, rfl, rfl⟩⟩
theorem wf_X12_131 : Cond.fieldLink RX12 131 (TX12 54).1 (TX12 54).2.1 (TX12 54).2.2.1 ∈ gtbl := inT (inT6 (List.mem_of_getElem? (i := 31) (by decide +kernel))) (by decide +kernel)
theorem fl_X12_131 : FL RX12 131 12 54 := ⟨RX12, TX12, 77, rfl, by decide, wf_X12_131, inX12⟩
theorem pl_X12_131 : PL RX12 "<init>" 131 12 54 (.array .int) := ⟨RX12, TX12, 77, tyX12, rfl, by decide, wf_X12_131, inX12, tyX12_ok, nmX12, by decide +kernel, Or.inr ⟨rfl, rfl, rfl⟩⟩
theorem wf_X12_369 : Cond.fieldLink RX12 369 (TX12 55).1 (TX12 55).2.1 (TX12 55).2.2.1 ∈ gtbl := inT (inT6 (List.mem_of_getElem? (i := 32) (by decide +kernel))) (by decide +kernel)
theorem fl_X12_369 : FL RX12 369 12 55 := ⟨RX12, TX12, 77, rfl, by decide, wf_X12_369, inX12⟩
theorem pl_X12_369 (nm : String) : PL RX12 nm 369 12 55 .int := ⟨RX12, TX12, 77, tyX12, rfl, by decide, wf_X12_369, inX12, tyX12_ok, nmX12, by decide +kernel, Or.inl rfl⟩
theorem wf_X12_487 : Cond.fieldLink RX12 487 (TX12 56).1 (TX12 56).2.1 (TX12 56).2.2.1 ∈ gtbl := inT (inT6 (List.mem_of_getElem? (i := 33) (by decide +kernel))) (by decide +kernel)
theorem fl_X12_487 : FL RX12 487 12 56 := ⟨RX12, TX12, 77, rfl, by decide, wf_X12_487, inX12⟩
theorem pl_X12_487 (nm : String) : PL RX12 nm 487 12 56 .int := ⟨RX12, TX12, 77, tyX12, rfl, by decide, wf_X12_487, inX12, tyX12_ok, nmX12, by decide +kernel, Or.inl rfl⟩
theorem wf_X12_483 : Cond.fieldLink RX12 483 (TX12 57).1 (TX12 57).2.1 (TX12 57).2.2.1 ∈ gtbl := inT (inT6 (List.mem_of_getElem? (i := 34) (by decide +kernel))) (by decide +kernel)
theorem fl_X12_483 : FL RX12 483 12 57 := ⟨RX12, TX12, 77, rfl, by decide, wf_X12_483, inX12⟩
theorem pl_X12_483 (nm : String) : PL RX12 nm 483 12 57 .boolean := ⟨RX12, TX12, 77, tyX12, rfl, by decide, wf_X12_483, inX12, tyX12_ok, nmX12, by decide +kernel, Or.inl rfl⟩
theorem wf_X12_134 : Cond.fieldLink RX12 134 (TX12 58).1 (TX12 58).2.1 (TX12 58).2.2.1 ∈ gtbl := inT (inT6 (List.mem_of_getElem? (i := 35) (by decide +kernel))) (by decide +kernel)
theorem fl_X12_134 : FL RX12 134 12 58 := ⟨RX12, TX12, 77, rfl, by decide, wf_X12_134, inX12⟩
theorem pl_X12_134 : PL RX12 "<init>" 134 12 58 (.array .int) := ⟨RX12, TX12, 77, tyX12, rfl, by decide, wf_X12_134, inX12, tyX12_ok, nmX12, by decide +kernel, Or.inr ⟨rfl, rfl, rfl⟩⟩
theorem wf_X12_137 : Cond.fieldLink RX12 137 (TX12 59).1 (TX12 59).2.1 (TX12 59).2.2.1 ∈ gtbl := inT (inT6 (List.mem_of_getElem? (i := 36) (by decide +kernel))) (by decide +kernel)
theorem fl_X12_137 : FL RX12 137 12 59 := ⟨RX12, TX12, 77, rfl, by decide, wf_X12_137, inX12⟩
theorem pl_X12_137 : PL RX12 "<init>" 137 12 59 (.array .int) := ⟨RX12, TX12, 77, tyX12, rfl, by decide, wf_X12_137, inX12, tyX12_ok, nmX12, by decide +kernel, Or.inr ⟨rfl, rfl, rfl⟩⟩
theorem wf_X12_140 : Cond.fieldLink RX12 140 (TX12 60).1 (TX12 60).2.1 (TX12 60).2.2.1 ∈ gtbl := inT (inT6 (List.mem_of_getElem? (i := 37) (by decide +kernel))) (by decide +kernel)
theorem fl_X12_140 : FL RX12 140 12 60 := ⟨RX12, TX12, 77, rfl, by decide, wf_X12_140, inX12⟩
theorem pl_X12_140 : PL RX12 "<init>" 140 12 60 (.array .int) := ⟨RX12, TX12, 77, tyX12, rfl, by decide, wf_X12_140, inX12, tyX12_ok, nmX12, by decide +kernel, Or.inr ⟨rfl, rfl, rfl⟩⟩
theorem wf_X12_143 : Cond.fieldLink RX12 143 (TX12 61).1 (TX12 61).2.1 (TX12 61).2.2.1 ∈ gtbl := inT (inT6 (List.mem_of_getElem? (i := 38) (by decide +kernel))) (by decide +kernel)
theorem fl_X12_143 : FL RX12 143 12 61 := ⟨RX12, TX12, 77, rfl, by decide, wf_X12_143, inX12⟩
theorem pl_X12_143 : PL RX12 "<init>" 143 12 61 (.array .int) := ⟨RX12, TX12, 77, tyX12, rfl, by decide, wf_X12_143, inX12, tyX12_ok, nmX12, by decide +kernel, Or.inr ⟨rfl, rfl, rfl⟩⟩
theorem wf_X12_146 : Cond.fieldLink RX12 146 (TX12 62).1 (TX12 62).2.1 (TX12 62).2.2.1 ∈ gtbl := inT (inT6 (List.mem_of_getElem? (i := 39) (by decide +kernel))) (by decide +kernel)
theorem fl_X12_146 : FL RX12 146 12 62 := ⟨RX12, TX12, 77, rfl, by decide, wf_X12_146, inX12⟩
theorem pl_X12_146 : PL RX12 "<init>" 146 12 62 (.array .int) := ⟨RX12, TX12, 77, tyX12, rfl, by decide, wf_X12_146, inX12, tyX12_ok, nmX12, by decide +kernel, Or.inr ⟨rfl, rfl, rfl⟩⟩
theorem wf_X12_514 : Cond.fieldLink RX12 514 (TX12 63).1 (TX12 63).2.1 (TX12 63).2.2.1 ∈ gtbl := inT (inT6 (List.mem_of_getElem? (i := 40) (by decide +kernel))) (by decide +kernel)
theorem fl_X12_514 : FL RX12 514 12 63 := ⟨RX12, TX12, 77, rfl, by decide, wf_X12_514, inX12⟩
theorem pl_X12_514 (nm : String) : PL RX12 nm 514 12 63 .int := ⟨RX12, TX12, 77, tyX12, rfl, by decide, wf_X12_514, inX12, tyX12_ok, nmX12, by decide +kernel, Or.inl rfl⟩
theorem wf_X12_517 : Cond.fieldLink RX12 517 (TX12 64).1 (TX12 64).2.1 (TX12 64).2.2.1 ∈ gtbl := inT (inT6 (List.mem_of_getElem? (i := 41) (by decide +kernel))) (by decide +kernel)
theorem fl_X12_517 : FL RX12 517 12 64 := ⟨RX12, TX12, 77, rfl, by decide, wf_X12_517, inX12⟩
theorem pl_X12_517 (nm : String) : PL RX12 nm 517 12 64 .int := ⟨RX12, TX12, 77, tyX12, rfl, by decide, wf_X12_517, inX12, tyX12_ok, nmX12, by decide +kernel, Or.inl rfl⟩
theorem wf_X12_149 : Cond.fieldLink RX12 149 (TX12 65).1 (TX12 65).2.1 (TX12 65).2.2.1 ∈ gtbl := inT (inT6 (List.mem_of_getElem? (i := 42) (by decide +kernel))) (by decide +kernel)
theorem fl_X12_149 : FL RX12 149 12 65 := ⟨RX12, TX12, 77, rfl, by decide, wf_X12_149, inX12⟩
theorem pl_X12_149 : PL RX12 "<init>" 149 12 65 (.array .int) := ⟨RX12, TX12, 77, tyX12, rfl, by decide, wf_X12_149, inX12, tyX12_ok, nmX12, by decide +kernel, Or.inr ⟨rfl, rfl, rfl⟩⟩
theorem wf_X12_152 : Cond.fieldLink RX12 152 (TX12 66).1 (TX12 66).2.1 (TX12 66).2.2.1 ∈ gtbl := inT (inT6 (List.mem_of_getElem? (i := 43) (by decide +kernel))) (by decide +kernel)
theorem fl_X12_152 : FL RX12 152 12 66 := ⟨RX12, TX12, 77, rfl, by decide, wf_X12_152, inX12⟩
theorem pl_X12_152 : PL RX12 "<init>" 152 12 66 (.array .int) := ⟨RX12, TX12, 77, tyX12, rfl, by decide, wf_X12_152, inX12, tyX12_ok, nmX12, by decide +kernel, Or.inr ⟨rfl, rfl, rfl⟩⟩
theorem wf_X12_155 : Cond.fieldLink RX12 155 (TX12 67).1 (TX12 67).2.1 (TX12 67).2.2.1 ∈ gtbl := inT (inT6 (List.mem_of_getElem? (i := 44) (by decide +kernel))) (by decide +kernel)
theorem fl_X12_155 : FL RX12 155 12 67 := ⟨RX12, TX12, 77, rfl, by decide, wf_X12_155, inX12⟩
theorem pl_X12_155 : PL RX12 "<init>" 155 12 67 (.array .int) := ⟨RX12, TX12, 77, tyX12, rfl, by decide, wf_X12_155, inX12, tyX12_ok, nmX12, by decide +kernel, Or.inr ⟨rfl, rfl, rfl⟩⟩
theorem wf_X12_158 : Cond.fieldLink RX12 158 (TX12 68).1 (TX12 68).2.1 (TX12 68).2.2.1 ∈ gtbl := inT (inT6 (List.mem_of_getElem? (i := 45) (by decide +kernel))) (by decide +kernel)
theorem fl_X12_158 : FL RX12 158 12 68 := ⟨RX12, TX12, 77, rfl, by decide, wf_X12_158, inX12⟩
theorem pl_X12_158 : PL RX12 "<init>" 158 12 68 (.array .boolean) := ⟨RX12, TX12, 77, tyX12, rfl, by decide, wf_X12_158, inX12, tyX12_ok, nmX12, by decide +kernel, Or.inr ⟨rfl, rfl, rfl⟩⟩
theorem wf_X12_161 : Cond.fieldLink RX12 161 (TX12 69).1 (TX12 69).2.1 (TX12 69).2.2.1 ∈ gtbl := inT (inT6 (List.mem_of_getElem? (i := 46) (by decide +kernel))) (by decide +kernel)
theorem fl_X12_161 : FL RX12 161 12 69 := ⟨RX12, TX12, 77, rfl, by decide, wf_X12_161, inX12⟩
theorem pl_X12_161 : PL RX12 "<init>" 161 12 69 (.array .long) := ⟨RX12, TX12, 77, tyX12, rfl, by decide, wf_X12_161, inX12, tyX12_ok, nmX12, by decide +kernel, Or.inr ⟨rfl, rfl, rfl⟩⟩
theorem wf_X12_164 : Cond.fieldLink RX12 164 (TX12 70).1 (TX12 70).2.1 (TX12 70).2.2.1 ∈ gtbl := inT (inT6 (List.mem_of_getElem? (i := 47) (by decide +kernel))) (by decide +kernel)
theorem fl_X12_164 : FL RX12 164 12 70 := ⟨RX12, TX12, 77, rfl, by decide, wf_X12_164, inX12⟩
theorem pl_X12_164 : PL RX12 "<init>" 164 12 70 (.array .int) := ⟨RX12, TX12, 77, tyX12, rfl, by decide, wf_X12_164, inX12, tyX12_ok, nmX12, by decide +kernel, Or.inr ⟨rfl, rfl, rfl⟩⟩
theorem wf_X12_167 : Cond.fieldLink RX12 167 (TX12 71).1 (TX12 71).2.1 (TX12 71).2.2.1 ∈ gtbl := inT (inT6 (List.mem_of_getElem? (i := 48) (by decide +kernel))) (by decide +kernel)
theorem fl_X12_167 : FL RX12 167 12 71 := ⟨RX12, TX12, 77, rfl, by decide, wf_X12_167, inX12⟩
theorem pl_X12_167 : PL RX12 "<init>" 167 12 71 (.array .int) := ⟨RX12, TX12, 77, tyX12, rfl, by decide, wf_X12_167, inX12, tyX12_ok, nmX12, by decide +kernel, Or.inr ⟨rfl, rfl, rfl⟩⟩
theorem wf_X12_557 : Cond.fieldLink RX12 557 (TX12 72).1 (TX12 72).2.1 (TX12 72).2.2.1 ∈ gtbl := inT (inT6 (List.mem_of_getElem? (i := 49) (by decide +kernel))) (by decide +kernel)
theorem fl_X12_557 : FL RX12 557 12 72 := ⟨RX12, TX12, 77, rfl, by decide, wf_X12_557, inX12⟩
theorem pl_X12_557 (nm : String) : PL RX12 nm 557 12 72 .int := ⟨RX12, TX12, 77, tyX12, rfl, by decide, wf_X12_557, inX12, tyX12_ok, nmX12, by decide +kernel, Or.inl rfl⟩
theorem wf_X12_170 : Cond.fieldLink RX12 170 (TX12 73).1 (TX12 73).2.1 (TX12 73).2.2.1 ∈ gtbl := inT (inT6 (List.mem_of_getElem? (i := 50) (by decide +kernel))) (by decide +kernel)
theorem fl_X12_170 : FL RX12 170 12 73 := ⟨RX12, TX12, 77, rfl, by decide, wf_X12_170, inX12⟩
theorem pl_X12_170 : PL RX12 "<init>" 170 12 73 (.array .int) := ⟨RX12, TX12, 77, tyX12, rfl, by decide, wf_X12_170, inX12, tyX12_ok, nmX12, by decide +kernel, Or.inr ⟨rfl, rfl, rfl⟩⟩
theorem wf_X12_173 : Cond.fieldLink RX12 173 (TX12 74).1 (TX12 74).2.1 (TX12 74).2.2.1 ∈ gtbl := inT (inT6 (List.mem_of_getElem? (i := 51) (by decide +kernel))) (by decide +kernel)
theorem fl_X12_173 : FL RX12 173 12 74 := ⟨RX12, TX12, 77, rfl, by decide, wf_X12_173, inX12⟩
theorem pl_X12_173 : PL RX12 "<init>" 173 12 74 (.array .boolean) := ⟨RX12, TX12, 77, tyX12, rfl, by decide, wf_X12_173, inX12, tyX12_ok, nmX12, by decide +kernel, Or.inr ⟨rfl, rfl, rfl⟩⟩
theorem wf_X12_595 : Cond.fieldLink RX12 595 (TX12 75).1 (TX12 75).2.1 (TX12 75).2.2.1 ∈ gtbl := inT (inT6 (List.mem_of_getElem? (i := 52) (by decide +kernel))) (by decide +kernel)
theorem fl_X12_595 : FL RX12 595 12 75 := ⟨RX12, TX12, 77, rfl, by decide, wf_X12_595, inX12⟩
theorem pl_X12_595 (nm : String) : PL RX12 nm 595 12 75 .int := ⟨RX12, TX12, 77, tyX12, rfl, by decide, wf_X12_595, inX12, tyX12_ok, nmX12, by decide +kernel, Or.inl rfl⟩
theorem wf_X12_592 : Cond.fieldLink RX12 592 (TX12 76).1 (TX12 76).2.1 (TX12 76).2.2.1 ∈ gtbl := inT (inT6 (List.mem_of_getElem? (i := 53) (by decide +kernel))) (by decide +kernel)
theorem fl_X12_592 : FL RX12 592 12 76 := ⟨RX12, TX12, 77, rfl, by decide, wf_X12_592, inX12⟩
theorem pl_X12_592 (nm : String) : PL RX12 nm 592 12 76 .boolean := ⟨RX12, TX12, 77, tyX12, rfl, by decide, wf_X12_592, inX12, tyX12_ok, nmX12, by decide +kernel, Or.inl rfl⟩
theorem wf_J0_9 : Cond.fieldLink RJ0 9 "java/lang/String" "value" "[B" ∈ gtbl := inT (inT8 (List.mem_of_getElem? (i := 217) (by decide +kernel))) (by decide +kernel)
theorem wf_J0_15 : Cond.fieldLink RJ0 15 "java/lang/String" "coder" "B" ∈ gtbl := inT (inT8 (List.mem_of_getElem? (i := 218) (by decide +kernel))) (by decide +kernel)
