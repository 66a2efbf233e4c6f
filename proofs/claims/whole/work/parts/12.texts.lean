/-! Math, an array's clone, the texts' length and charAt. -/
def clI (μ : Mm) (a : Nat) : Option (Nat × Mm) := (arr μ a 0).bind fun x => match x with
  | (n, .inl f) => some (μ.1, pu μ n (.inl (0, n, .inl f)))
  | _ => none
section RT
variable {l : Launch} {G : GG} {d : Nat} {y : MethodName} {cc : ByteArray} {nL : Nat} {ret : Option FieldType} {pc : Nat} {ls : List (Nat × Value)} {st : List Value} {μ : Mm} {r : Option Value} {μ' : Mm}
theorem E_max {idx : Nat} {x z : Int32} (hd : decode cc pc = .ok (.invokestatic idx, 3)) (hl : Cond.methodLink y.cls idx Lib.Math.max.name ∈ gtbl) (h1d : 1 ≤ d) (hst : (st.map fun v => v.category).sum ≤ 8) (k : Ev l G d y cc nL ret (pc + 3) ls (.int (if x < z then z else x) :: st) μ r μ') : Ev l G d y cc nL ret pc ls (.int z :: .int x :: st) μ r μ' :=
  Ev.pure (fun p e R s m args below meth c H locs cells slots la Q hC hR hRel hh hlocs hl2 k => va_mmax hC.1 hC.2.1 (hC.2.2.2.2.1.trans hl2.1.symm) hC.2.2.2.2.2.1 (hC.2.2.2.2.2.2.2.1 _ hl) (hC.2.2.2.2.2.2.2.1 _ wm_max.1) (hC.2.2.2.2.2.2.2.1 _ wm_max.2.1) (hC.2.2.2.2.2.2.2.1 _ wm_max.2.2) (by omega) (by rw [trv_sum]; omega) hR.2.2.1 hR.2.2.2 hd k) k
theorem E_min {idx : Nat} {x z : Int32} (hd : decode cc pc = .ok (.invokestatic idx, 3)) (hl : Cond.methodLink y.cls idx Lib.Math.min.name ∈ gtbl) (h1d : 1 ≤ d) (hst : (st.map fun v => v.category).sum ≤ 8) (k : Ev l G d y cc nL ret (pc + 3) ls (.int (if z < x then z else x) :: st) μ r μ') : Ev l G d y cc nL ret pc ls (.int z :: .int x :: st) μ r μ' :=
  Ev.pure (fun p e R s m args below meth c H locs cells slots la Q hC hR hRel hh hlocs hl2 k => va_mmin hC.1 hC.2.1 (hC.2.2.2.2.1.trans hl2.1.symm) hC.2.2.2.2.2.1 (hC.2.2.2.2.2.2.2.1 _ hl) (hC.2.2.2.2.2.2.2.1 _ wm_min.1) (hC.2.2.2.2.2.2.2.1 _ wm_min.2.1) (hC.2.2.2.2.2.2.2.1 _ wm_min.2.2) (by omega) (by rw [trv_sum]; omega) hR.2.2.1 hR.2.2.2 hd k) k
theorem E_abs {idx : Nat} {x : Int32} (hd : decode cc pc = .ok (.invokestatic idx, 3)) (hl : Cond.methodLink y.cls idx Lib.Math.abs.name ∈ gtbl) (h1d : 1 ≤ d) (hst : (st.map fun v => v.category).sum ≤ 8) (k : Ev l G d y cc nL ret (pc + 3) ls (.int (if 0 ≤ x then x else 0 - x) :: st) μ r μ') : Ev l G d y cc nL ret pc ls (.int x :: st) μ r μ' :=
  Ev.pure (fun p e R s m args below meth c H locs cells slots la Q hC hR hRel hh hlocs hl2 k => va_mabs hC.1 hC.2.1 (hC.2.2.2.2.1.trans hl2.1.symm) hC.2.2.2.2.2.1 (hC.2.2.2.2.2.2.2.1 _ hl) (hC.2.2.2.2.2.2.2.1 _ wm_abs.1) (hC.2.2.2.2.2.2.2.1 _ wm_abs.2.1) (hC.2.2.2.2.2.2.2.1 _ wm_abs.2.2) (by omega) (by rw [trv_sum]; omega) hR.2.2.1 hR.2.2.2 hd k) k
theorem E_maxl {idx : Nat} {x z : Int64} (hd : decode cc pc = .ok (.invokestatic idx, 3)) (hl : Cond.methodLink y.cls idx Lib.MathLoose.max_long.x ∈ gtbl) (h1d : 1 ≤ d) (hst : (st.map fun v => v.category).sum ≤ 8) (k : Ev l G d y cc nL ret (pc + 3) ls (.long (if z < x then x else z) :: st) μ r μ') : Ev l G d y cc nL ret pc ls (.long z :: .long x :: st) μ r μ' :=
  Ev.pure (fun p e R s m args below meth c H locs cells slots la Q hC hR hRel hh hlocs hl2 k => va_mmax_long hC.1 hC.2.1 (hC.2.2.2.2.1.trans hl2.1.symm) hC.2.2.2.2.2.1 (hC.2.2.2.2.2.2.2.1 _ hl) (hC.2.2.2.2.2.2.2.1 _ wm_maxl.1) (hC.2.2.2.2.2.2.2.1 _ wm_maxl.2.1) (hC.2.2.2.2.2.2.2.1 _ wm_maxl.2.2) (by omega) (by rw [trv_sum]; omega) hR.2.2.1 hR.2.2.2 hd k) k
theorem E_minl {idx : Nat} {x z : Int64} (hd : decode cc pc = .ok (.invokestatic idx, 3)) (hl : Cond.methodLink y.cls idx Lib.MathLoose.min_long.x ∈ gtbl) (h1d : 1 ≤ d) (hst : (st.map fun v => v.category).sum ≤ 8) (k : Ev l G d y cc nL ret (pc + 3) ls (.long (if z < x then z else x) :: st) μ r μ') : Ev l G d y cc nL ret pc ls (.long z :: .long x :: st) μ r μ' :=
  Ev.pure (fun p e R s m args below meth c H locs cells slots la Q hC hR hRel hh hlocs hl2 k => va_mmin_long hC.1 hC.2.1 (hC.2.2.2.2.1.trans hl2.1.symm) hC.2.2.2.2.2.1 (hC.2.2.2.2.2.2.2.1 _ hl) (hC.2.2.2.2.2.2.2.1 _ wm_minl.1) (hC.2.2.2.2.2.2.2.1 _ wm_minl.2.1) (hC.2.2.2.2.2.2.2.1 _ wm_minl.2.2) (by omega) (by rw [trv_sum]; omega) hR.2.2.1 hR.2.2.2 hd k) k
theorem E_clone {α : Type} {idx a : Nat} {F : Nat × Mm → Option α} {res : α} (hd : decode cc pc = .ok (.invokevirtual idx, 3)) (h1d : 1 ≤ d) (hst : (st.map fun v => v.category).sum ≤ 8) (hw : Cond.methodLink y.cls idx ⟨"[I", "clone", "()Ljava/lang/Object;"⟩ ∈ gtbl ∧ Cond.sameMethod "[I" "java/lang/Object" "clone" "()Ljava/lang/Object;" ∈ gtbl ∧ Cond.native ⟨"java/lang/Object", "clone", "()Ljava/lang/Object;"⟩ ∈ gtbl ∧ Cond.instanceMethod ⟨"java/lang/Object", "clone", "()Ljava/lang/Object;"⟩ ∈ gtbl ∧ Cond.selects "[I" ⟨"[I", "clone", "()Ljava/lang/Object;"⟩ ⟨"java/lang/Object", "clone", "()Ljava/lang/Object;"⟩ ∈ gtbl) (hf : (clI μ a).bind F = some res) (k : ∀ b μ1, F (b, μ1) = some res → Ev l G d y cc nL ret (pc + 3) ls (.ref b :: st) μ1 r μ') : Ev l G d y cc nL ret pc ls (.ref a :: st) μ r μ' := by
  obtain ⟨⟨b, μ1⟩, h1, h2⟩ := bindS hf
  obtain ⟨x, h3, h4⟩ := bindS h1
  obtain ⟨n, f | f | f | f | f⟩ := x
  · cases h4
    have k1 := k _ _ h2
    refine Ev.gen (μ1 := pu μ n (.inl (0, n, .inl f))) ⟨Nat.le_succ _, Nat.le_add_right _ _⟩ ?_ k1
    intro p e R s m args below meth c H locs cells slots la Q hC hR hRel hh hlocs hl kk
    have ea : (pu μ n (.inl (0, n, .inl f))).1 - μ.1 = 1 := by show μ.1 + 1 - μ.1 = 1; omega
    have eb : (pu μ n (.inl (0, n, .inl f))).2.1 - μ.2.1 = n := by show μ.2.1 + n - μ.2.1 = n; omega
    rw [ea, eb] at kk hR
    have hts := hC.2.2.2.2.2.2.2.1
    have hK := hC.2.2.2.2.2.2.2.2.1.1
    have hnm : s.vm.findClass "[I" = some (G.2.1 0) := va_nm_int (hK.2 0 _ rfl).2
    obtain ⟨c0, t0', f1, f2, f3⟩ := Cond.castable_spec (va_Nw.use (A := args) rfl hC.2.2.2.2.2.2.2.2.1.2.2.2.2.2.2.2.2.1)
    cases hnm.symm.trans f1
    intro T hT X
    have hcell : H[adr G a]? = some (vp_cell (G.2.1 0) (n, .inl f)) := hRel.arr h3 0 _ rfl
    have hcellT : T.heap[adr G a]? = some (vp_cell (G.2.1 0) (n, .inl f)) := by rw [hT]; exact hcell
    obtain ⟨-, kA, hkA, comp, hkind⟩ := State.isArrayOf_alike X.warmed.alike ((hK.2 0 _ rfl).1 0 (fun _ => .null))
    obtain ⟨-, kS, hkS, compS, hkindS⟩ := (hK.2 0 _ rfl).1 0 (fun _ => .null)
    have hsz : (vp_cell (G.2.1 0) (n, .inl f)).slots.size = n := arrV_size _ _ _
    obtain ⟨vm', X', stp⟩ := X.cloneArray hC.1 hC.2.2.2.2.2.1 (hts _ hw.1) (hts _ hw.2.1) (hts _ hw.2.2.1) (hts _ hw.2.2.2.1) (hts _ hw.2.2.2.2) (a := adr G a) (cell := vp_cell (G.2.1 0) (n, .inl f)) hcellT (fun k h => by cases h) (fun h => by cases h) hnm f2 f3
      (fun i v hv => by
        have hk' : T.vm.classes[G.2.1 0]? = some kA := hkA
        have hv2 := va_fit (ty := .int) (F := fun j => .int (f j)) (fun i _ => rfl) i v hv
        simpa [State.fitsSlot, State.slotType?, hk', hkind, vp_cell_i, arrV] using hv2)
      (g := F0 m pc la (.ref (adr G a) :: st.map (trv G))) rfl (by rw [hC.2.2.2.2.1]; exact hl.1) rfl (by rw [hC.2.1]; exact hd) (by omega) (by show 2 * 0 + _ + 14 ≤ _; rw [trv_sum]; omega) hR.2.2.1 (by rw [hsz]; exact hR.2.2.2) (hloader := Vm.clonesLoader_of_array hkS hkindS)
    have hcellE : ({ cls := (vp_cell (G.2.1 0) (n, .inl f)).cls, slots := (vp_cell (G.2.1 0) (n, .inl f)).slots } : Cell) = vp_cell (G.2.1 0) (n, .inl f) := rfl
    rw [hcellE, hsz] at X'
    generalize hH1 : H.push (vp_cell (G.2.1 0) (n, .inl f)) = H1
    have z1 : H1.size = H.size + 1 := by rw [← hH1, Array.size_push]
    have e1 : H1[H.size]? = some (vp_cell (G.2.1 0) (n, .inl f)) := by rw [← hH1, Array.getElem?_push_size]
    have o1 : ∀ q : Nat, q < H.size → H1[q]? = H[q]? := fun q hq => by rw [← hH1, Array.getElem?_push, if_neg (Nat.ne_of_lt hq)]
    obtain ⟨r1, r2⟩ := hRel.push (n := μ.2.1 + n) (e := .inl (0, n, .inl f)) e1 z1 o1
    have k2 := kk H1 locs la r1 (fun q hq => by
      rw [o1 q (by have := hRel.2.1; omega)]
      exact hh q hq) hlocs hl
    rw [List.map_cons, trv_ref, ← r2] at k2
    obtain ⟨t, b1, b2⟩ := k2 ((T.setVm vm').pushCell (vp_cell (G.2.1 0) (n, .inl f))) (by rw [← hH1, ← hT]; rfl) X'
    refine ⟨t, stp t ?_, b2⟩
    rw [hcellE, hT]
    exact b1
  all_goals cases h4
theorem E_castA {α : Type} {idx a : Nat} {A : Option α} {res : α} (hd : decode cc pc = .ok (.checkcast idx, 3)) (hw : Cond.classLink y.cls idx "[I" ∈ gtbl) (hf : ((arr μ a 0).bind fun _ => A) = some res) (k : A = some res → Ev l G d y cc nL ret (pc + 3) ls (.ref a :: st) μ r μ') : Ev l G d y cc nL ret pc ls (.ref a :: st) μ r μ' := by
  obtain ⟨x, h1, h2⟩ := bindS hf
  refine Ev.pure (fun p e R s m args below meth c H locs cells slots la Q hC hR hRel hh hlocs hl k => ?_) (k h2)
  exact va_castA hC.1 hC.2.1 hC.2.2.2.2.2.1 (hC.2.2.2.2.2.2.2.1 _ hw) (hRel.arr h1) 0 rfl (va_nm_int (hC.2.2.2.2.2.2.2.2.1.1.2 0 _ rfl).2) hd k
/-! texts -/
theorem E_getC {idx : Nat} (hd : decode cc pc = .ok (.getstatic idx, 3)) (hw : Cond.fieldLink y.cls idx "java/lang/String" "COMPACT_STRINGS" "Z" ∈ gtbl) (k : Ev l G d y cc nL ret (pc + 3) ls (.int 1 :: st) μ r μ') : Ev l G d y cc nL ret pc ls st μ r μ' := by
  refine Ev.pure (fun p e R s m args below meth c H locs cells slots la Q hC hR hRel hh hlocs hl k => ?_) k
  obtain ⟨cf, kf, fi, f, a, cell, h1, h2, h3, h4, h5, h6, h7, h8⟩ := hC.2.2.2.2.2.2.2.2.1.2.2.1
  exact W.gets hC.1 hC.2.1 hC.2.2.2.2.2.1 (hC.2.2.2.2.2.2.2.1 _ hw) h1 h2 h3 h4 (by rw [hh a (Nat.not_le.mp h8)]; exact h5) (fun e => by rw [e] at h6; cases h6) h7 rfl hd k
theorem E_getF {idx : Nat} (hd : decode cc pc = .ok (.getstatic idx, 3)) (hw : Cond.fieldLink y.cls idx "jdk/internal/util/Preconditions" "SIOOBE_FORMATTER" "Ljava/util/function/BiFunction;" ∈ gtbl) (k : ∀ v : Value, v = .null ∨ v = .ref 126 → Ev l G d y cc nL ret (pc + 3) ls (v :: st) μ r μ') : Ev l G d y cc nL ret pc ls st μ r μ' := by
  refine ⟨(k _ (Or.inl rfl)).1, ?_⟩
  intro p e R s m args below meth c H locs cells slots la hC hR hRel hh hlocs hl
  rcases hC.2.2.2.2.2.2.2.2.1.2.2.2.1 with hz | hz
  · obtain ⟨cf, kf, fi, f, a, cell, h1, h2, h3, h4, h5, h6, h7, h8⟩ := hz
    exact W.gets hC.1 hC.2.1 hC.2.2.2.2.2.1 (hC.2.2.2.2.2.2.2.1 _ hw) h1 h2 h3 h4 (by rw [hh a (Nat.not_le.mp h8)]; exact h5) (fun e => by rw [e] at h6; cases h6) h7 rfl hd ((k _ (Or.inl rfl)).2 p e R s m args below meth c H locs cells slots la hC hR hRel hh hlocs hl)
  · obtain ⟨cf, kf, fi, f, a, cell, h1, h2, h3, h4, h5, h6, h7, h8⟩ := hz
    exact W.gets hC.1 hC.2.1 hC.2.2.2.2.2.1 (hC.2.2.2.2.2.2.2.1 _ hw) h1 h2 h3 h4 (by rw [hh a (Nat.not_le.mp h8)]; exact h5) (fun e => by rw [e] at h6; cases h6) h7 rfl hd ((k _ (Or.inr rfl)).2 p e R s m args below meth c H locs cells slots la hC hR hRel hh hlocs hl)
theorem adr_t {i : Nat} (hi : i < 128) : adr G i = G.2.2.1 i := by rw [adr, if_pos hi]
theorem E_tval {idx i : Nat} (hd : decode cc pc = .ok (.getfield idx, 3)) (hi : i < sN) (hw : Cond.fieldLink y.cls idx "java/lang/String" "value" "[B" ∈ gtbl) (k : Ev l G d y cc nL ret (pc + 3) ls (.ref (32 + i) :: st) μ r μ') : Ev l G d y cc nL ret pc ls (.ref i :: st) μ r μ' := by
  have hi : i < 32 := hi
  refine Ev.pure (fun p e R s m args below meth c H locs cells slots la Q hC hR hRel hh hlocs hl k => ?_) k
  obtain ⟨cf, kc, fi, f, cell, h1, h2, h3, h4, h5, h6⟩ := ((hC.2.2.2.2.2.2.2.2.1.2.1 i hi).2.1 0 (by decide)).2.2.1
  have h6 : ¬ gB G ≤ G.2.2.1 i := h6
  rw [List.map_cons, trv_ref, adr_t (show 32 + i < 128 by omega)] at k
  rw [List.map_cons, trv_ref, adr_t (show i < 128 by omega)]
  exact W.getf hC.1 hC.2.1 hC.2.2.2.2.2.1 (hC.2.2.2.2.2.2.2.1 _ hw) h1 h2 (by rw [hh _ (Nat.not_le.mp h6)]; exact h3) h4 h5 rfl rfl hd k
theorem E_tcod {idx i : Nat} (hd : decode cc pc = .ok (.getfield idx, 3)) (hi : i < sN) (hw : Cond.fieldLink y.cls idx "java/lang/String" "coder" "B" ∈ gtbl) (k : Ev l G d y cc nL ret (pc + 3) ls (.int 0 :: st) μ r μ') : Ev l G d y cc nL ret pc ls (.ref i :: st) μ r μ' := by
  have hi : i < 32 := hi
  refine Ev.pure (fun p e R s m args below meth c H locs cells slots la Q hC hR hRel hh hlocs hl k => ?_) k
  obtain ⟨cf, kc, fi, f, cell, h1, h2, h3, h4, h5, h6⟩ := ((hC.2.2.2.2.2.2.2.2.1.2.1 i hi).2.1 0 (by decide)).2.1
  have h6 : ¬ gB G ≤ G.2.2.1 i := h6
  rw [List.map_cons, trv_ref, adr_t (show i < 128 by omega)]
  exact W.getf hC.1 hC.2.1 hC.2.2.2.2.2.1 (hC.2.2.2.2.2.2.2.1 _ hw) h1 h2 (by rw [hh _ (Nat.not_le.mp h6)]; exact h3) h4 h5 rfl rfl hd k
theorem E_tlen {i : Nat} (hd : decode cc pc = .ok (.arraylength, 1)) (hi : i < sN) (k : Ev l G d y cc nL ret (pc + 1) ls (.int (Int32.ofNat (sLen i)) :: st) μ r μ') : Ev l G d y cc nL ret pc ls (.ref (32 + i) :: st) μ r μ' := by
  have hi : i < 32 := hi
  refine Ev.pure (fun p e R s m args below meth c H locs cells slots la Q hC hR hRel hh hlocs hl k => ?_) k
  obtain ⟨cell, h1, h2, h3, h4, h5, h6, h7⟩ := ((hC.2.2.2.2.2.2.2.2.1.2.1 i hi).2.1 0 (by decide)).2.2.2
  have h7 : ¬ gB G ≤ G.2.2.1 (32 + i) := h7
  rw [List.map_cons, trv_ref, adr_t (show 32 + i < 128 by omega)]
  exact W.alen (n := Int32.ofNat (sLen i)) hC.1 hC.2.1 (by rw [hh _ (Nat.not_le.mp h7)]; exact h1) h2 h5 rfl rfl hd k
theorem E_tbyt {i : Nat} {x : Int32} (hd : decode cc pc = .ok (.baload, 1)) (hi : i < sN) (hx : vp_in x (sLen i)) (k : Ev l G d y cc nL ret (pc + 1) ls (.int ((sByt i).getD x.toNatClampNeg 0) :: st) μ r μ') : Ev l G d y cc nL ret pc ls (.int x :: .ref (32 + i) :: st) μ r μ' := by
  have hi : i < 32 := hi
  refine Ev.pure (fun p e R s m args below meth c H locs cells slots la Q hC hR hRel hh hlocs hl k => ?_) k
  obtain ⟨cell, h1, h2, h3, h4, h5, h6, h7⟩ := ((hC.2.2.2.2.2.2.2.2.1.2.1 i hi).2.1 0 (by decide)).2.2.2
  have h7 : ¬ gB G ≤ G.2.2.1 (32 + i) := h7
  have h4 : sLen i ≤ cell.slots.size := h4
  have hlt : x.toNatClampNeg < sLen i := Nat.not_le.mp fun q => hx (Or.inr q)
  rw [List.map_cons, List.map_cons, trv_ref, adr_t (show 32 + i < 128 by omega)]
  exact W.bald (v := .int ((sByt i).getD x.toNatClampNeg 0)) hC.1 hC.2.1 (by rw [hh _ (Nat.not_le.mp h7)]; exact h1) h2 h3 (fun q => by
    rcases q with q | q
    · exact hx (Or.inl q)
    · omega) (h6 _ hlt) rfl rfl hd k
theorem E_VT {idx d2 nL2 n i : Nat} {y2 : MethodName} {cc2 : ByteArray} {ret2 : Option FieldType} {As : List Value} {r2 : Option Value} {μ1 : Mm} {rest : List Value} (hd : decode cc pc = .ok (.invokevirtual idx, 3)) (hl : Cond.methodLink y.cls idx y2 ∈ gtbl) (hm : MF y2 cc2 nL2 ret2 n) (hi : IM y2) (hi2 : i < sN) (hC2 : y2.cls = "java/lang/String") (hlen : As.length = n) (hd2 : d2 < d) (hfit : (lg_sl ((.ref i :: As).map (trv G))).length ≤ nL2) (hsum : (rest.map fun v => v.category).sum ≤ 8) (hst : st = As.reverse ++ .ref i :: rest)
    (hM : EvM l G d2 y2 cc2 nL2 ret2 (.ref i :: As) μ r2 μ1) (k : Ev l G d y cc nL ret (pc + 3) ls (r2.toList ++ rest) μ1 r μ') : Ev l G d y cc nL ret pc ls st μ r μ' := by
  subst hst
  have hi3 : i < 32 := hi2
  obtain ⟨hm1, hm2, hm3, hm4, hm5⟩ := hm
  refine Ev.run (a2 := ((Value.ref i :: As).map (trv G)).toArray) hM.1 ?_ k
  intro p e R s m args below meth c H locs cells slots la hC hR hRel hh hl2
  have hts := hC.2.2.2.2.2.2.2.1
  have hKK := hC.2.2.2.2.2.2.2.2.1
  have hcb : CallB R s args y.cls idx y2 cc2 nL2 ret2 (Cond.code y2 cc2 nL2 ret2 :: gtbl) (rmD d2 (μ1.1 - μ.1) (μ1.2.1 - μ.2.1)) (μ1.1 - μ.1) (μ1.2.1 - μ.2.1) n := callB_of n hts (good_all hm1) rfl rfl rfl (hts _ hm2) (hts _ hl) hm3 (cbR hd2 ⟨hR.1, hR.2.1⟩ hm5)
  refine va_runV (C := y2.cls) (As := As.map (trv G)) (b := adr G i) ⟨hC.1, hC.2.1, hC.2.2.2.2.1, hC.2.2.2.2.2.1, hts⟩ (hM.met hm4 hfit) ⟨hcb, hts _ hi.1, hts _ hi.2⟩ ⟨Pm.blind, ?_, fun U hU hW => pmU (as := .ref i :: As) hKK hC.2.2.2.2.2.2.2.2.2 hRel hh hU hW⟩ rfl (by rw [List.length_map]; exact hlen) hl2.1 (by simp [List.map_reverse, trv_ref]) (lv_room (by rw [trv_sum]; exact hsum)) hd ⟨hR.2.2.1, hR.2.2.2⟩
  obtain ⟨cell, h1, h2, h3, h4⟩ := ((hKK.2.1 i hi2).2.1 0 (by decide)).1
  have h4 : ¬ gB G ≤ G.2.2.1 i := h4
  rw [hC2, adr_t (show i < 128 by omega)]
  exact ⟨cell, by rw [hh _ (Nat.not_le.mp h4)]; exact h1, h2, h3⟩
theorem E_nret {x v : Int32} {ty : FieldType} (hd : decode cc pc = .ok (.ireturn, 1)) (hr : ret = some ty) (hn : narrow ty (.int x) = .int x) (hf : some (x, μ) = some (v, μ')) : Ev l G d y cc nL ret pc ls [.int x] μ (some (.int v)) μ' := by
  cases hf
  subst hr
  refine ⟨⟨Nat.le_refl _, Nat.le_refl _⟩, ?_⟩
  intro p e R s m args below meth c H locs cells slots la hC hR hRel hh hlocs hl
  rw [Nat.sub_self, Nat.sub_self, Nat.add_zero, Nat.add_zero]
  exact W.zret hC.1 hC.2.1 hC.2.2.1 hn (fun t ht hW => ⟨rfl, by rw [ht]; exact hRel, fun q hq => by rw [ht]; exact hh q hq⟩) hlocs hd hC.2.2.2.1
theorem E_i2c {x v : Int32} (hd : decode cc pc = .ok (.i2c, 1)) (hv : (x.toUInt32 % 65536).toInt32 = v) (k : Ev l G d y cc nL ret (pc + 1) ls (.int v :: st) μ r μ') : Ev l G d y cc nL ret pc ls (.int x :: st) μ r μ' :=
  Ev.pure (fun p e R s m args below meth c H locs cells slots la Q hC hR hRel hh hlocs hl k => lv_i2c hC.1 hC.2.1 hd hv k) k
end RT
