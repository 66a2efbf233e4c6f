/-! New cells, arraycopy. -/
def pu (μ : Mm) (n : Nat) (e : va_E) : Mm := (μ.1 + 1, μ.2.1 + n, va_up μ.2.2 μ.1 e)
def nO (μ : Mm) (ci N : Nat) (dv : List Value) : Option (Nat × Mm) := some (μ.1, pu μ N (.inr (ci, dv)))
def nA (μ : Mm) (t : Nat) (n : Int32) : Option (Nat × Mm) := if n < 0 ∨ 10000 < n.toNatClampNeg then none else some (μ.1, pu μ n.toNatClampNeg (.inl (t, n.toNatClampNeg, if t = 3 then .inr (.inl (fun _ => 0)) else if t < 3 then .inl (fun _ => 0) else .inr (.inr (.inr (.inr (fun _ => none)))))))
theorem trv_dv {G : GG} {dv : List Value} (h : dv.all notRef = true) : dv.map (trv G) = dv := by
  have h1 : dv.map (trv G) = dv.map id := List.map_congr_left (fun v hv => by
    cases v with
    | ref k => have h9 := List.all_eq_true.mp h _ hv; cases h9
    | _ => rfl)
  rw [h1, List.map_id]
section RN
variable {l : Launch} {G : GG} {d : Nat} {y : MethodName} {cc : ByteArray} {nL : Nat} {ret : Option FieldType} {pc : Nat} {ls : List (Nat × Value)} {st : List Value} {μ : Mm} {r : Option Value} {μ' : Mm}
theorem Ev.nw {pc1 : Nat} {st1 : List Value} {n : Nat} {e1 : va_E}
    (h : ∀ (p : Program) (e : Env) (R : Room) (s : State) (m : MethodId) (args : Array Value) (below : List Frame) (meth : Method) (c : Code) (H : Heap) (locs : List Loc) (cells slots : Nat) (la : Array Slot) (Q : State → Prop),
      Cx G y cc nL ret p s m args meth c → Rel G μ H → (cells + 1 ≤ R.cells ∧ slots + n ≤ R.slots) → lv_has la nL (ls.map (trl G)) →
      (∀ (H1 : Heap), va_at G.1 classes (H.size, tre G e1) H1 → H1.size = H.size + 1 → (∀ q : Nat, q < H.size → H1[q]? = H[q]?) → W p l e R s m args below meth c H1 locs (cells + 1) (slots + n) Q (F0 m pc1 la (.ref H.size :: st1.map (trv G)))) →
      W p l e R s m args below meth c H locs cells slots Q (F0 m pc la (st.map (trv G))))
    (k : Ev l G d y cc nL ret pc1 ls (.ref μ.1 :: st1) (pu μ n e1) r μ') : Ev l G d y cc nL ret pc ls st μ r μ' := by
  refine Ev.gen (μ1 := pu μ n e1) ⟨Nat.le_succ _, Nat.le_add_right _ _⟩ ?_ k
  intro p e R s m args below meth c H locs cells slots la Q hC hR hRel hh hlocs hl kk
  have ea : (pu μ n e1).1 - μ.1 = 1 := by show μ.1 + 1 - μ.1 = 1; omega
  have eb : (pu μ n e1).2.1 - μ.2.1 = n := by show μ.2.1 + n - μ.2.1 = n; omega
  rw [ea, eb] at kk hR
  refine h p e R s m args below meth c H locs cells slots la Q hC hRel ⟨hR.2.2.1, hR.2.2.2⟩ hl (fun H1 g1 g2 g3 => ?_)
  obtain ⟨r1, r2⟩ := hRel.push (n := μ.2.1 + n) g1 g2 g3
  have k1 := kk H1 locs la r1 (fun q hq => by
    rw [g3 q (by have := hRel.2.1; omega)]
    exact hh q hq) hlocs hl
  rw [List.map_cons, trv_ref, ← r2] at k1
  exact k1
theorem E_new {α : Type} {idx ci N : Nat} {dv : List Value} {F : Nat × Mm → Option α} {res : α} (hd : decode cc pc = .ok (.new idx, 3)) (hw : NL y.cls idx ci N dv) (hf : (nO μ ci N dv).bind F = some res) (k : ∀ a μ1, F (a, μ1) = some res → Ev l G d y cc nL ret (pc + 3) ls (.ref a :: st) μ1 r μ') : Ev l G d y cc nL ret pc ls st μ r μ' := by
  obtain ⟨C, T, ty0, hc, w1, w2, w3, hin, hty, hdv, hnr⟩ := hw
  refine Ev.nw (st1 := st) ?_ (k _ _ hf)
  intro p e R s m args below meth c H locs cells slots la Q hC hRel hR hl kk
  have hts := hC.2.2.2.2.2.2.2.1
  have hKn := hC.2.2.2.2.2.2.2.2.1.1.1 ci _ hc
  refine W.newcK hC.1 hC.2.1 hC.2.2.2.2.2.1 (hts _ w1) (hts _ w2) (hts _ w3) rfl hd hR.1 hR.2 hKn.2.1 rfl fun H1 kC hkC e1 z1 o1 => kk H1 ?_ z1 o1
  refine ⟨_, hc, ?_⟩
  have h9 := (u_born ty0 hts hin hKn hkC e1 hty).to hdv
  show t_OB _ _ _ _ _ (vp_V (dv.map (trv G)))
  rw [trv_dv hnr]
  exact h9
theorem E_newa {α : Type} {t : Nat} {n : Int32} {at_ : ArrayType} {F : Nat × Mm → Option α} {res : α} (hd : decode cc pc = .ok (.newarray at_, 2)) (hw : (at_ = .int ∧ t = 0) ∨ (at_ = .byte ∧ t = 1) ∨ (at_ = .boolean ∧ t = 2) ∨ (at_ = .long ∧ t = 3)) (ha : Cond.arrayClass (newarray.typeOf at_) ∈ gtbl) (hf : (nA μ t n).bind F = some res) (k : ∀ a μ1, F (a, μ1) = some res → Ev l G d y cc nL ret (pc + 2) ls (.ref a :: st) μ1 r μ') : Ev l G d y cc nL ret pc ls (.int n :: st) μ r μ' := by
  unfold nA at hf
  by_cases h0 : n < 0 ∨ 10000 < n.toNatClampNeg
  · rw [if_pos h0] at hf; cases hf
  · rw [if_neg h0] at hf
    refine Ev.nw (st1 := st) ?_ (k _ _ hf)
    intro p e R s m args below meth c H locs cells slots la Q hC hRel hR hl kk
    have hts := hC.2.2.2.2.2.2.2.1
    have hK := hC.2.2.2.2.2.2.2.2.1.1
    refine va_newaK hC.1 hC.2.1 (hts _ ha) rfl hd rfl (fun h => h0 (Or.inl h)) rfl (by
      have h1 : n.toNatClampNeg ≤ 10000 := Nat.not_lt.mp (fun h => h0 (Or.inr h))
      have h2 : componentBytes (newarray.typeOf at_) ≤ 8 := by cases at_ <;> decide
      exact Nat.le_trans (Nat.mul_le_mul h1 h2) (by decide)) hR.1 hR.2 rfl fun H1 cA e1 z1 o1 hAr hNm => kk H1 ?_ z1 o1
    rcases hw with ⟨rfl, rfl⟩ | ⟨rfl, rfl⟩ | ⟨rfl, rfl⟩ | ⟨rfl, rfl⟩
    · have h9 : G.2.1 0 = cA := Option.some.inj ((hK.2 0 _ rfl).2.symm.trans hNm)
      show H1[H.size]? = some (vp_cell (G.2.1 0) (n.toNatClampNeg, .inl (fun _ => 0)))
      rw [h9]; exact e1
    · have h9 : G.2.1 1 = cA := Option.some.inj ((hK.2 1 _ rfl).2.symm.trans hNm)
      show H1[H.size]? = some (vp_cell (G.2.1 1) (n.toNatClampNeg, .inl (fun _ => 0)))
      rw [h9]; exact e1
    · have h9 : G.2.1 2 = cA := Option.some.inj ((hK.2 2 _ rfl).2.symm.trans hNm)
      show H1[H.size]? = some (vp_cell (G.2.1 2) (n.toNatClampNeg, .inl (fun _ => 0)))
      rw [h9]; exact e1
    · have h9 : G.2.1 3 = cA := Option.some.inj ((hK.2 3 _ rfl).2.symm.trans hNm)
      show H1[H.size]? = some (vp_cell (G.2.1 3) (n.toNatClampNeg, .inr (.inl (fun _ => 0))))
      rw [h9]; exact e1
theorem E_anew {α : Type} {idx t : Nat} {n : Int32} {C : String} {F : Nat × Mm → Option α} {res : α} (hd : decode cc pc = .ok (.anewarray idx, 3)) (hw : (C = "FallSchool$Rule" ∧ t = 4) ∨ (C = "FallSchool$School" ∧ t = 5)) (ha : Cond.classLink y.cls idx C ∈ gtbl) (hf : (nA μ t n).bind F = some res) (k : ∀ a μ1, F (a, μ1) = some res → Ev l G d y cc nL ret (pc + 3) ls (.ref a :: st) μ1 r μ') : Ev l G d y cc nL ret pc ls (.int n :: st) μ r μ' := by
  unfold nA at hf
  by_cases h0 : n < 0 ∨ 10000 < n.toNatClampNeg
  · rw [if_pos h0] at hf; cases hf
  · rw [if_neg h0] at hf
    refine Ev.nw (st1 := st) ?_ (k _ _ hf)
    intro p e R s m args below meth c H locs cells slots la Q hC hRel hR hl kk
    have hts := hC.2.2.2.2.2.2.2.1
    have hK := hC.2.2.2.2.2.2.2.2.1.1
    have hS := hC.2.2.2.2.2.2.2.2.1.2
    have hover : va_AO C s := by
      rcases hw with ⟨rfl, -⟩ | ⟨rfl, -⟩
      · exact hS.2.2.2.2.2.1
      · exact hS.2.2.2.2.2.2.1
    refine W.anew hC.1 hC.2.1 hC.2.2.2.2.2.1 (hts _ ha) (va_AO.use hover) rfl hd rfl (fun h => h0 (Or.inl h)) (by
      have h1 : n.toNatClampNeg ≤ 10000 := Nat.not_lt.mp (fun h => h0 (Or.inr h))
      omega) hR.1 hR.2 fun cA kA comp f1 f2 f3 f4 => ?_
    generalize hH1 : H.push ({ cls := cA, slots := Array.replicate n.toNatClampNeg .null, vm := .none } : Cell) = H1
    have z1 : H1.size = H.size + 1 := by rw [← hH1, Array.size_push]
    have e1 : H1[H.size]? = some (arrV cA n.toNatClampNeg (fun _ => .null)) := by rw [← hH1, Array.getElem?_push_size, ← arrV_new]
    have o1 : ∀ q : Nat, q < H.size → H1[q]? = H[q]? := fun q hq => by rw [← hH1, Array.getElem?_push, if_neg (Nat.ne_of_lt hq)]
    refine kk H1 ?_ z1 o1
    rcases hw with ⟨rfl, rfl⟩ | ⟨rfl, rfl⟩
    · obtain ⟨kA', comp', k1, k2, k3, k4⟩ := (hK.2 4 _ rfl).2
      have h9 : G.2.1 4 = cA := Option.some.inj (k4.symm.trans f1)
      show H1[H.size]? = some (vp_cell (G.2.1 4) (n.toNatClampNeg, .inr (.inr (.inr (.inr (fun _ => none))))))
      rw [h9, vp_cell_q]; exact e1
    · obtain ⟨kA', comp', k1, k2, k3, k4⟩ := (hK.2 5 _ rfl).2
      have h9 : G.2.1 5 = cA := Option.some.inj (k4.symm.trans f1)
      show H1[H.size]? = some (vp_cell (G.2.1 5) (n.toNatClampNeg, .inr (.inr (.inr (.inr (fun _ => none))))))
      rw [h9, vp_cell_q]; exact e1
end RN
/-- System.arraycopy between arrays of ints -/
def cpI (μ : Mm) (a : Nat) (sp : Int32) (b : Nat) (dp n : Int32) : Option Mm := (arr μ a 0).bind fun x => (arr μ b 0).bind fun z => match x, z with
  | (n0, .inl f), (n1, .inl g) => if sp < 0 ∨ dp < 0 ∨ n < 0 ∨ n0 < sp.toNatClampNeg + n.toNatClampNeg ∨ n1 < dp.toNatClampNeg + n.toNatClampNeg then none else some (up μ b (.inl (0, n1, .inl (va_cpy f g sp.toNatClampNeg dp.toNatClampNeg n.toNatClampNeg))))
  | _, _ => none
theorem cpI_spec {μ μ1 : Mm} {a b : Nat} {sp dp n : Int32} (h : cpI μ a sp b dp n = some μ1) : ∃ n0 f n1 g, arr μ a 0 = some (n0, .inl f) ∧ arr μ b 0 = some (n1, .inl g) ∧ ¬ (sp < 0 ∨ dp < 0 ∨ n < 0 ∨ n0 < sp.toNatClampNeg + n.toNatClampNeg ∨ n1 < dp.toNatClampNeg + n.toNatClampNeg) ∧ μ1 = up μ b (.inl (0, n1, .inl (va_cpy f g sp.toNatClampNeg dp.toNatClampNeg n.toNatClampNeg))) := by
  obtain ⟨x, h1, h⟩ := bindS h
  obtain ⟨z, h2, h⟩ := bindS h
  obtain ⟨n0, f | f | f | f | f⟩ := x
  · obtain ⟨n1, g | g | g | g | g⟩ := z
    · have h : (if sp < 0 ∨ dp < 0 ∨ n < 0 ∨ n0 < sp.toNatClampNeg + n.toNatClampNeg ∨ n1 < dp.toNatClampNeg + n.toNatClampNeg then none else some (up μ b (.inl (0, n1, .inl (va_cpy f g sp.toNatClampNeg dp.toNatClampNeg n.toNatClampNeg))))) = some μ1 := h
      by_cases h0 : sp < 0 ∨ dp < 0 ∨ n < 0 ∨ n0 < sp.toNatClampNeg + n.toNatClampNeg ∨ n1 < dp.toNatClampNeg + n.toNatClampNeg
      · rw [if_pos h0] at h; cases h
      · rw [if_neg h0] at h; cases h
        exact ⟨n0, f, n1, g, h1, h2, h0, rfl⟩
    all_goals cases h
  all_goals cases h
section RC
variable {l : Launch} {G : GG} {d : Nat} {y : MethodName} {cc : ByteArray} {nL : Nat} {ret : Option FieldType} {pc : Nat} {ls : List (Nat × Value)} {st : List Value} {μ : Mm} {r : Option Value} {μ' : Mm}
theorem E_copy {α : Type} {idx a b : Nat} {sp dp n : Int32} {F : Mm → Option α} {res : α} (hd : decode cc pc = .ok (.invokestatic idx, 3)) (h1d : 1 ≤ d) (hst : (st.map fun v => v.category).sum ≤ 8) (hw : Cond.methodLink y.cls idx arraycopyName ∈ gtbl ∧ Cond.native arraycopyName ∈ gtbl ∧ Cond.static arraycopyName ∈ gtbl ∧ Cond.initialized "java/lang/System" ∈ gtbl) (hf : (cpI μ a sp b dp n).bind F = some res) (k : ∀ μ1, F μ1 = some res → Ev l G d y cc nL ret (pc + 3) ls st μ1 r μ') : Ev l G d y cc nL ret pc ls (.int n :: .int dp :: .ref b :: .int sp :: .ref a :: st) μ r μ' := by
  obtain ⟨μ1, h1, h2⟩ := bindS hf
  obtain ⟨n0, f, n1, g, h3, h4, h5, rfl⟩ := cpI_spec h1
  obtain ⟨g1, g2, g3⟩ := arr_spec h4
  refine Ev.wr (ls1 := ls) g1 g2 ?_ (k _ h2)
  intro p e R s m args below meth c H locs cells slots la Q hC hRel hh hR hl kk
  have hts := hC.2.2.2.2.2.2.2.1
  have hK := hC.2.2.2.2.2.2.2.2.1.1
  have q1 : ¬ sp < 0 := fun h => h5 (Or.inl h)
  have q2 : ¬ dp < 0 := fun h => h5 (Or.inr (Or.inl h))
  have q3 : ¬ n < 0 := fun h => h5 (Or.inr (Or.inr (Or.inl h)))
  have q4 : sp.toNatClampNeg + n.toNatClampNeg ≤ n0 := Nat.not_lt.mp fun h => h5 (Or.inr (Or.inr (Or.inr (Or.inl h))))
  have q5 : dp.toNatClampNeg + n.toNatClampNeg ≤ n1 := Nat.not_lt.mp fun h => h5 (Or.inr (Or.inr (Or.inr (Or.inr h))))
  have nn : ∀ z : Int32, ¬ z < 0 → z.toInt = (z.toNatClampNeg : Int) := by
    intro z hz
    have hz0 : (0 : Int) ≤ z.toInt := by
      have := Int32.not_lt.mp hz
      simpa using Int32.le_iff_toInt_le.mp this
    show z.toInt = ((z.toInt.toNat : Nat) : Int)
    omega
  intro T hT X
  have hc0 : H[adr G a]? = some (vp_cell (G.2.1 0) (n0, .inl f)) := hRel.arr h3 0 _ rfl
  have hc1 : H[adr G b]? = some (vp_cell (G.2.1 0) (n1, .inl g)) := hRel.arr h4 0 _ rfl
  obtain ⟨-, k0, hk0, cm0, hkk0⟩ := (hK.2 0 _ rfl).1 n0 (fun j => .int (f j))
  have hlo : (nativeFrameWords "java/lang/System" "arraycopy" 5 + 11) + 8 ≤ 64 := by decide
  obtain ⟨vm', X', step⟩ := X.arraycopy hC.1 hC.2.2.2.2.2.1 (hts _ hw.1) (hts _ hw.2.1) (hts _ hw.2.2.1) (hts _ hw.2.2.2) (src := adr G a) (dst := adr G b) (cs := vp_cell (G.2.1 0) (n0, .inl f)) (cd := vp_cell (G.2.1 0) (n1, .inl g)) (srcPos := sp) (destPos := dp) (n := n) (by rw [hT]; exact hc0) (by rw [hT]; exact hc1)
    (fun _ h => by cases h) (fun _ h => by cases h) (fun h => by cases h) (fun h => by cases h) hk0 hk0 hkk0 hkk0 (by simp [refKind]) q1 q2 q3
    (by rw [nn sp q1, nn n q3]; show ¬ _ > ((arrV (G.2.1 0) n0 (fun j => .int (f j))).slots.size : Int); rw [arrV_size]; omega)
    (by rw [nn dp q2, nn n q3]; show ¬ _ > ((arrV (G.2.1 0) n1 (fun j => .int (g j))).slots.size : Int); rw [arrV_size]; omega)
    (fun vm₁ _ i hi => by
      have e : (vp_cell (G.2.1 0) (n0, .inl f)).slots.getD (sp.toNatClampNeg + i) .null = .int (f (sp.toNatClampNeg + i)) := by
        show (arrV (G.2.1 0) n0 (fun j => .int (f j))).slots.getD _ _ = _
        rw [Array.getD_eq_getD_getElem?, arrV_read _ _ (by omega)]
        rfl
      refine ⟨?_, ?_⟩
      · rw [e]
        rfl
      · rw [e]
        exact trivial)
    (g := F0 m pc la (.int n :: .int dp :: .ref (adr G b) :: .int sp :: .ref (adr G a) :: st.map (trv G))) rfl (by rw [hC.2.2.2.2.1]; exact hl.1) (rest := st.map (trv G)) rfl (by rw [hC.2.1]; exact hd) (by omega) (by show 2 * 0 + _ + _ ≤ _; rw [trv_sum]; omega)
  have e1 : copied (vp_cell (G.2.1 0) (n0, .inl f)) (vp_cell (G.2.1 0) (n1, .inl g)) sp dp n = vp_cell (G.2.1 0) (n1, .inl (va_cpy f g sp.toNatClampNeg dp.toNatClampNeg n.toNatClampNeg)) := va_copied (fun z => .int z) (G.2.1 0) (G.2.1 0) f g q4
  rw [e1] at X' step
  have hlt : adr G b < H.size := (Array.getElem?_eq_some_iff.mp hc1).1
  have hheap : ((T.setVm vm').setCell (adr G b) (vp_cell (G.2.1 0) (n1, .inl (va_cpy f g sp.toNatClampNeg dp.toNatClampNeg n.toNatClampNeg)))).heap = H.setIfInBounds (adr G b) (vp_cell (G.2.1 0) (n1, .inl (va_cpy f g sp.toNatClampNeg dp.toNatClampNeg n.toNatClampNeg))) := by rw [← hT]; rfl
  obtain ⟨t, a1, b1⟩ := kk _ _ (show (H.setIfInBounds (adr G b) _)[adr G b]? = some _ by simp [Array.getElem?_setIfInBounds, hlt]; rfl) (by simp) (fun q hq => by simp [Array.getElem?_setIfInBounds, Ne.symm hq]) (fun q hq => by
      rcases List.mem_append.mp hq with h | h
      · exact Or.inl h
      · obtain ⟨z, -, hz⟩ := List.mem_map.mp h
        rw [← hz]
        exact Or.inr rfl) _ hheap X'
  exact ⟨t, step t a1, b1⟩
theorem E_objI {idx a : Nat} (hd : decode cc pc = .ok (.invokespecial idx, 3)) (h1d : 1 ≤ d) (hst : (st.map fun v => v.category).sum ≤ 8) (hw : Cond.methodLink y.cls idx objectInit ∈ gtbl ∧ Cond.instanceMethod objectInit ∈ gtbl ∧ Cond.code objectInit ⟨#[0xb1]⟩ 1 none ∈ gtbl) (k : Ev l G d y cc nL ret (pc + 3) ls st μ r μ') : Ev l G d y cc nL ret pc ls (.ref a :: st) μ r μ' :=
  Ev.pure (fun p e R s m args below meth c H locs cells slots la Q hC hR hRel hh hlocs hl k => W.objInit hC.1 hC.2.1 hC.2.2.2.2.2.1 (hC.2.2.2.2.2.2.2.1 _ hw.1) (hC.2.2.2.2.2.2.2.1 _ hw.2.1) (hC.2.2.2.2.2.2.2.1 _ hw.2.2) rfl (by rw [hC.2.2.2.2.1]; exact hl.1) rfl hd (by omega) (by show 2 * 0 + _ + _ ≤ _; rw [trv_sum]; omega) k) k
end RC
