/-! Calls. -/
/-- a method, from its entry -/
def EvM (l : Launch) (G : GG) (d : Nat) (y : MethodName) (cc : ByteArray) (nL : Nat) (ret : Option FieldType) (as : List Value) (μ : Mm) (r : Option Value) (μ' : Mm) : Prop := Ev l G d y cc nL ret 0 (lv_args 0 as) [] μ r μ'
theorem lv_args_map (G : GG) : ∀ (as : List Value) (i : Nat), lv_args i (as.map (trv G)) = (lv_args i as).map (trl G)
  | [], _ => rfl
  | v :: as, i => by
    rw [List.map_cons, lv_args, lv_args, List.map_cons, trv_cat, lv_args_map G as]
    rfl
theorem good_all {y : MethodName} {cc : ByteArray} {nL : Nat} {ret : Option FieldType} (h : Cond.code y cc nL ret ∈ gtbl) : GoodIn gtbl (Cond.code y cc nL ret :: gtbl) := by
  have h1 : ∀ w ∈ gtbl, (w.onTables && w.keeps) = true ∨ ∃ ty, w = .arrayClass ty := fun w hw => good_of_word (List.mem_filter.mp hw).2
  intro w hw
  rcases List.mem_cons.mp hw with rfl | hw
  · exact ⟨h, h1 _ h⟩
  · exact ⟨hw, h1 _ hw⟩
def Pm (G : GG) (as : List Value) (μ : Mm) : Array Value → State → Prop := va_Pc (as.map (trv G)) (fun U => Rel G μ U.heap ∧ KK G U)
def rmD (d mc ms : Nat) : Room := { frames := d, cells := mc, slots := ms, locals := 64 * d }
theorem Pm.blind {G : GG} {as : List Value} {μ : Mm} : FrameBlind (Pm G as μ) := by
  intro a U g mk h
  obtain ⟨h1, h2, h3⟩ := h
  refine ⟨h1, h2, ?_⟩
  have hz : gB G ≤ U.heap.size := by have := h2.2.1; omega
  exact h3.moved (State.WarmedH.refl U) (fun q _ => rfl) hz
theorem EvM.met {l : Launch} {G : GG} {d : Nat} {y : MethodName} {cc : ByteArray} {nL : Nat} {ret : Option FieldType} {as : List Value} {μ : Mm} {r : Option Value} {μ' : Mm} (h : EvM l G d y cc nL ret as μ r μ') (hy : plainName y.cls = true) (hfit : (lg_sl (as.map (trv G))).length ≤ nL) :
    Met l y (Cond.code y cc nL ret :: gtbl) (rmD d (μ'.1 - μ.1) (μ'.2.1 - μ.2.1)) (Pm G as μ) (Qe G r μ') (μ'.1 - μ.1) (μ'.2.1 - μ.2.1) (fun q => gB G ≤ q) := by
  refine Met.ofW (cc := cc) (maxL := nL) (ret := ret) hy rfl ?_
  intro p e s m args below meth c s₁ B hml hv
  obtain ⟨rfl, hRel, hK⟩ := hv
  have hts := atoms_spec (ws := Cond.code y cc nL ret :: gtbl) B.pre
  have hown : s.vm.findClass y.cls = some m.cls := findClass_of_methodNamed B.named
  have hz : gB G ≤ s.heap.size := by have := hRel.2.1; omega
  have hl := lv_entry (as.map (trv G)) (n := nL) hfit
  rw [lg_entry_eq]
  rw [lv_args_map] at hl
  have h2 := h.2 p e (headSpec (Cond.code y cc nL ret :: gtbl) (rmD d (μ'.1 - μ.1) (μ'.2.1 - μ.2.1))).room s m _ below meth c s.heap [] 0 0 _ ⟨B.exec, B.bytes, B.returns, B.notSynchronized, hml, hown, (name_of_methodNamed B.named B.method).1, fun w hw => hts w (List.mem_cons_of_mem _ hw), hK, hz⟩ ⟨Nat.le_refl _, Nat.le_refl _, by rw [Nat.zero_add]; exact Nat.le_refl _, by rw [Nat.zero_add]; exact Nat.le_refl _⟩ hRel (fun q _ => rfl) (fun q hq => by cases hq) hl
  rw [Nat.zero_add, Nat.zero_add] at h2
  exact h2
section RK
variable {l : Launch} {G : GG} {d : Nat} {y : MethodName} {cc : ByteArray} {nL : Nat} {ret : Option FieldType} {pc : Nat} {ls : List (Nat × Value)} {st : List Value} {μ : Mm} {r : Option Value} {μ' : Mm}
variable {idx d2 nL2 n : Nat} {y2 : MethodName} {cc2 : ByteArray} {ret2 : Option FieldType} {As : List Value} {r2 : Option Value} {μ1 : Mm} {rest : List Value}
/-- behind a call -/
theorem Ev.run {a2 : Array Value} (hn : μ.1 ≤ μ1.1 ∧ μ.2.1 ≤ μ1.2.1)
    (h : ∀ (p : Program) (e : Env) (R : Room) (s : State) (m : MethodId) (args : Array Value) (below : List Frame) (meth : Method) (c : Code) (H : Heap) (locs : List Loc) (cells slots : Nat) (la : Array Slot),
      Cx G y cc nL ret p s m args meth c → (d ≤ R.frames ∧ 64 * d ≤ R.locals ∧ cells + (μ1.1 - μ.1) ≤ R.cells ∧ slots + (μ1.2.1 - μ.2.1) ≤ R.slots) → Rel G μ H → (∀ q, q < gB G → H[q]? = s.heap[q]?) → lv_has la nL (ls.map (trl G)) →
      va_Run p l e R s m args below meth c H locs cells slots (μ1.1 - μ.1) (μ1.2.1 - μ.2.1) (F0 m pc la (st.map (trv G))) (rest.map (trv G)) (Qe G r2 μ1 a2) (fun q => gB G ≤ q))
    (k : Ev l G d y cc nL ret (pc + 3) ls (r2.toList ++ rest) μ1 r μ') : Ev l G d y cc nL ret pc ls st μ r μ' := by
  refine Ev.gen hn ?_ k
  intro p e R s m args below meth c H locs cells slots la Q hC hR hRel hh hlocs hl kk
  intro T hT X
  obtain ⟨v, st₀, t, T', L, h0, X', hL, e1, e2, ⟨hv, hr1, hq1⟩, stp⟩ := h p e R s m args below meth c H locs cells slots la hC hR hRel hh hl T hT X
  cases hv
  have ee : (r2.toList ++ rest).map (trv G) = (r2.map (trv G)).toList ++ rest.map (trv G) := by cases r2 <;> rfl
  obtain ⟨t2, a1, b1⟩ := kk T'.heap (locs ++ L) la (by rw [e1]; exact hr1) (fun q hq => by rw [e1, hq1 q hq, h0]; exact hh q hq) (fun q hq => by
    rcases List.mem_append.mp hq with h | h
    · exact hlocs q h
    · exact hL q h) hl T' rfl X'
  rw [ee] at a1
  exact ⟨t2, stp t2 a1, b1⟩
theorem cbR {R : Room} {d2 d nL2 mc ms : Nat} (h : d2 < d) (hR : d ≤ R.frames ∧ 64 * d ≤ R.locals) (hn : nL2 ≤ 45) : (rmD d2 mc ms).frames + 1 ≤ R.frames ∧ 8 + (nL2 + 11) + (rmD d2 mc ms).locals ≤ R.locals := by
  show d2 + 1 ≤ _ ∧ 8 + (nL2 + 11) + 64 * d2 ≤ _
  omega
theorem pmU {s U : State} {H : Heap} {as : List Value} (hC : KK G s) (hz : gB G ≤ s.heap.size) (hRel : Rel G μ H) (hh : ∀ q, q < gB G → H[q]? = s.heap[q]?) (hU : U.heap = H) (hW : s.WarmedH U.vm) : Pm G as μ (as.map (trv G)).toArray U :=
  ⟨rfl, by rw [hU]; exact hRel, hC.moved hW (fun q hq => by rw [hU]; exact hh q hq) hz⟩
theorem E_V {a ci : Nat} {fs : List Value} {C : String} {T : u_T} {N : Nat} (hd : decode cc pc = .ok (.invokevirtual idx, 3)) (hl : Cond.methodLink y.cls idx y2 ∈ gtbl) (hm : MF y2 cc2 nL2 ret2 n) (hi : IM y2) (hci : classes[ci]? = some (C, T, N)) (hC2 : C = y2.cls) (ho : ob μ a ci = some fs) (hlen : As.length = n) (hd2 : d2 < d) (hfit : (lg_sl ((.ref a :: As).map (trv G))).length ≤ nL2) (hsum : (rest.map fun v => v.category).sum ≤ 8) (hst : st = As.reverse ++ .ref a :: rest)
    (hM : EvM l G d2 y2 cc2 nL2 ret2 (.ref a :: As) μ r2 μ1) (k : Ev l G d y cc nL ret (pc + 3) ls (r2.toList ++ rest) μ1 r μ') : Ev l G d y cc nL ret pc ls st μ r μ' := by
  subst hst
  obtain ⟨hm1, hm2, hm3, hm4, hm5⟩ := hm
  refine Ev.run (a2 := ((Value.ref a :: As).map (trv G)).toArray) hM.1 ?_ k
  intro p e R s m args below meth c H locs cells slots la hC hR hRel hh hl2
  have hts := hC.2.2.2.2.2.2.2.1
  have hKK := hC.2.2.2.2.2.2.2.2.1
  have hcb : CallB R s args y.cls idx y2 cc2 nL2 ret2 (Cond.code y2 cc2 nL2 ret2 :: gtbl) (rmD d2 (μ1.1 - μ.1) (μ1.2.1 - μ.2.1)) (μ1.1 - μ.1) (μ1.2.1 - μ.2.1) n := callB_of n hts (good_all hm1) rfl rfl rfl (hts _ hm2) (hts _ hl) hm3 (cbR hd2 ⟨hR.1, hR.2.1⟩ hm5)
  refine va_runV (C := y2.cls) (As := As.map (trv G)) (b := adr G a) ⟨hC.1, hC.2.1, hC.2.2.2.2.1, hC.2.2.2.2.2.1, hts⟩ (hM.met hm4 hfit) ⟨hcb, hts _ hi.1, hts _ hi.2⟩ ⟨Pm.blind, ?_, fun U hU hW => pmU (as := .ref a :: As) hKK hC.2.2.2.2.2.2.2.2.2 hRel hh hU hW⟩ rfl (by rw [List.length_map]; exact hlen) hl2.1 (by simp [List.map_reverse, trv_ref]) (lv_room (by rw [trv_sum]; exact hsum)) hd ⟨hR.2.2.1, hR.2.2.2⟩
  rw [← hC2]
  exact va_recv hKK.1 (hRel.ob ho) hci (q0 := 0) rfl
theorem E_S (hd : decode cc pc = .ok (.invokestatic idx, 3)) (hl : Cond.methodLink y.cls idx y2 ∈ gtbl) (hm : MF y2 cc2 nL2 ret2 n) (hi : Cond.static y2 ∈ gtbl) (hlen : As.length = n) (hd2 : d2 < d) (hfit : (lg_sl (As.map (trv G))).length ≤ nL2) (hsum : (rest.map fun v => v.category).sum ≤ 8) (hst : st = As.reverse ++ rest)
    (hM : EvM l G d2 y2 cc2 nL2 ret2 As μ r2 μ1) (k : Ev l G d y cc nL ret (pc + 3) ls (r2.toList ++ rest) μ1 r μ') : Ev l G d y cc nL ret pc ls st μ r μ' := by
  subst hst
  obtain ⟨hm1, hm2, hm3, hm4, hm5⟩ := hm
  refine Ev.run (a2 := (As.map (trv G)).toArray) hM.1 ?_ k
  intro p e R s m args below meth c H locs cells slots la hC hR hRel hh hl2
  have hts := hC.2.2.2.2.2.2.2.1
  have hKK := hC.2.2.2.2.2.2.2.2.1
  have hcb : CallB R s args y.cls idx y2 cc2 nL2 ret2 (Cond.code y2 cc2 nL2 ret2 :: gtbl) (rmD d2 (μ1.1 - μ.1) (μ1.2.1 - μ.2.1)) (μ1.1 - μ.1) (μ1.2.1 - μ.2.1) n := callB_of n hts (good_all hm1) rfl rfl rfl (hts _ hm2) (hts _ hl) hm3 (cbR hd2 ⟨hR.1, hR.2.1⟩ hm5)
  exact va_runS (As := As.map (trv G)) ⟨hC.1, hC.2.1, hC.2.2.2.2.1, hC.2.2.2.2.2.1, hts⟩ (hM.met hm4 hfit) ⟨hcb, hts _ hi⟩ ⟨Pm.blind, fun U hU hW => pmU (as := As) hKK hC.2.2.2.2.2.2.2.2.2 hRel hh hU hW⟩ rfl (by rw [List.length_map]; exact hlen) hl2.1 (by simp [List.map_reverse]) (lv_room (by rw [trv_sum]; exact hsum)) hd ⟨hR.2.2.1, hR.2.2.2⟩
theorem E_I {a : Nat} (hd : decode cc pc = .ok (.invokespecial idx, 3)) (hl : Cond.methodLink y.cls idx y2 ∈ gtbl) (hm : MF y2 cc2 nL2 none n) (hi : Cond.instanceMethod y2 ∈ gtbl) (hnm : y2.name = "<init>") (hlen : As.length = n) (hd2 : d2 < d) (hfit : (lg_sl ((.ref a :: As).map (trv G))).length ≤ nL2) (hsum : (rest.map fun v => v.category).sum ≤ 8) (hst : st = As.reverse ++ .ref a :: rest)
    (hM : EvM l G d2 y2 cc2 nL2 none (.ref a :: As) μ none μ1) (k : Ev l G d y cc nL ret (pc + 3) ls rest μ1 r μ') : Ev l G d y cc nL ret pc ls st μ r μ' := by
  subst hst
  obtain ⟨hm1, hm2, hm3, hm4, hm5⟩ := hm
  refine Ev.run (r2 := none) (rest := rest) (a2 := ((Value.ref a :: As).map (trv G)).toArray) hM.1 ?_ k
  intro p e R s m args below meth c H locs cells slots la hC hR hRel hh hl2
  have hts := hC.2.2.2.2.2.2.2.1
  have hKK := hC.2.2.2.2.2.2.2.2.1
  have hcb : CallB R s args y.cls idx y2 cc2 nL2 none (Cond.code y2 cc2 nL2 none :: gtbl) (rmD d2 (μ1.1 - μ.1) (μ1.2.1 - μ.2.1)) (μ1.1 - μ.1) (μ1.2.1 - μ.2.1) n := callB_of n hts (good_all hm1) rfl rfl rfl (hts _ hm2) (hts _ hl) hm3 (cbR hd2 ⟨hR.1, hR.2.1⟩ hm5)
  exact va_runI (As := As.map (trv G)) (b := adr G a) ⟨hC.1, hC.2.1, hC.2.2.2.2.1, hC.2.2.2.2.2.1, hts⟩ (hM.met hm4 hfit) ⟨hcb, hnm, hts _ hi⟩ ⟨Pm.blind, fun U hU hW => pmU (as := .ref a :: As) hKK hC.2.2.2.2.2.2.2.2.2 hRel hh hU hW⟩ rfl (by rw [List.length_map]; exact hlen) hl2.1 (by simp [List.map_reverse, trv_ref]) (lv_room (by rw [trv_sum]; exact hsum)) hd ⟨hR.2.2.1, hR.2.2.2⟩
/-- a nest mate's constructor -/
theorem E_IN {a : Nat} {host : String} (hd : decode cc pc = .ok (.invokespecial idx, 3)) (hl : (y.cls, idx, y2, host) ∈ nests) (hm : MF y2 cc2 nL2 none n) (hi : Cond.instanceMethod y2 ∈ gtbl) (hnm : y2.name = "<init>") (hlen : As.length = n) (hd2 : d2 < d) (hfit : (lg_sl ((.ref a :: As).map (trv G))).length ≤ nL2) (hsum : (rest.map fun v => v.category).sum ≤ 8) (hst : st = As.reverse ++ .ref a :: rest)
    (hM : EvM l G d2 y2 cc2 nL2 none (.ref a :: As) μ none μ1) (k : Ev l G d y cc nL ret (pc + 3) ls rest μ1 r μ') : Ev l G d y cc nL ret pc ls st μ r μ' := by
  subst hst
  obtain ⟨hm1, hm2, hm3, hm4, hm5⟩ := hm
  refine Ev.run (r2 := none) (rest := rest) (a2 := ((Value.ref a :: As).map (trv G)).toArray) hM.1 ?_ k
  intro p e R s m args below meth c H locs cells slots la hC hR hRel hh hl2
  have hts := hC.2.2.2.2.2.2.2.1
  have hKK := hC.2.2.2.2.2.2.2.2.1
  have hcb : va_CN R s args y.cls idx y2 host cc2 nL2 none (Cond.code y2 cc2 nL2 none :: gtbl) (rmD d2 (μ1.1 - μ.1) (μ1.2.1 - μ.2.1)) (μ1.1 - μ.1) (μ1.2.1 - μ.2.1) n := by
    refine ⟨⟨rfl, rfl, (cbR hd2 ⟨hR.1, hR.2.1⟩ hm5).1, (cbR hd2 ⟨hR.1, hR.2.1⟩ hm5).2, pay_in hts (good_all hm1), List.mem_cons_self⟩, hts _ hm1, hts _ hm2, ⟨hm3.1, hm3.2.1⟩, fun sig h => ?_, va_Nw.use rfl (hKK.2.2.2.2.2.2.2.2.2 _ hl)⟩
    have h2 := hm3.2.2
    rw [h] at h2
    exact (Option.some.inj h2).symm
  exact va_runIN (As := As.map (trv G)) (b := adr G a) ⟨hC.1, hC.2.1, hC.2.2.2.2.1, hC.2.2.2.2.2.1, hts⟩ (hM.met hm4 hfit) ⟨hcb, hnm, hts _ hi⟩ ⟨Pm.blind, fun U hU hW => pmU (as := .ref a :: As) hKK hC.2.2.2.2.2.2.2.2.2 hRel hh hU hW⟩ rfl (by rw [List.length_map]; exact hlen) hl2.1 (by simp [List.map_reverse, trv_ref]) (lv_room (by rw [trv_sum]; exact hsum)) hd ⟨hR.2.2.1, hR.2.2.2⟩
theorem Ev.mono {d' : Nat} (hd : d ≤ d') (k : Ev l G d y cc nL ret pc ls st μ r μ') : Ev l G d' y cc nL ret pc ls st μ r μ' := by
  refine ⟨k.1, ?_⟩
  intro p e R s m args below meth c H locs cells slots la hC hR hRel hh hlocs hl
  exact k.2 p e R s m args below meth c H locs cells slots la hC ⟨by omega, by omega, hR.2.2.1, hR.2.2.2⟩ hRel hh hlocs hl
end RK
