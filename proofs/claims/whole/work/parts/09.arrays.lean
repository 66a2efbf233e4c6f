/-! Arrays: tags 0 int, 1 byte, 2 boolean, 3 long, 4 of rules, 5 of schools. -/
def arr (μ : Mm) (a t : Nat) : Option vp_A := if 128 ≤ a ∧ a < μ.1 then (match μ.2.2 a with
  | .inl x => if x.1 = t then some x.2 else none
  | .inr _ => none) else none
def aI (μ : Mm) (a t : Nat) (i : Int32) : Option Int32 := (arr μ a t).bind fun x => match x with
  | (n, .inl f) => if i < 0 ∨ n ≤ i.toNatClampNeg then none else some (f i.toNatClampNeg)
  | _ => none
def aL (μ : Mm) (a t : Nat) (i : Int32) : Option Int64 := (arr μ a t).bind fun x => match x with
  | (n, .inr (.inl f)) => if i < 0 ∨ n ≤ i.toNatClampNeg then none else some (f i.toNatClampNeg)
  | _ => none
def aR (μ : Mm) (a t : Nat) (i : Int32) : Option (Option Nat) := (arr μ a t).bind fun x => match x with
  | (n, .inr (.inr (.inr (.inr f)))) => if i < 0 ∨ n ≤ i.toNatClampNeg then none else some (f i.toNatClampNeg)
  | _ => none
def aN (μ : Mm) (a t : Nat) : Option Int32 := (arr μ a t).map fun x => Int32.ofNat x.1
def narT (t : Nat) (x : Int32) : Int32 := if t = 1 then vp_nar .byte x else if t = 2 then vp_nar .boolean x else x
def sI (μ : Mm) (a t : Nat) (i x : Int32) : Option Mm := (arr μ a t).bind fun z => match z with
  | (n, .inl f) => if i < 0 ∨ n ≤ i.toNatClampNeg then none else some (up μ a (.inl (t, n, .inl (upd f i.toNatClampNeg (narT t x)))))
  | _ => none
def sL (μ : Mm) (a t : Nat) (i : Int32) (x : Int64) : Option Mm := (arr μ a t).bind fun z => match z with
  | (n, .inr (.inl f)) => if i < 0 ∨ n ≤ i.toNatClampNeg then none else some (up μ a (.inl (t, n, .inr (.inl (vp_updL f i.toNatClampNeg x)))))
  | _ => none
def sR (μ : Mm) (a t : Nat) (i : Int32) (ci v : Nat) : Option Mm := (ob μ v ci).bind fun _ => (arr μ a t).bind fun z => match z with
  | (n, .inr (.inr (.inr (.inr f)))) => if i < 0 ∨ n ≤ i.toNatClampNeg then none else some (up μ a (.inl (t, n, .inr (.inr (.inr (.inr (va_up f i.toNatClampNeg (some v))))))))
  | _ => none
theorem arr_spec {μ : Mm} {a t : Nat} {x : vp_A} (h : arr μ a t = some x) : 128 ≤ a ∧ a < μ.1 ∧ μ.2.2 a = .inl (t, x) := by
  unfold arr at h
  by_cases h0 : 128 ≤ a ∧ a < μ.1
  · rw [if_pos h0] at h
    cases he : μ.2.2 a with
    | inr o => rw [he] at h; cases h
    | inl q =>
      obtain ⟨c, f⟩ := q
      rw [he] at h
      have h : (if c = t then some f else none) = some x := h
      by_cases hc : c = t
      · rw [if_pos hc] at h
        cases h
        exact ⟨h0.1, h0.2, by rw [hc]⟩
      · rw [if_neg hc] at h
        cases h
  · rw [if_neg h0] at h; cases h
theorem Rel.arr {G : GG} {μ : Mm} {H : Heap} (h : Rel G μ H) {a t : Nat} {x : vp_A} (ho : arr μ a t = some x) : va_P G.1 classes [(adr G a, .inl (G.2.1 t, tra G x))] H := by
  obtain ⟨h1, h2, h3⟩ := arr_spec ho
  have h4 := h.2.2 a h1 h2
  rw [h3] at h4
  intro k q hq
  match k, hq with
  | 0, hq => cases hq; exact h4
  | k + 1, hq => cases hq
theorem aI_spec {μ : Mm} {a t : Nat} {i x : Int32} (h : aI μ a t i = some x) : ∃ n f, arr μ a t = some (n, .inl f) ∧ vp_in i n ∧ x = f i.toNatClampNeg := by
  obtain ⟨z, h1, h2⟩ := bindS h
  obtain ⟨n, f | f | f | f | f⟩ := z
  · have h2 : (if i < 0 ∨ n ≤ i.toNatClampNeg then none else some (f i.toNatClampNeg)) = some x := h2
    by_cases h0 : i < 0 ∨ n ≤ i.toNatClampNeg
    · rw [if_pos h0] at h2; cases h2
    · rw [if_neg h0] at h2; cases h2
      exact ⟨n, f, h1, h0, rfl⟩
  all_goals cases h2
theorem aL_spec {μ : Mm} {a t : Nat} {i : Int32} {x : Int64} (h : aL μ a t i = some x) : ∃ n f, arr μ a t = some (n, .inr (.inl f)) ∧ vp_in i n ∧ x = f i.toNatClampNeg := by
  obtain ⟨z, h1, h2⟩ := bindS h
  obtain ⟨n, f | f | f | f | f⟩ := z
  case inr.inl =>
    have h2 : (if i < 0 ∨ n ≤ i.toNatClampNeg then none else some (f i.toNatClampNeg)) = some x := h2
    by_cases h0 : i < 0 ∨ n ≤ i.toNatClampNeg
    · rw [if_pos h0] at h2; cases h2
    · rw [if_neg h0] at h2; cases h2
      exact ⟨n, f, h1, h0, rfl⟩
  all_goals cases h2
theorem aR_spec {μ : Mm} {a t : Nat} {i : Int32} {x : Option Nat} (h : aR μ a t i = some x) : ∃ n f, arr μ a t = some (n, .inr (.inr (.inr (.inr f)))) ∧ vp_in i n ∧ x = f i.toNatClampNeg := by
  obtain ⟨z, h1, h2⟩ := bindS h
  obtain ⟨n, f | f | f | f | f⟩ := z
  case inr.inr.inr.inr =>
    have h2 : (if i < 0 ∨ n ≤ i.toNatClampNeg then none else some (f i.toNatClampNeg)) = some x := h2
    by_cases h0 : i < 0 ∨ n ≤ i.toNatClampNeg
    · rw [if_pos h0] at h2; cases h2
    · rw [if_neg h0] at h2; cases h2
      exact ⟨n, f, h1, h0, rfl⟩
  all_goals cases h2
theorem sI_spec {μ μ1 : Mm} {a t : Nat} {i x : Int32} (h : sI μ a t i x = some μ1) : ∃ n f, arr μ a t = some (n, .inl f) ∧ vp_in i n ∧ μ1 = up μ a (.inl (t, n, .inl (upd f i.toNatClampNeg (narT t x)))) := by
  obtain ⟨z, h1, h2⟩ := bindS h
  obtain ⟨n, f | f | f | f | f⟩ := z
  · have h2 : (if i < 0 ∨ n ≤ i.toNatClampNeg then none else some (up μ a (.inl (t, n, .inl (upd f i.toNatClampNeg (narT t x)))))) = some μ1 := h2
    by_cases h0 : i < 0 ∨ n ≤ i.toNatClampNeg
    · rw [if_pos h0] at h2; cases h2
    · rw [if_neg h0] at h2; cases h2
      exact ⟨n, f, h1, h0, rfl⟩
  all_goals cases h2
theorem sL_spec {μ μ1 : Mm} {a t : Nat} {i : Int32} {x : Int64} (h : sL μ a t i x = some μ1) : ∃ n f, arr μ a t = some (n, .inr (.inl f)) ∧ vp_in i n ∧ μ1 = up μ a (.inl (t, n, .inr (.inl (vp_updL f i.toNatClampNeg x)))) := by
  obtain ⟨z, h1, h2⟩ := bindS h
  obtain ⟨n, f | f | f | f | f⟩ := z
  case inr.inl =>
    have h2 : (if i < 0 ∨ n ≤ i.toNatClampNeg then none else some (up μ a (.inl (t, n, .inr (.inl (vp_updL f i.toNatClampNeg x)))))) = some μ1 := h2
    by_cases h0 : i < 0 ∨ n ≤ i.toNatClampNeg
    · rw [if_pos h0] at h2; cases h2
    · rw [if_neg h0] at h2; cases h2
      exact ⟨n, f, h1, h0, rfl⟩
  all_goals cases h2
theorem sR_spec {μ μ1 : Mm} {a t ci v : Nat} {i : Int32} (h : sR μ a t i ci v = some μ1) : ∃ n f fs, ob μ v ci = some fs ∧ arr μ a t = some (n, .inr (.inr (.inr (.inr f)))) ∧ vp_in i n ∧ μ1 = up μ a (.inl (t, n, .inr (.inr (.inr (.inr (va_up f i.toNatClampNeg (some v))))))) := by
  obtain ⟨fs, h3, h⟩ := bindS h
  obtain ⟨z, h1, h2⟩ := bindS h
  obtain ⟨n, f | f | f | f | f⟩ := z
  case inr.inr.inr.inr =>
    have h2 : (if i < 0 ∨ n ≤ i.toNatClampNeg then none else some (up μ a (.inl (t, n, .inr (.inr (.inr (.inr (va_up f i.toNatClampNeg (some v)))))))) ) = some μ1 := h2
    by_cases h0 : i < 0 ∨ n ≤ i.toNatClampNeg
    · rw [if_pos h0] at h2; cases h2
    · rw [if_neg h0] at h2; cases h2
      exact ⟨n, f, fs, h3, h1, h0, rfl⟩
  all_goals cases h2
theorem trv_rf (G : GG) (o : Option Nat) : trv G (va_rf o) = va_rf (o.map (adr G)) := by cases o <;> rfl
section RA
variable {l : Launch} {G : GG} {d : Nat} {y : MethodName} {cc : ByteArray} {nL : Nat} {ret : Option FieldType} {pc : Nat} {ls : List (Nat × Value)} {st : List Value} {μ : Mm} {r : Option Value} {μ' : Mm}
theorem E_iald {α : Type} {a : Nat} {i : Int32} {F : Int32 → Option α} {res : α} (hd : decode cc pc = .ok (.iaload, 1)) (hf : (aI μ a 0 i).bind F = some res) (k : ∀ v, F v = some res → Ev l G d y cc nL ret (pc + 1) ls (.int v :: st) μ r μ') : Ev l G d y cc nL ret pc ls (.int i :: .ref a :: st) μ r μ' := by
  obtain ⟨v, h1, h2⟩ := bindS hf
  obtain ⟨n, f, h3, h4, rfl⟩ := aI_spec h1
  exact Ev.pure (fun p e R s m args below meth c H locs cells slots la Q hC hR hRel hh hlocs hl k => va_iald hC.1 hC.2.1 hC.2.2.2.2.2.2.2.2.1.1 (hRel.arr h3) 0 0 rfl rfl h4 hd k) (k _ h2)
theorem E_bald {α : Type} {a : Nat} {i : Int32} {F : Int32 → Option α} {res : α} (hd : decode cc pc = .ok (.baload, 1)) (hf : (aI μ a 1 i).bind F = some res) (k : ∀ v, F v = some res → Ev l G d y cc nL ret (pc + 1) ls (.int v :: st) μ r μ') : Ev l G d y cc nL ret pc ls (.int i :: .ref a :: st) μ r μ' := by
  obtain ⟨v, h1, h2⟩ := bindS hf
  obtain ⟨n, f, h3, h4, rfl⟩ := aI_spec h1
  exact Ev.pure (fun p e R s m args below meth c H locs cells slots la Q hC hR hRel hh hlocs hl k => va_bald hC.1 hC.2.1 hC.2.2.2.2.2.2.2.2.1.1 (hRel.arr h3) 0 1 rfl rfl h4 hd k) (k _ h2)
theorem E_zald {α : Type} {a : Nat} {i : Int32} {F : Int32 → Option α} {res : α} (hd : decode cc pc = .ok (.baload, 1)) (hf : (aI μ a 2 i).bind F = some res) (k : ∀ v, F v = some res → Ev l G d y cc nL ret (pc + 1) ls (.int v :: st) μ r μ') : Ev l G d y cc nL ret pc ls (.int i :: .ref a :: st) μ r μ' := by
  obtain ⟨v, h1, h2⟩ := bindS hf
  obtain ⟨n, f, h3, h4, rfl⟩ := aI_spec h1
  exact Ev.pure (fun p e R s m args below meth c H locs cells slots la Q hC hR hRel hh hlocs hl k => va_zald hC.1 hC.2.1 hC.2.2.2.2.2.2.2.2.1.1 (hRel.arr h3) 0 2 rfl rfl h4 hd k) (k _ h2)
theorem E_lald {α : Type} {a : Nat} {i : Int32} {F : Int64 → Option α} {res : α} (hd : decode cc pc = .ok (.laload, 1)) (hf : (aL μ a 3 i).bind F = some res) (k : ∀ v, F v = some res → Ev l G d y cc nL ret (pc + 1) ls (.long v :: st) μ r μ') : Ev l G d y cc nL ret pc ls (.int i :: .ref a :: st) μ r μ' := by
  obtain ⟨v, h1, h2⟩ := bindS hf
  obtain ⟨n, f, h3, h4, rfl⟩ := aL_spec h1
  exact Ev.pure (fun p e R s m args below meth c H locs cells slots la Q hC hR hRel hh hlocs hl k => va_lald hC.1 hC.2.1 hC.2.2.2.2.2.2.2.2.1.1 (hRel.arr h3) 0 3 rfl rfl h4 hd k) (k _ h2)
theorem E_aald {α : Type} {a t : Nat} {i : Int32} {F : Option Nat → Option α} {res : α} (hd : decode cc pc = .ok (.aaload, 1)) (ht : t = 4 ∨ t = 5) (hf : (aR μ a t i).bind F = some res) (k : ∀ v, F v = some res → Ev l G d y cc nL ret (pc + 1) ls (va_rf v :: st) μ r μ') : Ev l G d y cc nL ret pc ls (.int i :: .ref a :: st) μ r μ' := by
  obtain ⟨v, h1, h2⟩ := bindS hf
  obtain ⟨n, f, h3, h4, rfl⟩ := aR_spec h1
  refine Ev.pure (fun p e R s m args below meth c H locs cells slots la Q hC hR hRel hh hlocs hl k => ?_) (k _ h2)
  rw [List.map_cons, trv_rf] at k
  rcases ht with rfl | rfl
  · exact va_aldq (C := "FallSchool$Rule") hC.1 hC.2.1 hC.2.2.2.2.2.2.2.2.1.1 (hRel.arr h3) 0 4 rfl rfl h4 hd k
  · exact va_aldq (C := "FallSchool$School") hC.1 hC.2.1 hC.2.2.2.2.2.2.2.2.1.1 (hRel.arr h3) 0 5 rfl rfl h4 hd k
theorem E_alen {α : Type} {a : Nat} (t : Nat) {F : Int32 → Option α} {res : α} (hd : decode cc pc = .ok (.arraylength, 1)) (ht : t = 0 ∨ t = 1) (hf : (aN μ a t).bind F = some res) (k : ∀ v, F v = some res → Ev l G d y cc nL ret (pc + 1) ls (.int v :: st) μ r μ') : Ev l G d y cc nL ret pc ls (.ref a :: st) μ r μ' := by
  obtain ⟨v, h1, h2⟩ := bindS hf
  obtain ⟨x, h3, rfl⟩ := Option.map_eq_some_iff.mp h1
  refine Ev.pure (fun p e R s m args below meth c H locs cells slots la Q hC hR hRel hh hlocs hl k => ?_) (k _ h2)
  have e1 : (tra G x).1 = x.1 := by
    obtain ⟨n, f | f | f | f | f⟩ := x <;> rfl
  rcases ht with rfl | rfl
  · exact va_alen (ty := .int) hC.1 hC.2.1 hC.2.2.2.2.2.2.2.2.1.1 (hRel.arr h3) 0 0 rfl rfl (by rw [e1]) hd k
  · exact va_alen (ty := .byte) hC.1 hC.2.1 hC.2.2.2.2.2.2.2.2.1.1 (hRel.arr h3) 0 1 rfl rfl (by rw [e1]) hd k
theorem lcA {locs : List Loc} {a i : Nat} : ∀ q ∈ locs ++ [(⟨a, i⟩ : Loc)], q ∈ locs ∨ q.base = a := fun q hq => by
  rcases List.mem_append.mp hq with h | h
  · exact Or.inl h
  · rw [List.mem_singleton.mp h]; exact Or.inr rfl
theorem E_iast {α : Type} {a : Nat} {i x : Int32} {F : Mm → Option α} {res : α} (hd : decode cc pc = .ok (.iastore, 1)) (hf : (sI μ a 0 i x).bind F = some res) (k : ∀ μ1, F μ1 = some res → Ev l G d y cc nL ret (pc + 1) ls st μ1 r μ') : Ev l G d y cc nL ret pc ls (.int x :: .int i :: .ref a :: st) μ r μ' := by
  obtain ⟨μ1, h1, h2⟩ := bindS hf
  obtain ⟨n, f, h3, h4, rfl⟩ := sI_spec h1
  obtain ⟨g1, g2, g3⟩ := arr_spec h3
  refine Ev.wr (ls1 := ls) g1 g2 ?_ (k _ h2)
  intro p e R s m args below meth c H locs cells slots la Q hC hRel hh hR hl kk
  refine W.iast hC.1 hC.2.1 (hRel.arr h3 0 _ rfl) ((hC.2.2.2.2.2.2.2.2.1.1.2 0 _ rfl).1 n (fun j => .int (f j))) (fun q => by cases q) (by show ¬ (i < 0 ∨ (arrV _ _ _).slots.size ≤ _); rw [arrV_size]; exact h4) rfl rfl hd fun H1 e z oq => kk H1 _ ?_ z oq lcA
  show H1[adr G a]? = some (vp_cell (G.2.1 0) (n, .inl (upd f i.toNatClampNeg (narT 0 x))))
  rw [e]
  show some ((vp_cell (G.2.1 0) (n, .inl f)).setSlot _ _) = _
  rw [vp_cell_i, vp_cell_i, arrV_store]
  congr 2
  funext q
  by_cases hq : q = i.toNatClampNeg
  · subst hq
    simp [updV, upd, narT]
  · simp [updV, upd, hq]
theorem E_bast {α : Type} {a : Nat} {i x : Int32} {F : Mm → Option α} {res : α} (hd : decode cc pc = .ok (.bastore, 1)) (hf : (sI μ a 1 i x).bind F = some res) (k : ∀ μ1, F μ1 = some res → Ev l G d y cc nL ret (pc + 1) ls st μ1 r μ') : Ev l G d y cc nL ret pc ls (.int x :: .int i :: .ref a :: st) μ r μ' := by
  obtain ⟨μ1, h1, h2⟩ := bindS hf
  obtain ⟨n, f, h3, h4, rfl⟩ := sI_spec h1
  obtain ⟨g1, g2, g3⟩ := arr_spec h3
  refine Ev.wr (ls1 := ls) g1 g2 ?_ (k _ h2)
  intro p e R s m args below meth c H locs cells slots la Q hC hRel hh hR hl kk
  refine W.bast hC.1 hC.2.1 (hRel.arr h3 0 _ rfl) ((hC.2.2.2.2.2.2.2.2.1.1.2 1 _ rfl).1 n (fun j => .int (f j))) (fun q => by cases q) (by show ¬ (i < 0 ∨ (arrV _ _ _).slots.size ≤ _); rw [arrV_size]; exact h4) rfl rfl hd fun H1 e z oq => kk H1 _ ?_ z oq lcA
  show H1[adr G a]? = some (vp_cell (G.2.1 1) (n, .inl (upd f i.toNatClampNeg (narT 1 x))))
  rw [e]
  show some ((vp_cell (G.2.1 1) (n, .inl f)).setSlot _ _) = _
  rw [vp_cell_i, vp_cell_i, arrV_store]
  congr 2
  funext q
  by_cases hq : q = i.toNatClampNeg
  · subst hq
    simp [updV, upd, narT, vp_nar]
    try rfl
  · simp [updV, upd, hq]
theorem E_zast {α : Type} {a : Nat} {i x : Int32} {F : Mm → Option α} {res : α} (hd : decode cc pc = .ok (.bastore, 1)) (hf : (sI μ a 2 i x).bind F = some res) (k : ∀ μ1, F μ1 = some res → Ev l G d y cc nL ret (pc + 1) ls st μ1 r μ') : Ev l G d y cc nL ret pc ls (.int x :: .int i :: .ref a :: st) μ r μ' := by
  obtain ⟨μ1, h1, h2⟩ := bindS hf
  obtain ⟨n, f, h3, h4, rfl⟩ := sI_spec h1
  obtain ⟨g1, g2, g3⟩ := arr_spec h3
  refine Ev.wr (ls1 := ls) g1 g2 ?_ (k _ h2)
  intro p e R s m args below meth c H locs cells slots la Q hC hRel hh hR hl kk
  refine W.zast hC.1 hC.2.1 (hRel.arr h3 0 _ rfl) ((hC.2.2.2.2.2.2.2.2.1.1.2 2 _ rfl).1 n (fun j => .int (f j))) (fun q => by cases q) (by show ¬ (i < 0 ∨ (arrV _ _ _).slots.size ≤ _); rw [arrV_size]; exact h4) rfl rfl hd fun H1 e z oq => kk H1 _ ?_ z oq lcA
  show H1[adr G a]? = some (vp_cell (G.2.1 2) (n, .inl (upd f i.toNatClampNeg (narT 2 x))))
  rw [e]
  show some ((vp_cell (G.2.1 2) (n, .inl f)).setSlot _ _) = _
  rw [vp_cell_i, vp_cell_i, arrV_store]
  congr 2
  funext q
  by_cases hq : q = i.toNatClampNeg
  · subst hq
    simp [updV, upd, narT, vp_nar]
    try rfl
  · simp [updV, upd, hq]
theorem E_last {α : Type} {a : Nat} {i : Int32} {x : Int64} {F : Mm → Option α} {res : α} (hd : decode cc pc = .ok (.lastore, 1)) (hf : (sL μ a 3 i x).bind F = some res) (k : ∀ μ1, F μ1 = some res → Ev l G d y cc nL ret (pc + 1) ls st μ1 r μ') : Ev l G d y cc nL ret pc ls (.long x :: .int i :: .ref a :: st) μ r μ' := by
  obtain ⟨μ1, h1, h2⟩ := bindS hf
  obtain ⟨n, f, h3, h4, rfl⟩ := sL_spec h1
  obtain ⟨g1, g2, g3⟩ := arr_spec h3
  refine Ev.wr (ls1 := ls) g1 g2 ?_ (k _ h2)
  intro p e R s m args below meth c H locs cells slots la Q hC hRel hh hR hl kk
  refine W.last hC.1 hC.2.1 (hRel.arr h3 0 _ rfl) ((hC.2.2.2.2.2.2.2.2.1.1.2 3 _ rfl).1 n (fun j => .long (f j))) (fun q => by cases q) (by show ¬ (i < 0 ∨ (arrV _ _ _).slots.size ≤ _); rw [arrV_size]; exact h4) rfl rfl hd fun H1 e z oq => kk H1 _ ?_ z oq lcA
  show H1[adr G a]? = some (vp_cell (G.2.1 3) (n, .inr (.inl (vp_updL f i.toNatClampNeg x))))
  rw [e]
  show some ((vp_cell (G.2.1 3) (n, .inr (.inl f))).setSlot _ _) = _
  rw [vp_cell_l, vp_cell_l, arrV_store]
  congr 2
  funext q
  by_cases hq : q = i.toNatClampNeg
  · subst hq
    simp [updV, vp_updL]
  · simp [updV, vp_updL, hq]
theorem E_aast {α : Type} {a t ci v : Nat} {i : Int32} {F : Mm → Option α} {res : α} (hd : decode cc pc = .ok (.aastore, 1)) (ht : (t = 4 ∧ ci = 5) ∨ (t = 5 ∧ ci = 7)) (hf : (sR μ a t i ci v).bind F = some res) (k : ∀ μ1, F μ1 = some res → Ev l G d y cc nL ret (pc + 1) ls st μ1 r μ') : Ev l G d y cc nL ret pc ls (.ref v :: .int i :: .ref a :: st) μ r μ' := by
  obtain ⟨μ1, h1, h2⟩ := bindS hf
  obtain ⟨n, f, fs, h5, h3, h4, rfl⟩ := sR_spec h1
  obtain ⟨g1, g2, g3⟩ := arr_spec h3
  refine Ev.wr (ls1 := ls) g1 g2 ?_ (k _ h2)
  intro p e R s m args below meth c H locs cells slots la Q hC hRel hh hR hl kk
  have hK := hC.2.2.2.2.2.2.2.2.1.1
  have hlt : i.toNatClampNeg < n := Nat.not_le.mp fun q => h4 (Or.inr q)
  have h0 : ¬ i < 0 := fun q => h4 (Or.inl q)
  obtain ⟨r', hr', cellV, b1, b2, b3, -⟩ := hRel.ob h5 0 _ rfl
  have key : ∃ (r : vw_C) (kA : Class) (comp : ClassId), classes[ci]? = some r ∧ s.vm.classes[G.2.1 t]? = some kA ∧ kA.kind = .array comp (.object r.1) ∧ s.vm.findClass r.1 = some comp := by
    rcases ht with ⟨rfl, rfl⟩ | ⟨rfl, rfl⟩
    · obtain ⟨kA, comp, k1, k2, k3, -⟩ := (hK.2 4 _ rfl).2
      exact ⟨(RX5, TX5, 9), kA, comp, rfl, k1, k2, k3⟩
    · obtain ⟨kA, comp, k1, k2, k3, -⟩ := (hK.2 5 _ rfl).2
      exact ⟨(RX7, TX7, 13), kA, comp, rfl, k1, k2, k3⟩
  obtain ⟨r0, kA, comp, hc, k1, k2, k3⟩ := key
  have hcls := (hK.1 ci r0 hc).2
  have hcomp : comp = G.1.1 ci := Option.some.inj (k3.symm.trans hcls.1)
  subst hcomp
  obtain ⟨kC, hkC, -⟩ := id hcls.2
  refine W.aast hC.1 hC.2.1 (hRel.arr h3 0 _ rfl) (fun q h => by cases h) (fun h => by cases h) k1 k2 rfl hkC ⟨h0, by show _ < (arrV _ _ _).slots.size; rw [arrV_size]; exact hlt⟩ b1 (fun q h => by rw [b3] at h; cases h) (by rw [b2]; exact hkC) (by rw [b2]; exact va_assign hcls) rfl rfl hd fun H1 e z oq => kk H1 _ ?_ z oq lcA
  show H1[adr G a]? = some (vp_cell (G.2.1 t) (n, .inr (.inr (.inr (.inr (fun j => (va_up f i.toNatClampNeg (some v) j).map (adr G)))))))
  rw [e]
  show some ((vp_cell (G.2.1 t) (n, .inr (.inr (.inr (.inr (fun j => (f j).map (adr G))))))).setSlot _ _) = _
  rw [vp_cell_q, vp_cell_q, arrV_store]
  congr 2
  funext q
  by_cases hq : q = i.toNatClampNeg
  · subst hq
    simp [updV, va_up, va_rf]
  · simp [updV, va_up, hq]
end RA
