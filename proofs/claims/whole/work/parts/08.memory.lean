/-! Fields, arrays, new cells. -/
/-- the object of class ci at a -/
def ob (μ : Mm) (a ci : Nat) : Option (List Value) := if 128 ≤ a ∧ a < μ.1 then (match μ.2.2 a with
  | .inr o => if o.1 = ci then some o.2 else none
  | .inl _ => none) else none
def vI (v : Option Value) : Option Int32 := match v with
  | some (.int x) => some x
  | _ => none
def vL (v : Option Value) : Option Int64 := match v with
  | some (.long x) => some x
  | _ => none
def vR (v : Option Value) : Option Nat := match v with
  | some (.ref x) => some x
  | _ => none
def gI (μ : Mm) (a ci k : Nat) : Option Int32 := (ob μ a ci).bind fun fs => vI fs[k]?
def gL (μ : Mm) (a ci k : Nat) : Option Int64 := (ob μ a ci).bind fun fs => vL fs[k]?
def gR (μ : Mm) (a ci k : Nat) : Option Nat := (ob μ a ci).bind fun fs => vR fs[k]?
/-- another cell at a -/
def up (μ : Mm) (a : Nat) (e : va_E) : Mm := (μ.1, μ.2.1, va_up μ.2.2 a e)
def pV (μ : Mm) (a ci k : Nat) (v : Value) : Option Mm := (ob μ a ci).bind fun fs => if k < fs.length then some (up μ a (.inr (ci, fs.set k v))) else none
def pZ (μ : Mm) (a ci k : Nat) (x : Int32) : Option Mm := if x = 0 ∨ x = 1 then pV μ a ci k (.int x) else none
theorem ob_spec {μ : Mm} {a ci : Nat} {fs : List Value} (h : ob μ a ci = some fs) : 128 ≤ a ∧ a < μ.1 ∧ μ.2.2 a = .inr (ci, fs) := by
  unfold ob at h
  by_cases h0 : 128 ≤ a ∧ a < μ.1
  · rw [if_pos h0] at h
    cases he : μ.2.2 a with
    | inl x => rw [he] at h; cases h
    | inr o =>
      obtain ⟨c, f⟩ := o
      rw [he] at h
      by_cases hc : c = ci
      · have h : (if c = ci then some f else none) = some fs := h
        rw [if_pos hc] at h
        cases h
        exact ⟨h0.1, h0.2, by rw [hc]⟩
      · have h : (if c = ci then some f else none) = some fs := h
        rw [if_neg hc] at h
        cases h
  · rw [if_neg h0] at h; cases h
theorem vI_spec {v : Option Value} {x : Int32} (h : vI v = some x) : v = some (.int x) := by
  unfold vI at h
  split at h
  · cases h; rfl
  · cases h
theorem vL_spec {v : Option Value} {x : Int64} (h : vL v = some x) : v = some (.long x) := by
  unfold vL at h
  split at h
  · cases h; rfl
  · cases h
theorem vR_spec {v : Option Value} {x : Nat} (h : vR v = some x) : v = some (.ref x) := by
  unfold vR at h
  split at h
  · cases h; rfl
  · cases h
theorem bindS {α β : Type} {o : Option α} {F : α → Option β} {res : β} (h : o.bind F = some res) : ∃ a, o = some a ∧ F a = some res := by
  cases o with
  | none => cases h
  | some a => exact ⟨a, rfl, h⟩
theorem gI_spec {μ : Mm} {a ci k : Nat} {x : Int32} (h : gI μ a ci k = some x) : ∃ fs, ob μ a ci = some fs ∧ fs[k]? = some (.int x) := by
  obtain ⟨fs, h1, h2⟩ := bindS h
  exact ⟨fs, h1, vI_spec h2⟩
theorem gL_spec {μ : Mm} {a ci k : Nat} {x : Int64} (h : gL μ a ci k = some x) : ∃ fs, ob μ a ci = some fs ∧ fs[k]? = some (.long x) := by
  obtain ⟨fs, h1, h2⟩ := bindS h
  exact ⟨fs, h1, vL_spec h2⟩
theorem gR_spec {μ : Mm} {a ci k : Nat} {x : Nat} (h : gR μ a ci k = some x) : ∃ fs, ob μ a ci = some fs ∧ fs[k]? = some (.ref x) := by
  obtain ⟨fs, h1, h2⟩ := bindS h
  exact ⟨fs, h1, vR_spec h2⟩
/-- the heap's object -/
theorem Rel.ob {G : GG} {μ : Mm} {H : Heap} (h : Rel G μ H) {a ci : Nat} {fs : List Value} (ho : ob μ a ci = some fs) : va_P G.1 classes [(adr G a, .inr (ci, fs.map (trv G)))] H := by
  obtain ⟨h1, h2, h3⟩ := ob_spec ho
  have h4 := h.2.2 a h1 h2
  rw [h3] at h4
  intro k q hq
  match k, hq with
  | 0, hq => cases hq; exact h4
  | k + 1, hq => cases hq
section RM
variable {l : Launch} {G : GG} {d : Nat} {y : MethodName} {cc : ByteArray} {nL : Nat} {ret : Option FieldType} {pc : Nat} {ls : List (Nat × Value)} {st : List Value} {μ : Mm} {r : Option Value} {μ' : Mm}
theorem E_get {idx a ci j : Nat} {fs : List Value} {v : Value} (hd : decode cc pc = .ok (.getfield idx, 3)) (hw : FL y.cls idx ci j) (ho : ob μ a ci = some fs) (hv : fs[j]? = some v) (k : Ev l G d y cc nL ret (pc + 3) ls (v :: st) μ r μ') : Ev l G d y cc nL ret pc ls (.ref a :: st) μ r μ' := by
  obtain ⟨C, T, N, hc, hj, hlk, hin⟩ := hw
  refine Ev.pure (fun p e R s m args below meth c H locs cells slots la Q hC hR hRel hh hlocs hl k => ?_) k
  exact va_get hC.1 hC.2.1 (hC.2.2.2.2.2.2.2.1) hin hC.2.2.2.2.2.1 hC.2.2.2.2.2.2.2.2.1.1 (hRel.ob ho) 0 rfl hc j hj (hC.2.2.2.2.2.2.2.1 _ hlk) (fun _ h => h) (by rw [List.getElem?_map, hv]; rfl) hd k
theorem E_getI {α : Type} {idx a ci j : Nat} {F : Int32 → Option α} {res : α} (hd : decode cc pc = .ok (.getfield idx, 3)) (hw : FL y.cls idx ci j) (hf : (gI μ a ci j).bind F = some res) (k : ∀ v, F v = some res → Ev l G d y cc nL ret (pc + 3) ls (.int v :: st) μ r μ') : Ev l G d y cc nL ret pc ls (.ref a :: st) μ r μ' := by
  obtain ⟨v, h1, h2⟩ := bindS hf
  obtain ⟨fs, h3, h4⟩ := gI_spec h1
  exact E_get hd hw h3 h4 (k v h2)
theorem E_getL {α : Type} {idx a ci j : Nat} {F : Int64 → Option α} {res : α} (hd : decode cc pc = .ok (.getfield idx, 3)) (hw : FL y.cls idx ci j) (hf : (gL μ a ci j).bind F = some res) (k : ∀ v, F v = some res → Ev l G d y cc nL ret (pc + 3) ls (.long v :: st) μ r μ') : Ev l G d y cc nL ret pc ls (.ref a :: st) μ r μ' := by
  obtain ⟨v, h1, h2⟩ := bindS hf
  obtain ⟨fs, h3, h4⟩ := gL_spec h1
  exact E_get hd hw h3 h4 (k v h2)
theorem E_getR {α : Type} {idx a ci j : Nat} {F : Nat → Option α} {res : α} (hd : decode cc pc = .ok (.getfield idx, 3)) (hw : FL y.cls idx ci j) (hf : (gR μ a ci j).bind F = some res) (k : ∀ v, F v = some res → Ev l G d y cc nL ret (pc + 3) ls (.ref v :: st) μ r μ') : Ev l G d y cc nL ret pc ls (.ref a :: st) μ r μ' := by
  obtain ⟨v, h1, h2⟩ := bindS hf
  obtain ⟨fs, h3, h4⟩ := gR_spec h1
  exact E_get hd hw h3 h4 (k v h2)
/-- an old cell is written: the judgement goes on over the new memory -/
theorem Ev.wr {pc1 : Nat} {ls1 : List (Nat × Value)} {st1 : List Value} {a : Nat} {e1 : va_E} (h128 : 128 ≤ a) (hlt : a < μ.1)
    (h : ∀ (p : Program) (e : Env) (R : Room) (s : State) (m : MethodId) (args : Array Value) (below : List Frame) (meth : Method) (c : Code) (H : Heap) (locs : List Loc) (cells slots : Nat) (la : Array Slot) (Q : State → Prop),
      Cx G y cc nL ret p s m args meth c → Rel G μ H → (∀ q, q < gB G → H[q]? = s.heap[q]?) → (d ≤ R.frames ∧ 64 * d ≤ R.locals) → lv_has la nL (ls.map (trl G)) →
      (∀ (H1 : Heap) (locs1 : List Loc), va_at G.1 classes (adr G a, tre G e1) H1 → H1.size = H.size → (∀ q : Nat, q ≠ adr G a → H1[q]? = H[q]?) → (∀ q ∈ locs1, q ∈ locs ∨ q.base = adr G a) → W p l e R s m args below meth c H1 locs1 cells slots Q (F0 m pc1 la (st1.map (trv G)))) →
      W p l e R s m args below meth c H locs cells slots Q (F0 m pc la (st.map (trv G))))
    (k : Ev l G d y cc nL ret pc1 ls st1 (up μ a e1) r μ') : Ev l G d y cc nL ret pc ls st μ r μ' := by
  refine Ev.gen (μ1 := up μ a e1) ⟨Nat.le_refl _, Nat.le_refl _⟩ ?_ k
  intro p e R s m args below meth c H locs cells slots la Q hC hR hRel hh hlocs hl kk
  have ea : (up μ a e1).1 - μ.1 = 0 := Nat.sub_self _
  have eb : (up μ a e1).2.1 - μ.2.1 = 0 := Nat.sub_self _
  rw [ea, eb, Nat.add_zero, Nat.add_zero] at kk
  refine h p e R s m args below meth c H locs cells slots la Q hC hRel hh ⟨hR.1, hR.2.1⟩ hl (fun H1 locs1 g1 g2 g3 g4 => ?_)
  refine kk H1 locs1 la (hRel.set h128 hlt g1 g2 g3) (fun q hq => ?_) (fun q hq => ?_) hl
  · rw [g3 q (by have := adr_ge (G := G) h128; omega)]
    exact hh q hq
  · rcases g4 q hq with h | h
    · exact hlocs q h
    · rw [h]; exact adr_ge h128
theorem E_put {α : Type} {idx a ci j : Nat} {v : Value} {ty : FieldType} {F : Mm → Option α} {res : α} (hd : decode cc pc = .ok (.putfield idx, 3)) (hw : PL y.cls y.name idx ci j ty) (hn : narrow ty (trv G v) = trv G v) (hfit : fits ty (trv G v) = true) (hf : (pV μ a ci j v).bind F = some res) (k : ∀ μ1, F μ1 = some res → Ev l G d y cc nL ret (pc + 3) ls st μ1 r μ') : Ev l G d y cc nL ret pc ls (v :: .ref a :: st) μ r μ' := by
  obtain ⟨μ1, h1, h2⟩ := bindS hf
  obtain ⟨fs, h3, h4⟩ := bindS h1
  obtain ⟨g1, g2, g3⟩ := ob_spec h3
  by_cases hlen : j < fs.length
  · rw [if_pos hlen] at h4
    cases h4
    obtain ⟨C, T, N, ty0, hc, hj, hlk, hin, hty, hnm, htd, hfin⟩ := hw
    refine Ev.wr (ls1 := ls) (a := a) (e1 := .inr (ci, fs.set j v)) g1 g2 ?_ (k _ h2)
    intro p e R s m args below meth c H locs cells slots la Q hC hRel hh hR hl kk
    have hts := hC.2.2.2.2.2.2.2.1
    have hK := hC.2.2.2.2.2.2.2.2.1.1
    have hown := hC.2.2.2.2.2.1
    have hap := va_apart (own := y.cls) hts hin ty0 hty hnm hK hc
    obtain ⟨r0, q0, cell, q1, q2, q3, q4⟩ := hRel.ob h3 0 _ rfl
    have hr : r0 = (C, T, N) := Option.some.inj (q0.symm.trans hc)
    subst hr
    obtain ⟨hS, hfc, kC, hkC, hkind⟩ := hK.1 ci _ hc
    obtain ⟨cf, kf, fi, f, hi, hsl⟩ := hS j hj
    have hlay := hts _ (hin _ (u_in_lay hj))
    have hst := (u_facts hfc hkC (u_lays hts hin hj) hi).1
    have fin : ∀ H' : Heap, H'[adr G a]? = some (cell.setSlot f.slot (trv G v)) → va_at G.1 classes (adr G a, tre G (.inr (ci, fs.set j v))) H' := by
      intro H' e1
      rw [hsl] at e1
      refine ⟨_, hc, t_OB.to (V := updV (vp_V (fs.map (trv G))) j (trv G v)) ⟨_, e1, q2, q3, t_set q4 hap hj (trv G v)⟩ (fun i _ => ?_)⟩
      rw [vp_updV_set (by rw [List.length_map]; exact hlen)]
      show _ = vp_V ((fs.set j v).map (trv G)) i
      rw [List.map_set]
    have lc : ∀ q ∈ locs ++ [(⟨adr G a, f.slot⟩ : Loc)], q ∈ locs ∨ q.base = adr G a := fun q hq => by
      rcases List.mem_append.mp hq with h | h
      · exact Or.inl h
      · rw [List.mem_singleton.mp h]; exact Or.inr rfl
    rcases hfin with hfin | ⟨hfin, hnI, hdecl⟩
    · unfold u_lay at hlay
      rw [if_neg (by rw [hfin]; decide)] at hlay
      have h6 := u_store hfc hkC hkind hlay hi htd hn hfit
      exact W.putK hC.1 hC.2.1 (f := f) ⟨hown, hts _ hlk, ⟨_, _, _, hi⟩, hst⟩ (by rw [q2]; exact h6) q1 q3 (by rw [hsl]; exact k2_hasslot (q4 j hj)) rfl rfl hd fun H' e1 e2 e3 => kk H' _ (fin H' e1) e2 e3 lc
    · have hfit2 := u_fits hfc hkC hkind (u_lays hts hin hj) hi htd hn hfit
      unfold u_lay at hlay
      rw [if_pos hfin] at hlay
      have hcf : m.cls = cf := by
        obtain ⟨_, _, c', _, _, _, -, -, hf', -, -, -, hown2, -⟩ := Cond.laysFinal_spec hlay
        have e1 : c' = cf := by have := hi.symm.trans hf'; simp at this; exact this.1.symm
        rw [hdecl] at hown2
        rw [← e1]; exact Option.some.inj (hown.symm.trans hown2)
      exact W.putFinK hC.1 hC.2.1 hown (hts _ hlk) hi hst hcf (hC.2.2.2.2.2.2.1.trans hnI) (by rw [q2]; exact hfit2) q1 q3 (by rw [hsl]; exact k2_hasslot (q4 j hj)) rfl rfl hd fun H' e1 e2 e3 => kk H' _ (fin H' e1) e2 e3 lc
  · rw [if_neg hlen] at h4; cases h4
theorem E_putI {α : Type} {idx a ci j : Nat} {x : Int32} {F : Mm → Option α} {res : α} (hd : decode cc pc = .ok (.putfield idx, 3)) (hw : PL y.cls y.name idx ci j .int) (hf : (pV μ a ci j (.int x)).bind F = some res) (k : ∀ μ1, F μ1 = some res → Ev l G d y cc nL ret (pc + 3) ls st μ1 r μ') : Ev l G d y cc nL ret pc ls (.int x :: .ref a :: st) μ r μ' := E_put hd hw rfl rfl hf k
theorem E_putL {α : Type} {idx a ci j : Nat} {x : Int64} {F : Mm → Option α} {res : α} (hd : decode cc pc = .ok (.putfield idx, 3)) (hw : PL y.cls y.name idx ci j .long) (hf : (pV μ a ci j (.long x)).bind F = some res) (k : ∀ μ1, F μ1 = some res → Ev l G d y cc nL ret (pc + 3) ls st μ1 r μ') : Ev l G d y cc nL ret pc ls (.long x :: .ref a :: st) μ r μ' := E_put hd hw rfl rfl hf k
theorem E_putR {α : Type} {idx a ci j x : Nat} {C : String} {F : Mm → Option α} {res : α} (hd : decode cc pc = .ok (.putfield idx, 3)) (hw : PL y.cls y.name idx ci j (.object C)) (hf : (pV μ a ci j (.ref x)).bind F = some res) (k : ∀ μ1, F μ1 = some res → Ev l G d y cc nL ret (pc + 3) ls st μ1 r μ') : Ev l G d y cc nL ret pc ls (.ref x :: .ref a :: st) μ r μ' := E_put hd hw rfl rfl hf k
theorem E_putA {α : Type} {idx a ci j x : Nat} {C : FieldType} {F : Mm → Option α} {res : α} (hd : decode cc pc = .ok (.putfield idx, 3)) (hw : PL y.cls y.name idx ci j (.array C)) (hf : (pV μ a ci j (.ref x)).bind F = some res) (k : ∀ μ1, F μ1 = some res → Ev l G d y cc nL ret (pc + 3) ls st μ1 r μ') : Ev l G d y cc nL ret pc ls (.ref x :: .ref a :: st) μ r μ' := E_put hd hw rfl rfl hf k
theorem E_putZ {α : Type} {idx a ci j : Nat} {x : Int32} {F : Mm → Option α} {res : α} (hd : decode cc pc = .ok (.putfield idx, 3)) (hw : PL y.cls y.name idx ci j .boolean) (hf : (pZ μ a ci j x).bind F = some res) (k : ∀ μ1, F μ1 = some res → Ev l G d y cc nL ret (pc + 3) ls st μ1 r μ') : Ev l G d y cc nL ret pc ls (.int x :: .ref a :: st) μ r μ' := by
  unfold pZ at hf
  by_cases h0 : x = 0 ∨ x = 1
  · rw [if_pos h0] at hf
    exact E_put hd hw (by rcases h0 with rfl | rfl <;> rfl) (by rcases h0 with rfl | rfl <;> rfl) hf k
  · rw [if_neg h0] at hf; cases hf
end RM
