/-! The machine seen from above: a memory of numbered cells, a judgement Ev that hides the machine, a rule an instruction. -/
abbrev Mm : Type := Nat × Nat × (Nat → va_E)
/-- class ids and slots; array classes by tag; special addresses (0 and on: texts; 32 and on: their byte rows; 126: a formatter; 127: the script); where the run's own cells begin; the script -/
abbrev GG : Type := va_G × (Nat → ClassId) × (Nat → Nat) × Nat × Nat × (Nat → Int32)
def gB (G : GG) : Nat := G.2.2.2.1
/-- references below 128 are special, 128 + k is the run's k-th cell -/
def adr (G : GG) (k : Nat) : Nat := if k < 128 then G.2.2.1 k else gB G + (k - 128)
def trv (G : GG) (v : Value) : Value := match v with
  | .ref k => .ref (adr G k)
  | w => w
def trl (G : GG) (q : Nat × Value) : Nat × Value := (q.1, trv G q.2)
def tra (G : GG) (a : vp_A) : vp_A := match a with
  | (n, .inr (.inr (.inr (.inr f)))) => (n, .inr (.inr (.inr (.inr (fun j => (f j).map (adr G))))))
  | x => x
def tre (G : GG) (e : va_E) : va_E := match e with
  | .inl a => .inl (G.2.1 a.1, tra G a.2)
  | .inr o => .inr (o.1, o.2.map (trv G))
def tysG (G : GG) : List (ClassId × FieldType) := [(G.2.1 0, .int), (G.2.1 1, .byte), (G.2.1 2, .boolean), (G.2.1 3, .long), (G.2.1 4, .object "FallSchool$Rule"), (G.2.1 5, .object "FallSchool$School")]
/-- the heap holds the memory -/
def Rel (G : GG) (μ : Mm) (H : Heap) : Prop := 128 ≤ μ.1 ∧ H.size = gB G + (μ.1 - 128) ∧ ∀ k, 128 ≤ k → k < μ.1 → va_at G.1 classes (adr G k, tre G (μ.2.2 k)) H
/-- what nobody writes: texts, statics, the script -/
def Sx (G : GG) (U : State) : Prop :=
  (∀ i, i < sN → vk_R (sOwn i) (sIdx i) (sTx i) (G.2.2.1 i) U ∧ vk_S 1 [sLen i] [sByt i] (fun _ => G.2.2.1 i) (fun _ => G.2.2.1 (32 + i)) (fun q => gB G ≤ q) U U.heap) ∧
  va_Z "java/lang/String" "COMPACT_STRINGS" "Z" (.int 1) (fun q => gB G ≤ q) U U.heap ∧ (va_Z "jdk/internal/util/Preconditions" "SIOOBE_FORMATTER" "Ljava/util/function/BiFunction;" .null (fun q => gB G ≤ q) U U.heap ∨ va_Z "jdk/internal/util/Preconditions" "SIOOBE_FORMATTER" "Ljava/util/function/BiFunction;" (.ref (G.2.2.1 126)) (fun q => gB G ≤ q) U U.heap) ∧
  va_X (G.2.2.1 127) G.2.2.2.2.1 G.2.2.2.2.2 U U.heap ∧ G.2.2.1 127 < gB G ∧ va_AO "FallSchool$Rule" U ∧ va_AO "FallSchool$School" U ∧ va_Nw (.castable "[I" "java/lang/Cloneable") U ∧ ∀ q ∈ nests, va_Nw (.methodLinkNest q.1 q.2.1 q.2.2.1 q.2.2.2) U
def KK (G : GG) (U : State) : Prop := va_K G.1 classes (tysG G) U ∧ Sx G U
theorem trv_int (G : GG) (x : Int32) : trv G (.int x) = .int x := rfl
theorem trv_long (G : GG) (x : Int64) : trv G (.long x) = .long x := rfl
theorem trv_ref (G : GG) (k : Nat) : trv G (.ref k) = .ref (adr G k) := rfl
theorem trv_null (G : GG) : trv G .null = .null := rfl
theorem trv_cat (G : GG) (v : Value) : (trv G v).category = v.category := by cases v <;> rfl
theorem trv_sum (G : GG) (st : List Value) : ((st.map (trv G)).map fun v => v.category).sum = (st.map fun v => v.category).sum := by
  rw [List.map_map]
  congr 1
  apply List.map_congr_left
  intro v _
  exact trv_cat G v
theorem adr_hi {G : GG} {k : Nat} (h : 128 ≤ k) : adr G k = gB G + (k - 128) := by rw [adr, if_neg (by omega)]
theorem adr_inj {G : GG} {j k : Nat} (hj : 128 ≤ j) (hk : 128 ≤ k) (h : adr G j = adr G k) : j = k := by
  rw [adr_hi hj, adr_hi hk] at h
  omega
theorem adr_ge {G : GG} {k : Nat} (h : 128 ≤ k) : gB G ≤ adr G k := by rw [adr_hi h]; omega
theorem Rel.lt {G : GG} {μ : Mm} {H : Heap} (h : Rel G μ H) {k : Nat} (h1 : 128 ≤ k) (h2 : k < μ.1) : adr G k < H.size := by
  rw [adr_hi h1, h.2.1]
  omega
/-- one cell is another -/
theorem Rel.set {G : GG} {μ : Mm} {H H1 : Heap} (h : Rel G μ H) {a : Nat} (h1 : 128 ≤ a) (h2 : a < μ.1) {e : va_E} (he : va_at G.1 classes (adr G a, tre G e) H1) (z : H1.size = H.size) (oq : ∀ q : Nat, q ≠ adr G a → H1[q]? = H[q]?) : Rel G (μ.1, μ.2.1, va_up μ.2.2 a e) H1 := by
  refine ⟨h.1, z.trans h.2.1, fun k k1 k2 => ?_⟩
  by_cases hk : k = a
  · subst hk
    show va_at G.1 classes (adr G k, tre G (va_up μ.2.2 k e k)) H1
    rw [va_up_self]
    exact he
  · show va_at G.1 classes (adr G k, tre G (va_up μ.2.2 a e k)) H1
    rw [va_up_ne _ _ hk]
    exact (h.2.2 k k1 k2).kept (oq _ (fun z => hk (adr_inj k1 h1 z)))
/-- one cell more -/
theorem Rel.push {G : GG} {μ : Mm} {H H1 : Heap} (h : Rel G μ H) {e : va_E} {n : Nat} (he : va_at G.1 classes (H.size, tre G e) H1) (z : H1.size = H.size + 1) (oq : ∀ q : Nat, q < H.size → H1[q]? = H[q]?) : Rel G (μ.1 + 1, n, va_up μ.2.2 μ.1 e) H1 ∧ H.size = adr G μ.1 := by
  have e0 : H.size = adr G μ.1 := by rw [adr_hi h.1, h.2.1]
  refine ⟨⟨Nat.le_succ_of_le h.1, by rw [z, h.2.1]; show _ = gB G + (μ.1 + 1 - 128); have := h.1; omega, fun k k1 k2 => ?_⟩, e0⟩
  have k2 : k < μ.1 + 1 := k2
  by_cases hk : k = μ.1
  · subst hk
    show va_at G.1 classes (adr G μ.1, tre G (va_up μ.2.2 μ.1 e μ.1)) H1
    rw [va_up_self, ← e0]
    exact he
  · show va_at G.1 classes (adr G k, tre G (va_up μ.2.2 μ.1 e k)) H1
    rw [va_up_ne _ _ hk]
    exact (h.2.2 k k1 (by omega)).kept (oq _ (h.lt k1 (by omega)))
theorem Sx.moved {G : GG} {s U : State} (h : Sx G s) (hW : s.WarmedH U.vm) (hh : ∀ q, q < gB G → U.heap[q]? = s.heap[q]?) (hz : gB G ≤ s.heap.size) : Sx G U := by
  have hq : ∀ a : Nat, a < s.heap.size → ¬ gB G ≤ a → U.heap[a]? = s.heap[a]? := fun a _ h => hh a (by omega)
  obtain ⟨h1, h2, h3, h4, h5, h6, h7, h8, h9⟩ := h
  refine ⟨fun i hi => ⟨(h1 i hi).1.warm hW, ((h1 i hi).2.kept hq).moved hW.alike⟩, (h2.kept hq).moved hW.alike, h3.elim (fun h => Or.inl ((h.kept hq).moved hW.alike)) (fun h => Or.inr ((h.kept hq).moved hW.alike)), (h4.kept (hh _ h5)).moved hW.alike, h5, h6.moved hW.alike, h7.moved hW.alike, h8.warmC hW, fun q hq => (h9 q hq).warmM hW⟩
theorem KK.moved {G : GG} {s U : State} (h : KK G s) (hW : s.WarmedH U.vm) (hh : ∀ q, q < gB G → U.heap[q]? = s.heap[q]?) (hz : gB G ≤ s.heap.size) : KK G U := ⟨h.1.moved hW.alike, h.2.moved hW hh hz⟩
/-- a method's end -/
def Qe (G : GG) (r : Option Value) (μ' : Mm) : Array Value → State → Outcome → State → Prop := fun _ st o t => o = .returned (r.map (trv G)) ∧ Rel G μ' t.heap ∧ ∀ q, q < gB G → t.heap[q]? = st.heap[q]?
def Cx (G : GG) (y : MethodName) (cc : ByteArray) (nL : Nat) (ret : Option FieldType) (p : Program) (s : State) (m : MethodId) (args : Array Value) (meth : Method) (c : Code) : Prop :=
  p.tables.exec = Jvm.exec ∧ c.code = cc ∧ meth.sig.returnType = ret ∧ meth.locks = false ∧ c.maxLocals = nL ∧ s.vm.findClass y.cls = some m.cls ∧ meth.name = y.name ∧ (∀ w ∈ gtbl, w.before args s = true) ∧ KK G s ∧ gB G ≤ s.heap.size
/-- FROM HERE the method ends with r, the memory is μ' then; d calls may stand open -/
def Ev (l : Launch) (G : GG) (d : Nat) (y : MethodName) (cc : ByteArray) (nL : Nat) (ret : Option FieldType) (pc : Nat) (ls : List (Nat × Value)) (st : List Value) (μ : Mm) (r : Option Value) (μ' : Mm) : Prop :=
  (μ.1 ≤ μ'.1 ∧ μ.2.1 ≤ μ'.2.1) ∧ ∀ (p : Program) (e : Env) (R : Room) (s : State) (m : MethodId) (args : Array Value) (below : List Frame) (meth : Method) (c : Code) (H : Heap) (locs : List Loc) (cells slots : Nat) (la : Array Slot),
    Cx G y cc nL ret p s m args meth c → (d ≤ R.frames ∧ 64 * d ≤ R.locals ∧ cells + (μ'.1 - μ.1) ≤ R.cells ∧ slots + (μ'.2.1 - μ.2.1) ≤ R.slots) → Rel G μ H → (∀ q, q < gB G → H[q]? = s.heap[q]?) → (∀ q ∈ locs, gB G ≤ q.base) → lv_has la nL (ls.map (trl G)) →
    W p l e R s m args below meth c H locs cells slots (MQ below (Qe G r μ') args s (cells + (μ'.1 - μ.1)) (slots + (μ'.2.1 - μ.2.1)) (fun q => gB G ≤ q)) (F0 m pc la (st.map (trv G)))
/-- the general step -/
theorem Ev.gen {l : Launch} {G : GG} {d : Nat} {y : MethodName} {cc : ByteArray} {nL : Nat} {ret : Option FieldType} {pc pc1 : Nat} {ls ls1 : List (Nat × Value)} {st st1 : List Value} {μ μ1 : Mm} {r : Option Value} {μ' : Mm}
    (hn : μ.1 ≤ μ1.1 ∧ μ.2.1 ≤ μ1.2.1)
    (h : ∀ (p : Program) (e : Env) (R : Room) (s : State) (m : MethodId) (args : Array Value) (below : List Frame) (meth : Method) (c : Code) (H : Heap) (locs : List Loc) (cells slots : Nat) (la : Array Slot) (Q : State → Prop),
      Cx G y cc nL ret p s m args meth c → (d ≤ R.frames ∧ 64 * d ≤ R.locals ∧ cells + (μ1.1 - μ.1) ≤ R.cells ∧ slots + (μ1.2.1 - μ.2.1) ≤ R.slots) → Rel G μ H → (∀ q, q < gB G → H[q]? = s.heap[q]?) → (∀ q ∈ locs, gB G ≤ q.base) → lv_has la nL (ls.map (trl G)) →
      (∀ (H1 : Heap) (locs1 : List Loc) (la1 : Array Slot), Rel G μ1 H1 → (∀ q, q < gB G → H1[q]? = s.heap[q]?) → (∀ q ∈ locs1, gB G ≤ q.base) → lv_has la1 nL (ls1.map (trl G)) →
        W p l e R s m args below meth c H1 locs1 (cells + (μ1.1 - μ.1)) (slots + (μ1.2.1 - μ.2.1)) Q (F0 m pc1 la1 (st1.map (trv G)))) →
      W p l e R s m args below meth c H locs cells slots Q (F0 m pc la (st.map (trv G))))
    (k : Ev l G d y cc nL ret pc1 ls1 st1 μ1 r μ') : Ev l G d y cc nL ret pc ls st μ r μ' := by
  obtain ⟨⟨k1, k2⟩, kk⟩ := k
  refine ⟨⟨Nat.le_trans hn.1 k1, Nat.le_trans hn.2 k2⟩, ?_⟩
  intro p e R s m args below meth c H locs cells slots la hC hR hRel hh hlocs hl
  have e1 : cells + (μ'.1 - μ.1) = cells + (μ1.1 - μ.1) + (μ'.1 - μ1.1) := by have := hn.1; omega
  have e2 : slots + (μ'.2.1 - μ.2.1) = slots + (μ1.2.1 - μ.2.1) + (μ'.2.1 - μ1.2.1) := by have := hn.2; omega
  refine h p e R s m args below meth c H locs cells slots la _ hC ⟨hR.1, hR.2.1, by omega, by omega⟩ hRel hh hlocs hl ?_
  intro H1 locs1 la1 g1 g2 g3 g4
  rw [e1, e2]
  exact kk p e R s m args below meth c H1 locs1 _ _ la1 hC ⟨hR.1, hR.2.1, by omega, by omega⟩ g1 g2 g3 g4
/-- a step on the stack alone -/
theorem Ev.pure {l : Launch} {G : GG} {d : Nat} {y : MethodName} {cc : ByteArray} {nL : Nat} {ret : Option FieldType} {pc pc1 : Nat} {ls : List (Nat × Value)} {st st1 : List Value} {μ : Mm} {r : Option Value} {μ' : Mm}
    (h : ∀ (p : Program) (e : Env) (R : Room) (s : State) (m : MethodId) (args : Array Value) (below : List Frame) (meth : Method) (c : Code) (H : Heap) (locs : List Loc) (cells slots : Nat) (la : Array Slot) (Q : State → Prop),
      Cx G y cc nL ret p s m args meth c → (d ≤ R.frames ∧ 64 * d ≤ R.locals ∧ cells ≤ R.cells ∧ slots ≤ R.slots) → Rel G μ H → (∀ q, q < gB G → H[q]? = s.heap[q]?) → (∀ q ∈ locs, gB G ≤ q.base) → lv_has la nL (ls.map (trl G)) →
      W p l e R s m args below meth c H locs cells slots Q (F0 m pc1 la (st1.map (trv G))) →
      W p l e R s m args below meth c H locs cells slots Q (F0 m pc la (st.map (trv G))))
    (k : Ev l G d y cc nL ret pc1 ls st1 μ r μ') : Ev l G d y cc nL ret pc ls st μ r μ' := by
  refine Ev.gen ⟨Nat.le_refl _, Nat.le_refl _⟩ ?_ k
  intro p e R s m args below meth c H locs cells slots la Q hC hR hRel hh hlocs hl kk
  rw [Nat.sub_self, Nat.sub_self, Nat.add_zero, Nat.add_zero] at kk
  rw [Nat.sub_self, Nat.sub_self, Nat.add_zero, Nat.add_zero] at hR
  exact h p e R s m args below meth c H locs cells slots la Q hC hR hRel hh hlocs hl (kk H locs la hRel hh hlocs hl)
/-- a local by its number -/
def lk : List (Nat × Value) → Nat → Option Value
  | [], _ => none
  | q :: t, i => if q.1 = i then some q.2 else lk t i
theorem lk_at {G : GG} {la : Array Slot} {nL : Nat} : ∀ {ls : List (Nat × Value)} {i : Nat} {v : Value}, lk ls i = some v → (i, v) ∈ ls
  | [], _, _, h => by cases h
  | q :: t, i, v, h => by
    rw [lk] at h
    by_cases c : q.1 = i
    · rw [if_pos c] at h
      cases h
      subst c
      exact List.mem_cons_self
    · rw [if_neg c] at h
      exact List.mem_cons_of_mem _ (lk_at (G := G) (la := la) (nL := nL) h)
theorem lk_get {G : GG} {la : Array Slot} {nL : Nat} {ls : List (Nat × Value)} {i : Nat} {v : Value} (hl : lv_has la nL (ls.map (trl G))) (h : lk ls i = some v) : la[i]? = some (.val (trv G v)) :=
  hl.2.2 (i, trv G v) (List.mem_map.mpr ⟨(i, v), lk_at (G := G) (la := la) (nL := nL) h, rfl⟩)
def sto1 (ls : List (Nat × Value)) (i : Nat) (v : Value) : List (Nat × Value) := (i, v) :: ls.filter (fun q => !(q.1 == i) && !(q.1 + 1 == i && q.2.category == 2))
def sto2 (ls : List (Nat × Value)) (i : Nat) (v : Value) : List (Nat × Value) := (i, v) :: ls.filter (fun q => !(q.1 == i) && (!(q.1 == i + 1) && !(q.1 + 1 == i && q.2.category == 2)))
theorem sto1_map (G : GG) (ls : List (Nat × Value)) (i : Nat) (v : Value) : (sto1 ls i v).map (trl G) = (i, trv G v) :: (ls.map (trl G)).filter (fun q => !(q.1 == i) && !(q.1 + 1 == i && q.2.category == 2)) := by
  rw [sto1, List.map_cons, List.filter_map]
  congr 2
  apply List.filter_congr
  intro q _
  simp only [Function.comp, trl, trv_cat]
theorem sto2_map (G : GG) (ls : List (Nat × Value)) (i : Nat) (v : Value) : (sto2 ls i v).map (trl G) = (i, trv G v) :: (ls.map (trl G)).filter (fun q => !(q.1 == i) && (!(q.1 == i + 1) && !(q.1 + 1 == i && q.2.category == 2))) := by
  rw [sto2, List.map_cons, List.filter_map]
  congr 2
  apply List.filter_congr
  intro q _
  simp only [Function.comp, trl, trv_cat]
