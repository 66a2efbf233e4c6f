/-! The rules as the printed functions use them. -/
def bd {α β γ : Type} (o : Option (α × β)) (F : α → β → Option γ) : Option γ := match o with
  | some p => F p.1 p.2
  | none => none
theorem bdS {α β γ : Type} {o : Option (α × β)} {F : α → β → Option γ} {res : γ} (h : bd o F = some res) : ∃ a b, o = some (a, b) ∧ F a b = some res := by
  cases o with
  | none => cases h
  | some p => exact ⟨p.1, p.2, rfl, h⟩
theorem ifS {α : Type} {c : Prop} {hc : Decidable c} {A B : Option α} {res : α} {P : Prop} (hf : (if c then A else B) = some res) (h1 : c → A = some res → P) (h2 : ¬ c → B = some res → P) : P := by
  by_cases h : c
  · rw [if_pos h] at hf; exact h1 h hf
  · rw [if_neg h] at hf; exact h2 h hf
theorem jnS {α β : Type} {K : β} {F : β → Option α} {res : α} {P : Prop} (hf : nm K F = some res) (h : ∀ k, k = K → F k = some res → P) : P := h K rfl hf
theorem i32ne {x c : Int32} (h : ¬ x = c) : ¬ x.toInt = c.toInt := fun q => h (Int32.toInt_inj.mp q)
/-- the text's length, its char -/
def tL (i : Nat) : Option Int32 := if i < sN then some (Int32.ofNat (sLen i)) else none
def tC (i : Nat) (x : Int32) : Option Int32 := if i < sN ∧ ¬ (x < 0 ∨ sLen i ≤ x.toNatClampNeg) then some ((sByt i).getD x.toNatClampNeg 0) else none
theorem sB_all : ∀ i, i < sN → ∀ b ∈ sByt i, ((b &&& 255).toUInt32 % 65536).toInt32 = b ∧ narrow .char (.int b) = .int b := by decide +kernel
theorem sL_all : ∀ i, i < sN → sLen i < 128 := by decide +kernel
theorem sB_at {i k : Nat} (hi : i < sN) : ((((sByt i).getD k 0) &&& 255).toUInt32 % 65536).toInt32 = (sByt i).getD k 0 ∧ narrow .char (.int ((sByt i).getD k 0)) = .int ((sByt i).getD k 0) := by
  by_cases hk : k < (sByt i).length
  · exact sB_all i hi _ (by rw [List.getD_eq_getElem?_getD, List.getElem?_eq_getElem hk]; exact List.getElem_mem hk)
  · rw [List.getD_eq_getElem?_getD, List.getElem?_eq_none (by omega)]
    exact ⟨by decide +kernel, by decide +kernel⟩
section RW
variable {l : Launch} {G : GG} {d : Nat} {y : MethodName} {cc : ByteArray} {nL : Nat} {ret : Option FieldType} {pc : Nat} {ls : List (Nat × Value)} {st : List Value} {μ : Mm} {r : Option Value} {μ' : Mm}
variable {idx d2 nL2 n : Nat} {y2 : MethodName} {cc2 : ByteArray} {ret2 : Option FieldType} (As : List Value) {rest : List Value}
theorem E_new2 {α : Type} {idx ci N : Nat} {dv : List Value} {F : Nat → Mm → Option α} {res : α} (hd : decode cc pc = .ok (.new idx, 3)) (hw : NL y.cls idx ci N dv) (hf : bd (nO μ ci N dv) F = some res) (k : ∀ a μ1, F a μ1 = some res → Ev l G d y cc nL ret (pc + 3) ls (.ref a :: st) μ1 r μ') : Ev l G d y cc nL ret pc ls st μ r μ' := E_new (F := fun p => F p.1 p.2) hd hw hf k
theorem E_newa2 {α : Type} {t : Nat} {n : Int32} {at_ : ArrayType} {F : Nat → Mm → Option α} {res : α} (hd : decode cc pc = .ok (.newarray at_, 2)) (hw : (at_ = .int ∧ t = 0) ∨ (at_ = .byte ∧ t = 1) ∨ (at_ = .boolean ∧ t = 2) ∨ (at_ = .long ∧ t = 3)) (ha : Cond.arrayClass (newarray.typeOf at_) ∈ gtbl) (hf : bd (nA μ t n) F = some res) (k : ∀ a μ1, F a μ1 = some res → Ev l G d y cc nL ret (pc + 2) ls (.ref a :: st) μ1 r μ') : Ev l G d y cc nL ret pc ls (.int n :: st) μ r μ' := E_newa (F := fun p => F p.1 p.2) hd hw ha (by
  obtain ⟨a, b, h1, h2⟩ := bdS hf
  rw [h1]; exact h2) k
theorem E_anew2 {α : Type} {idx t : Nat} {n : Int32} {C : String} {F : Nat → Mm → Option α} {res : α} (hd : decode cc pc = .ok (.anewarray idx, 3)) (hw : (C = "FallSchool$Rule" ∧ t = 4) ∨ (C = "FallSchool$School" ∧ t = 5)) (ha : Cond.classLink y.cls idx C ∈ gtbl) (hf : bd (nA μ t n) F = some res) (k : ∀ a μ1, F a μ1 = some res → Ev l G d y cc nL ret (pc + 3) ls (.ref a :: st) μ1 r μ') : Ev l G d y cc nL ret pc ls (.int n :: st) μ r μ' := E_anew (F := fun p => F p.1 p.2) hd hw ha (by
  obtain ⟨a, b, h1, h2⟩ := bdS hf
  rw [h1]; exact h2) k
theorem E_clone2 {α : Type} {idx a : Nat} {F : Nat → Mm → Option α} {res : α} (hd : decode cc pc = .ok (.invokevirtual idx, 3)) (h1d : 1 ≤ d) (hst : (st.map fun v => v.category).sum ≤ 8) (hw : Cond.methodLink y.cls idx ⟨"[I", "clone", "()Ljava/lang/Object;"⟩ ∈ gtbl ∧ Cond.sameMethod "[I" "java/lang/Object" "clone" "()Ljava/lang/Object;" ∈ gtbl ∧ Cond.native ⟨"java/lang/Object", "clone", "()Ljava/lang/Object;"⟩ ∈ gtbl ∧ Cond.instanceMethod ⟨"java/lang/Object", "clone", "()Ljava/lang/Object;"⟩ ∈ gtbl ∧ Cond.selects "[I" ⟨"[I", "clone", "()Ljava/lang/Object;"⟩ ⟨"java/lang/Object", "clone", "()Ljava/lang/Object;"⟩ ∈ gtbl) (hf : bd (clI μ a) F = some res) (k : ∀ b μ1, F b μ1 = some res → Ev l G d y cc nL ret (pc + 3) ls (.ref b :: st) μ1 r μ') : Ev l G d y cc nL ret pc ls (.ref a :: st) μ r μ' := E_clone (F := fun p => F p.1 p.2) hd h1d hst hw (by
  obtain ⟨a, b, h1, h2⟩ := bdS hf
  rw [h1]; exact h2) k
theorem E_ifnn {α : Type} {v : Option Nat} {off : Int} {tgt : Nat} {A B : Option α} {res : α} (hd : decode cc pc = .ok (.ifnonnull off, 3)) (ht : (pc : Int) + off = (tgt : Int)) (hf : (if v = none then B else A) = some res) (kf : B = some res → Ev l G d y cc nL ret (pc + 3) ls st μ r μ') (kt : A = some res → Ev l G d y cc nL ret tgt ls st μ r μ') : Ev l G d y cc nL ret pc ls (va_rf v :: st) μ r μ' := by
  cases v with
  | none => exact Ev.pure (fun p e R s m args below meth c H locs cells slots la Q hC hR hRel hh hlocs hl k => lv_ifnonnullN hC.1 hC.2.1 hd k) (kf hf)
  | some a => exact Ev.pure (fun p e R s m args below meth c H locs cells slots la Q hC hR hRel hh hlocs hl k => lv_ifnonnull hC.1 hC.2.1 hd ht k) (kt hf)
theorem E_unq {α : Type} {v : Option Nat} {F : Nat → Option α} {res : α} (hf : v.bind F = some res) (k : ∀ a, F a = some res → Ev l G d y cc nL ret pc ls (.ref a :: st) μ r μ') : Ev l G d y cc nL ret pc ls (va_rf v :: st) μ r μ' := by
  cases v with
  | none => cases hf
  | some a => exact k a hf
/-! calls by what they answer; a: on whom, of class ci -/
theorem E_Vi {α : Type} {a ci : Nat} {C : String} {T : u_T} {N : Nat} {fc : Option (Int32 × Mm)} {F : Int32 → Mm → Option α} {res : α} (hd : decode cc pc = .ok (.invokevirtual idx, 3)) (hl : Cond.methodLink y.cls idx y2 ∈ gtbl) (hm : MF y2 cc2 nL2 ret2 n) (hi : IM y2) (hci : classes[ci]? = some (C, T, N)) (hC2 : C = y2.cls) (hlen : As.length = n) (hd2 : d2 < d) (hfit : (lg_sl ((.ref a :: As).map (trv G))).length ≤ nL2) (hsum : (rest.map fun v => v.category).sum ≤ 8) (hst : st = As.reverse ++ .ref a :: rest)
    (hM : ∀ v μ1, fc = some (v, μ1) → EvM l G d2 y2 cc2 nL2 ret2 (.ref a :: As) μ (some (.int v)) μ1) (hf : ((ob μ a ci).bind fun _ => bd fc F) = some res) (k : ∀ v μ1, F v μ1 = some res → Ev l G d y cc nL ret (pc + 3) ls (.int v :: rest) μ1 r μ') : Ev l G d y cc nL ret pc ls st μ r μ' := by
  obtain ⟨fs, ho, hf⟩ := bindS hf
  obtain ⟨v, μ1, h1, h2⟩ := bdS hf
  exact E_V hd hl hm hi hci hC2 ho hlen hd2 hfit hsum hst (hM v μ1 h1) (k v μ1 h2)
theorem E_Vl {α : Type} {a ci : Nat} {C : String} {T : u_T} {N : Nat} {fc : Option (Int64 × Mm)} {F : Int64 → Mm → Option α} {res : α} (hd : decode cc pc = .ok (.invokevirtual idx, 3)) (hl : Cond.methodLink y.cls idx y2 ∈ gtbl) (hm : MF y2 cc2 nL2 ret2 n) (hi : IM y2) (hci : classes[ci]? = some (C, T, N)) (hC2 : C = y2.cls) (hlen : As.length = n) (hd2 : d2 < d) (hfit : (lg_sl ((.ref a :: As).map (trv G))).length ≤ nL2) (hsum : (rest.map fun v => v.category).sum ≤ 8) (hst : st = As.reverse ++ .ref a :: rest)
    (hM : ∀ v μ1, fc = some (v, μ1) → EvM l G d2 y2 cc2 nL2 ret2 (.ref a :: As) μ (some (.long v)) μ1) (hf : ((ob μ a ci).bind fun _ => bd fc F) = some res) (k : ∀ v μ1, F v μ1 = some res → Ev l G d y cc nL ret (pc + 3) ls (.long v :: rest) μ1 r μ') : Ev l G d y cc nL ret pc ls st μ r μ' := by
  obtain ⟨fs, ho, hf⟩ := bindS hf
  obtain ⟨v, μ1, h1, h2⟩ := bdS hf
  exact E_V hd hl hm hi hci hC2 ho hlen hd2 hfit hsum hst (hM v μ1 h1) (k v μ1 h2)
theorem E_Vr {α : Type} {a ci : Nat} {C : String} {T : u_T} {N : Nat} {fc : Option (Nat × Mm)} {F : Nat → Mm → Option α} {res : α} (hd : decode cc pc = .ok (.invokevirtual idx, 3)) (hl : Cond.methodLink y.cls idx y2 ∈ gtbl) (hm : MF y2 cc2 nL2 ret2 n) (hi : IM y2) (hci : classes[ci]? = some (C, T, N)) (hC2 : C = y2.cls) (hlen : As.length = n) (hd2 : d2 < d) (hfit : (lg_sl ((.ref a :: As).map (trv G))).length ≤ nL2) (hsum : (rest.map fun v => v.category).sum ≤ 8) (hst : st = As.reverse ++ .ref a :: rest)
    (hM : ∀ v μ1, fc = some (v, μ1) → EvM l G d2 y2 cc2 nL2 ret2 (.ref a :: As) μ (some (.ref v)) μ1) (hf : ((ob μ a ci).bind fun _ => bd fc F) = some res) (k : ∀ v μ1, F v μ1 = some res → Ev l G d y cc nL ret (pc + 3) ls (.ref v :: rest) μ1 r μ') : Ev l G d y cc nL ret pc ls st μ r μ' := by
  obtain ⟨fs, ho, hf⟩ := bindS hf
  obtain ⟨v, μ1, h1, h2⟩ := bdS hf
  exact E_V hd hl hm hi hci hC2 ho hlen hd2 hfit hsum hst (hM v μ1 h1) (k v μ1 h2)
theorem E_Vv {α : Type} {a ci : Nat} {C : String} {T : u_T} {N : Nat} {fc : Option Mm} {F : Mm → Option α} {res : α} (hd : decode cc pc = .ok (.invokevirtual idx, 3)) (hl : Cond.methodLink y.cls idx y2 ∈ gtbl) (hm : MF y2 cc2 nL2 ret2 n) (hi : IM y2) (hci : classes[ci]? = some (C, T, N)) (hC2 : C = y2.cls) (hlen : As.length = n) (hd2 : d2 < d) (hfit : (lg_sl ((.ref a :: As).map (trv G))).length ≤ nL2) (hsum : (rest.map fun v => v.category).sum ≤ 8) (hst : st = As.reverse ++ .ref a :: rest)
    (hM : ∀ μ1, fc = some μ1 → EvM l G d2 y2 cc2 nL2 ret2 (.ref a :: As) μ none μ1) (hf : ((ob μ a ci).bind fun _ => fc.bind F) = some res) (k : ∀ μ1, F μ1 = some res → Ev l G d y cc nL ret (pc + 3) ls rest μ1 r μ') : Ev l G d y cc nL ret pc ls st μ r μ' := by
  obtain ⟨fs, ho, hf⟩ := bindS hf
  obtain ⟨μ1, h1, h2⟩ := bindS hf
  exact E_V hd hl hm hi hci hC2 ho hlen hd2 hfit hsum hst (hM μ1 h1) (k μ1 h2)
theorem E_Si {α : Type} {fc : Option (Int32 × Mm)} {F : Int32 → Mm → Option α} {res : α} (hd : decode cc pc = .ok (.invokestatic idx, 3)) (hl : Cond.methodLink y.cls idx y2 ∈ gtbl) (hm : MF y2 cc2 nL2 ret2 n) (hi : Cond.static y2 ∈ gtbl) (hlen : As.length = n) (hd2 : d2 < d) (hfit : (lg_sl (As.map (trv G))).length ≤ nL2) (hsum : (rest.map fun v => v.category).sum ≤ 8) (hst : st = As.reverse ++ rest)
    (hM : ∀ v μ1, fc = some (v, μ1) → EvM l G d2 y2 cc2 nL2 ret2 As μ (some (.int v)) μ1) (hf : bd fc F = some res) (k : ∀ v μ1, F v μ1 = some res → Ev l G d y cc nL ret (pc + 3) ls (.int v :: rest) μ1 r μ') : Ev l G d y cc nL ret pc ls st μ r μ' := by
  obtain ⟨v, μ1, h1, h2⟩ := bdS hf
  exact E_S hd hl hm hi hlen hd2 hfit hsum hst (hM v μ1 h1) (k v μ1 h2)
theorem E_Sl {α : Type} {fc : Option (Int64 × Mm)} {F : Int64 → Mm → Option α} {res : α} (hd : decode cc pc = .ok (.invokestatic idx, 3)) (hl : Cond.methodLink y.cls idx y2 ∈ gtbl) (hm : MF y2 cc2 nL2 ret2 n) (hi : Cond.static y2 ∈ gtbl) (hlen : As.length = n) (hd2 : d2 < d) (hfit : (lg_sl (As.map (trv G))).length ≤ nL2) (hsum : (rest.map fun v => v.category).sum ≤ 8) (hst : st = As.reverse ++ rest)
    (hM : ∀ v μ1, fc = some (v, μ1) → EvM l G d2 y2 cc2 nL2 ret2 As μ (some (.long v)) μ1) (hf : bd fc F = some res) (k : ∀ v μ1, F v μ1 = some res → Ev l G d y cc nL ret (pc + 3) ls (.long v :: rest) μ1 r μ') : Ev l G d y cc nL ret pc ls st μ r μ' := by
  obtain ⟨v, μ1, h1, h2⟩ := bdS hf
  exact E_S hd hl hm hi hlen hd2 hfit hsum hst (hM v μ1 h1) (k v μ1 h2)
theorem E_Sr {α : Type} {fc : Option (Nat × Mm)} {F : Nat → Mm → Option α} {res : α} (hd : decode cc pc = .ok (.invokestatic idx, 3)) (hl : Cond.methodLink y.cls idx y2 ∈ gtbl) (hm : MF y2 cc2 nL2 ret2 n) (hi : Cond.static y2 ∈ gtbl) (hlen : As.length = n) (hd2 : d2 < d) (hfit : (lg_sl (As.map (trv G))).length ≤ nL2) (hsum : (rest.map fun v => v.category).sum ≤ 8) (hst : st = As.reverse ++ rest)
    (hM : ∀ v μ1, fc = some (v, μ1) → EvM l G d2 y2 cc2 nL2 ret2 As μ (some (.ref v)) μ1) (hf : bd fc F = some res) (k : ∀ v μ1, F v μ1 = some res → Ev l G d y cc nL ret (pc + 3) ls (.ref v :: rest) μ1 r μ') : Ev l G d y cc nL ret pc ls st μ r μ' := by
  obtain ⟨v, μ1, h1, h2⟩ := bdS hf
  exact E_S hd hl hm hi hlen hd2 hfit hsum hst (hM v μ1 h1) (k v μ1 h2)
theorem E_Sv {α : Type} {fc : Option Mm} {F : Mm → Option α} {res : α} (hd : decode cc pc = .ok (.invokestatic idx, 3)) (hl : Cond.methodLink y.cls idx y2 ∈ gtbl) (hm : MF y2 cc2 nL2 ret2 n) (hi : Cond.static y2 ∈ gtbl) (hlen : As.length = n) (hd2 : d2 < d) (hfit : (lg_sl (As.map (trv G))).length ≤ nL2) (hsum : (rest.map fun v => v.category).sum ≤ 8) (hst : st = As.reverse ++ rest)
    (hM : ∀ μ1, fc = some μ1 → EvM l G d2 y2 cc2 nL2 ret2 As μ none μ1) (hf : fc.bind F = some res) (k : ∀ μ1, F μ1 = some res → Ev l G d y cc nL ret (pc + 3) ls rest μ1 r μ') : Ev l G d y cc nL ret pc ls st μ r μ' := by
  obtain ⟨μ1, h1, h2⟩ := bindS hf
  exact E_S hd hl hm hi hlen hd2 hfit hsum hst (hM μ1 h1) (k μ1 h2)
theorem E_Iv {α : Type} {a : Nat} {fc : Option Mm} {F : Mm → Option α} {res : α} (hd : decode cc pc = .ok (.invokespecial idx, 3)) (hl : Cond.methodLink y.cls idx y2 ∈ gtbl) (hm : MF y2 cc2 nL2 none n) (hi : Cond.instanceMethod y2 ∈ gtbl) (hnm : y2.name = "<init>") (hlen : As.length = n) (hd2 : d2 < d) (hfit : (lg_sl ((.ref a :: As).map (trv G))).length ≤ nL2) (hsum : (rest.map fun v => v.category).sum ≤ 8) (hst : st = As.reverse ++ .ref a :: rest)
    (hM : ∀ μ1, fc = some μ1 → EvM l G d2 y2 cc2 nL2 none (.ref a :: As) μ none μ1) (hf : fc.bind F = some res) (k : ∀ μ1, F μ1 = some res → Ev l G d y cc nL ret (pc + 3) ls rest μ1 r μ') : Ev l G d y cc nL ret pc ls st μ r μ' := by
  obtain ⟨μ1, h1, h2⟩ := bindS hf
  exact E_I hd hl hm hi hnm hlen hd2 hfit hsum hst (hM μ1 h1) (k μ1 h2)
theorem E_INv {α : Type} {a : Nat} {host : String} {fc : Option Mm} {F : Mm → Option α} {res : α} (hd : decode cc pc = .ok (.invokespecial idx, 3)) (hl : (y.cls, idx, y2, host) ∈ nests) (hm : MF y2 cc2 nL2 none n) (hi : Cond.instanceMethod y2 ∈ gtbl) (hnm : y2.name = "<init>") (hlen : As.length = n) (hd2 : d2 < d) (hfit : (lg_sl ((.ref a :: As).map (trv G))).length ≤ nL2) (hsum : (rest.map fun v => v.category).sum ≤ 8) (hst : st = As.reverse ++ .ref a :: rest)
    (hM : ∀ μ1, fc = some μ1 → EvM l G d2 y2 cc2 nL2 none (.ref a :: As) μ none μ1) (hf : fc.bind F = some res) (k : ∀ μ1, F μ1 = some res → Ev l G d y cc nL ret (pc + 3) ls rest μ1 r μ') : Ev l G d y cc nL ret pc ls st μ r μ' := by
  obtain ⟨μ1, h1, h2⟩ := bindS hf
  exact E_IN hd hl hm hi hnm hlen hd2 hfit hsum hst (hM μ1 h1) (k μ1 h2)
theorem E_tswI {x : Int32} {dflt lo hi : Int} {offs : Array Int} {len tgt : Nat} {off : Int} (c : Int) (hd : decode cc pc = .ok (.tableswitch dflt lo hi offs, len)) (hx : x.toInt = c) (h1 : lo ≤ c) (h2 : c ≤ hi) (ho : offs[(c - lo).toNat]? = some off) (ht : (pc : Int) + off = (tgt : Int)) (k : Ev l G d y cc nL ret tgt ls st μ r μ') : Ev l G d y cc nL ret pc ls (.int x :: st) μ r μ' :=
  Ev.pure (fun p e R s m args below meth c2 H locs cells slots la Q hC hR hRel hh hlocs hl k => lv_tableIn hC.1 hC.2.1 hd (by omega) (by omega) (by rw [hx]; exact ho) ht k) k
theorem E_tswD {x : Int32} {dflt lo hi : Int} {offs : Array Int} {len tgt : Nat} (hd : decode cc pc = .ok (.tableswitch dflt lo hi offs, len)) (h1 : x.toInt < lo ∨ hi < x.toInt) (ht : (pc : Int) + dflt = (tgt : Int)) (k : Ev l G d y cc nL ret tgt ls st μ r μ') : Ev l G d y cc nL ret pc ls (.int x :: st) μ r μ' :=
  Ev.pure (fun p e R s m args below meth c2 H locs cells slots la Q hC hR hRel hh hlocs hl k => lv_tableOut hC.1 hC.2.1 hd h1 ht k) k
end RW
