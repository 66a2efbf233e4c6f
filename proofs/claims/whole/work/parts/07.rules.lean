section RU
variable {l : Launch} {G : GG} {d : Nat} {y : MethodName} {cc : ByteArray} {nL : Nat} {ret : Option FieldType} {pc : Nat} {ls : List (Nat × Value)} {st : List Value} {μ : Mm} {r : Option Value} {μ' : Mm}
theorem E_iconst {n : Int} {v : Int32} (hd : decode cc pc = .ok (.iconst n, 1)) (hv : Int32.ofInt n = v) (k : Ev l G d y cc nL ret (pc + 1) ls (.int v :: st) μ r μ') : Ev l G d y cc nL ret pc ls (st) μ r μ' :=
  Ev.pure (fun p e R s m args below meth c H locs cells slots la Q hC hR hRel hh hlocs hl k => lv_iconst hC.1 hC.2.1 hd hv k) k
theorem E_bipush {n : Int} {v : Int32} (hd : decode cc pc = .ok (.bipush n, 2)) (hv : (Int8.ofInt n).toInt32 = v) (k : Ev l G d y cc nL ret (pc + 2) ls (.int v :: st) μ r μ') : Ev l G d y cc nL ret pc ls (st) μ r μ' :=
  Ev.pure (fun p e R s m args below meth c H locs cells slots la Q hC hR hRel hh hlocs hl k => lv_bipush hC.1 hC.2.1 hd hv k) k
theorem E_sipush {n : Int} {v : Int32} (hd : decode cc pc = .ok (.sipush n, 3)) (hv : (Int16.ofInt n).toInt32 = v) (k : Ev l G d y cc nL ret (pc + 3) ls (.int v :: st) μ r μ') : Ev l G d y cc nL ret pc ls (st) μ r μ' :=
  Ev.pure (fun p e R s m args below meth c H locs cells slots la Q hC hR hRel hh hlocs hl k => lv_sipush hC.1 hC.2.1 hd hv k) k
theorem E_lconst {n : Fin 2} {v : Int64} (hd : decode cc pc = .ok (.lconst n, 1)) (hv : Int64.ofNat (n : Nat) = v) (k : Ev l G d y cc nL ret (pc + 1) ls (.long v :: st) μ r μ') : Ev l G d y cc nL ret pc ls (st) μ r μ' :=
  Ev.pure (fun p e R s m args below meth c H locs cells slots la Q hC hR hRel hh hlocs hl k => lv_lconst hC.1 hC.2.1 hd hv k) k
theorem E_ldc {i : Nat} {v : Int32} (hd : decode cc pc = .ok (.ldc i, 2)) (hw : Cond.constant y.cls i v ∈ gtbl) (k : Ev l G d y cc nL ret (pc + 2) ls (.int v :: st) μ r μ') : Ev l G d y cc nL ret pc ls (st) μ r μ' :=
  Ev.pure (fun p e R s m args below meth c H locs cells slots la Q hC hR hRel hh hlocs hl k => lv_ldc hC.1 hC.2.1 hC.2.2.2.2.2.1 (hC.2.2.2.2.2.2.2.1 _ hw) hd k) k
theorem E_ldcw {i : Nat} {v : Int32} (hd : decode cc pc = .ok (.ldc_w i, 3)) (hw : Cond.constant y.cls i v ∈ gtbl) (k : Ev l G d y cc nL ret (pc + 3) ls (.int v :: st) μ r μ') : Ev l G d y cc nL ret pc ls (st) μ r μ' :=
  Ev.pure (fun p e R s m args below meth c H locs cells slots la Q hC hR hRel hh hlocs hl k => lv_ldcw hC.1 hC.2.1 hC.2.2.2.2.2.1 (hC.2.2.2.2.2.2.2.1 _ hw) hd k) k
theorem E_ldc2 {i : Nat} {v : Int64} (hd : decode cc pc = .ok (.ldc2_w i, 3)) (hw : Cond.constantLong y.cls i v ∈ gtbl) (k : Ev l G d y cc nL ret (pc + 3) ls (.long v :: st) μ r μ') : Ev l G d y cc nL ret pc ls (st) μ r μ' :=
  Ev.pure (fun p e R s m args below meth c H locs cells slots la Q hC hR hRel hh hlocs hl k => lv_ldc2 hC.1 hC.2.1 hC.2.2.2.2.2.1 (hC.2.2.2.2.2.2.2.1 _ hw) hd k) k
theorem E_ldcS {i : Nat} (j : Nat) (hd : decode cc pc = .ok (.ldc i, 2)) (hj : j < sN) (hw : sOwn j = y.cls ∧ sIdx j = i) (k : Ev l G d y cc nL ret (pc + 2) ls (.ref j :: st) μ r μ') : Ev l G d y cc nL ret pc ls st μ r μ' := by
  refine Ev.pure (fun p e R s m args below meth c H locs cells slots la Q hC hR hRel hh hlocs hl k => ?_) k
  have h1 := (hC.2.2.2.2.2.2.2.2.1.2.1 j hj).1
  rw [hw.1, hw.2] at h1
  have e1 : trv G (.ref j) = .ref (G.2.2.1 j) := by
    rw [trv_ref, adr, if_pos (Nat.lt_of_lt_of_le hj (by decide))]
  rw [List.map_cons, e1] at k
  exact va_ldcS hC.1 hC.2.1 hC.2.2.2.2.2.1 h1 hd k
theorem E_iload_n {j : Fin 4} {x : Int32} (hd : decode cc pc = .ok (.iload_n j, 1)) (hx : lk ls (j : Nat) = some (.int x)) (k : Ev l G d y cc nL ret (pc + 1) ls (.int x :: st) μ r μ') : Ev l G d y cc nL ret pc ls (st) μ r μ' :=
  Ev.pure (fun p e R s m args below meth c H locs cells slots la Q hC hR hRel hh hlocs hl k => lv_iload_n hC.1 hC.2.1 hd rfl (lk_get hl hx) k) k
theorem E_iload {j : Nat} {x : Int32} (hd : decode cc pc = .ok (.iload j, 2)) (hx : lk ls j = some (.int x)) (k : Ev l G d y cc nL ret (pc + 2) ls (.int x :: st) μ r μ') : Ev l G d y cc nL ret pc ls (st) μ r μ' :=
  Ev.pure (fun p e R s m args below meth c H locs cells slots la Q hC hR hRel hh hlocs hl k => lv_iload hC.1 hC.2.1 hd (lk_get hl hx) k) k
theorem E_lload_n {j : Fin 4} {x : Int64} (hd : decode cc pc = .ok (.lload_n j, 1)) (hx : lk ls (j : Nat) = some (.long x)) (k : Ev l G d y cc nL ret (pc + 1) ls (.long x :: st) μ r μ') : Ev l G d y cc nL ret pc ls (st) μ r μ' :=
  Ev.pure (fun p e R s m args below meth c H locs cells slots la Q hC hR hRel hh hlocs hl k => lv_lload_n hC.1 hC.2.1 hd rfl (lk_get hl hx) k) k
theorem E_lload {j : Nat} {x : Int64} (hd : decode cc pc = .ok (.lload j, 2)) (hx : lk ls j = some (.long x)) (k : Ev l G d y cc nL ret (pc + 2) ls (.long x :: st) μ r μ') : Ev l G d y cc nL ret pc ls (st) μ r μ' :=
  Ev.pure (fun p e R s m args below meth c H locs cells slots la Q hC hR hRel hh hlocs hl k => lv_lload hC.1 hC.2.1 hd (lk_get hl hx) k) k
theorem E_aload_n {j : Fin 4} {x : Nat} (hd : decode cc pc = .ok (.aload_n j, 1)) (hx : lk ls (j : Nat) = some (.ref x)) (k : Ev l G d y cc nL ret (pc + 1) ls (.ref x :: st) μ r μ') : Ev l G d y cc nL ret pc ls (st) μ r μ' :=
  Ev.pure (fun p e R s m args below meth c H locs cells slots la Q hC hR hRel hh hlocs hl k => lv_aload_n hC.1 hC.2.1 hd rfl (lk_get hl hx) k) k
theorem E_aload {j : Nat} {x : Nat} (hd : decode cc pc = .ok (.aload j, 2)) (hx : lk ls j = some (.ref x)) (k : Ev l G d y cc nL ret (pc + 2) ls (.ref x :: st) μ r μ') : Ev l G d y cc nL ret pc ls (st) μ r μ' :=
  Ev.pure (fun p e R s m args below meth c H locs cells slots la Q hC hR hRel hh hlocs hl k => lv_aload hC.1 hC.2.1 hd (lk_get hl hx) k) k
theorem E_iadd {x z : Int32} (hd : decode cc pc = .ok (.iadd, 1))  (k : Ev l G d y cc nL ret (pc + 1) ls (.int (x + z) :: st) μ r μ') : Ev l G d y cc nL ret pc ls (.int z :: .int x :: st) μ r μ' :=
  Ev.pure (fun p e R s m args below meth c H locs cells slots la Q hC hR hRel hh hlocs hl k => lv_iadd hC.1 hC.2.1 hd k) k
theorem E_isub {x z : Int32} (hd : decode cc pc = .ok (.isub, 1))  (k : Ev l G d y cc nL ret (pc + 1) ls (.int (x - z) :: st) μ r μ') : Ev l G d y cc nL ret pc ls (.int z :: .int x :: st) μ r μ' :=
  Ev.pure (fun p e R s m args below meth c H locs cells slots la Q hC hR hRel hh hlocs hl k => lv_isub hC.1 hC.2.1 hd k) k
theorem E_imul {x z : Int32} (hd : decode cc pc = .ok (.imul, 1))  (k : Ev l G d y cc nL ret (pc + 1) ls (.int (x * z) :: st) μ r μ') : Ev l G d y cc nL ret pc ls (.int z :: .int x :: st) μ r μ' :=
  Ev.pure (fun p e R s m args below meth c H locs cells slots la Q hC hR hRel hh hlocs hl k => lv_imul hC.1 hC.2.1 hd k) k
theorem E_iand {x z : Int32} (hd : decode cc pc = .ok (.iand, 1))  (k : Ev l G d y cc nL ret (pc + 1) ls (.int (x &&& z) :: st) μ r μ') : Ev l G d y cc nL ret pc ls (.int z :: .int x :: st) μ r μ' :=
  Ev.pure (fun p e R s m args below meth c H locs cells slots la Q hC hR hRel hh hlocs hl k => lv_iand hC.1 hC.2.1 hd k) k
theorem E_ior {x z : Int32} (hd : decode cc pc = .ok (.ior, 1))  (k : Ev l G d y cc nL ret (pc + 1) ls (.int (x ||| z) :: st) μ r μ') : Ev l G d y cc nL ret pc ls (.int z :: .int x :: st) μ r μ' :=
  Ev.pure (fun p e R s m args below meth c H locs cells slots la Q hC hR hRel hh hlocs hl k => lv_ior hC.1 hC.2.1 hd k) k
theorem E_ixor {x z : Int32} (hd : decode cc pc = .ok (.ixor, 1))  (k : Ev l G d y cc nL ret (pc + 1) ls (.int (x ^^^ z) :: st) μ r μ') : Ev l G d y cc nL ret pc ls (.int z :: .int x :: st) μ r μ' :=
  Ev.pure (fun p e R s m args below meth c H locs cells slots la Q hC hR hRel hh hlocs hl k => lv_ixor hC.1 hC.2.1 hd k) k
theorem E_ishl {x z : Int32} (hd : decode cc pc = .ok (.ishl, 1))  (k : Ev l G d y cc nL ret (pc + 1) ls (.int (x <<< (z &&& 31)) :: st) μ r μ') : Ev l G d y cc nL ret pc ls (.int z :: .int x :: st) μ r μ' :=
  Ev.pure (fun p e R s m args below meth c H locs cells slots la Q hC hR hRel hh hlocs hl k => lv_ishl hC.1 hC.2.1 hd k) k
theorem E_ishr {x z : Int32} (hd : decode cc pc = .ok (.ishr, 1))  (k : Ev l G d y cc nL ret (pc + 1) ls (.int (x >>> (z &&& 31)) :: st) μ r μ') : Ev l G d y cc nL ret pc ls (.int z :: .int x :: st) μ r μ' :=
  Ev.pure (fun p e R s m args below meth c H locs cells slots la Q hC hR hRel hh hlocs hl k => lv_ishr hC.1 hC.2.1 hd k) k
theorem E_iushr {x z : Int32} (hd : decode cc pc = .ok (.iushr, 1))  (k : Ev l G d y cc nL ret (pc + 1) ls (.int ((x.toUInt32 >>> (z.toUInt32 &&& Int32.toUInt32 31)).toInt32) :: st) μ r μ') : Ev l G d y cc nL ret pc ls (.int z :: .int x :: st) μ r μ' :=
  Ev.pure (fun p e R s m args below meth c H locs cells slots la Q hC hR hRel hh hlocs hl k => lv_iushr hC.1 hC.2.1 hd rfl k) k
theorem E_ineg {x : Int32} (hd : decode cc pc = .ok (.ineg, 1))  (k : Ev l G d y cc nL ret (pc + 1) ls (.int (-x) :: st) μ r μ') : Ev l G d y cc nL ret pc ls (.int x :: st) μ r μ' :=
  Ev.pure (fun p e R s m args below meth c H locs cells slots la Q hC hR hRel hh hlocs hl k => lv_ineg hC.1 hC.2.1 hd k) k
theorem E_ladd {x z : Int64} (hd : decode cc pc = .ok (.ladd, 1))  (k : Ev l G d y cc nL ret (pc + 1) ls (.long (x + z) :: st) μ r μ') : Ev l G d y cc nL ret pc ls (.long z :: .long x :: st) μ r μ' :=
  Ev.pure (fun p e R s m args below meth c H locs cells slots la Q hC hR hRel hh hlocs hl k => lv_ladd hC.1 hC.2.1 hd k) k
theorem E_lsub {x z : Int64} (hd : decode cc pc = .ok (.lsub, 1))  (k : Ev l G d y cc nL ret (pc + 1) ls (.long (x - z) :: st) μ r μ') : Ev l G d y cc nL ret pc ls (.long z :: .long x :: st) μ r μ' :=
  Ev.pure (fun p e R s m args below meth c H locs cells slots la Q hC hR hRel hh hlocs hl k => lv_lsub hC.1 hC.2.1 hd k) k
theorem E_lmul {x z : Int64} (hd : decode cc pc = .ok (.lmul, 1))  (k : Ev l G d y cc nL ret (pc + 1) ls (.long (x * z) :: st) μ r μ') : Ev l G d y cc nL ret pc ls (.long z :: .long x :: st) μ r μ' :=
  Ev.pure (fun p e R s m args below meth c H locs cells slots la Q hC hR hRel hh hlocs hl k => lv_lmul hC.1 hC.2.1 hd k) k
theorem E_land {x z : Int64} (hd : decode cc pc = .ok (.land, 1))  (k : Ev l G d y cc nL ret (pc + 1) ls (.long (x &&& z) :: st) μ r μ') : Ev l G d y cc nL ret pc ls (.long z :: .long x :: st) μ r μ' :=
  Ev.pure (fun p e R s m args below meth c H locs cells slots la Q hC hR hRel hh hlocs hl k => lv_land hC.1 hC.2.1 hd k) k
theorem E_lor {x z : Int64} (hd : decode cc pc = .ok (.lor, 1))  (k : Ev l G d y cc nL ret (pc + 1) ls (.long (x ||| z) :: st) μ r μ') : Ev l G d y cc nL ret pc ls (.long z :: .long x :: st) μ r μ' :=
  Ev.pure (fun p e R s m args below meth c H locs cells slots la Q hC hR hRel hh hlocs hl k => lv_lor hC.1 hC.2.1 hd k) k
theorem E_lxor {x z : Int64} (hd : decode cc pc = .ok (.lxor, 1))  (k : Ev l G d y cc nL ret (pc + 1) ls (.long (x ^^^ z) :: st) μ r μ') : Ev l G d y cc nL ret pc ls (.long z :: .long x :: st) μ r μ' :=
  Ev.pure (fun p e R s m args below meth c H locs cells slots la Q hC hR hRel hh hlocs hl k => lv_lxor hC.1 hC.2.1 hd k) k
theorem E_lneg {x : Int64} (hd : decode cc pc = .ok (.lneg, 1))  (k : Ev l G d y cc nL ret (pc + 1) ls (.long (-x) :: st) μ r μ') : Ev l G d y cc nL ret pc ls (.long x :: st) μ r μ' :=
  Ev.pure (fun p e R s m args below meth c H locs cells slots la Q hC hR hRel hh hlocs hl k => lv_lneg hC.1 hC.2.1 hd k) k
theorem E_lshl {x : Int64} {z : Int32} (hd : decode cc pc = .ok (.lshl, 1))  (k : Ev l G d y cc nL ret (pc + 1) ls (.long (x <<< (z.toInt64 &&& 63)) :: st) μ r μ') : Ev l G d y cc nL ret pc ls (.int z :: .long x :: st) μ r μ' :=
  Ev.pure (fun p e R s m args below meth c H locs cells slots la Q hC hR hRel hh hlocs hl k => lv_lshl hC.1 hC.2.1 hd rfl k) k
theorem E_lshr {x : Int64} {z : Int32} (hd : decode cc pc = .ok (.lshr, 1))  (k : Ev l G d y cc nL ret (pc + 1) ls (.long (x >>> (z.toInt64 &&& 63)) :: st) μ r μ') : Ev l G d y cc nL ret pc ls (.int z :: .long x :: st) μ r μ' :=
  Ev.pure (fun p e R s m args below meth c H locs cells slots la Q hC hR hRel hh hlocs hl k => lv_lshr hC.1 hC.2.1 hd rfl k) k
theorem E_lushr {x : Int64} {z : Int32} (hd : decode cc pc = .ok (.lushr, 1))  (k : Ev l G d y cc nL ret (pc + 1) ls (.long ((x.toUInt64 >>> (z.toInt64.toUInt64 &&& Int64.toUInt64 63)).toInt64) :: st) μ r μ') : Ev l G d y cc nL ret pc ls (.int z :: .long x :: st) μ r μ' :=
  Ev.pure (fun p e R s m args below meth c H locs cells slots la Q hC hR hRel hh hlocs hl k => lv_lushr hC.1 hC.2.1 hd rfl k) k
theorem E_i2l {x : Int32} (hd : decode cc pc = .ok (.i2l, 1))  (k : Ev l G d y cc nL ret (pc + 1) ls (.long x.toInt64 :: st) μ r μ') : Ev l G d y cc nL ret pc ls (.int x :: st) μ r μ' :=
  Ev.pure (fun p e R s m args below meth c H locs cells slots la Q hC hR hRel hh hlocs hl k => lv_i2l hC.1 hC.2.1 hd rfl k) k
theorem E_l2i {x : Int64} (hd : decode cc pc = .ok (.l2i, 1))  (k : Ev l G d y cc nL ret (pc + 1) ls (.int x.toInt32 :: st) μ r μ') : Ev l G d y cc nL ret pc ls (.long x :: st) μ r μ' :=
  Ev.pure (fun p e R s m args below meth c H locs cells slots la Q hC hR hRel hh hlocs hl k => lv_l2i hC.1 hC.2.1 hd rfl k) k
theorem E_i2b {x : Int32} (hd : decode cc pc = .ok (.i2b, 1))  (k : Ev l G d y cc nL ret (pc + 1) ls (.int x.toInt8.toInt32 :: st) μ r μ') : Ev l G d y cc nL ret pc ls (.int x :: st) μ r μ' :=
  Ev.pure (fun p e R s m args below meth c H locs cells slots la Q hC hR hRel hh hlocs hl k => lv_i2b hC.1 hC.2.1 hd rfl k) k
theorem E_lcmp {x z : Int64} (hd : decode cc pc = .ok (.lcmp, 1))  (k : Ev l G d y cc nL ret (pc + 1) ls (.int (lg_cmp x z) :: st) μ r μ') : Ev l G d y cc nL ret pc ls (.long z :: .long x :: st) μ r μ' :=
  Ev.pure (fun p e R s m args below meth c H locs cells slots la Q hC hR hRel hh hlocs hl k => W.lcmp hC.1 hC.2.1 hd k) k
theorem E_dup {v : Value} (hd : decode cc pc = .ok (.dup, 1)) (hv : v.category = 1) (k : Ev l G d y cc nL ret (pc + 1) ls (v :: v :: st) μ r μ') : Ev l G d y cc nL ret pc ls (v :: st) μ r μ' :=
  Ev.pure (fun p e R s m args below meth c H locs cells slots la Q hC hR hRel hh hlocs hl k => lv_dup hC.1 hC.2.1 hd ((trv_cat G v).trans hv) k) k
theorem E_pop {v : Value} (hd : decode cc pc = .ok (.pop, 1)) (hv : v.category = 1) (k : Ev l G d y cc nL ret (pc + 1) ls (st) μ r μ') : Ev l G d y cc nL ret pc ls (v :: st) μ r μ' :=
  Ev.pure (fun p e R s m args below meth c H locs cells slots la Q hC hR hRel hh hlocs hl k => lv_pop hC.1 hC.2.1 hd ((trv_cat G v).trans hv) k) k
theorem E_dup2 {v w : Value} (hd : decode cc pc = .ok (.dup2, 1)) (hv : v.category = 1) (hw : w.category = 1) (k : Ev l G d y cc nL ret (pc + 1) ls (v :: w :: v :: w :: st) μ r μ') : Ev l G d y cc nL ret pc ls (v :: w :: st) μ r μ' :=
  Ev.pure (fun p e R s m args below meth c H locs cells slots la Q hC hR hRel hh hlocs hl k => lv_dup2_11 hC.1 hC.2.1 hd ((trv_cat G v).trans hv) ((trv_cat G w).trans hw) k) k
theorem E_dup2l {v : Value} (hd : decode cc pc = .ok (.dup2, 1)) (hv : v.category = 2) (k : Ev l G d y cc nL ret (pc + 1) ls (v :: v :: st) μ r μ') : Ev l G d y cc nL ret pc ls (v :: st) μ r μ' :=
  Ev.pure (fun p e R s m args below meth c H locs cells slots la Q hC hR hRel hh hlocs hl k => lv_dup2_2 hC.1 hC.2.1 hd ((trv_cat G v).trans hv) k) k
theorem E_goto {off : Int} {tgt : Nat} (hd : decode cc pc = .ok (.goto off, 3)) (ht : (pc : Int) + off = (tgt : Int)) (k : Ev l G d y cc nL ret tgt ls st μ r μ') : Ev l G d y cc nL ret pc ls st μ r μ' :=
  Ev.pure (fun p e R s m args below meth c H locs cells slots la Q hC hR hRel hh hlocs hl k => lv_goto hC.1 hC.2.1 hd ht k) k
theorem E_idiv {α : Type} {x z : Int32} {F : Int32 → Option α} {res : α} (hd : decode cc pc = .ok (.idiv, 1)) (hf : (if z = 0 then none else F (x / z)) = some res) (k : F (x / z) = some res → Ev l G d y cc nL ret (pc + 1) ls (.int (x / z) :: st) μ r μ') : Ev l G d y cc nL ret pc ls (.int z :: .int x :: st) μ r μ' := by
  by_cases h0 : z = 0
  · rw [if_pos h0] at hf; cases hf
  · rw [if_neg h0] at hf
    exact Ev.pure (fun p e R s m args below meth c H locs cells slots la Q hC hR hRel hh hlocs hl k => lv_idiv hC.1 hC.2.1 hd h0 k) (k hf)
theorem E_irem {α : Type} {x z : Int32} {F : Int32 → Option α} {res : α} (hd : decode cc pc = .ok (.irem, 1)) (hf : (if z = 0 then none else F (x - x / z * z)) = some res) (k : F (x - x / z * z) = some res → Ev l G d y cc nL ret (pc + 1) ls (.int (x - x / z * z) :: st) μ r μ') : Ev l G d y cc nL ret pc ls (.int z :: .int x :: st) μ r μ' := by
  by_cases h0 : z = 0
  · rw [if_pos h0] at hf; cases hf
  · rw [if_neg h0] at hf
    exact Ev.pure (fun p e R s m args below meth c H locs cells slots la Q hC hR hRel hh hlocs hl k => lv_irem hC.1 hC.2.1 hd h0 k) (k hf)
theorem E_ldiv {α : Type} {x z : Int64} {F : Int64 → Option α} {res : α} (hd : decode cc pc = .ok (.ldiv, 1)) (hf : (if z = 0 then none else F (x / z)) = some res) (k : F (x / z) = some res → Ev l G d y cc nL ret (pc + 1) ls (.long (x / z) :: st) μ r μ') : Ev l G d y cc nL ret pc ls (.long z :: .long x :: st) μ r μ' := by
  by_cases h0 : z = 0
  · rw [if_pos h0] at hf; cases hf
  · rw [if_neg h0] at hf
    exact Ev.pure (fun p e R s m args below meth c H locs cells slots la Q hC hR hRel hh hlocs hl k => lv_ldiv hC.1 hC.2.1 hd h0 k) (k hf)
theorem E_lrem {α : Type} {x z : Int64} {F : Int64 → Option α} {res : α} (hd : decode cc pc = .ok (.lrem, 1)) (hf : (if z = 0 then none else F (x - x / z * z)) = some res) (k : F (x - x / z * z) = some res → Ev l G d y cc nL ret (pc + 1) ls (.long (x - x / z * z) :: st) μ r μ') : Ev l G d y cc nL ret pc ls (.long z :: .long x :: st) μ r μ' := by
  by_cases h0 : z = 0
  · rw [if_pos h0] at hf; cases hf
  · rw [if_neg h0] at hf
    exact Ev.pure (fun p e R s m args below meth c H locs cells slots la Q hC hR hRel hh hlocs hl k => lv_lrem hC.1 hC.2.1 hd h0 k) (k hf)
theorem E_if_eq {α : Type} {x : Int32} {off : Int} {tgt : Nat} {A B : Option α} {res : α} (hd : decode cc pc = .ok (.ifCond .eq off, 3)) (ht : (pc : Int) + off = (tgt : Int)) (hf : (if x = 0 then A else B) = some res) (kt : A = some res → Ev l G d y cc nL ret tgt ls st μ r μ') (kf : B = some res → Ev l G d y cc nL ret (pc + 3) ls st μ r μ') : Ev l G d y cc nL ret pc ls (.int x :: st) μ r μ' := by
  by_cases h0 : x = 0
  · rw [if_pos h0] at hf
    exact Ev.pure (fun p e R s m args below meth c H locs cells slots la Q hC hR hRel hh hlocs hl k => lv_if_eq hC.1 hC.2.1 hd ht (fun _ => k) (fun h => absurd h0 h)) (kt hf)
  · rw [if_neg h0] at hf
    exact Ev.pure (fun p e R s m args below meth c H locs cells slots la Q hC hR hRel hh hlocs hl k => lv_if_eq hC.1 hC.2.1 hd ht (fun h => absurd h h0) (fun _ => k)) (kf hf)
theorem E_if_ne {α : Type} {x : Int32} {off : Int} {tgt : Nat} {A B : Option α} {res : α} (hd : decode cc pc = .ok (.ifCond .ne off, 3)) (ht : (pc : Int) + off = (tgt : Int)) (hf : (if x = 0 then A else B) = some res) (kt : A = some res → Ev l G d y cc nL ret (pc + 3) ls st μ r μ') (kf : B = some res → Ev l G d y cc nL ret tgt ls st μ r μ') : Ev l G d y cc nL ret pc ls (.int x :: st) μ r μ' := by
  by_cases h0 : x = 0
  · rw [if_pos h0] at hf
    exact Ev.pure (fun p e R s m args below meth c H locs cells slots la Q hC hR hRel hh hlocs hl k => lv_if_ne hC.1 hC.2.1 hd ht (fun h => absurd h0 h) (fun _ => k)) (kt hf)
  · rw [if_neg h0] at hf
    exact Ev.pure (fun p e R s m args below meth c H locs cells slots la Q hC hR hRel hh hlocs hl k => lv_if_ne hC.1 hC.2.1 hd ht (fun _ => k) (fun h => absurd h h0)) (kf hf)
theorem E_if_lt {α : Type} {x : Int32} {off : Int} {tgt : Nat} {A B : Option α} {res : α} (hd : decode cc pc = .ok (.ifCond .lt off, 3)) (ht : (pc : Int) + off = (tgt : Int)) (hf : (if x < 0 then A else B) = some res) (kt : A = some res → Ev l G d y cc nL ret tgt ls st μ r μ') (kf : B = some res → Ev l G d y cc nL ret (pc + 3) ls st μ r μ') : Ev l G d y cc nL ret pc ls (.int x :: st) μ r μ' := by
  by_cases h0 : x < 0
  · rw [if_pos h0] at hf
    exact Ev.pure (fun p e R s m args below meth c H locs cells slots la Q hC hR hRel hh hlocs hl k => lv_if_lt hC.1 hC.2.1 hd ht (fun _ => k) (fun h => absurd h0 h)) (kt hf)
  · rw [if_neg h0] at hf
    exact Ev.pure (fun p e R s m args below meth c H locs cells slots la Q hC hR hRel hh hlocs hl k => lv_if_lt hC.1 hC.2.1 hd ht (fun h => absurd h h0) (fun _ => k)) (kf hf)
theorem E_if_ge {α : Type} {x : Int32} {off : Int} {tgt : Nat} {A B : Option α} {res : α} (hd : decode cc pc = .ok (.ifCond .ge off, 3)) (ht : (pc : Int) + off = (tgt : Int)) (hf : (if 0 ≤ x then A else B) = some res) (kt : A = some res → Ev l G d y cc nL ret tgt ls st μ r μ') (kf : B = some res → Ev l G d y cc nL ret (pc + 3) ls st μ r μ') : Ev l G d y cc nL ret pc ls (.int x :: st) μ r μ' := by
  by_cases h0 : 0 ≤ x
  · rw [if_pos h0] at hf
    exact Ev.pure (fun p e R s m args below meth c H locs cells slots la Q hC hR hRel hh hlocs hl k => lv_if_ge hC.1 hC.2.1 hd ht (fun _ => k) (fun h => absurd h0 h)) (kt hf)
  · rw [if_neg h0] at hf
    exact Ev.pure (fun p e R s m args below meth c H locs cells slots la Q hC hR hRel hh hlocs hl k => lv_if_ge hC.1 hC.2.1 hd ht (fun h => absurd h h0) (fun _ => k)) (kf hf)
theorem E_if_gt {α : Type} {x : Int32} {off : Int} {tgt : Nat} {A B : Option α} {res : α} (hd : decode cc pc = .ok (.ifCond .gt off, 3)) (ht : (pc : Int) + off = (tgt : Int)) (hf : (if 0 < x then A else B) = some res) (kt : A = some res → Ev l G d y cc nL ret tgt ls st μ r μ') (kf : B = some res → Ev l G d y cc nL ret (pc + 3) ls st μ r μ') : Ev l G d y cc nL ret pc ls (.int x :: st) μ r μ' := by
  by_cases h0 : 0 < x
  · rw [if_pos h0] at hf
    exact Ev.pure (fun p e R s m args below meth c H locs cells slots la Q hC hR hRel hh hlocs hl k => lv_if_gt hC.1 hC.2.1 hd ht (fun _ => k) (fun h => absurd h0 h)) (kt hf)
  · rw [if_neg h0] at hf
    exact Ev.pure (fun p e R s m args below meth c H locs cells slots la Q hC hR hRel hh hlocs hl k => lv_if_gt hC.1 hC.2.1 hd ht (fun h => absurd h h0) (fun _ => k)) (kf hf)
theorem E_if_le {α : Type} {x : Int32} {off : Int} {tgt : Nat} {A B : Option α} {res : α} (hd : decode cc pc = .ok (.ifCond .le off, 3)) (ht : (pc : Int) + off = (tgt : Int)) (hf : (if x ≤ 0 then A else B) = some res) (kt : A = some res → Ev l G d y cc nL ret tgt ls st μ r μ') (kf : B = some res → Ev l G d y cc nL ret (pc + 3) ls st μ r μ') : Ev l G d y cc nL ret pc ls (.int x :: st) μ r μ' := by
  by_cases h0 : x ≤ 0
  · rw [if_pos h0] at hf
    exact Ev.pure (fun p e R s m args below meth c H locs cells slots la Q hC hR hRel hh hlocs hl k => lv_if_le hC.1 hC.2.1 hd ht (fun _ => k) (fun h => absurd h0 h)) (kt hf)
  · rw [if_neg h0] at hf
    exact Ev.pure (fun p e R s m args below meth c H locs cells slots la Q hC hR hRel hh hlocs hl k => lv_if_le hC.1 hC.2.1 hd ht (fun h => absurd h h0) (fun _ => k)) (kf hf)
theorem E_icmp_eq {α : Type} {x z : Int32} {off : Int} {tgt : Nat} {A B : Option α} {res : α} (hd : decode cc pc = .ok (.if_icmp .eq off, 3)) (ht : (pc : Int) + off = (tgt : Int)) (hf : (if x = z then A else B) = some res) (kt : A = some res → Ev l G d y cc nL ret tgt ls st μ r μ') (kf : B = some res → Ev l G d y cc nL ret (pc + 3) ls st μ r μ') : Ev l G d y cc nL ret pc ls (.int z :: .int x :: st) μ r μ' := by
  by_cases h0 : x = z
  · rw [if_pos h0] at hf
    exact Ev.pure (fun p e R s m args below meth c H locs cells slots la Q hC hR hRel hh hlocs hl k => lv_icmp_eq hC.1 hC.2.1 hd ht (fun _ => k) (fun h => absurd h0 h)) (kt hf)
  · rw [if_neg h0] at hf
    exact Ev.pure (fun p e R s m args below meth c H locs cells slots la Q hC hR hRel hh hlocs hl k => lv_icmp_eq hC.1 hC.2.1 hd ht (fun h => absurd h h0) (fun _ => k)) (kf hf)
theorem E_icmp_ne {α : Type} {x z : Int32} {off : Int} {tgt : Nat} {A B : Option α} {res : α} (hd : decode cc pc = .ok (.if_icmp .ne off, 3)) (ht : (pc : Int) + off = (tgt : Int)) (hf : (if x = z then A else B) = some res) (kt : A = some res → Ev l G d y cc nL ret (pc + 3) ls st μ r μ') (kf : B = some res → Ev l G d y cc nL ret tgt ls st μ r μ') : Ev l G d y cc nL ret pc ls (.int z :: .int x :: st) μ r μ' := by
  by_cases h0 : x = z
  · rw [if_pos h0] at hf
    exact Ev.pure (fun p e R s m args below meth c H locs cells slots la Q hC hR hRel hh hlocs hl k => lv_icmp_ne hC.1 hC.2.1 hd ht (fun h => absurd h0 h) (fun _ => k)) (kt hf)
  · rw [if_neg h0] at hf
    exact Ev.pure (fun p e R s m args below meth c H locs cells slots la Q hC hR hRel hh hlocs hl k => lv_icmp_ne hC.1 hC.2.1 hd ht (fun _ => k) (fun h => absurd h h0)) (kf hf)
theorem E_icmp_lt {α : Type} {x z : Int32} {off : Int} {tgt : Nat} {A B : Option α} {res : α} (hd : decode cc pc = .ok (.if_icmp .lt off, 3)) (ht : (pc : Int) + off = (tgt : Int)) (hf : (if x < z then A else B) = some res) (kt : A = some res → Ev l G d y cc nL ret tgt ls st μ r μ') (kf : B = some res → Ev l G d y cc nL ret (pc + 3) ls st μ r μ') : Ev l G d y cc nL ret pc ls (.int z :: .int x :: st) μ r μ' := by
  by_cases h0 : x < z
  · rw [if_pos h0] at hf
    exact Ev.pure (fun p e R s m args below meth c H locs cells slots la Q hC hR hRel hh hlocs hl k => lv_icmp_lt hC.1 hC.2.1 hd ht (fun _ => k) (fun h => absurd h0 h)) (kt hf)
  · rw [if_neg h0] at hf
    exact Ev.pure (fun p e R s m args below meth c H locs cells slots la Q hC hR hRel hh hlocs hl k => lv_icmp_lt hC.1 hC.2.1 hd ht (fun h => absurd h h0) (fun _ => k)) (kf hf)
theorem E_icmp_ge {α : Type} {x z : Int32} {off : Int} {tgt : Nat} {A B : Option α} {res : α} (hd : decode cc pc = .ok (.if_icmp .ge off, 3)) (ht : (pc : Int) + off = (tgt : Int)) (hf : (if z ≤ x then A else B) = some res) (kt : A = some res → Ev l G d y cc nL ret tgt ls st μ r μ') (kf : B = some res → Ev l G d y cc nL ret (pc + 3) ls st μ r μ') : Ev l G d y cc nL ret pc ls (.int z :: .int x :: st) μ r μ' := by
  by_cases h0 : z ≤ x
  · rw [if_pos h0] at hf
    exact Ev.pure (fun p e R s m args below meth c H locs cells slots la Q hC hR hRel hh hlocs hl k => lv_icmp_ge hC.1 hC.2.1 hd ht (fun _ => k) (fun h => absurd h0 h)) (kt hf)
  · rw [if_neg h0] at hf
    exact Ev.pure (fun p e R s m args below meth c H locs cells slots la Q hC hR hRel hh hlocs hl k => lv_icmp_ge hC.1 hC.2.1 hd ht (fun h => absurd h h0) (fun _ => k)) (kf hf)
theorem E_icmp_gt {α : Type} {x z : Int32} {off : Int} {tgt : Nat} {A B : Option α} {res : α} (hd : decode cc pc = .ok (.if_icmp .gt off, 3)) (ht : (pc : Int) + off = (tgt : Int)) (hf : (if z < x then A else B) = some res) (kt : A = some res → Ev l G d y cc nL ret tgt ls st μ r μ') (kf : B = some res → Ev l G d y cc nL ret (pc + 3) ls st μ r μ') : Ev l G d y cc nL ret pc ls (.int z :: .int x :: st) μ r μ' := by
  by_cases h0 : z < x
  · rw [if_pos h0] at hf
    exact Ev.pure (fun p e R s m args below meth c H locs cells slots la Q hC hR hRel hh hlocs hl k => lv_icmp_gt hC.1 hC.2.1 hd ht (fun _ => k) (fun h => absurd h0 h)) (kt hf)
  · rw [if_neg h0] at hf
    exact Ev.pure (fun p e R s m args below meth c H locs cells slots la Q hC hR hRel hh hlocs hl k => lv_icmp_gt hC.1 hC.2.1 hd ht (fun h => absurd h h0) (fun _ => k)) (kf hf)
theorem E_icmp_le {α : Type} {x z : Int32} {off : Int} {tgt : Nat} {A B : Option α} {res : α} (hd : decode cc pc = .ok (.if_icmp .le off, 3)) (ht : (pc : Int) + off = (tgt : Int)) (hf : (if x ≤ z then A else B) = some res) (kt : A = some res → Ev l G d y cc nL ret tgt ls st μ r μ') (kf : B = some res → Ev l G d y cc nL ret (pc + 3) ls st μ r μ') : Ev l G d y cc nL ret pc ls (.int z :: .int x :: st) μ r μ' := by
  by_cases h0 : x ≤ z
  · rw [if_pos h0] at hf
    exact Ev.pure (fun p e R s m args below meth c H locs cells slots la Q hC hR hRel hh hlocs hl k => lv_icmp_le hC.1 hC.2.1 hd ht (fun _ => k) (fun h => absurd h0 h)) (kt hf)
  · rw [if_neg h0] at hf
    exact Ev.pure (fun p e R s m args below meth c H locs cells slots la Q hC hR hRel hh hlocs hl k => lv_icmp_le hC.1 hC.2.1 hd ht (fun h => absurd h h0) (fun _ => k)) (kf hf)
/-- a value gets a name -/
def nm {α β : Type} (e : α) (F : α → β) : β := F e
theorem E_istore_n {α : Type} {j : Fin 4} {e : Int32} {F : Int32 → Option α} {ls' : Int32 → List (Nat × Value)} {res : α} (hd : decode cc pc = .ok (.istore_n j, 1)) (hn : (j : Nat) < nL) (hls : ∀ x, sto1 ls (j : Nat) (.int x) = ls' x) (hf : nm e F = some res) (k : ∀ x, F x = some res → Ev l G d y cc nL ret (pc + 1) (ls' x) st μ r μ') : Ev l G d y cc nL ret pc ls (.int e :: st) μ r μ' := by
  refine Ev.gen ⟨Nat.le_refl _, Nat.le_refl _⟩ ?_ (k e hf)
  intro p e0 R s m args below meth c H locs cells slots la Q hC hR hRel hh hlocs hl kk
  rw [Nat.sub_self, Nat.sub_self, Nat.add_zero, Nat.add_zero] at kk
  refine lv_istore_n (lv' := (ls' e).map (trl G)) hC.1 hC.2.1 hd rfl hl hn (by rw [← hls e, sto1_map]; rfl) (fun la1 hl1 => kk H locs la1 hRel hh hlocs hl1)
theorem E_istore {α : Type} {j : Nat} {e : Int32} {F : Int32 → Option α} {ls' : Int32 → List (Nat × Value)} {res : α} (hd : decode cc pc = .ok (.istore j, 2)) (hn : j < nL) (hls : ∀ x, sto1 ls j (.int x) = ls' x) (hf : nm e F = some res) (k : ∀ x, F x = some res → Ev l G d y cc nL ret (pc + 2) (ls' x) st μ r μ') : Ev l G d y cc nL ret pc ls (.int e :: st) μ r μ' := by
  refine Ev.gen ⟨Nat.le_refl _, Nat.le_refl _⟩ ?_ (k e hf)
  intro p e0 R s m args below meth c H locs cells slots la Q hC hR hRel hh hlocs hl kk
  rw [Nat.sub_self, Nat.sub_self, Nat.add_zero, Nat.add_zero] at kk
  refine lv_istore (lv' := (ls' e).map (trl G)) hC.1 hC.2.1 hd hl hn (by rw [← hls e, sto1_map]; rfl) (fun la1 hl1 => kk H locs la1 hRel hh hlocs hl1)
theorem E_lstore_n {α : Type} {j : Fin 4} {e : Int64} {F : Int64 → Option α} {ls' : Int64 → List (Nat × Value)} {res : α} (hd : decode cc pc = .ok (.lstore_n j, 1)) (hn : (j : Nat) + 1 < nL) (hls : ∀ x, sto2 ls (j : Nat) (.long x) = ls' x) (hf : nm e F = some res) (k : ∀ x, F x = some res → Ev l G d y cc nL ret (pc + 1) (ls' x) st μ r μ') : Ev l G d y cc nL ret pc ls (.long e :: st) μ r μ' := by
  refine Ev.gen ⟨Nat.le_refl _, Nat.le_refl _⟩ ?_ (k e hf)
  intro p e0 R s m args below meth c H locs cells slots la Q hC hR hRel hh hlocs hl kk
  rw [Nat.sub_self, Nat.sub_self, Nat.add_zero, Nat.add_zero] at kk
  refine lv_lstore_n (lv' := (ls' e).map (trl G)) hC.1 hC.2.1 hd rfl hl hn (by rw [← hls e, sto2_map]; rfl) (fun la1 hl1 => kk H locs la1 hRel hh hlocs hl1)
theorem E_lstore {α : Type} {j : Nat} {e : Int64} {F : Int64 → Option α} {ls' : Int64 → List (Nat × Value)} {res : α} (hd : decode cc pc = .ok (.lstore j, 2)) (hn : j + 1 < nL) (hls : ∀ x, sto2 ls j (.long x) = ls' x) (hf : nm e F = some res) (k : ∀ x, F x = some res → Ev l G d y cc nL ret (pc + 2) (ls' x) st μ r μ') : Ev l G d y cc nL ret pc ls (.long e :: st) μ r μ' := by
  refine Ev.gen ⟨Nat.le_refl _, Nat.le_refl _⟩ ?_ (k e hf)
  intro p e0 R s m args below meth c H locs cells slots la Q hC hR hRel hh hlocs hl kk
  rw [Nat.sub_self, Nat.sub_self, Nat.add_zero, Nat.add_zero] at kk
  refine lv_lstore (lv' := (ls' e).map (trl G)) hC.1 hC.2.1 hd hl hn (by rw [← hls e, sto2_map]; rfl) (fun la1 hl1 => kk H locs la1 hRel hh hlocs hl1)
theorem E_astore_n {α : Type} {j : Fin 4} {e : Nat} {F : Nat → Option α} {ls' : Nat → List (Nat × Value)} {res : α} (hd : decode cc pc = .ok (.astore_n j, 1)) (hn : (j : Nat) < nL) (hls : ∀ x, sto1 ls (j : Nat) (.ref x) = ls' x) (hf : nm e F = some res) (k : ∀ x, F x = some res → Ev l G d y cc nL ret (pc + 1) (ls' x) st μ r μ') : Ev l G d y cc nL ret pc ls (.ref e :: st) μ r μ' := by
  refine Ev.gen ⟨Nat.le_refl _, Nat.le_refl _⟩ ?_ (k e hf)
  intro p e0 R s m args below meth c H locs cells slots la Q hC hR hRel hh hlocs hl kk
  rw [Nat.sub_self, Nat.sub_self, Nat.add_zero, Nat.add_zero] at kk
  refine lv_astore_n (lv' := (ls' e).map (trl G)) hC.1 hC.2.1 hd rfl hl hn (by rw [← hls e, sto1_map]; rfl) (fun la1 hl1 => kk H locs la1 hRel hh hlocs hl1)
theorem E_astore {α : Type} {j : Nat} {e : Nat} {F : Nat → Option α} {ls' : Nat → List (Nat × Value)} {res : α} (hd : decode cc pc = .ok (.astore j, 2)) (hn : j < nL) (hls : ∀ x, sto1 ls j (.ref x) = ls' x) (hf : nm e F = some res) (k : ∀ x, F x = some res → Ev l G d y cc nL ret (pc + 2) (ls' x) st μ r μ') : Ev l G d y cc nL ret pc ls (.ref e :: st) μ r μ' := by
  refine Ev.gen ⟨Nat.le_refl _, Nat.le_refl _⟩ ?_ (k e hf)
  intro p e0 R s m args below meth c H locs cells slots la Q hC hR hRel hh hlocs hl kk
  rw [Nat.sub_self, Nat.sub_self, Nat.add_zero, Nat.add_zero] at kk
  refine lv_astore (lv' := (ls' e).map (trl G)) hC.1 hC.2.1 hd hl hn (by rw [← hls e, sto1_map]; rfl) (fun la1 hl1 => kk H locs la1 hRel hh hlocs hl1)
theorem E_iinc {α : Type} {j : Nat} {n : Int} {x : Int32} {F : Int32 → Option α} {ls' : Int32 → List (Nat × Value)} {res : α} (hd : decode cc pc = .ok (.iinc j n, 3)) (hx : lk ls j = some (.int x)) (hn : j < nL) (hls : ∀ x, sto1 ls j (.int x) = ls' x) (hf : nm (x + Int32.ofInt n) F = some res) (k : ∀ x, F x = some res → Ev l G d y cc nL ret (pc + 3) (ls' x) st μ r μ') : Ev l G d y cc nL ret pc ls st μ r μ' := by
  refine Ev.gen ⟨Nat.le_refl _, Nat.le_refl _⟩ ?_ (k _ hf)
  intro p e0 R s m args below meth c H locs cells slots la Q hC hR hRel hh hlocs hl kk
  rw [Nat.sub_self, Nat.sub_self, Nat.add_zero, Nat.add_zero] at kk
  obtain ⟨q, hq⟩ := List.getElem?_of_mem (List.mem_map.mpr ⟨(j, .int x), lk_at (G := G) (la := la) (nL := nL) hx, rfl⟩ : trl G (j, .int x) ∈ ls.map (trl G))
  refine lv_iinc (k := q) (v := x + Int32.ofInt n) (lv' := (ls' (x + Int32.ofInt n)).map (trl G)) hC.1 hC.2.1 hd hl hq rfl hn (by rw [← hls, sto1_map]; rfl) (fun la1 hl1 => kk H locs la1 hRel hh hlocs hl1)
/-- a tableswitch: in case i of its row, else the default -/
def tsw {α : Type} (x : Int32) (lo : Int) (n : Nat) (A : Nat → Option α) (D : Option α) : Option α := if lo ≤ x.toInt ∧ x.toInt < lo + n then A (x.toInt - lo).toNat else D
theorem E_tsw {α : Type} {x : Int32} {dflt lo hi : Int} {offs : Array Int} {len n dt : Nat} {tg : Nat → Nat} {A : Nat → Option α} {D : Option α} {res : α} (hd : decode cc pc = .ok (.tableswitch dflt lo hi offs, len)) (hhi : hi = lo + n - 1) (htg : ∀ i, i < n → offs[i]?.map (fun o => (pc : Int) + o) = some (tg i : Int)) (hdt : (pc : Int) + dflt = (dt : Int)) (hf : tsw x lo n A D = some res)
    (kA : ∀ i, i < n → A i = some res → Ev l G d y cc nL ret (tg i) ls st μ r μ') (kD : D = some res → Ev l G d y cc nL ret dt ls st μ r μ') : Ev l G d y cc nL ret pc ls (.int x :: st) μ r μ' := by
  unfold tsw at hf
  by_cases h0 : lo ≤ x.toInt ∧ x.toInt < lo + n
  · rw [if_pos h0] at hf
    have hi : (x.toInt - lo).toNat < n := by omega
    have h1 := htg _ hi
    cases ho : offs[(x.toInt - lo).toNat]? with
    | none => rw [ho] at h1; cases h1
    | some o =>
      rw [ho] at h1
      exact Ev.pure (fun p e R s m args below meth c H locs cells slots la Q hC hR hRel hh hlocs hl k => lv_tableIn hC.1 hC.2.1 hd (by omega) (by omega) ho (Option.some.inj h1) k) (kA _ hi hf)
  · rw [if_neg h0] at hf
    exact Ev.pure (fun p e R s m args below meth c H locs cells slots la Q hC hR hRel hh hlocs hl k => lv_tableOut hC.1 hC.2.1 hd (by omega) hdt k) (kD hf)
theorem E_lsw {α : Type} {x : Int32} {dflt : Int} {ps : Array (Int × Int)} {len : Nat} {tgt : Nat} (hd : decode cc pc = .ok (.lookupswitch dflt ps, len)) (hp : (ps.toList.zip (ps.toList.drop 1)).all (fun (a, next) => a.1 < next.1) = true) (ht : (pc : Int) + Op.lookupswitch.offset ps.toList dflt x.toInt = (tgt : Int)) (k : Ev l G d y cc nL ret tgt ls st μ r μ') : Ev l G d y cc nL ret pc ls (.int x :: st) μ r μ' :=
  Ev.pure (fun p e R s m args below meth c H locs cells slots la Q hC hR hRel hh hlocs hl k => lv_lookup hC.1 hC.2.1 hd hp rfl ht k) k
theorem E_iret {x v : Int32} (hd : decode cc pc = .ok (.ireturn, 1)) (hr : ret = some .int) (hf : some (x, μ) = some (v, μ')) : Ev l G d y cc nL ret pc ls [.int x] μ (some (.int v)) μ' := by
  cases hf
  subst hr
  refine ⟨⟨Nat.le_refl _, Nat.le_refl _⟩, ?_⟩
  intro p e R s m args below meth c H locs cells slots la hC hR hRel hh hlocs hl
  rw [Nat.sub_self, Nat.sub_self, Nat.add_zero, Nat.add_zero]
  exact W.iret hC.1 hC.2.1 hC.2.2.1 (fun t ht hW => ⟨rfl, by rw [ht]; exact hRel, fun q hq => by rw [ht]; exact hh q hq⟩) hlocs hd hC.2.2.2.1
theorem E_lret {x v : Int64} (hd : decode cc pc = .ok (.lreturn, 1)) (hr : ret = some .long) (hf : some (x, μ) = some (v, μ')) : Ev l G d y cc nL ret pc ls [.long x] μ (some (.long v)) μ' := by
  cases hf
  subst hr
  refine ⟨⟨Nat.le_refl _, Nat.le_refl _⟩, ?_⟩
  intro p e R s m args below meth c H locs cells slots la hC hR hRel hh hlocs hl
  rw [Nat.sub_self, Nat.sub_self, Nat.add_zero, Nat.add_zero]
  exact W.lret hC.1 hC.2.1 hC.2.2.1 (fun t ht hW => ⟨rfl, by rw [ht]; exact hRel, fun q hq => by rw [ht]; exact hh q hq⟩) hlocs hd hC.2.2.2.1
theorem E_zret {x v : Int32} (hd : decode cc pc = .ok (.ireturn, 1)) (hr : ret = some .boolean) (hf : (if x = 0 ∨ x = 1 then some (x, μ) else none) = some (v, μ')) : Ev l G d y cc nL ret pc ls [.int x] μ (some (.int v)) μ' := by
  by_cases h0 : x = 0 ∨ x = 1
  · rw [if_pos h0] at hf
    cases hf
    subst hr
    refine ⟨⟨Nat.le_refl _, Nat.le_refl _⟩, ?_⟩
    intro p e R s m args below meth c H locs cells slots la hC hR hRel hh hlocs hl
    rw [Nat.sub_self, Nat.sub_self, Nat.add_zero, Nat.add_zero]
    exact W.zret hC.1 hC.2.1 hC.2.2.1 (by rcases h0 with rfl | rfl <;> rfl) (fun t ht hW => ⟨rfl, by rw [ht]; exact hRel, fun q hq => by rw [ht]; exact hh q hq⟩) hlocs hd hC.2.2.2.1
  · rw [if_neg h0] at hf; cases hf
theorem E_vret (hd : decode cc pc = .ok (.return_, 1)) (hr : ret = none) (hf : some μ = some μ') : Ev l G d y cc nL ret pc ls [] μ none μ' := by
  cases hf
  subst hr
  refine ⟨⟨Nat.le_refl _, Nat.le_refl _⟩, ?_⟩
  intro p e R s m args below meth c H locs cells slots la hC hR hRel hh hlocs hl
  rw [Nat.sub_self, Nat.sub_self, Nat.add_zero, Nat.add_zero]
  exact W.vret hC.1 hC.2.1 hC.2.2.1 (fun t ht hW => ⟨rfl, by rw [ht]; exact hRel, fun q hq => by rw [ht]; exact hh q hq⟩) hlocs hd hC.2.2.2.1
theorem E_aret {x v : Nat} {rt : FieldType} (hd : decode cc pc = .ok (.areturn, 1)) (hr : ret = some rt) (hrt : (∃ n, rt = .object n) ∨ ∃ t, rt = .array t) (hf : some (x, μ) = some (v, μ')) : Ev l G d y cc nL ret pc ls [.ref x] μ (some (.ref v)) μ' := by
  cases hf
  subst hr
  refine ⟨⟨Nat.le_refl _, Nat.le_refl _⟩, ?_⟩
  intro p e R s m args below meth c H locs cells slots la hC hR hRel hh hlocs hl
  rw [Nat.sub_self, Nat.sub_self, Nat.add_zero, Nat.add_zero]
  exact W.aret hC.1 hC.2.1 hC.2.2.1 hrt (Or.inr ⟨_, rfl⟩) (fun t ht hW => ⟨rfl, by rw [ht]; exact hRel, fun q hq => by rw [ht]; exact hh q hq⟩) hlocs hd hC.2.2.2.1
end RU
