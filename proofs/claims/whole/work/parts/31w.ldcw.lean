/-- a text by a wide entry -/
theorem ldcw_string {p : Program} {l : Launch} {e : Env} {R : Room} {s : State} {m : MethodId} {args : Array Value} {below : List Frame} {meth : Method} {c : Code} {T : State} {locs : List Loc} {cells slots : Nat}
    (X : Stand p l e R s m args below meth c T locs cells slots) (hexec : p.tables.exec = Jvm.exec) {own text : String} {index : Nat} {a : Addr} (hown : s.vm.findClass own = some m.cls)
    (hconst : (Cond.stringRef own index text).before args s = true) (hev : (Term.string own index).eval args s none [] s = some (.ref a)) {g : JFrame} (hg : g.method = m) (hdg : decode c.code g.pc = .ok (.ldc_w index, 3)) :
    ∀ target, Steps p.tables e below (T.setTop { g with pc := g.pc + 3, stack := .ref a :: g.stack }) target → Steps p.tables e below (T.setTop g) target := by
  obtain ⟨k, cf, i, a', hk, hcf, hcp, -, hr, hev'⟩ := Cond.stringRef_spec hown hconst
  cases hev.symm.trans hev'
  obtain ⟨k', hk', he⟩ := X.warmed.alike.2.2 _ _ hk
  have hr' : k'.resolved[index]? = some (some (.string a)) := by
    rcases X.warmed.entry hk hk' index with h | ⟨h, -⟩
    · rw [h]; exact hr
    · rw [hr] at h; cases h
  intro target hrest
  subst hg
  jvm_step X.here [hexec, hdg, ldc_w.wp_string (e := e) (s := T) (f := g) X.here.top hk' (by rw [he]; exact hcf) hcp hr']
  exact hrest
section RQ
variable {l : Launch} {G : GG} {d : Nat} {y : MethodName} {cc : ByteArray} {nL : Nat} {ret : Option FieldType} {pc : Nat} {ls : List (Nat × Value)} {st : List Value} {μ : Mm} {r : Option Value} {μ' : Mm}
theorem E_ldcwS {i : Nat} (j : Nat) (hd : decode cc pc = .ok (.ldc_w i, 3)) (hj : j < sN) (hw : sOwn j = y.cls ∧ sIdx j = i) (k : Ev l G d y cc nL ret (pc + 3) ls (.ref j :: st) μ r μ') : Ev l G d y cc nL ret pc ls st μ r μ' := by
  refine Ev.pure (fun p e R s m args below meth c H locs cells slots la Q hC hR hRel hh hlocs hl k => ?_) k
  have h1 := (hC.2.2.2.2.2.2.2.2.1.2.1 j hj).1
  rw [hw.1, hw.2] at h1
  have e1 : trv G (.ref j) = .ref (G.2.2.1 j) := by
    rw [trv_ref, adr, if_pos (Nat.lt_of_lt_of_le hj (by decide))]
  rw [List.map_cons, e1] at k
  intro T hT X
  obtain ⟨t, a1, b1⟩ := k T hT X
  exact ⟨t, ldcw_string X hC.1 hC.2.2.2.2.2.1 (text := sTx j) (a := G.2.2.1 j) h1.1 h1.2 (g := F0 m pc la (st.map (trv G))) rfl (by rw [hC.2.1]; exact hd) t a1, b1⟩
end RQ
