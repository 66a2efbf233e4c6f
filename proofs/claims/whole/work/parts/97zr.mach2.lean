/-! Rules: the reference's tests go as they are asked. -/
def endM (K : Mm → Option Mm) (n : Nat) (μ18 : Mm) : Option Mm :=
    ((ob μ18 188 12).bind fun _ =>
    (bd (f_X12_top μ18 188) fun v20 μ19 =>
    (if v20 = (12 : Int32) then
    ((ob μ19 188 12).bind fun _ =>
    (bd (f_X12_sign μ19 188) fun v22 μ21 =>
    (if v22 = (93 : Int32) then
    ((gI μ21 188 12 29).bind fun v23 =>
    ((pV μ21 188 12 29 (.int (v23 + (1 : Int32)))).bind fun μ24 =>
    ((gI μ24 188 12 36).bind fun v25 =>
    ((pV μ24 188 12 36 (.int (v25 - (1 : Int32)))).bind fun μ26 =>
    ((gI μ26 188 12 34).bind fun v27 =>
    ((pV μ26 188 12 34 (.int (v27 - (1 : Int32)))).bind fun μ28 =>
    f_X12_test_L9 K n μ28 188 (0 : Int32) (1 : Int32)))))))
    else
    ((gI μ21 188 12 29).bind fun v29 =>
    ((ob μ21 188 12).bind fun _ =>
    ((f_X12_fails μ21 188 (0 : Int32) v29).bind fun μ30 =>
    ((gI μ30 188 12 29).bind fun v31 =>
    ((pV μ30 188 12 29 (.int (v31 + (1 : Int32)))).bind fun μ32 =>
    ((gI μ32 188 12 36).bind fun v33 =>
    ((pV μ32 188 12 36 (.int (v33 - (1 : Int32)))).bind fun μ34 =>
    ((gI μ34 188 12 34).bind fun v35 =>
    ((pV μ34 188 12 34 (.int (v35 - (1 : Int32)))).bind fun μ36 =>
    f_X12_test_L9 K n μ36 188 (0 : Int32) (1 : Int32)))))))))))))
    else
    (nm (0 : Int32) fun x37 =>
    f_X12_test_L9 K n μ19 188 (0 : Int32) x37))))
def restM (K : Mm → Option Mm) (n : Nat) (x13 x16 : Int32) (μ17 : Mm) : Option Mm :=
    (if x13 = 0 then
    (if x16 = 0 then
    ((ob μ17 188 12).bind fun _ =>
    ((f_X12_answers μ17 188 (11 : Int32)).bind fun μ18 => endM K n μ18))
    else
    (if x16 = 0 then
    (if x13 = 0 then
    ((ob μ17 188 12).bind fun _ =>
    ((f_X12_opens μ17 188 (11 : Int32)).bind fun μ38 =>
    ((gI μ38 188 12 29).bind fun v39 =>
    (if x13 = 0 then
    ((pV μ38 188 12 29 (.int (v39 + (2 : Int32)))).bind fun μ40 =>
    (nm (1 : Int32) fun x41 =>
    f_X12_test_L9 K n μ40 188 x41 (1 : Int32)))
    else
    ((pV μ38 188 12 29 (.int (v39 + (3 : Int32)))).bind fun μ42 =>
    (nm (1 : Int32) fun x43 =>
    f_X12_test_L9 K n μ42 188 x43 (1 : Int32)))))))
    else
    ((ob μ17 188 12).bind fun _ =>
    ((f_X12_opens μ17 188 (10 : Int32)).bind fun μ44 =>
    ((gI μ44 188 12 29).bind fun v45 =>
    (if x13 = 0 then
    ((pV μ44 188 12 29 (.int (v45 + (2 : Int32)))).bind fun μ46 =>
    (nm (1 : Int32) fun x47 =>
    f_X12_test_L9 K n μ46 188 x47 (1 : Int32)))
    else
    ((pV μ44 188 12 29 (.int (v45 + (3 : Int32)))).bind fun μ48 =>
    (nm (1 : Int32) fun x49 =>
    f_X12_test_L9 K n μ48 188 x49 (1 : Int32))))))))
    else
    ((ob μ17 188 12).bind fun _ =>
    ((f_X12_answers μ17 188 (11 : Int32)).bind fun μ50 =>
    (if x13 = 0 then
    ((ob μ50 188 12).bind fun _ =>
    ((f_X12_opens μ50 188 (11 : Int32)).bind fun μ51 =>
    ((gI μ51 188 12 29).bind fun v52 =>
    (if x13 = 0 then
    ((pV μ51 188 12 29 (.int (v52 + (2 : Int32)))).bind fun μ53 =>
    (nm (1 : Int32) fun x54 =>
    f_X12_test_L9 K n μ53 188 x54 (1 : Int32)))
    else
    ((pV μ51 188 12 29 (.int (v52 + (3 : Int32)))).bind fun μ55 =>
    (nm (1 : Int32) fun x56 =>
    f_X12_test_L9 K n μ55 188 x56 (1 : Int32)))))))
    else
    ((ob μ50 188 12).bind fun _ =>
    ((f_X12_opens μ50 188 (10 : Int32)).bind fun μ57 =>
    ((gI μ57 188 12 29).bind fun v58 =>
    (if x13 = 0 then
    ((pV μ57 188 12 29 (.int (v58 + (2 : Int32)))).bind fun μ59 =>
    (nm (1 : Int32) fun x60 =>
    f_X12_test_L9 K n μ59 188 x60 (1 : Int32)))
    else
    ((pV μ57 188 12 29 (.int (v58 + (3 : Int32)))).bind fun μ61 =>
    (nm (1 : Int32) fun x62 =>
    f_X12_test_L9 K n μ61 188 x62 (1 : Int32))))))))))))
    else
    (if x16 = 0 then
    (if x13 = 0 then
    ((ob μ17 188 12).bind fun _ =>
    ((f_X12_opens μ17 188 (11 : Int32)).bind fun μ63 =>
    ((gI μ63 188 12 29).bind fun v64 =>
    (if x13 = 0 then
    ((pV μ63 188 12 29 (.int (v64 + (2 : Int32)))).bind fun μ65 =>
    (nm (1 : Int32) fun x66 =>
    f_X12_test_L9 K n μ65 188 x66 (1 : Int32)))
    else
    ((pV μ63 188 12 29 (.int (v64 + (3 : Int32)))).bind fun μ67 =>
    (nm (1 : Int32) fun x68 =>
    f_X12_test_L9 K n μ67 188 x68 (1 : Int32)))))))
    else
    ((ob μ17 188 12).bind fun _ =>
    ((f_X12_opens μ17 188 (10 : Int32)).bind fun μ69 =>
    ((gI μ69 188 12 29).bind fun v70 =>
    (if x13 = 0 then
    ((pV μ69 188 12 29 (.int (v70 + (2 : Int32)))).bind fun μ71 =>
    (nm (1 : Int32) fun x72 =>
    f_X12_test_L9 K n μ71 188 x72 (1 : Int32)))
    else
    ((pV μ69 188 12 29 (.int (v70 + (3 : Int32)))).bind fun μ73 =>
    (nm (1 : Int32) fun x74 =>
    f_X12_test_L9 K n μ73 188 x74 (1 : Int32))))))))
    else
    ((ob μ17 188 12).bind fun _ =>
    ((f_X12_answers μ17 188 (11 : Int32)).bind fun μ75 =>
    (if x13 = 0 then
    ((ob μ75 188 12).bind fun _ =>
    ((f_X12_opens μ75 188 (11 : Int32)).bind fun μ76 =>
    ((gI μ76 188 12 29).bind fun v77 =>
    (if x13 = 0 then
    ((pV μ76 188 12 29 (.int (v77 + (2 : Int32)))).bind fun μ78 =>
    (nm (1 : Int32) fun x79 =>
    f_X12_test_L9 K n μ78 188 x79 (1 : Int32)))
    else
    ((pV μ76 188 12 29 (.int (v77 + (3 : Int32)))).bind fun μ80 =>
    (nm (1 : Int32) fun x81 =>
    f_X12_test_L9 K n μ80 188 x81 (1 : Int32)))))))
    else
    ((ob μ75 188 12).bind fun _ =>
    ((f_X12_opens μ75 188 (10 : Int32)).bind fun μ82 =>
    ((gI μ82 188 12 29).bind fun v83 =>
    (if x13 = 0 then
    ((pV μ82 188 12 29 (.int (v83 + (2 : Int32)))).bind fun μ84 =>
    (nm (1 : Int32) fun x85 =>
    f_X12_test_L9 K n μ84 188 x85 (1 : Int32)))
    else
    ((pV μ82 188 12 29 (.int (v83 + (3 : Int32)))).bind fun μ86 =>
    (nm (1 : Int32) fun x87 =>
    f_X12_test_L9 K n μ86 188 x87 (1 : Int32))))))))))))
def tailM (K : Mm → Option Mm) (n : Nat) (μ9 : Mm) : Option Mm :=
    ((ob μ9 188 12).bind fun _ =>
    ((f_X12_blanks μ9 188).bind fun μ10 =>
    ((ob μ10 188 12).bind fun _ =>
    (bd (f_X12_stood μ10 188 (30 : Nat)) fun v12 μ11 =>
    (nm v12 fun x13 =>
    ((ob μ11 188 12).bind fun _ =>
    (bd (f_X12_stood μ11 188 (31 : Nat)) fun v15 μ14 =>
    (nm v15 fun x16 =>
    ((ob μ14 188 12).bind fun _ =>
    ((f_X12_answers μ14 188 (10 : Int32)).bind fun μ17 => restM K n x13 x16 μ17))))))))))
def FrM (σ0 σ : Sg) : Prop := (∀ k, k ≠ 34 → k ≠ 36 → σ.1 k = σ0.1 k) ∧ ∀ q, q ≠ 222 → σ.2.1 q = σ0.2.1 q
theorem RO.fr {σ0 σ : Sg} {O : List Nat} {d : Nat} (h : RO σ0 σ O d) : FrM σ0 σ := ⟨h.1, h.2.1⟩
def Bse (R : List Nat) : Prop := R = [] ∨ ∃ X, R = X ++ [12]
def aw (ow : Bool) : List Nat := if ow = true then [11] else []
def a10 (a : Bool) : List Nat := if a = true then [10] else []
def e10 (a : Bool) (es : List (Nat × Nat)) : List (Nat × Nat) := if a = true then es ++ [(10, 0)] else es
def e11 (a : Bool) (es : List (Nat × Nat)) : List (Nat × Nat) := if a = true then es ++ [(11, 0)] else es
section MACH2
variable {σ0 σ : Sg} {L r : Nat} {b : Nat → Nat} {d : Nat}
theorem L9_0 (K : Mm → Option Mm) (n p c : Nat) (es : List (Nat × Nat)) (ρ : Mm) (τ : Nat → va_E) : f_X12_test_L9 K (n + 1) (mem ρ τ (sX σ r p c es 0)) 188 0 1 = (f_X12_answers_L0 (fun μ14 => (some μ14)) FU (mem ρ τ (sX σ r p c es 0)) 188 (nI 9)).bind (tailM K n) := by
  rw [f_X12_test_L9, if_neg (by decide), z_ft, Option.bind_some, if_pos (show nI 0 = 0 from rfl), if_pos (show (0 : Int32) = 0 from rfl), ob_mem, Option.bind_some]
  rfl
theorem L9_1 (K : Mm → Option Mm) (n p c : Nat) (es : List (Nat × Nat)) (ρ : Mm) (τ : Nat → va_E) : f_X12_test_L9 K (n + 1) (mem ρ τ (sX σ r p c es 0)) 188 1 1 = (bd (f_X12_fact (mem ρ τ (sX σ r p c es 0)) 188) fun v89 μ88 => (if v89 = 0 then f_X12_test_L9 K n μ88 188 1 1 else f_X12_test_L9 K n μ88 188 0 1)) := by
  rw [f_X12_test_L9, if_neg (by decide), z_ft, Option.bind_some, if_pos (show nI 0 = 0 from rfl), if_neg (by decide), ob_mem, Option.bind_some]
  rfl
theorem L9_D (K : Mm → Option Mm) (n p c : Nat) (es : List (Nat × Nat)) {e : Nat} (he : e ≠ 0) (h4 : e < 4000) (x y : Int32) (ρ : Mm) (τ : Nat → va_E) : f_X12_test_L9 K (n + 1) (mem ρ τ (sX σ r p c es e)) 188 x y = K (mem ρ τ (sX σ r p c es e)) := by
  rw [f_X12_test_L9]
  by_cases h : y = 0
  · rw [if_pos h]
  · rw [if_neg h, z_ft, Option.bind_some, if_neg (show ¬ nI e = 0 from fun h => he ((nI_eq (b := 0) (by omega) (by decide)).1 h))]
theorem tail_e (hX : TXs σ L b) (K : Mm → Option Mm) (n : Nat) {p c : Nat} {es : List (Nat × Nat)} (hp : p ≤ L) (ρ : Mm) (τ : Nat → va_E) : tailM K n (mem ρ τ (sX σ r p c es 0)) = (f_X12_answers_L0 (fun μ14 => (some μ14)) FU (mem ρ τ (sX σ r (skp L b p) c es 0)) 188 (nI 10)).bind (restM K n (bI (isWd L b wAnd (skp L b p))) (bI (isWd L b wOr (skp L b p)))) := by
  have hL := hX.1
  have hX' := hX.rc r c es
  have hs := skp_le b hp
  unfold tailM
  rw [ob_mem, Option.bind_some, z_bl hX' 0 (by omega), Option.bind_some, ob_mem, Option.bind_some, z_st hX' 0 wAnd (by decide) (by omega) (by decide +kernel) (by decide +kernel) (by decide), bd_some, nm_q, ob_mem, Option.bind_some, z_st hX' 0 wOr (by decide) (by omega) (by decide +kernel) (by decide +kernel) (by decide), bd_some, nm_q, ob_mem, Option.bind_some]
  rfl
theorem an_stopB {R : List Nat} (h : RO σ0 σ R d) (hB : Bse R) (hR : R.length < 400) {k : Nat} (hk : k = 9 ∨ k = 10 ∨ k = 11) {p c : Nat} {es : List (Nat × Nat)} (K : Mm → Option Mm) {g : Nat} (hg : 0 < g) (ρ : Mm) (τ : Nat → va_E) : f_X12_answers_L0 K g (mem ρ τ (sX σ r p c es 0)) 188 (nI k) = K (mem ρ τ (sX σ r p c es 0)) := by
  rcases hB with rfl | ⟨X, rfl⟩
  · exact an_stop0 h (by omega) K hg ρ τ
  · rw [List.length_append] at hR
    have hR : X.length + 1 < 400 := hR
    exact an_stop h (by omega) (by omega) (by omega) (by omega) K hg ρ τ
/-- an or that waits is answered -/
theorem an_or {R : List Nat} (hK : SK σ0 r) {ow : Bool} (h : RO σ0 σ (R ++ aw ow) d) (hB : Bse R) (hR : R.length < 390) (hd : d < 2 ^ 31) {p c : Nat} {es : List (Nat × Nat)} (hl : es.length < 300) : ∃ σ', RO σ0 σ' R d ∧ ∀ ρ τ, f_X12_answers_L0 (fun μ14 => (some μ14)) FU (mem ρ τ (sX σ r p c es 0)) 188 (nI 11) = some (mem ρ τ (sX σ' r p c (e11 ow es) 0)) := by
  have F2 : ∃ g, FU = g + 2 := ⟨FU - 2, by unfold FU; omega⟩
  obtain ⟨g, hg⟩ := F2
  cases ow with
  | false =>
    have h : RO σ0 σ (R ++ []) d := h
    rw [List.append_nil] at h
    exact ⟨σ, h, fun ρ τ => an_stopB h hB (by omega) (.inr (.inr rfl)) _ (by omega) ρ τ⟩
  | true =>
    obtain ⟨σ', h1, h2⟩ := an_step (p := p) (c := c) (es := es) (O := R) (k := 11) h hK (by omega) (.inr (.inr rfl)) (fun x => by omega) hd hl
    rw [if_neg (by decide)] at h1
    refine ⟨σ', h1, fun ρ τ => ?_⟩
    rw [hg, h2]
    exact an_stopB h1 hB (by omega) (.inr (.inr rfl)) _ (by omega) ρ τ
/-- at the next word: what was joined by and is answered -/
theorem tl_strip {R : List Nat} (hX : TXs σ0 L b) (hK : SK σ0 r) {ow a : Bool} (h : RO σ0 σ ((R ++ aw ow) ++ a10 a) d) (hB : Bse R) (hR : R.length < 390) (hd : d < 2 ^ 31) {p c g : Nat} {es : List (Nat × Nat)} (hp : p ≤ L) (hl : es.length < 300) (hg : 0 < g) : ∃ σ', RO σ0 σ' (R ++ aw ow) d ∧ ∀ K n ρ τ, (f_X12_answers_L0 (fun μ14 => (some μ14)) g (mem ρ τ (sX σ r p c es 0)) 188 (nI 9)).bind (tailM K n) = restM K n (bI (isWd L b wAnd (skp L b p))) (bI (isWd L b wOr (skp L b p))) (mem ρ τ (sX σ' r (skp L b p) c (e10 a es) 0)) := by
  have F2 : ∃ g, FU = g + 2 := ⟨FU - 2, by unfold FU; omega⟩
  obtain ⟨g2, hg2⟩ := F2
  have hX' := h.tx hX
  have lw : (aw ow).length ≤ 1 := by cases ow <;> decide
  have stop : ∀ {σ : Sg} {p : Nat} {es : List (Nat × Nat)}, RO σ0 σ (R ++ aw ow) d → ∀ k, k = 9 ∨ k = 10 → ∀ (K : Mm → Option Mm) (g : Nat) ρ τ, 0 < g → f_X12_answers_L0 K g (mem ρ τ (sX σ r p c es 0)) 188 (nI k) = K (mem ρ τ (sX σ r p c es 0)) := by
    intro σ p es h k hk K g ρ τ hg
    cases ow with
    | false =>
      have h : RO σ0 σ (R ++ []) d := h
      rw [List.append_nil] at h
      exact an_stopB h hB (by omega) (by omega) K hg ρ τ
    | true => exact an_stop (O := R) (j := 11) h (by omega) (by omega) (by omega) (by omega) K hg ρ τ
  cases a with
  | false =>
    have h : RO σ0 σ ((R ++ aw ow) ++ []) d := h
    rw [List.append_nil] at h
    refine ⟨σ, h, fun K n ρ τ => ?_⟩
    rw [stop h 9 (.inl rfl) _ _ _ _ hg, Option.bind_some, tail_e hX' K n hp, stop h 10 (.inr rfl) _ _ _ _ (by omega), Option.bind_some]
    rfl
  | true =>
    have ls : (R ++ aw ow).length < 400 := by rw [List.length_append]; omega
    obtain ⟨σ', h1, h2⟩ := an_step (p := skp L b p) (c := c) (es := es) (O := R ++ aw ow) (k := 10) h hK ls (.inr (.inl rfl)) (fun x => by omega) hd hl
    rw [if_neg (by decide)] at h1
    refine ⟨σ', h1, fun K n ρ τ => ?_⟩
    rw [an_stop (O := R ++ aw ow) (j := 10) h ls (by omega) (by omega) (by omega) _ hg, Option.bind_some, tail_e hX' K n hp, hg2, h2, stop h1 10 (.inr rfl) _ _ _ _ (by omega), Option.bind_some]
    rfl
theorem wd_and_or {k : Nat} (h : isWd L b wAnd k = true) : isWd L b wOr k = false := by
  unfold isWd at h ⊢
  rw [Bool.and_eq_true] at h
  have e := of_decide_eq_true h.1
  rw [decide_eq_false (by rw [e]; show ¬ k + 3 = k + 2; omega), Bool.false_and]
theorem wd_len {w : List Nat} {k : Nat} (h : isWd L b w k = true) : we L b k = k + w.length := by
  unfold isWd at h
  rw [Bool.and_eq_true] at h
  exact of_decide_eq_true h.1
theorem rest_and {O : List Nat} (h : RO σ0 σ O d) (hO : O.length < 400) (K : Mm → Option Mm) (n p c : Nat) (es : List (Nat × Nat)) (ρ : Mm) (τ : Nat → va_E) : restM K n (bI true) (bI false) (mem ρ τ (sX σ r p c es 0)) = f_X12_test_L9 K n (mem ρ τ (sX (stI (stA σ 222 O.length (nI 10)) 36 (nI (O.length + 1))) r (p + 3) c es 0)) 188 1 1 := by
  unfold restM
  rw [if_neg (show ¬ bI true = 0 by decide), if_pos (show bI false = 0 from rfl), if_neg (show ¬ bI true = 0 by decide), ob_mem, Option.bind_some, show f_X12_opens (mem ρ τ (sX σ r p c es 0)) 188 10 = _ from s_opens1 h hO (.inl rfl) p c es 0 ρ τ, Option.bind_some, z_pl, Option.bind_some, if_neg (show ¬ bI true = 0 by decide), lit_3, nI_add, z_pp, Option.bind_some, nm_q]
theorem rest_or {R : List Nat} (hK : SK σ0 r) {ow : Bool} (h : RO σ0 σ (R ++ aw ow) d) (hB : Bse R) (hR : R.length < 390) (hd : d < 2 ^ 31) {p c : Nat} {es : List (Nat × Nat)} (hl : es.length < 300) : ∃ σ', RO σ0 σ' (R ++ aw true) d ∧ ∀ K n ρ τ, restM K n (bI false) (bI true) (mem ρ τ (sX σ r p c es 0)) = f_X12_test_L9 K n (mem ρ τ (sX σ' r (p + 2) c (e11 ow es) 0)) 188 1 1 := by
  obtain ⟨σ1, h1, h2⟩ := an_or (p := p) (c := c) hK h hB hR hd hl
  refine ⟨_, h1.push 11, fun K n ρ τ => ?_⟩
  have h2' : f_X12_answers (mem ρ τ (sX σ r p c es 0)) 188 11 = some (mem ρ τ (sX σ1 r p c (e11 ow es) 0)) := h2 ρ τ
  unfold restM
  rw [if_pos (show bI false = 0 from rfl), if_neg (show ¬ bI true = 0 by decide), if_neg (show ¬ bI true = 0 by decide), ob_mem, Option.bind_some, h2', Option.bind_some, if_pos (show bI false = 0 from rfl), ob_mem, Option.bind_some, show f_X12_opens (mem ρ τ (sX σ1 r p c (e11 ow es) 0)) 188 11 = _ from s_opens1 h1 (by omega) (.inr rfl) p c _ 0 ρ τ, Option.bind_some, z_pl, Option.bind_some, if_pos (show bI false = 0 from rfl), lit_2, nI_add, z_pp, Option.bind_some, nm_q]
theorem rest_end {R : List Nat} (hK : SK σ0 r) {ow : Bool} (h : RO σ0 σ (R ++ aw ow) d) (hB : Bse R) (hR : R.length < 390) (hd : d < 2 ^ 31) {p c : Nat} {es : List (Nat × Nat)} (hl : es.length < 300) : ∃ σ', RO σ0 σ' R d ∧ ∀ K n ρ τ, restM K n (bI false) (bI false) (mem ρ τ (sX σ r p c es 0)) = endM K n (mem ρ τ (sX σ' r p c (e11 ow es) 0)) := by
  obtain ⟨σ1, h1, h2⟩ := an_or (p := p) (c := c) hK h hB hR hd hl
  refine ⟨σ1, h1, fun K n ρ τ => ?_⟩
  have h2' : f_X12_answers (mem ρ τ (sX σ r p c es 0)) 188 11 = some (mem ρ τ (sX σ1 r p c (e11 ow es) 0)) := h2 ρ τ
  unfold restM
  rw [if_pos (show bI false = 0 from rfl), if_pos (show bI false = 0 from rfl), ob_mem, Option.bind_some, h2', Option.bind_some]
end MACH2
