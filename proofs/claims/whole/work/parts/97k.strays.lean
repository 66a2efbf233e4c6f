/-! Trays: the reference counts; the call. -/
section STRAYS
variable {nr : Nat} {σ σ1 : Sg}
theorem s_leadE (hD : DG nr (cur σ)) (he : Eqm σ σ1) {c : Nat} (hc : c < nc (cur σ)) (ρ : Mm) (τ : Nat → va_E) : f_X12_leadsTo (mem ρ τ σ1) 188 (nI c) = some (oI (ldD (cur σ) c), mem ρ τ σ1) := by
  have h1 : DG nr (cur σ1) := by rw [he.cu]; exact hD
  have mg := h1.mg
  rw [he.cu] at mg
  exact s_lead mg (hD.gs (Nat.lt_of_le_of_lt (Nat.zero_le _) hc)) hc
theorem s_onL {x : Nat} (hx : x < 48) (hD : DG nr (cur σ)) (he : Eqm σ σ1) (K1 K2 : Mm → Option (Int32 × Mm)) (ρ : Mm) (τ : Nat → va_E) : ∀ (k f : Nat) (o : Option Nat), k < f → 0 < k → (∀ c, o = some c → c < nc (cur σ) ∧ dh (cur σ) c < k) → f_X12_isOnFall_L6 K1 K2 f (mem ρ τ σ1) 188 (nI x) (oI o) = if hit (cur σ) x k o then K1 (mem ρ τ σ1) else K2 (mem ρ τ σ1) := by
  have n48 := hD.n48
  intro k
  induction k with
  | zero => intro f o _ h; omega
  | succ k ih =>
    intro f o h1 _ h2
    obtain ⟨f, rfl⟩ : ∃ k, f = k + 1 := ⟨f - 1, by omega⟩
    cases o with
    | none =>
      rw [f_X12_isOnFall_L6, if_pos (show oI none = -1 from rfl), hit]
      rfl
    | some c =>
      obtain ⟨c1, c2⟩ := h2 c rfl
      rw [f_X12_isOnFall_L6, show oI (some c) = nI c from rfl, if_neg (nI_nm1 (by omega)), hit]
      by_cases e : c = x
      · rw [e, if_pos rfl, decide_eq_true rfl, Bool.true_or, if_pos rfl]
      · rw [if_neg (fun h => e ((nI_eq (by omega) (by omega)).1 h)), ob_mem, Option.bind_some, s_leadE hD he c1, bd_some, nm_q, decide_eq_false e, Bool.false_or]
        cases hl : ldD (cur σ) c with
        | none =>
          obtain ⟨f, rfl⟩ : ∃ k, f = k + 1 := ⟨f - 1, by omega⟩
          rw [f_X12_isOnFall_L6, if_pos (show oI none = -1 from rfl)]
          cases k <;> rfl
        | some d =>
          have q := lead_lt (hD.c0 c1) c1 hl
          have z := ih f (some d) (by omega) (by omega) (fun c hc => by cases hc; exact ⟨q.1, by omega⟩)
          exact z
theorem s_on {x y : Nat} (hx : x < nc (cur σ)) (hy : y < nc (cur σ)) (hD : DG nr (cur σ)) (he : Eqm σ σ1) (ρ : Mm) (τ : Nat → va_E) : f_X12_isOnFall (mem ρ τ σ1) 188 (nI x) (nI y) = some (bI (onF (cur σ) x y), mem ρ τ σ1) := by
  have n48 := hD.n48
  have z := s_onL (x := x) (by omega) hD he (fun μ13 =>
    (if (1 : Int32) = 0 ∨ (1 : Int32) = 1 then some ((1 : Int32), μ13) else none)) (fun μ14 =>
    (if (0 : Int32) = 0 ∨ (0 : Int32) = 1 then some ((0 : Int32), μ14) else none)) ρ τ 9 FU (ldD (cur σ) y) (by unfold FU; omega) (by decide) (fun c hc => by
      have q := lead_lt (hD.c0 hy) hy hc
      have := hD.h9 y
      exact ⟨q.1, by omega⟩)
  unfold f_X12_isOnFall
  rw [ob_mem, Option.bind_some, s_leadE hD he hy, bd_some, nm_q, z, onF]
  cases hit (cur σ) x 9 (ldD (cur σ) y)
  · rfl
  · rfl
theorem s_apart {x y : Nat} (hx : x < nc (cur σ)) (hy : y < nc (cur σ)) (hD : DG nr (cur σ)) (he : Eqm σ σ1) (ρ : Mm) (τ : Nat → va_E) : f_X12_areApart (mem ρ τ σ1) 188 (nI x) (nI y) = some (bI (apD (cur σ) x y), mem ρ τ σ1) := by
  unfold f_X12_areApart
  rw [ob_mem, Option.bind_some, s_on hx hy hD he, bd_some, apD]
  cases onF (cur σ) x y
  · rw [if_pos (show bI false = 0 from rfl), ob_mem, Option.bind_some, s_on hy hx hD he, bd_some]
    cases onF (cur σ) y x
    · rw [if_pos (show bI false = 0 from rfl), if_pos (by decide)]; rfl
    · rw [if_neg (show ¬ bI true = 0 by decide), if_pos (by decide)]; rfl
  · rw [if_neg (show ¬ bI true = 0 by decide), if_pos (by decide)]; rfl
theorem s_okL {d v : Nat} {π : Nat → Nat} {x z : Int32} (hd : d < 4) (hD : DG nr (cur σ)) (he : Eqm σ σ1) (hv : v < nc (cur σ)) (hπ : ∀ i, i < d → σ1.2.1 234 i = nI (π i) ∧ π i < nc (cur σ)) (h4 : σ1.2.1 234 d = nI v) (K : Mm → Nat → Int32 → Int32 → Int32 → Int32 → Option (Int32 × Mm)) (ρ : Mm) (τ : Nat → va_E) : ∀ (k i f : Nat), i + k = d → k < f → f_X12_countsTrays_L50 K f (mem ρ τ σ1) 188 x z (nI d) (bI (okP (apD (cur σ)) π v i)) (nI i) = K (mem ρ τ σ1) 188 x z (nI d) (bI (okP (apD (cur σ)) π v d)) := by
  intro k
  induction k with
  | zero =>
    intro i f h1 h2
    obtain ⟨f, rfl⟩ : ∃ k, f = k + 1 := ⟨f - 1, by omega⟩
    obtain rfl : i = d := by omega
    rw [f_X12_countsTrays_L50, if_pos (nI_le (Nat.le_refl _) (by omega))]
  | succ k ih =>
    intro i f h1 h2
    obtain ⟨f, rfl⟩ : ∃ k, f = k + 1 := ⟨f - 1, by omega⟩
    have z := ih (i + 1) f (by omega) (by omega)
    rw [okP] at z
    obtain ⟨p1, p2⟩ := hπ i (by omega)
    rw [f_X12_countsTrays_L50, if_neg (nI_ge (by omega) (by omega))]
    cases ho : okP (apD (cur σ)) π v i
    · rw [ho, Bool.false_and] at z
      rw [if_pos (show bI false = 0 from rfl), nm_q, nm_q, oin1, nI_add]
      exact z
    · rw [ho, Bool.true_and] at z
      rw [if_neg (show ¬ bI true = 0 by decide), mR_66, Option.bind_some, y234_r (by omega), Option.bind_some, Option.bind_some, y234_r hd, Option.bind_some, p1, h4, ob_mem, Option.bind_some, s_apart p2 hv hD he, bd_some]
      cases ha : apD (cur σ) (π i) v
      · rw [ha] at z
        rw [if_pos (show bI false = 0 from rfl), nm_q, nm_q, oin1, nI_add]
        exact z
      · rw [ha] at z
        rw [if_neg (show ¬ bI true = 0 by decide), nm_q, nm_q, oin1, nI_add]
        exact z
/-- what the reference has counted -/
def RA (σ1 : Sg) (m : Nat) (a : Acc) : Prop := a.1 ≠ 0 → ∀ i, i < m → σ1.2.1 235 i = nI (a.2 i)
theorem s_copyT (K : Mm → Option Mm) : ∀ (k i : Nat) (σ1 : Sg) (m : Nat), i + k = 4 → k < m → (∀ t, t < i → σ1.2.1 235 t = σ1.2.1 234 t) → ∃ σ', (∀ ρ τ, f_X12_copies_L2 K m (mem ρ τ σ1) 234 235 (nI i) = K (mem ρ τ σ')) ∧ σ'.1 = σ1.1 ∧ (∀ r, r ≠ 235 → σ'.2.1 r = σ1.2.1 r) ∧ σ'.2.2 = σ1.2.2 ∧ ∀ t, t < 4 → σ'.2.1 235 t = σ1.2.1 234 t := by
  intro k
  induction k with
  | zero =>
    intro i σ1 m h1 h2 h3
    obtain ⟨m, rfl⟩ : ∃ k, m = k + 1 := ⟨m - 1, by omega⟩
    obtain rfl : i = 4 := by omega
    refine ⟨σ1, fun ρ τ => ?_, rfl, fun _ _ => rfl, rfl, h3⟩
    rw [f_X12_copies_L2, mN_234, Option.bind_some, if_pos (by decide)]
  | succ k ih =>
    intro i σ1 m h1 h2 h3
    obtain ⟨m, rfl⟩ : ∃ k, m = k + 1 := ⟨m - 1, by omega⟩
    have i4 : i < 4 := by omega
    have e9 : ∀ t, (stA σ1 235 i (σ1.2.1 234 i)).2.1 234 t = σ1.2.1 234 t := fun t => by rw [stA2, if_neg (by omega)]
    obtain ⟨σ', z1, z2, z3, z4, z5⟩ := ih (i + 1) (stA σ1 235 i (σ1.2.1 234 i)) m (by omega) (by omega) (fun t ht => by
      rw [e9, stA2]
      by_cases e : t = i
      · rw [if_pos ⟨rfl, e⟩, e]
      · rw [if_neg (fun h => e h.2)]; exact h3 t (by omega))
    refine ⟨σ', fun ρ τ => ?_, z2, fun r hr => ?_, z4, fun t ht => ?_⟩
    · rw [f_X12_copies_L2, mN_234, Option.bind_some, if_neg (show ¬ (4 : Int32) ≤ nI i from nI_ge (b := 4) (by omega) (by decide)), y234_r i4, Option.bind_some, y235_w i4, Option.bind_some, nm_q, oin1, nI_add]
      exact z1 ρ τ
    · rw [z3 r hr]; funext j; rw [stA2, if_neg (fun h => hr h.1)]
    · rw [z5 t ht, e9]
theorem s_copyt : ∃ σ', (∀ ρ τ, f_X12_copies (mem ρ τ σ1) 234 235 = some (mem ρ τ σ')) ∧ σ'.1 = σ1.1 ∧ (∀ r, r ≠ 235 → σ'.2.1 r = σ1.2.1 r) ∧ σ'.2.2 = σ1.2.2 ∧ ∀ t, t < 4 → σ'.2.1 235 t = σ1.2.1 234 t := by
  obtain ⟨σ', z1, z2⟩ := s_copyT (fun μ11 => (some μ11)) 4 0 σ1 FU rfl (by unfold FU; omega) (fun t ht => by omega)
  refine ⟨σ', fun ρ τ => ?_, z2⟩
  have z1 := z1 ρ τ
  rw [show nI 0 = (0 : Int32) from rfl] at z1
  unfold f_X12_copies
  rw [nm_q]
  exact z1
/-- how long a search takes -/
def tX : Nat → Nat
  | 0 => 0
  | m + 1 => 1 + 48 * (1 + tX m)
/-- where a search stands: at depth d, next the cell v -/
def RT (σ σ1 : Sg) (m d v : Nat) (π : Nat → Nat) (a : Acc) : Prop := Eqm σ σ1 ∧ σ1.2.1 234 d = nI v - 1 ∧ (∀ i, i < d → σ1.2.1 234 i = nI (π i) ∧ π i < nc (cur σ)) ∧ RA σ1 m a
abbrev L11 := f_X12_countsTrays_L11
def Chd (σ : Sg) (K : Mm → Int32 → Option (Int32 × Mm)) (m L d : Nat) : Prop := ∀ (v : Nat) (π : Nat → Nat) (a : Acc) (σ1 : Sg), v ≤ nc (cur σ) → RT σ σ1 m d v π a → a.1 + 48 ^ L ≤ 2 ^ 28 → ∃ t σ', t ≤ tX L ∧ (∀ F ρ τ, f_X12_countsTrays_L11 K (F + t) (mem ρ τ σ1) 188 (nI m) (nI a.1) (nI d) = f_X12_countsTrays_L11 K F (mem ρ τ σ') 188 (nI m) (nI (trA (apD (cur σ)) (nc (cur σ)) L d π v a).1) (nI d + Int32.ofInt (-1))) ∧ Eqm σ σ' ∧ RA σ' m (trA (apD (cur σ)) (nc (cur σ)) L d π v a) ∧ ∀ i, i < d → σ'.2.1 234 i = σ1.2.1 234 i
theorem s_trK {K : Mm → Int32 → Option (Int32 × Mm)} {m l d : Nat} {π : Nat → Nat} (hD : DG nr (cur σ)) (hm : m = d + l + 1) (m3 : m ≤ 3) (child : l ≠ 0 → Chd σ K m l (d + 1)) : ∀ (k v : Nat) (a : Acc) (σ1 : Sg), v + k = nc (cur σ) → RT σ σ1 m d v π a → a.1 + k * 48 ^ l ≤ 2 ^ 28 → ∃ t σ', t ≤ 1 + k * (1 + tX l) ∧ (∀ F ρ τ, f_X12_countsTrays_L11 K (F + t) (mem ρ τ σ1) 188 (nI m) (nI a.1) (nI d) = f_X12_countsTrays_L11 K F (mem ρ τ σ') 188 (nI m) (nI (fld (fun v a => if okP (apD (cur σ)) π v d then trA (apD (cur σ)) (nc (cur σ)) l (d + 1) (upN π d v) (v + 1) a else a) v k a).1) (nI d + Int32.ofInt (-1))) ∧ Eqm σ σ' ∧ RA σ' m (fld (fun v a => if okP (apD (cur σ)) π v d then trA (apD (cur σ)) (nc (cur σ)) l (d + 1) (upN π d v) (v + 1) a else a) v k a) ∧ ∀ i, i < d → σ'.2.1 234 i = σ1.2.1 234 i := by
  have n48 := hD.n48
  have d4 : d < 4 := by omega
  have nd : ¬ nI d < 0 := nI_nlt (b := 0) (by omega) (by omega)
  intro k
  induction k with
  | zero =>
    intro v a σ1 h1 hR hB
    obtain ⟨r1, r2, r3, r4⟩ := hR
    obtain rfl : v = nc (cur σ) := by omega
    obtain ⟨σa, wa⟩ : ∃ Y : Sg, Y = stA σ1 234 d (nI (nc (cur σ))) := ⟨_, rfl⟩
    have ea : Eqm σ σa := by rw [wa]; exact r1.trans (eqm_stA _ _ _ (by unfold PerM; omega))
    have a4 : σa.2.1 234 d = nI (nc (cur σ)) := by rw [wa, stA2, if_pos ⟨rfl, rfl⟩]
    refine ⟨1, σa, by omega, fun F ρ τ => ?_, ea, fun h i hi => by rw [wa, stA2, if_neg (by omega)]; exact r4 h i hi, fun i hi => by rw [wa, stA2, if_neg (by omega)]⟩
    rw [f_X12_countsTrays_L11, if_neg nd, mR_66, Option.bind_some, y234_r d4, Option.bind_some, r2, sub_add1, y234_w d4, Option.bind_some, ← wa, mR_66, Option.bind_some, y234_r d4, Option.bind_some, a4, ob_mem, Option.bind_some, s_celX hD ea, bd_some, if_neg (nI_nlt (Nat.le_refl _) (Nat.lt_of_le_of_lt n48 (by decide))), nm_q]
    rfl
  | succ k ih =>
    intro v a σ1 h1 hR hB
    obtain ⟨r1, r2, r3, r4⟩ := hR
    have hv : v < nc (cur σ) := by omega
    have hB' : a.1 + 48 ^ l + k * 48 ^ l ≤ 2 ^ 28 := by rw [Nat.succ_mul] at hB; omega
    obtain ⟨σa, wa⟩ : ∃ Y : Sg, Y = stA σ1 234 d (nI v) := ⟨_, rfl⟩
    have ea : Eqm σ σa := by rw [wa]; exact r1.trans (eqm_stA _ _ _ (by unfold PerM; omega))
    have a4 : σa.2.1 234 d = nI v := by rw [wa, stA2, if_pos ⟨rfl, rfl⟩]
    have a4' : ∀ i, i < d → σa.2.1 234 i = σ1.2.1 234 i := fun i hi => by rw [wa, stA2, if_neg (by omega)]
    have a5 : ∀ i, σa.2.1 235 i = σ1.2.1 235 i := fun i => by rw [wa, stA2, if_neg (by omega)]
    have ra : RA σa m a := fun h i hi => by rw [a5]; exact r4 h i hi
    have ok : ∀ ρ τ K, f_X12_countsTrays_L50 K FU (mem ρ τ σa) 188 (nI m) (nI a.1) (nI d) (1 : Int32) (0 : Int32) = K (mem ρ τ σa) 188 (nI m) (nI a.1) (nI d) (bI (okP (apD (cur σ)) π v d)) := fun ρ τ K => s_okL (π := π) d4 hD ea hv (fun i hi => by rw [a4' i hi]; exact r3 i hi) a4 K ρ τ d 0 FU (by omega) (by unfold FU; omega)
    have fin : ∀ (a' : Acc) (σ3 : Sg) (t1 : Nat), t1 ≤ tX l → a' = (if okP (apD (cur σ)) π v d then trA (apD (cur σ)) (nc (cur σ)) l (d + 1) (upN π d v) (v + 1) a else a) → Eqm σ σ3 → RA σ3 m a' → (∀ i, i < d + 1 → σ3.2.1 234 i = σa.2.1 234 i) → (∀ F ρ τ, f_X12_countsTrays_L11 K (F + t1 + 1) (mem ρ τ σ1) 188 (nI m) (nI a.1) (nI d) = f_X12_countsTrays_L11 K F (mem ρ τ σ3) 188 (nI m) (nI a'.1) (nI d)) → ∃ t σ', t ≤ 1 + (k + 1) * (1 + tX l) ∧ (∀ F ρ τ, f_X12_countsTrays_L11 K (F + t) (mem ρ τ σ1) 188 (nI m) (nI a.1) (nI d) = f_X12_countsTrays_L11 K F (mem ρ τ σ') 188 (nI m) (nI (fld (fun v a => if okP (apD (cur σ)) π v d then trA (apD (cur σ)) (nc (cur σ)) l (d + 1) (upN π d v) (v + 1) a else a) v (k + 1) a).1) (nI d + Int32.ofInt (-1))) ∧ Eqm σ σ' ∧ RA σ' m (fld (fun v a => if okP (apD (cur σ)) π v d then trA (apD (cur σ)) (nc (cur σ)) l (d + 1) (upN π d v) (v + 1) a else a) v (k + 1) a) ∧ ∀ i, i < d → σ'.2.1 234 i = σ1.2.1 234 i := by
      intro a' σ3 t1 ht1 ha' e3 q3 p3 run
      have le : a'.1 ≤ a.1 + 48 ^ l := by
        rw [ha']
        split
        · have h1 := trA_le (apD (cur σ)) (nc (cur σ)) l (d + 1) (upN π d v) (v + 1) a
          have h2 := Nat.pow_le_pow_left n48 l
          omega
        · exact Nat.le_add_right _ _
      obtain ⟨t, σ', z1, z2, z3, z4, z5⟩ := ih (v + 1) a' σ3 (by omega) ⟨e3, by rw [p3 d (by omega), a4, nI_pred], fun i hi => by rw [p3 i (by omega), a4' i hi]; exact r3 i hi, q3⟩ (by omega)
      refine ⟨t + t1 + 1, σ', ?_, fun F ρ τ => ?_, z3, by rw [fld, ← ha']; exact z4, fun i hi => by rw [z5 i hi, p3 i (by omega), a4' i hi]⟩
      · have : (k + 1) * (1 + tX l) = k * (1 + tX l) + (1 + tX l) := Nat.succ_mul _ _
        omega
      · rw [show F + (t + t1 + 1) = (F + t) + t1 + 1 by omega, run, fld, ← ha']
        exact z2 F ρ τ
    have head : ∀ F ρ τ, f_X12_countsTrays_L11 K (F + 1) (mem ρ τ σ1) 188 (nI m) (nI a.1) (nI d) = (if bI (okP (apD (cur σ)) π v d) = 0 then
    (if bI (okP (apD (cur σ)) π v d) = 0 then
    f_X12_countsTrays_L11 K F (mem ρ τ σa) 188 (nI m) (nI a.1) (nI d)
    else
    ((gR (mem ρ τ σa) 188 12 66).bind fun v44 =>
    ((gR (mem ρ τ σa) 188 12 66).bind fun v45 =>
    ((aI (mem ρ τ σa) v45 0 (nI d)).bind fun v46 =>
    ((sI (mem ρ τ σa) v44 0 (nI d + (1 : Int32)) v46).bind fun μ47 =>
    (nm (nI d + Int32.ofInt (1)) fun x48 =>
    f_X12_countsTrays_L11 K F μ47 188 (nI m) (nI a.1) x48))))))
    else
    (if nI d = (nI m - (1 : Int32)) then
    (if nI a.1 = 0 then
    ((gR (mem ρ τ σa) 188 12 66).bind fun v49 =>
    ((gR (mem ρ τ σa) 188 12 67).bind fun v50 =>
    ((f_X12_copies (mem ρ τ σa) v49 v50).bind fun μ51 =>
    (nm (nI a.1 + Int32.ofInt (1)) fun x52 =>
    f_X12_countsTrays_L11 K F μ51 188 (nI m) x52 (nI d)))))
    else
    (nm (nI a.1 + Int32.ofInt (1)) fun x53 =>
    f_X12_countsTrays_L11 K F (mem ρ τ σa) 188 (nI m) x53 (nI d)))
    else
    (if bI (okP (apD (cur σ)) π v d) = 0 then
    f_X12_countsTrays_L11 K F (mem ρ τ σa) 188 (nI m) (nI a.1) (nI d)
    else
    ((gR (mem ρ τ σa) 188 12 66).bind fun v54 =>
    ((gR (mem ρ τ σa) 188 12 66).bind fun v55 =>
    ((aI (mem ρ τ σa) v55 0 (nI d)).bind fun v56 =>
    ((sI (mem ρ τ σa) v54 0 (nI d + (1 : Int32)) v56).bind fun μ57 =>
    (nm (nI d + Int32.ofInt (1)) fun x58 =>
    f_X12_countsTrays_L11 K F μ57 188 (nI m) (nI a.1) x58)))))))) := by
      intro F ρ τ
      rw [f_X12_countsTrays_L11, if_neg nd, mR_66, Option.bind_some, y234_r d4, Option.bind_some, r2, sub_add1, y234_w d4, Option.bind_some, ← wa, mR_66, Option.bind_some, y234_r d4, Option.bind_some, a4, ob_mem, Option.bind_some, s_celX hD ea, bd_some, if_pos (nI_lt hv (Nat.lt_of_le_of_lt n48 (by decide))), nm_q, nm_q, ok, mR_66]
    cases hok : okP (apD (cur σ)) π v d
    · refine fin a σa 0 (Nat.zero_le _) (by rw [hok]; rfl) ea ra (fun _ _ => rfl) (fun F ρ τ => ?_)
      rw [show F + 0 + 1 = F + 1 from rfl, head, hok, if_pos (show bI false = 0 from rfl), if_pos (show bI false = 0 from rfl)]
    · have a28 : a.1 < 2 ^ 31 := by omega
      by_cases hl : l = 0
      · subst hl
        have em : nI d = nI m - (1 : Int32) := by rw [hm, nI_pred]
        have et : (if okP (apD (cur σ)) π v d then trA (apD (cur σ)) (nc (cur σ)) 0 (d + 1) (upN π d v) (v + 1) a else a) = addA a (upN π d v) := by rw [hok]; rfl
        by_cases ha : a.1 = 0
        · obtain ⟨σ', c1, c2, c3, c4, c5⟩ := s_copyt (σ1 := σa)
          have e3 : Eqm σ σ' := ea.trans ⟨by rw [c2], by rw [c2], by rw [c2], by rw [c2], fun r hr => c3 r (by unfold PerM at hr; omega)⟩
          refine fin (addA a (upN π d v)) σ' 0 (Nat.zero_le _) et.symm e3 (fun _ i hi => ?_) (fun i hi => by rw [c3 234 (by decide)]) (fun F ρ τ => ?_)
          · rw [c5 i (by omega)]
            show _ = nI ((if a.1 = 0 then upN π d v else a.2) i)
            rw [if_pos ha]
            show _ = nI (if i = d then v else π i)
            by_cases e : i = d
            · rw [if_pos e, e, a4]
            · rw [if_neg e, a4' i (by omega)]; exact (r3 i (by omega)).1
          · rw [show F + 0 + 1 = F + 1 from rfl, head, hok, if_neg (show ¬ bI true = 0 by decide), if_pos em, if_pos (show nI a.1 = 0 by rw [ha]; rfl), mR_66, Option.bind_some, mR_67, Option.bind_some, c1, Option.bind_some, nm_q, oin1, nI_add]
            rfl
        · refine fin (addA a (upN π d v)) σa 0 (Nat.zero_le _) et.symm ea (fun _ i hi => ?_) (fun i hi => rfl) (fun F ρ τ => ?_)
          · show _ = nI ((if a.1 = 0 then upN π d v else a.2) i)
            rw [if_neg ha]; exact ra ha i hi
          · rw [show F + 0 + 1 = F + 1 from rfl, head, hok, if_neg (show ¬ bI true = 0 by decide), if_pos em, if_neg (show ¬ nI a.1 = 0 from fun e => ha ((nI_eq (b := 0) a28 (by decide)).1 e)), nm_q, oin1, nI_add]
            rfl
      · have em : ¬ nI d = nI m - (1 : Int32) := fun e => by
          rw [hm, nI_pred] at e
          have := (nI_eq (by omega) (by omega)).1 e
          omega
        obtain ⟨σb, wb⟩ : ∃ Y : Sg, Y = stA σa 234 (d + 1) (nI v) := ⟨_, rfl⟩
        have eb : Eqm σ σb := by rw [wb]; exact ea.trans (eqm_stA _ _ _ (by unfold PerM; omega))
        have b4 : ∀ i, i < d + 1 → σb.2.1 234 i = σa.2.1 234 i := fun i hi => by rw [wb, stA2, if_neg (by omega)]
        obtain ⟨t1, σ', z1, z2, z3, z4, z5⟩ := child hl (v + 1) (upN π d v) a σb (by omega) ⟨eb, by rw [wb, stA2, if_pos ⟨rfl, rfl⟩, nI_pred], fun i hi => by
          rw [b4 i hi]
          show _ = nI (if i = d then v else π i) ∧ (if i = d then v else π i) < nc (cur σ)
          by_cases e : i = d
          · rw [if_pos e, e, a4]; exact ⟨rfl, hv⟩
          · rw [if_neg e, a4' i (by omega)]; exact r3 i (by omega), fun h i hi => by rw [wb, stA2, if_neg (by omega)]; exact ra h i hi⟩ (by omega)
        refine fin _ σ' t1 z1 (by rw [hok]; rfl) z3 z4 (fun i hi => by rw [z5 i hi, b4 i hi]) (fun F ρ τ => ?_)
        have z := z2 F ρ τ
        rw [oinm1, nI_pm] at z
        rw [head, hok, if_neg (show ¬ bI true = 0 by decide), if_neg em, if_neg (show ¬ bI true = 0 by decide), mR_66, Option.bind_some, Option.bind_some, y234_r d4, Option.bind_some, a4, lit_1, nI_add, y234_w (by omega), Option.bind_some, ← wb, nm_q, oin1, nI_add]
        exact z
theorem s_chd {K : Mm → Int32 → Option (Int32 × Mm)} {m : Nat} (hD : DG nr (cur σ)) (m3 : m ≤ 3) : ∀ (l d : Nat), m = d + l + 1 → Chd σ K m (l + 1) d := by
  have n48 := hD.n48
  have main : ∀ (l d : Nat), m = d + l + 1 → (l ≠ 0 → Chd σ K m l (d + 1)) → Chd σ K m (l + 1) d := by
    intro l d hm child v π a σ1 hv hR hB
    have hB2 : (nc (cur σ) - v) * 48 ^ l ≤ 48 ^ (l + 1) := by
      rw [Nat.pow_succ, Nat.mul_comm (48 ^ l)]
      exact Nat.mul_le_mul (by omega) (Nat.le_refl _)
    obtain ⟨t, σ', z1, z2, z3, z4, z5⟩ := s_trK (π := π) hD hm m3 child (nc (cur σ) - v) v a σ1 (by omega) hR (by omega)
    refine ⟨t, σ', ?_, z2, z3, z4, z5⟩
    have : (nc (cur σ) - v) * (1 + tX l) ≤ 48 * (1 + tX l) := Nat.mul_le_mul (by omega) (Nat.le_refl _)
    show t ≤ 1 + 48 * (1 + tX l)
    omega
  intro l
  induction l with
  | zero => exact fun d hm => main 0 d hm (fun h => absurd rfl h)
  | succ l ih => exact fun d hm => main (l + 1) d hm (fun _ => ih (d + 1) (by omega))
theorem s_counts {m : Nat} (π : Nat → Nat) (hD : DG nr (cur σ)) (hm : m = 1 ∨ m = 2 ∨ m = 3) : ∃ σ', (∀ ρ τ, f_X12_countsTrays (mem ρ τ σ) 188 (nI m) = some (nI (trA (apD (cur σ)) (nc (cur σ)) m 0 π 0 (0, π)).1, mem ρ τ σ')) ∧ Eqm σ σ' ∧ RA σ' m (trA (apD (cur σ)) (nc (cur σ)) m 0 π 0 (0, π)) := by
  have v0 : ∀ ρ τ (σ : Sg) v, sI (mem ρ τ σ) 234 0 (0 : Int32) v = some (mem ρ τ (stA σ 234 0 v)) := fun ρ τ σ v => y234_w (i := 0) (by decide)
  obtain ⟨l, hl⟩ : ∃ l, m = 0 + l + 1 := ⟨m - 1, by omega⟩
  obtain ⟨σb, wb⟩ : ∃ Y : Sg, Y = stA σ 234 0 (-1) := ⟨_, rfl⟩
  obtain ⟨t, σ', z1, z2, z3, z4, z5⟩ := s_chd (K := fun μ60 x61 => (some (x61, μ60))) hD (by omega) l 0 hl 0 π (0, π) σb (Nat.zero_le _) ⟨by rw [wb]; exact eqm_stA _ _ _ (by unfold PerM; omega), by rw [wb, stA2, if_pos ⟨rfl, rfl⟩]; rfl, fun i hi => by omega, fun h => absurd rfl h⟩ (by
    have : l = 0 ∨ l = 1 ∨ l = 2 := by omega
    rcases this with rfl | rfl | rfl
    · show 0 + 48 ^ 1 ≤ 2 ^ 28; decide
    · show 0 + 48 ^ 2 ≤ 2 ^ 28; decide
    · show 0 + 48 ^ 3 ≤ 2 ^ 28; decide)
  have ml : l + 1 = m := by omega
  rw [ml] at z1 z2 z4
  refine ⟨σ', fun ρ τ => ?_, z3, z4⟩
  have tb : tX m ≤ 200000 := by rcases hm with rfl | rfl | rfl <;> decide
  obtain ⟨f, hf⟩ : ∃ f, FU = (f + 1) + t := ⟨FU - t - 1, by unfold FU; omega⟩
  have y := z2 (f + 1) ρ τ
  rw [← hf, show nI ((0, π) : Acc).1 = (0 : Int32) from rfl] at y
  unfold f_X12_countsTrays
  rw [nm_q, nm_q, mR_66, Option.bind_some, v0, Option.bind_some, ← wb, y, f_X12_countsTrays_L11, if_pos (by decide)]
theorem op_trays (x y : Int32) : OpR (fun μ => f_X11_trays μ 128 x y) (fun μ => f_X12_trays μ 188 x y) := by
  refine OpR.q fun n sl U S T σ nr hR => ?_
  have hR0 := hR
  obtain ⟨hN, hTP, hRU, hIM, hD, hS⟩ := hR
  have n48 := hD.n48
  have hsv := hS.sv
  have hv := hS.la.gv
  have hgl := hv.loc
  show ∃ v T' σ', f_X11_trays (cn n sl U S T σ) 128 x y = some (v, cn n sl U S T' σ) ∧ agr (Ns S) T T' ∧ (∀ ρ τ, f_X12_trays (mem ρ τ σ) 188 x y = some (v, mem ρ τ σ')) ∧ Eqm σ σ'
  have cells : T.1 (T.2.2.2.1 161 0) 2 = nI (nc (cur σ)) := hS.la.cg.2.2.1
  have e1 : ((1 : Int64) ≤ x.toInt64 ∧ x.toInt64 ≤ (3 : Int64)) ↔ ((1 : Int32) ≤ x ∧ x ≤ nI 3) := in_i (lo := 1) (hi := 3)
  have e2 : ((0 : Int64) ≤ y.toInt64 ∧ y.toInt64 ≤ (3 : Int64)) ↔ isN y 4 := in03
  have c1 : (¬ x < 1 ∧ ¬ (3 : Int32) < x) ↔ ((1 : Int32) ≤ x ∧ x ≤ nI 3) := by
    rw [i32lt, i32lt, i32le, i32le]
    have q1 : (1 : Int32).toInt = 1 := rfl
    have q2 : (3 : Int32).toInt = 3 := rfl
    have q3 : (nI 3).toInt = 3 := rfl
    omega
  have c2 : (¬ y < 0 ∧ y ≤ (3 : Int32)) ↔ isN y 4 := by
    unfold isN
    rw [i32lt, i32le, i32le, i32lt]
    have q1 : (0 : Int32).toInt = 0 := rfl
    have q2 : (3 : Int32).toInt = 3 := rfl
    have q3 : (nI 4).toInt = 4 := rfl
    omega
  unfold f_X11_trays f_X12_trays
  rw [x128_6, Option.bind_some, s0_0 hsv, Option.bind_some, g0_2 hv, Option.bind_some, cells]
  by_cases h0 : nc (cur σ) = 0
  · refine ⟨-1, T, σ, ?_, agr.refl _ _, fun ρ τ => ?_, Eqm.refl _⟩
    · rw [h0, if_pos (show nI 0 = 0 from rfl)]
    · rw [ob_mem, Option.bind_some, isg_e hD, bd_some, if_pos h0, if_pos rfl]
  · have h0' : ¬ nI (nc (cur σ)) = 0 := fun e => h0 ((nI_eq (b := 0) (Nat.lt_of_le_of_lt n48 (by decide)) (by decide)).1 e)
    by_cases h1 : (1 : Int32) ≤ x ∧ x ≤ nI 3
    · by_cases h2 : isN y 4
      · obtain ⟨m, m1, m3, rfl⟩ := (in1_ (b := 3) (by decide)).1 h1
        obtain ⟨j, hj, rfl⟩ := isN_of (by decide) h2
        have hm : m = 1 ∨ m = 2 ∨ m = 3 := by omega
        obtain ⟨T', a1, a2, a3, a4⟩ := c_setTrays (sl := sl) (U := U) (σ1 := σ) (fun _ => 0) hD hm hS.la
        obtain ⟨σ', b1, b2, b3⟩ := s_counts (fun _ => 0) hD hm
        have le := trA_le (apD (cur σ)) (nc (cur σ)) m 0 (fun _ => 0) 0 (0, fun _ => 0)
        have le2 : nc (cur σ) ^ m ≤ 48 ^ 3 := Nat.le_trans (Nat.pow_le_pow_left n48 m) (Nat.pow_le_pow_right (by decide) m3)
        have le3 : (trA (apD (cur σ)) (nc (cur σ)) m 0 (fun _ => 0) 0 (0, fun _ => 0)).1 ≤ 0 + nc (cur σ) ^ m := le
        generalize trA (apD (cur σ)) (nc (cur σ)) m 0 (fun _ => 0) 0 (0, fun _ => 0) = A at *
        have A31 : A.1 < 2 ^ 31 := by omega
        have n1 : agr (Ns S) T T' := a2.mono fun r hr e => hr (.inr (.inl (by omega)))
        rw [if_neg h0', if_neg (c1.2 h1).1, if_neg (c1.2 h1).2, if_neg (c2.2 h2).1, if_pos (c2.2 h2).2, x128_12, Option.bind_some, Option.bind_some, s0_0 hsv, Option.bind_some, x181_o, Option.bind_some, a1, Option.bind_some]
        by_cases j0 : j = 0
        · refine ⟨nI A.1, T', σ', ?_, n1, fun ρ τ => ?_, b2⟩
          · rw [if_pos (show nI j = 0 by rw [j0]; rfl), x128_12, Option.bind_some, x181_2, Option.bind_some, a3]
          · rw [ob_mem, Option.bind_some, isg_e hD, bd_some, if_neg h0, if_neg (by decide), s_in, bd_some, if_pos (e1.2 h1), if_neg (by decide), s_in, bd_some, if_pos (e2.2 h2), if_neg (by decide), ob_mem, Option.bind_some, b1, bd_some, nm_q, if_pos (show nI j = 0 by rw [j0]; rfl)]
        · have j0' : ¬ nI j = 0 := fun e => j0 ((nI_eq (b := 0) (by omega) (by decide)).1 e)
          by_cases a0 : A.1 = 0
          · refine ⟨-2, T', σ', ?_, n1, fun ρ τ => ?_, b2⟩
            · rw [if_neg j0']
              by_cases hx : nI m < nI j
              · rw [if_pos hx]
              · rw [if_neg hx, x128_12, Option.bind_some, x181_2, Option.bind_some, a3, if_pos (show nI A.1 = 0 by rw [a0]; rfl)]
            · rw [ob_mem, Option.bind_some, isg_e hD, bd_some, if_neg h0, if_neg (by decide), s_in, bd_some, if_pos (e1.2 h1), if_neg (by decide), s_in, bd_some, if_pos (e2.2 h2), if_neg (by decide), ob_mem, Option.bind_some, b1, bd_some, nm_q, if_neg j0', if_pos (show nI A.1 = 0 by rw [a0]; rfl)]
          · have a0' : ¬ nI A.1 = 0 := fun e => a0 ((nI_eq (b := 0) A31 (by decide)).1 e)
            by_cases hx : j ≤ m
            · obtain ⟨i, rfl⟩ : ∃ i, j = i + 1 := ⟨j - 1, by omega⟩
              refine ⟨nI (A.2 i), T', σ', ?_, n1, fun ρ τ => ?_, b2⟩
              · rw [if_neg j0', if_neg (nI_nlt hx (by omega)), x128_12, Option.bind_some, x181_2, Option.bind_some, a3, if_neg a0', Option.bind_some, x181_3, Option.bind_some, nI_pred, x184_r (by omega), Option.bind_some, a4 a0 i (by omega)]
              · rw [ob_mem, Option.bind_some, isg_e hD, bd_some, if_neg h0, if_neg (by decide), s_in, bd_some, if_pos (e1.2 h1), if_neg (by decide), s_in, bd_some, if_pos (e2.2 h2), if_neg (by decide), ob_mem, Option.bind_some, b1, bd_some, nm_q, if_neg j0', if_neg a0', if_pos (nI_le hx (by omega)), mR_67, Option.bind_some, nI_pred, y235_r (by omega), Option.bind_some, b3 a0 i (by omega)]
            · refine ⟨-2, T', σ', ?_, n1, fun ρ τ => ?_, b2⟩
              · rw [if_neg j0', if_pos (nI_lt (by omega) (by omega))]
              · rw [ob_mem, Option.bind_some, isg_e hD, bd_some, if_neg h0, if_neg (by decide), s_in, bd_some, if_pos (e1.2 h1), if_neg (by decide), s_in, bd_some, if_pos (e2.2 h2), if_neg (by decide), ob_mem, Option.bind_some, b1, bd_some, nm_q, if_neg j0', if_neg a0', if_neg (nI_ge (by omega) (by omega))]
      · refine ⟨-1, T, σ, ?_, agr.refl _ _, fun ρ τ => ?_, Eqm.refl _⟩
        · rw [if_neg h0', if_neg (c1.2 h1).1, if_neg (c1.2 h1).2]
          by_cases hy : y < 0
          · rw [if_pos hy]
          · rw [if_neg hy, if_neg (fun h => h2 (c2.1 ⟨hy, h⟩))]
        · rw [ob_mem, Option.bind_some, isg_e hD, bd_some, if_neg h0, if_neg (by decide), s_in, bd_some, if_pos (e1.2 h1), if_neg (by decide), s_in, bd_some, if_neg (fun h => h2 (e2.1 h)), if_pos rfl]
    · refine ⟨-1, T, σ, ?_, agr.refl _ _, fun ρ τ => ?_, Eqm.refl _⟩
      · rw [if_neg h0']
        by_cases hx : x < 1
        · rw [if_pos hx]
        · rw [if_neg hx]
          by_cases hx3 : (3 : Int32) < x
          · rw [if_pos hx3]
          · exact absurd (c1.1 ⟨hx, hx3⟩) h1
      · rw [ob_mem, Option.bind_some, isg_e hD, bd_some, if_neg h0, if_neg (by decide), s_in, bd_some, if_neg (fun h => h1 (e1.1 h)), if_pos rfl]
end STRAYS
