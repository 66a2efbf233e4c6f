/-! The call ground. -/
theorem stOf_cong {la la' so so' : Nat → Nat} {E : Nat → Option Nat} {l : Nat} : ∀ {A : Nat}, (∀ k, k < A → la k = la' k ∧ so k = so' k) → stOf la so E l A = stOf la' so' E l A
  | 0, _ => rfl
  | A + 1, h => by
    rw [stOf, stOf, stOf_cong (A := A) (fun k hk => h k (by omega)), (h A (by omega)).1, (h A (by omega)).2]
theorem lnx_cong {A : Nat} {la la' so so' : Nat → Nat} {E : Nat → Option Nat} (h : ∀ k, k < A → la k = la' k ∧ so k = so' k) : ∀ L, lnx A la so E L = lnx A la' so' E L
  | 0 => rfl
  | L + 1 => by rw [lnx, lnx, lnx_cong h L, stOf_cong h]
theorem lsK_cong {L A : Nat} {la la' so so' ho ho' : Nat → Nat} (h : ∀ k, k < A → la k = la' k ∧ so k = so' k) (hh : ∀ l, l < L → ho l = ho' l) : ∀ k, lsK L A la so ho k = lsK L A la' so' ho' k
  | 0 => rfl
  | k + 1 => by
    rw [lsK, lsK, lsK_cong h hh k, lst, lst, lnx_cong h]
    cases hn : lnx A la' so' (lsK L A la' so' ho' k).1 L with
    | none => rfl
    | some l =>
      have q := ((lnx_spec A la' so' (lsK L A la' so' ho' k).1 L).2 l hn).1
      simp only [stOf_cong h, hh l q]
/-! the reference begins, and lays what was read -/
def cpS (σ : Sg) (a c m : Nat) : Sg := (σ.1, fun r i => if r = c ∧ i < m then σ.2.1 a i else σ.2.1 r i, σ.2.2)
theorem cpS_s {σ : Sg} {a c m : Nat} : stA (cpS σ a c m) c m (σ.2.1 a m) = cpS σ a c (m + 1) := by
  refine Prod.ext rfl (Prod.ext (funext fun r => funext fun i => ?_) rfl)
  rw [stA2]
  show (if r = c ∧ i = m then σ.2.1 a m else if r = c ∧ i < m then σ.2.1 a i else σ.2.1 r i) = if r = c ∧ i < m + 1 then σ.2.1 a i else σ.2.1 r i
  by_cases h : r = c
  · by_cases h1 : i = m
    · rw [if_pos ⟨h, h1⟩, if_pos ⟨h, by omega⟩, h1]
    · rw [if_neg (fun x => h1 x.2)]
      by_cases h2 : i < m
      · rw [if_pos ⟨h, h2⟩, if_pos ⟨h, by omega⟩]
      · rw [if_neg (fun x => h2 x.2), if_neg (fun x => by omega)]
  · rw [if_neg (fun x => h x.1), if_neg (fun x => h x.1), if_neg (fun x => h x.1)]
theorem cpS_0 (σ : Sg) (a c : Nat) : cpS σ a c 0 = σ := by
  refine Prod.ext rfl (Prod.ext (funext fun r => funext fun i => ?_) rfl)
  exact if_neg (fun x => by omega)
theorem s_cpyR {a c m : Nat} (hac : a ≠ c) (hm : m < 1000) (hN : ∀ ρ τ σ, aN (mem ρ τ σ) a 0 = some (nI m)) (hr : ∀ ρ τ σ i, i < m → aI (mem ρ τ σ) a 0 (nI i) = some (σ.2.1 a i)) (hw : ∀ ρ τ σ i v, i < m → sI (mem ρ τ σ) c 0 (nI i) v = some (mem ρ τ (stA σ c i v))) (σ : Sg) (ρ : Mm) (τ : Nat → va_E) : f_X12_copies (mem ρ τ σ) a c = some (mem ρ τ (cpS σ a c m)) := by
  have key : ∀ (k i f : Nat), i + k = m → k < f → f_X12_copies_L2 (fun μ11 => (some μ11)) f (mem ρ τ (cpS σ a c i)) a c (nI i) = some (mem ρ τ (cpS σ a c m)) := by
    intro k
    induction k with
    | zero =>
      intro i f h1 h2
      obtain ⟨f, rfl⟩ : ∃ k, f = k + 1 := ⟨f - 1, by omega⟩
      obtain rfl : i = m := by omega
      rw [f_X12_copies_L2, hN, Option.bind_some, if_pos (nI_le (Nat.le_refl _) (by omega))]
    | succ k ih =>
      intro i f h1 h2
      obtain ⟨f, rfl⟩ : ∃ k, f = k + 1 := ⟨f - 1, by omega⟩
      have e : (cpS σ a c i).2.1 a i = σ.2.1 a i := if_neg (fun x => hac x.1)
      rw [f_X12_copies_L2, hN, Option.bind_some, if_neg (nI_ge (by omega) (by omega)), hr _ _ _ _ (by omega), Option.bind_some, e, hw _ _ _ _ _ (by omega), Option.bind_some, cpS_s, nm_q, oin1, nI_add]
      exact ih (i + 1) f (by omega) (by omega)
  have z := key m 0 FU (by omega) (by unfold FU; omega)
  rw [cpS_0, show nI 0 = (0 : Int32) from rfl] at z
  unfold f_X12_copies
  rw [nm_q]
  exact z
def zrS (σ : Sg) (c m : Nat) : Sg := (σ.1, fun r i => if r = c ∧ i < m then 0 else σ.2.1 r i, σ.2.2)
theorem zrS_s {σ : Sg} {c m : Nat} : stA (zrS σ c m) c m 0 = zrS σ c (m + 1) := by
  refine Prod.ext rfl (Prod.ext (funext fun r => funext fun i => ?_) rfl)
  rw [stA2]
  show (if r = c ∧ i = m then 0 else if r = c ∧ i < m then 0 else σ.2.1 r i) = if r = c ∧ i < m + 1 then 0 else σ.2.1 r i
  by_cases h : r = c
  · by_cases h1 : i = m
    · rw [if_pos ⟨h, h1⟩, if_pos ⟨h, by omega⟩]
    · rw [if_neg (fun x => h1 x.2)]
      by_cases h2 : i < m
      · rw [if_pos ⟨h, h2⟩, if_pos ⟨h, by omega⟩]
      · rw [if_neg (fun x => h2 x.2), if_neg (fun x => by omega)]
  · rw [if_neg (fun x => h x.1), if_neg (fun x => h x.1), if_neg (fun x => h x.1)]
theorem zrS_0 (σ : Sg) (c : Nat) : zrS σ c 0 = σ := by
  refine Prod.ext rfl (Prod.ext (funext fun r => funext fun i => ?_) rfl)
  exact if_neg (fun x => by omega)
theorem s_zr1 (K : Mm → Nat → Option Mm) (σ : Sg) (ρ : Mm) (τ : Nat → va_E) : f_X12_readsAll_L6 K FU (mem ρ τ σ) 188 0 = K (mem ρ τ (zrS σ 203 7)) 188 := by
  have key : ∀ (k i f : Nat), i + k = 7 → k < f → f_X12_readsAll_L6 K f (mem ρ τ (zrS σ 203 i)) 188 (nI i) = K (mem ρ τ (zrS σ 203 7)) 188 := by
    intro k
    induction k with
    | zero =>
      intro i f h1 h2
      obtain ⟨f, rfl⟩ : ∃ k, f = k + 1 := ⟨f - 1, by omega⟩
      obtain rfl : i = 7 := by omega
      rw [f_X12_readsAll_L6, if_pos (by decide)]
    | succ k ih =>
      intro i f h1 h2
      obtain ⟨f, rfl⟩ : ∃ k, f = k + 1 := ⟨f - 1, by omega⟩
      rw [f_X12_readsAll_L6, if_neg (show ¬ (7 : Int32) ≤ nI i from nI_ge (b := 7) (by omega) (by decide)), mR_15, Option.bind_some, y203_w (by omega), Option.bind_some, zrS_s, nm_q, oin1, nI_add]
      exact ih (i + 1) f (by omega) (by omega)
  have z := key 7 0 FU rfl (by unfold FU; omega)
  rw [zrS_0] at z
  exact z
theorem s_zr2 (K : Mm → Nat → Option Mm) (σ : Sg) (ρ : Mm) (τ : Nat → va_E) : f_X12_readsAll_L27 K FU (mem ρ τ σ) 188 0 = K (mem ρ τ (zrS σ 204 48)) 188 := by
  have key : ∀ (k i f : Nat), i + k = 48 → k < f → f_X12_readsAll_L27 K f (mem ρ τ (zrS σ 204 i)) 188 (nI i) = K (mem ρ τ (zrS σ 204 48)) 188 := by
    intro k
    induction k with
    | zero =>
      intro i f h1 h2
      obtain ⟨f, rfl⟩ : ∃ k, f = k + 1 := ⟨f - 1, by omega⟩
      obtain rfl : i = 48 := by omega
      rw [f_X12_readsAll_L27, if_pos (by decide)]
    | succ k ih =>
      intro i f h1 h2
      obtain ⟨f, rfl⟩ : ∃ k, f = k + 1 := ⟨f - 1, by omega⟩
      rw [f_X12_readsAll_L27, if_neg (show ¬ (48 : Int32) ≤ nI i from nI_ge (b := 48) (by omega) (by decide)), mR_16, Option.bind_some, y204_w (by omega), Option.bind_some, zrS_s, nm_q, oin1, nI_add]
      exact ih (i + 1) f (by omega) (by omega)
  have z := key 48 0 FU rfl (by unfold FU; omega)
  rw [zrS_0] at z
  exact z
/-- scalars laid -/
def scS (σ : Sg) (m : Nat) : Sg := (σ.1, fun r i => if r = 189 ∧ i < m then (if i < 7 then σ.2.1 203 i else 0) else σ.2.1 r i, σ.2.2)
theorem scS_s {σ : Sg} {m : Nat} : stA (scS σ m) 189 m (if m < 7 then σ.2.1 203 m else 0) = scS σ (m + 1) := by
  refine Prod.ext rfl (Prod.ext (funext fun r => funext fun i => ?_) rfl)
  rw [stA2]
  show (if r = 189 ∧ i = m then (if m < 7 then σ.2.1 203 m else 0) else if r = 189 ∧ i < m then (if i < 7 then σ.2.1 203 i else 0) else σ.2.1 r i) = if r = 189 ∧ i < m + 1 then (if i < 7 then σ.2.1 203 i else 0) else σ.2.1 r i
  by_cases h : r = 189
  · by_cases h1 : i = m
    · rw [if_pos ⟨h, h1⟩, if_pos (show r = 189 ∧ i < m + 1 from ⟨h, by omega⟩), h1]
    · rw [if_neg (fun x => h1 x.2)]
      by_cases h2 : i < m
      · rw [if_pos ⟨h, h2⟩, if_pos (show r = 189 ∧ i < m + 1 from ⟨h, by omega⟩)]
      · rw [if_neg (fun x => h2 x.2), if_neg (fun x => by omega)]
  · rw [if_neg (fun x => h x.1), if_neg (fun x => h x.1), if_neg (fun x => h x.1)]
theorem s_scl (K : Mm → Nat → Option (Int32 × Mm)) (σ : Sg) (ρ : Mm) (τ : Nat → va_E) : f_X12_ground_L21 K FU (mem ρ τ σ) 188 0 = K (mem ρ τ (scS σ 9)) 188 := by
  have key : ∀ (k i f : Nat), i + k = 9 → k < f → f_X12_ground_L21 K f (mem ρ τ (scS σ i)) 188 (nI i) = K (mem ρ τ (scS σ 9)) 188 := by
    intro k
    induction k with
    | zero =>
      intro i f h1 h2
      obtain ⟨f, rfl⟩ : ∃ k, f = k + 1 := ⟨f - 1, by omega⟩
      obtain rfl : i = 9 := by omega
      rw [f_X12_ground_L21, if_pos (by decide)]
    | succ k ih =>
      intro i f h1 h2
      obtain ⟨f, rfl⟩ : ∃ k, f = k + 1 := ⟨f - 1, by omega⟩
      have ss := scS_s (σ := σ) (m := i)
      rw [f_X12_ground_L21, if_neg (show ¬ (9 : Int32) ≤ nI i from nI_ge (b := 9) (by omega) (by decide)), mR_1, Option.bind_some]
      by_cases h7 : i < 7
      · rw [if_pos h7] at ss
        have e : (scS σ i).2.1 203 i = σ.2.1 203 i := by
          show (if 203 = 189 ∧ i < i then (if i < 7 then σ.2.1 203 i else 0) else σ.2.1 203 i) = _
          rw [if_neg (fun x => by omega)]
        rw [if_neg (show ¬ (7 : Int32) ≤ nI i from nI_ge (b := 7) (by omega) (by decide)), mR_15, Option.bind_some, y203_r h7, Option.bind_some, e, y189_w (by omega), Option.bind_some, ss, nm_q, oin1, nI_add]
        exact ih (i + 1) f (by omega) (by omega)
      · rw [if_neg h7] at ss
        rw [if_pos (show (7 : Int32) ≤ nI i from nI_le (a := 7) (by omega) (by omega)), y189_w (by omega), Option.bind_some, ss, nm_q, oin1, nI_add]
        exact ih (i + 1) f (by omega) (by omega)
  have z := key 9 0 FU rfl (by unfold FU; omega)
  have e0 : scS σ 0 = σ := by
    refine Prod.ext rfl (Prod.ext (funext fun r => funext fun i => ?_) rfl)
    exact if_neg (fun x => by omega)
  rw [e0] at z
  exact z
def rlen (j : Nat) : Nat := [0, 48, 5, 5, 8, 8, 8, 8, 4, 8, 10, 10].getD j 0
def alS (σ : Sg) : Nat → Sg
  | 0 => scS σ 9
  | j + 1 => cpS (alS σ j) (204 + j) (190 + j) (rlen (j + 1))
theorem alS_1 (σ : Sg) : ∀ j, (alS σ j).1 = σ.1
  | 0 => rfl
  | j + 1 => alS_1 σ j
theorem alS_r (σ : Sg) {r : Nat} (i : Nat) (h : r < 189 ∨ 200 < r) : ∀ j, j ≤ 11 → (alS σ j).2.1 r i = σ.2.1 r i
  | 0, _ => if_neg (fun x => by omega)
  | j + 1, hj => by
    show (if r = 190 + j ∧ i < rlen (j + 1) then _ else (alS σ j).2.1 r i) = _
    rw [if_neg (fun x => by omega)]
    exact alS_r σ i h j (by omega)
theorem alS_s (σ : Sg) (i : Nat) : ∀ j, (alS σ j).2.1 189 i = if i < 9 then (if i < 7 then σ.2.1 203 i else 0) else σ.2.1 189 i
  | 0 => by
    show (if 189 = 189 ∧ i < 9 then _ else _) = _
    by_cases h : i < 9
    · rw [if_pos ⟨rfl, h⟩, if_pos h]
    · rw [if_neg (fun x => h x.2), if_neg h]
  | j + 1 => by
    show (if 189 = 190 + j ∧ i < rlen (j + 1) then _ else (alS σ j).2.1 189 i) = _
    rw [if_neg (fun x => by omega)]
    exact alS_s σ i j
theorem alS_j (σ : Sg) {k : Nat} (i : Nat) (hi : i < rlen (k + 1)) : ∀ j, k < j → j ≤ 11 → (alS σ j).2.1 (190 + k) i = σ.2.1 (204 + k) i
  | 0, h, _ => by omega
  | j + 1, h, h11 => by
    show (if 190 + k = 190 + j ∧ i < rlen (j + 1) then (alS σ j).2.1 (204 + j) i else (alS σ j).2.1 (190 + k) i) = _
    by_cases e : k = j
    · rw [if_pos ⟨by omega, by rw [← e]; exact hi⟩, ← e]
      exact alS_r σ i (by omega) k (by omega)
    · rw [if_neg (fun x => e (by omega))]
      exact alS_j σ i hi j (by omega) (by omega)
theorem s_all (σ : Sg) (ρ : Mm) (τ : Nat → va_E) (j : Nat) (hj : j < 11) : f_X12_copies (mem ρ τ (alS σ j)) (204 + j) (190 + j) = some (mem ρ τ (alS σ (j + 1))) := by
  have : j = 0 ∨ j = 1 ∨ j = 2 ∨ j = 3 ∨ j = 4 ∨ j = 5 ∨ j = 6 ∨ j = 7 ∨ j = 8 ∨ j = 9 ∨ j = 10 := by omega
  rcases this with rfl | rfl | rfl | rfl | rfl | rfl | rfl | rfl | rfl | rfl | rfl
  · exact s_cpyR (by decide) (by decide) (fun ρ τ σ => mN_204 ρ τ σ) (fun _ _ _ _ h => y204_r h) (fun _ _ _ _ _ h => y190_w h) _ ρ τ
  · exact s_cpyR (by decide) (by decide) (fun ρ τ σ => mN_205 ρ τ σ) (fun _ _ _ _ h => y205_r h) (fun _ _ _ _ _ h => y191_w h) _ ρ τ
  · exact s_cpyR (by decide) (by decide) (fun ρ τ σ => mN_206 ρ τ σ) (fun _ _ _ _ h => y206_r h) (fun _ _ _ _ _ h => y192_w h) _ ρ τ
  · exact s_cpyR (by decide) (by decide) (fun ρ τ σ => mN_207 ρ τ σ) (fun _ _ _ _ h => y207_r h) (fun _ _ _ _ _ h => y193_w h) _ ρ τ
  · exact s_cpyR (by decide) (by decide) (fun ρ τ σ => mN_208 ρ τ σ) (fun _ _ _ _ h => y208_r h) (fun _ _ _ _ _ h => y194_w h) _ ρ τ
  · exact s_cpyR (by decide) (by decide) (fun ρ τ σ => mN_209 ρ τ σ) (fun _ _ _ _ h => y209_r h) (fun _ _ _ _ _ h => y195_w h) _ ρ τ
  · exact s_cpyR (by decide) (by decide) (fun ρ τ σ => mN_210 ρ τ σ) (fun _ _ _ _ h => y210_r h) (fun _ _ _ _ _ h => y196_w h) _ ρ τ
  · exact s_cpyR (by decide) (by decide) (fun ρ τ σ => mN_211 ρ τ σ) (fun _ _ _ _ h => y211_r h) (fun _ _ _ _ _ h => y197_w h) _ ρ τ
  · exact s_cpyR (by decide) (by decide) (fun ρ τ σ => mN_212 ρ τ σ) (fun _ _ _ _ h => y212_r h) (fun _ _ _ _ _ h => y198_w h) _ ρ τ
  · exact s_cpyR (by decide) (by decide) (fun ρ τ σ => mN_213 ρ τ σ) (fun _ _ _ _ h => y213_r h) (fun _ _ _ _ _ h => y199_w h) _ ρ τ
  · exact s_cpyR (by decide) (by decide) (fun ρ τ σ => mN_214 ρ τ σ) (fun _ _ _ _ h => y214_r h) (fun _ _ _ _ _ h => y200_w h) _ ρ τ
