/-! The reference's past: rows laid and taken back. -/
def fb_put {α : Type} (f g : Nat → α) (a n : Nat) : Nat → α := fun k => if a ≤ k ∧ k < a + n then g (k - a) else f k
theorem fb_put_0 {α : Type} (f g : Nat → α) (a : Nat) : fb_put f g a 0 = f := funext fun k => if_neg (by omega)
theorem fb_put_in {α : Type} {f g : Nat → α} {a n k : Nat} (h1 : a ≤ k) (h2 : k < a + n) : fb_put f g a n k = g (k - a) := if_pos ⟨h1, h2⟩
theorem fb_put_out {α : Type} {f g : Nat → α} {a n k : Nat} (h : k < a ∨ a + n ≤ k) : fb_put f g a n k = f k := if_neg (by omega)
theorem fb_put_succ (f g : Nat → Int32) (a n : Nat) : upd (fb_put f g a n) (a + n) (g n) = fb_put f g a (n + 1) := by
  funext k
  by_cases h : k = a + n
  · subst h
    simp [upd, fb_put]
  · by_cases h1 : a ≤ k ∧ k < a + n
    · have h2 : a ≤ k ∧ k < a + (n + 1) := by omega
      simp only [upd, fb_put, if_neg h, if_pos h1, if_pos h2]
    · have h2 : ¬ (a ≤ k ∧ k < a + (n + 1)) := by omega
      simp only [upd, fb_put, if_neg h, if_neg h1, if_neg h2]
/-- .. from the far end down -/
theorem va_uu {α : Type} (f : Nat → α) (k : Nat) (a b : α) : va_up (va_up f k a) k b = va_up f k b := by
  funext j
  by_cases h : j = k
  · subst h; rw [va_up_self, va_up_self]
  · rw [va_up_ne _ _ h, va_up_ne _ _ h, va_up_ne _ _ h]
theorem va_id {α : Type} (f : Nat → α) (k : Nat) : va_up f k (f k) = f := by
  funext j
  by_cases h : j = k
  · subst h; rw [va_up_self]
  · rw [va_up_ne _ _ h]
theorem upd_id (f : Nat → Int32) (k : Nat) : upd f k (f k) = f := by
  funext j
  by_cases h : j = k
  · subst h; rw [pk_us]
  · rw [pk_un h]
theorem stA_id (σ : Sg) (r i : Nat) : stA σ r i (σ.2.1 r i) = σ := by
  unfold stA
  rw [upd_id, va_id]
theorem s_movesF {ρ : Mm} {τ : Nat → va_E} {σ : Sg} {p : Nat} {x : Int32} (h57 : σ.1 57 = 0) (h56 : σ.1 56 = nI p) (hp : p < 280) : f_X12_moves (mem ρ τ σ) 188 x = some (x, mem ρ τ (stI (stA σ 226 p x) 56 (nI (p + 1)))) := by
  unfold f_X12_moves
  simp only [mI_57, Option.bind_some, h57, ↓reduceIte, nm, mR_53, mI_56, h56, y226_w hp, mP_56, stA1, nI_1]
theorem s_movesB {ρ : Mm} {τ : Nat → va_E} {σ : Sg} {p : Nat} {x : Int32} (h57 : σ.1 57 = 1) (h56 : σ.1 56 = nI p) (hp : p < 280) : f_X12_moves (mem ρ τ σ) 188 x = some (σ.2.1 226 p, mem ρ τ (stI σ 56 (nI (p + 1)))) := by
  unfold f_X12_moves
  simp only [mI_57, Option.bind_some, h57, i10, ↓reduceIte, nm, mR_53, mI_56, h56, y226_r hp, y226_w hp, mP_56, stA_id, nI_1]
def mvF (σ : Sg) (r p i : Nat) : Sg := (va_up σ.1 56 (nI (p + i)), va_up σ.2.1 226 (fb_put (σ.2.1 226) (σ.2.1 r) p i), σ.2.2)
def mvB (σ : Sg) (r p i : Nat) : Sg := (va_up σ.1 56 (nI (p + i)), va_up σ.2.1 r (fb_put (σ.2.1 r) (fun k => σ.2.1 226 (p + k)) 0 i), σ.2.2)
theorem mvF_0 (σ : Sg) (r : Nat) {p : Nat} (h56 : σ.1 56 = nI p) : mvF σ r p 0 = σ := by
  unfold mvF
  rw [fb_put_0, Nat.add_zero, ← h56, va_id, va_id]
theorem mvB_0 (σ : Sg) (r : Nat) {p : Nat} (h56 : σ.1 56 = nI p) : mvB σ r p 0 = σ := by
  unfold mvB
  rw [fb_put_0, Nat.add_zero, ← h56, va_id, va_id]
theorem mvF_step (σ : Sg) {r : Nat} (hr : r ≠ 226) (p i : Nat) : stA (stI (stA (mvF σ r p i) 226 (p + i) (σ.2.1 r i)) 56 (nI (p + i + 1))) r i (σ.2.1 r i) = mvF σ r p (i + 1) := by
  have e : (stI (stA (mvF σ r p i) 226 (p + i) (σ.2.1 r i)) 56 (nI (p + i + 1))) = mvF σ r p (i + 1) := by
    unfold stI stA mvF
    show (va_up (va_up σ.1 56 _) 56 _, va_up (va_up σ.2.1 226 _) 226 (upd (va_up σ.2.1 226 (fb_put (σ.2.1 226) (σ.2.1 r) p i) 226) (p + i) (σ.2.1 r i)), σ.2.2) = _
    rw [va_uu, va_uu, va_up_self, fb_put_succ]; rfl
  rw [e]
  have e2 : (mvF σ r p (i + 1)).2.1 r i = σ.2.1 r i := by simp [mvF, va_up, hr]
  rw [← e2, stA_id]
theorem mvB_step (σ : Sg) (r p i : Nat) : stA (stI (mvB σ r p i) 56 (nI (p + i + 1))) r i (σ.2.1 226 (p + i)) = mvB σ r p (i + 1) := by
  unfold stI stA mvB
  show (va_up (va_up σ.1 56 _) 56 _, va_up (va_up σ.2.1 r _) r (upd (va_up σ.2.1 r (fb_put (σ.2.1 r) (fun k => σ.2.1 226 (p + k)) 0 i) r) i (σ.2.1 226 (p + i))), σ.2.2) = _
  rw [va_uu, va_uu, va_up_self]
  have := fb_put_succ (σ.2.1 r) (fun k => σ.2.1 226 (p + k)) 0 i
  rw [Nat.zero_add] at this
  rw [this]; rfl
theorem s_mvF_191 {ρ : Mm} {τ : Nat → va_E} {σ : Sg} {p : Nat} (h57 : σ.1 57 = 0) (h56 : σ.1 56 = nI p) (hp : p + 5 ≤ 280) : f_X12_movesRow (mem ρ τ σ) 188 191 = some (mem ρ τ (mvF σ 191 p 5)) := by
  unfold f_X12_movesRow
  simp only [nm]
  have key : ∀ (K : Mm → Option Mm) (i m : Nat), i ≤ 5 → 5 - i < m → f_X12_movesRow_L2 K m (mem ρ τ (mvF σ 191 p i)) 188 191 (nI i) = K (mem ρ τ (mvF σ 191 p 5)) := by
    intro K
    refine lpU (fun m i => f_X12_movesRow_L2 K m (mem ρ τ (mvF σ 191 p i)) 188 191 (nI i) = K (mem ρ τ (mvF σ 191 p 5))) 5 ?_ ?_
    · intro m
      rw [f_X12_movesRow_L2]
      simp only [mN_191, Option.bind_some]
      rw [if_pos (by decide)]
    · intro m i hi ih
      rw [f_X12_movesRow_L2]
      have e1 : (mvF σ 191 p i).1 57 = 0 := by simp [mvF, mvB, va_up, h57]
      have e2 : (mvF σ 191 p i).1 56 = nI (p + i) := by simp [mvF, mvB, va_up, h57]
      have e3 : (mvF σ 191 p i).2.1 191 i = σ.2.1 191 i := by simp [mvF, mvB, va_up, h57]
      simp only [mN_191, Option.bind_some, y191_r (show i < 5 by omega), ob_mem, s_movesF e1 e2 (show p + i < 280 by omega), bd_some, y191_w (show i < 5 by omega), nm, oi1, nI_1]
      rw [if_neg (show ¬ (5 : Int32) ≤ nI i from nI_ge (b := 5) hi (by decide)), e3, mvF_step σ (by decide : 191 ≠ 226) p i]
      exact ih
  have z := key (fun μ13 => some μ13) 0 FU (by omega) (FUb (by omega))
  rw [mvF_0 σ 191 h56] at z
  exact z
theorem s_mvB_191 {ρ : Mm} {τ : Nat → va_E} {σ : Sg} {p : Nat} (h57 : σ.1 57 = 1) (h56 : σ.1 56 = nI p) (hp : p + 5 ≤ 280) : f_X12_movesRow (mem ρ τ σ) 188 191 = some (mem ρ τ (mvB σ 191 p 5)) := by
  unfold f_X12_movesRow
  simp only [nm]
  have key : ∀ (K : Mm → Option Mm) (i m : Nat), i ≤ 5 → 5 - i < m → f_X12_movesRow_L2 K m (mem ρ τ (mvB σ 191 p i)) 188 191 (nI i) = K (mem ρ τ (mvB σ 191 p 5)) := by
    intro K
    refine lpU (fun m i => f_X12_movesRow_L2 K m (mem ρ τ (mvB σ 191 p i)) 188 191 (nI i) = K (mem ρ τ (mvB σ 191 p 5))) 5 ?_ ?_
    · intro m
      rw [f_X12_movesRow_L2]
      simp only [mN_191, Option.bind_some]
      rw [if_pos (by decide)]
    · intro m i hi ih
      rw [f_X12_movesRow_L2]
      have e1 : (mvB σ 191 p i).1 57 = 1 := by simp [mvF, mvB, va_up, h57]
      have e2 : (mvB σ 191 p i).1 56 = nI (p + i) := by simp [mvF, mvB, va_up, h57]
      have e3 : (mvB σ 191 p i).2.1 226 (p + i) = σ.2.1 226 (p + i) := by simp [mvF, mvB, va_up, h57]
      simp only [mN_191, Option.bind_some, y191_r (show i < 5 by omega), ob_mem, s_movesB e1 e2 (show p + i < 280 by omega), bd_some, y191_w (show i < 5 by omega), nm, oi1, nI_1]
      rw [if_neg (show ¬ (5 : Int32) ≤ nI i from nI_ge (b := 5) hi (by decide)), e3, mvB_step σ 191 p i]
      exact ih
  have z := key (fun μ13 => some μ13) 0 FU (by omega) (FUb (by omega))
  rw [mvB_0 σ 191 h56] at z
  exact z
theorem s_mvF_193 {ρ : Mm} {τ : Nat → va_E} {σ : Sg} {p : Nat} (h57 : σ.1 57 = 0) (h56 : σ.1 56 = nI p) (hp : p + 8 ≤ 280) : f_X12_movesRow (mem ρ τ σ) 188 193 = some (mem ρ τ (mvF σ 193 p 8)) := by
  unfold f_X12_movesRow
  simp only [nm]
  have key : ∀ (K : Mm → Option Mm) (i m : Nat), i ≤ 8 → 8 - i < m → f_X12_movesRow_L2 K m (mem ρ τ (mvF σ 193 p i)) 188 193 (nI i) = K (mem ρ τ (mvF σ 193 p 8)) := by
    intro K
    refine lpU (fun m i => f_X12_movesRow_L2 K m (mem ρ τ (mvF σ 193 p i)) 188 193 (nI i) = K (mem ρ τ (mvF σ 193 p 8))) 8 ?_ ?_
    · intro m
      rw [f_X12_movesRow_L2]
      simp only [mN_193, Option.bind_some]
      rw [if_pos (by decide)]
    · intro m i hi ih
      rw [f_X12_movesRow_L2]
      have e1 : (mvF σ 193 p i).1 57 = 0 := by simp [mvF, mvB, va_up, h57]
      have e2 : (mvF σ 193 p i).1 56 = nI (p + i) := by simp [mvF, mvB, va_up, h57]
      have e3 : (mvF σ 193 p i).2.1 193 i = σ.2.1 193 i := by simp [mvF, mvB, va_up, h57]
      simp only [mN_193, Option.bind_some, y193_r (show i < 8 by omega), ob_mem, s_movesF e1 e2 (show p + i < 280 by omega), bd_some, y193_w (show i < 8 by omega), nm, oi1, nI_1]
      rw [if_neg (show ¬ (8 : Int32) ≤ nI i from nI_ge (b := 8) hi (by decide)), e3, mvF_step σ (by decide : 193 ≠ 226) p i]
      exact ih
  have z := key (fun μ13 => some μ13) 0 FU (by omega) (FUb (by omega))
  rw [mvF_0 σ 193 h56] at z
  exact z
theorem s_mvB_193 {ρ : Mm} {τ : Nat → va_E} {σ : Sg} {p : Nat} (h57 : σ.1 57 = 1) (h56 : σ.1 56 = nI p) (hp : p + 8 ≤ 280) : f_X12_movesRow (mem ρ τ σ) 188 193 = some (mem ρ τ (mvB σ 193 p 8)) := by
  unfold f_X12_movesRow
  simp only [nm]
  have key : ∀ (K : Mm → Option Mm) (i m : Nat), i ≤ 8 → 8 - i < m → f_X12_movesRow_L2 K m (mem ρ τ (mvB σ 193 p i)) 188 193 (nI i) = K (mem ρ τ (mvB σ 193 p 8)) := by
    intro K
    refine lpU (fun m i => f_X12_movesRow_L2 K m (mem ρ τ (mvB σ 193 p i)) 188 193 (nI i) = K (mem ρ τ (mvB σ 193 p 8))) 8 ?_ ?_
    · intro m
      rw [f_X12_movesRow_L2]
      simp only [mN_193, Option.bind_some]
      rw [if_pos (by decide)]
    · intro m i hi ih
      rw [f_X12_movesRow_L2]
      have e1 : (mvB σ 193 p i).1 57 = 1 := by simp [mvF, mvB, va_up, h57]
      have e2 : (mvB σ 193 p i).1 56 = nI (p + i) := by simp [mvF, mvB, va_up, h57]
      have e3 : (mvB σ 193 p i).2.1 226 (p + i) = σ.2.1 226 (p + i) := by simp [mvF, mvB, va_up, h57]
      simp only [mN_193, Option.bind_some, y193_r (show i < 8 by omega), ob_mem, s_movesB e1 e2 (show p + i < 280 by omega), bd_some, y193_w (show i < 8 by omega), nm, oi1, nI_1]
      rw [if_neg (show ¬ (8 : Int32) ≤ nI i from nI_ge (b := 8) hi (by decide)), e3, mvB_step σ 193 p i]
      exact ih
  have z := key (fun μ13 => some μ13) 0 FU (by omega) (FUb (by omega))
  rw [mvB_0 σ 193 h56] at z
  exact z

/-- a row of the past laid -/
theorem s_movesAllF {σ : Sg} {m : Nat} (hm : m < 20) : ∃ σ', (∀ ρ τ, f_X12_movesAll (mem ρ τ σ) 188 (nI m) 0 = some (mem ρ τ σ')) ∧ (∀ k, k ≠ 56 → k ≠ 57 → σ'.1 k = σ.1 k) ∧ (∀ r, r ≠ 226 → σ'.2.1 r = σ.2.1 r) ∧ σ'.2.2 = σ.2.2 ∧ (∀ j, j < 14 * m → σ'.2.1 226 j = σ.2.1 226 j) ∧ σ'.2.1 226 (14 * m) = σ.2.1 189 7 ∧ (∀ q, q < 5 → σ'.2.1 226 (14 * m + 1 + q) = σ.2.1 191 q) ∧ ∀ t, t < 8 → σ'.2.1 226 (14 * m + 6 + t) = σ.2.1 193 t := by
  let σ1 : Sg := stI (stI σ 56 (nI (14 * m))) 57 0
  let σ2 : Sg := stI (stA σ1 226 (14 * m) (σ.2.1 189 7)) 56 (nI (14 * m + 1))
  let σ3 : Sg := mvF σ2 191 (14 * m + 1) 5
  let σ4 : Sg := mvF σ3 193 (14 * m + 1 + 5) 8
  have a57 : σ1.1 57 = 0 := by simp [σ1, σ2, σ3, σ4, stI, stA, mvF, mvB, va_up]
  have a56 : σ1.1 56 = nI (14 * m) := by simp [σ1, σ2, σ3, σ4, stI, stA, mvF, mvB, va_up]
  have b57 : σ2.1 57 = 0 := by simp [σ1, σ2, σ3, σ4, stI, stA, mvF, mvB, va_up]
  have b56 : σ2.1 56 = nI (14 * m + 1) := by simp [σ1, σ2, σ3, σ4, stI, stA, mvF, mvB, va_up]
  have c57 : σ3.1 57 = 0 := by simp [σ1, σ2, σ3, σ4, stI, stA, mvF, mvB, va_up]
  have c56 : σ3.1 56 = nI (14 * m + 1 + 5) := by simp [σ1, σ2, σ3, σ4, stI, stA, mvF, mvB, va_up]
  have e189 : σ2.2.1 189 7 = σ.2.1 189 7 := by simp [σ1, σ2, σ3, σ4, stI, stA, mvF, mvB, va_up]
  refine ⟨σ4, fun ρ τ => ?_, ?_, ?_, rfl, ?_, ?_, ?_, ?_⟩
  · unfold f_X12_movesAll
    have r1 : (14 : Int32) * nI m = nI (14 * m) := pk_mul 14 m
    simp only [r1, mP_56, mP_57, Option.bind_some, mR_1, sc_7, ob_mem, ↓z01]
    rw [s_movesF (σ := σ1) a57 a56 (by omega)]
    simp only [bd_some, sp_7, Option.bind_some, mR_3, mR_5, ob_mem]
    have r2 : stA (stI (stA σ1 226 (14 * m) (σ1.2.1 189 7)) 56 (nI (14 * m + 1))) 189 7 (σ1.2.1 189 7) = σ2 := by
      have : stA σ2 189 7 (σ2.2.1 189 7) = σ2 := stA_id _ _ _
      rw [e189] at this
      exact this
    rw [r2, s_mvF_191 b57 b56 (by omega)]
    simp only [Option.bind_some, mR_5, ob_mem]
    rw [s_mvF_193 c57 c56 (by omega)]
    rfl
  · intro k h1 h2
    simp [σ1, σ2, σ3, σ4, stI, stA, mvF, mvB, va_up, h1, h2]
  · intro r hr
    simp [σ1, σ2, σ3, σ4, stI, stA, mvF, mvB, va_up, hr]
  all_goals
    have f4 : σ4.2.1 226 = fb_put (σ3.2.1 226) (σ3.2.1 193) (14 * m + 1 + 5) 8 := by simp [σ1, σ2, σ3, σ4, stI, stA, mvF, mvB, va_up]
    have f3 : σ3.2.1 226 = fb_put (σ2.2.1 226) (σ2.2.1 191) (14 * m + 1) 5 := by simp [σ1, σ2, σ3, σ4, stI, stA, mvF, mvB, va_up]
    have f2 : σ2.2.1 226 = upd (σ.2.1 226) (14 * m) (σ.2.1 189 7) := by simp [σ1, σ2, σ3, σ4, stI, stA, mvF, mvB, va_up]
    have g3 : σ3.2.1 193 = σ.2.1 193 := by simp [σ1, σ2, σ3, σ4, stI, stA, mvF, mvB, va_up]
    have g2 : σ2.2.1 191 = σ.2.1 191 := by simp [σ1, σ2, σ3, σ4, stI, stA, mvF, mvB, va_up]
    rw [f4, f3, f2, g3, g2]
  · intro j hj
    rw [fb_put_out (by omega), fb_put_out (by omega), pk_un (by omega)]
  · rw [fb_put_out (by omega), fb_put_out (by omega), pk_us]
  · intro q hq
    rw [fb_put_out (by omega), fb_put_in (by omega) (by omega), show 14 * m + 1 + q - (14 * m + 1) = q by omega]
  · intro t ht
    rw [fb_put_in (by omega) (by omega), show 14 * m + 6 + t - (14 * m + 1 + 5) = t by omega]
theorem s_movesAllB {σ : Sg} {m : Nat} (hm : m < 20) : ∃ σ', (∀ ρ τ, f_X12_movesAll (mem ρ τ σ) 188 (nI m) 1 = some (mem ρ τ σ')) ∧ (∀ k, k ≠ 56 → k ≠ 57 → σ'.1 k = σ.1 k) ∧ (∀ r, r ≠ 189 → r ≠ 191 → r ≠ 193 → σ'.2.1 r = σ.2.1 r) ∧ (∀ k, k ≠ 7 → σ'.2.1 189 k = σ.2.1 189 k) ∧ σ'.2.1 189 7 = σ.2.1 226 (14 * m) ∧ (∀ q, q < 5 → σ'.2.1 191 q = σ.2.1 226 (14 * m + 1 + q)) ∧ ∀ t, t < 8 → σ'.2.1 193 t = σ.2.1 226 (14 * m + 6 + t) := by
  let σ1 : Sg := stI (stI σ 56 (nI (14 * m))) 57 1
  let σ2 : Sg := stA (stI σ1 56 (nI (14 * m + 1))) 189 7 (σ.2.1 226 (14 * m))
  let σ3 : Sg := mvB σ2 191 (14 * m + 1) 5
  let σ4 : Sg := mvB σ3 193 (14 * m + 1 + 5) 8
  have a57 : σ1.1 57 = 1 := by simp [σ1, σ2, σ3, σ4, stI, stA, mvF, mvB, va_up]
  have a56 : σ1.1 56 = nI (14 * m) := by simp [σ1, σ2, σ3, σ4, stI, stA, mvF, mvB, va_up]
  have b57 : σ2.1 57 = 1 := by simp [σ1, σ2, σ3, σ4, stI, stA, mvF, mvB, va_up]
  have b56 : σ2.1 56 = nI (14 * m + 1) := by simp [σ1, σ2, σ3, σ4, stI, stA, mvF, mvB, va_up]
  have c57 : σ3.1 57 = 1 := by simp [σ1, σ2, σ3, σ4, stI, stA, mvF, mvB, va_up]
  have c56 : σ3.1 56 = nI (14 * m + 1 + 5) := by simp [σ1, σ2, σ3, σ4, stI, stA, mvF, mvB, va_up]
  have d2 : σ2.2.1 226 = σ.2.1 226 := by simp [σ1, σ2, σ3, σ4, stI, stA, mvF, mvB, va_up]
  have d3 : σ3.2.1 226 = σ.2.1 226 := by simp [σ1, σ2, σ3, σ4, stI, stA, mvF, mvB, va_up]
  refine ⟨σ4, fun ρ τ => ?_, ?_, ?_, ?_, ?_, ?_, ?_⟩
  · unfold f_X12_movesAll
    have r1 : (14 : Int32) * nI m = nI (14 * m) := pk_mul 14 m
    simp only [r1, mP_56, mP_57, Option.bind_some, mR_1, sc_7, ob_mem, ↓z11]
    rw [s_movesB (σ := σ1) a57 a56 (by omega)]
    simp only [bd_some, sp_7, Option.bind_some, mR_3, mR_5, ob_mem]
    rw [show stA (stI σ1 56 (nI (14 * m + 1))) 189 7 (σ1.2.1 226 (14 * m)) = σ2 from rfl, s_mvB_191 b57 b56 (by omega)]
    simp only [Option.bind_some, mR_5, ob_mem]
    rw [s_mvB_193 c57 c56 (by omega)]
    rfl
  · intro k h1 h2
    simp [σ1, σ2, σ3, σ4, stI, stA, mvF, mvB, va_up, h1, h2]
  · intro r h1 h2 h3
    simp [σ1, σ2, σ3, σ4, stI, stA, mvF, mvB, va_up, h1, h2, h3]
  · intro k hk
    simp [σ1, σ2, σ3, σ4, stI, stA, mvF, mvB, va_up, pk_un hk]
  · simp [σ1, σ2, σ3, σ4, stI, stA, mvF, mvB, va_up, pk_us]
  · intro q hq
    have f4 : σ4.2.1 191 = σ3.2.1 191 := by simp [σ1, σ2, σ3, σ4, stI, stA, mvF, mvB, va_up]
    have f3 : σ3.2.1 191 = fb_put (σ2.2.1 191) (fun k => σ2.2.1 226 (14 * m + 1 + k)) 0 5 := by simp [σ1, σ2, σ3, σ4, stI, stA, mvF, mvB, va_up]
    rw [f4, f3, fb_put_in (by omega) (by omega), d2]
    rfl
  · intro t ht
    have f4 : σ4.2.1 193 = fb_put (σ3.2.1 193) (fun k => σ3.2.1 226 (14 * m + 1 + 5 + k)) 0 8 := by simp [σ1, σ2, σ3, σ4, stI, stA, mvF, mvB, va_up]
    rw [f4, fb_put_in (by omega) (by omega), d3]
    show σ.2.1 226 (14 * m + 1 + 5 + (t - 0)) = _
    congr 1
