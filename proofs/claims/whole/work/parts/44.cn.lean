/-! The class's memory with its fixed cells and its final references laid in. -/
def shp : List (Nat × Nat × Nat) := [(0, 11, 0), (0, 9, 0), (1, 1, 400), (0, 2, 0), (0, 1, 0), (1, 0, 48), (1, 0, 48), (1, 0, 5), (1, 0, 5), (1, 0, 8), (1, 0, 8), (1, 0, 8), (1, 0, 8), (0, 3, 0), (1, 0, 8), (1, 0, 10), (1, 0, 10), (1, 0, 8), (1, 0, 8), (0, 6, 0), (1, 0, 400), (1, 0, 12), (1, 0, 12), (1, 0, 12), (1, 0, 12), (0, 5, 0), (1, 3, 32), (1, 0, 0), (1, 0, 0), (1, 0, 0), (1, 0, 0), (1, 0, 0), (1, 4, 6), (0, 7, 0), (1, 0, 5), (1, 0, 8), (1, 0, 20), (1, 0, 20), (1, 0, 20), (0, 7, 0), (1, 0, 5), (1, 0, 8), (1, 0, 20), (1, 0, 20), (1, 0, 20), (1, 5, 4), (0, 0, 0), (1, 0, 12), (0, 10, 0), (1, 0, 9), (1, 0, 9), (0, 4, 0), (1, 0, 8), (0, 8, 0), (1, 3, 48), (1, 3, 48), (1, 0, 3), (1, 2, 48), (1, 3, 48), (1, 0, 3)]
def ovS (S : Nat → Nat × Nat × Nat) (r : Nat) : Nat × Nat × Nat := if r < 188 then shp.getD (r - 128) (2, 0, 0) else S r
def ovF (ci r k : Nat) : Option Nat := match ci, k with
  | 0, 11 => some (r + 1)
  | 1, 3 => some (r + 1)
  | 1, 4 => some (r + 2)
  | 1, 7 => some (r + 3)
  | 1, 8 => some (r + 4)
  | 1, 10 => some (r + 5)
  | 1, 11 => some (r + 6)
  | 1, 12 => some (r + 7)
  | 1, 13 => some (r + 8)
  | 1, 14 => some (r + 9)
  | 2, 0 => some 129
  | 3, 1 => some (r + 1)
  | 3, 3 => some (r + 2)
  | 3, 4 => some (r + 3)
  | 3, 5 => some (r + 4)
  | 3, 6 => some (r + 5)
  | 4, 0 => some 174
  | 4, 4 => some (r + 1)
  | 5, 0 => some (r + 2)
  | 5, 2 => some (r + 3)
  | 5, 3 => some (r + 4)
  | 5, 4 => some (r + 5)
  | 5, 5 => some (r + 6)
  | 5, 8 => some (r + 1)
  | 6, 0 => some 129
  | 6, 1 => some (r + 1)
  | 6, 5 => some (r + 2)
  | 6, 6 => some (r + 3)
  | 6, 7 => some (r + 4)
  | 6, 8 => some (r + 5)
  | 7, 4 => some (r + 1)
  | 7, 5 => some (r + 2)
  | 7, 10 => some (r + 3)
  | 7, 11 => some (r + 4)
  | 7, 12 => some (r + 5)
  | 8, 0 => some (r + 1)
  | 8, 1 => some (r + 2)
  | 8, 3 => some (r + 3)
  | 8, 4 => some (r + 4)
  | 8, 5 => some (r + 5)
  | 9, 0 => some (r + 1)
  | 10, 0 => some 174
  | 10, 1 => some (r + 1)
  | 10, 2 => some (r + 2)
  | 11, 0 => some 129
  | 11, 1 => some 131
  | 11, 2 => some 147
  | 11, 3 => some 153
  | 11, 4 => some 160
  | 11, 6 => some 161
  | 11, 7 => some 167
  | 11, 8 => some 173
  | 11, 9 => some 174
  | 11, 10 => some 176
  | 11, 11 => some 179
  | 11, 12 => some 181
  | 11, 13 => some 187
  | _, _ => none
def ovG (S : Nat → Nat × Nat × Nat) (f : Nat → Nat → Nat) (r k : Nat) : Nat := if (ovS S r).1 = 0 then (ovF (ovS S r).2.1 r k).getD (f r k) else f r k
def ovT (S : Nat → Nat × Nat × Nat) (T : Tc) : Tc := (T.1, T.2.1, T.2.2.1, ovG S T.2.2.2.1, T.2.2.2.2)
def cn (n sl : Nat) (U : Nat → va_E) (S : Nat → Nat × Nat × Nat) (T : Tc) (σ : Sg) : Mm := cm n sl U (ovS S) (ovT S T) σ
theorem ovG_o {S : Nat → Nat × Nat × Nat} {f : Nat → Nat → Nat} {r k ci v : Nat} (h : ovS S r = (0, ci, 0)) (hv : ovF ci r k = some v) : ovG S f r k = v := by
  unfold ovG
  rw [h]
  show (if (0 : Nat) = 0 then (ovF ci r k).getD (f r k) else f r k) = v
  rw [if_pos rfl, hv]; rfl
theorem ovG_f {S : Nat → Nat × Nat × Nat} {f : Nat → Nat → Nat} {r k ci : Nat} (h : ovS S r = (0, ci, 0)) (hv : ovF ci r k = none) : ovG S f r k = f r k := by
  unfold ovG
  rw [h]
  show (if (0 : Nat) = 0 then (ovF ci r k).getD (f r k) else f r k) = _
  rw [if_pos rfl, hv]; rfl
theorem ovG_up {S : Nat → Nat × Nat × Nat} {f : Nat → Nat → Nat} {r k ci v : Nat} (h : ovS S r = (0, ci, 0)) (hv : ovF ci r k = none) : ovG S (up2 f r k v) = up2 (ovG S f) r k v := by
  funext q j
  by_cases hq : q = r
  · subst hq
    by_cases hj : j = k
    · subst hj
      rw [ovG_f h hv, up2_self, up2_self]
    · rw [up2_k _ _ hj]
      unfold ovG
      rw [up2_k _ _ hj]
  · rw [up2_r _ _ hq]
    unfold ovG
    rw [up2_r _ _ hq]
theorem ovT_R {S : Nat → Nat × Nat × Nat} {T : Tc} {r k ci v : Nat} (h : ovS S r = (0, ci, 0)) (hv : ovF ci r k = none) : ovT S (tR T r k v) = tR (ovT S T) r k v := by
  unfold ovT tR
  show (_, _, _, ovG S (up2 T.2.2.2.1 r k v), _) = _
  rw [ovG_up h hv]
theorem tI1 (T : Tc) (r k : Nat) (v : Int32) (q j : Nat) : (tI T r k v).1 q j = if q = r ∧ j = k then v else T.1 q j := by
  show up2 T.1 r k v q j = _
  by_cases hq : q = r
  · subst hq
    by_cases hj : j = k
    · subst hj; rw [up2_self, if_pos ⟨rfl, rfl⟩]
    · rw [up2_k _ _ hj, if_neg (fun h => hj h.2)]
  · rw [up2_r _ _ hq, if_neg (fun h => hq h.1)]
theorem tI2 (T : Tc) (r k : Nat) (v : Int32) : (tI T r k v).2 = T.2 := rfl
theorem tA1 (T : Tc) (r k : Nat) (v : Int32) : (tA T r k v).1 = T.1 := rfl
theorem tA2 (T : Tc) (r k : Nat) (v : Int32) (q j : Nat) : (tA T r k v).2.1 q j = if q = r ∧ j = k then v else T.2.1 q j := by
  show va_up T.2.1 r (upd (T.2.1 r) k v) q j = _
  by_cases hq : q = r
  · subst hq
    rw [va_up_self]
    by_cases hj : j = k
    · subst hj; rw [pk_us, if_pos ⟨rfl, rfl⟩]
    · rw [pk_un hj, if_neg (fun h => hj h.2)]
  · rw [va_up_ne _ _ hq, if_neg (fun h => hq h.1)]
theorem tA3 (T : Tc) (r k : Nat) (v : Int32) : (tA T r k v).2.2 = T.2.2 := rfl
theorem tF1 (T : Tc) (r : Nat) (f : Nat → Int32) : (tF T r f).1 = T.1 := rfl
theorem tF2 (T : Tc) (r : Nat) (f : Nat → Int32) (q : Nat) : (tF T r f).2.1 q = if q = r then f else T.2.1 q := by
  show va_up T.2.1 r f q = _
  by_cases hq : q = r
  · subst hq; rw [va_up_self, if_pos rfl]
  · rw [va_up_ne _ _ hq, if_neg hq]
theorem tF3 (T : Tc) (r : Nat) (f : Nat → Int32) : (tF T r f).2.2 = T.2.2 := rfl
theorem tJ1 (T : Tc) (r k : Nat) (v : Int64) : (tJ T r k v).1 = T.1 := rfl
theorem tJ2 (T : Tc) (r k : Nat) (v : Int64) : (tJ T r k v).2.1 = T.2.1 := rfl
theorem tJ3 (T : Tc) (r k : Nat) (v : Int64) (q j : Nat) : (tJ T r k v).2.2.1 q j = if q = r ∧ j = k then v else T.2.2.1 q j := by
  show up2 T.2.2.1 r k v q j = _
  by_cases hq : q = r
  · subst hq
    by_cases hj : j = k
    · subst hj; rw [up2_self, if_pos ⟨rfl, rfl⟩]
    · rw [up2_k _ _ hj, if_neg (fun h => hj h.2)]
  · rw [up2_r _ _ hq, if_neg (fun h => hq h.1)]
theorem tJ4 (T : Tc) (r k : Nat) (v : Int64) : (tJ T r k v).2.2.2 = T.2.2.2 := rfl
theorem tG1 (T : Tc) (r k : Nat) (v : Int64) : (tG T r k v).1 = T.1 := rfl
theorem tG2 (T : Tc) (r k : Nat) (v : Int64) : (tG T r k v).2.1 = T.2.1 := rfl
theorem tG3 (T : Tc) (r k : Nat) (v : Int64) (q j : Nat) : (tG T r k v).2.2.1 q j = if q = r ∧ j = k then v else T.2.2.1 q j := by
  show va_up T.2.2.1 r (vp_updL (T.2.2.1 r) k v) q j = _
  by_cases hq : q = r
  · subst hq
    rw [va_up_self]
    by_cases hj : j = k
    · subst hj; rw [pk_uLs, if_pos ⟨rfl, rfl⟩]
    · rw [pk_uLn hj, if_neg (fun h => hj h.2)]
  · rw [va_up_ne _ _ hq, if_neg (fun h => hq h.1)]
theorem tG4 (T : Tc) (r k : Nat) (v : Int64) : (tG T r k v).2.2.2 = T.2.2.2 := rfl
theorem tR1 (T : Tc) (r k v : Nat) : (tR T r k v).1 = T.1 := rfl
theorem tR2 (T : Tc) (r k v : Nat) : (tR T r k v).2.1 = T.2.1 := rfl
theorem tR3 (T : Tc) (r k v : Nat) : (tR T r k v).2.2.1 = T.2.2.1 := rfl
theorem tR4 (T : Tc) (r k v q j : Nat) : (tR T r k v).2.2.2.1 q j = if q = r ∧ j = k then v else T.2.2.2.1 q j := by
  show up2 T.2.2.2.1 r k v q j = _
  by_cases hq : q = r
  · subst hq
    by_cases hj : j = k
    · subst hj; rw [up2_self, if_pos ⟨rfl, rfl⟩]
    · rw [up2_k _ _ hj, if_neg (fun h => hj h.2)]
  · rw [up2_r _ _ hq, if_neg (fun h => hq h.1)]
theorem tR5 (T : Tc) (r k v : Nat) : (tR T r k v).2.2.2.2 = T.2.2.2.2 := rfl
theorem tO1 (T : Tc) (r k : Nat) (v : Option Nat) : (tO T r k v).1 = T.1 := rfl
theorem tO2 (T : Tc) (r k : Nat) (v : Option Nat) : (tO T r k v).2.1 = T.2.1 := rfl
theorem tO3 (T : Tc) (r k : Nat) (v : Option Nat) : (tO T r k v).2.2.1 = T.2.2.1 := rfl
theorem tO4 (T : Tc) (r k : Nat) (v : Option Nat) : (tO T r k v).2.2.2.1 = T.2.2.2.1 := rfl
theorem tO5 (T : Tc) (r k : Nat) (v : Option Nat) (q j : Nat) : (tO T r k v).2.2.2.2 q j = if q = r ∧ j = k then v else T.2.2.2.2 q j := by
  show va_up T.2.2.2.2 r (va_up (T.2.2.2.2 r) k v) q j = _
  by_cases hq : q = r
  · subst hq
    rw [va_up_self]
    by_cases hj : j = k
    · subst hj; rw [va_up_self, if_pos ⟨rfl, rfl⟩]
    · rw [va_up_ne _ _ hj, if_neg (fun h => hj h.2)]
  · rw [va_up_ne _ _ hq, if_neg (fun h => hq h.1)]
/-- cells from a on have these shapes -/
def sq (n : Nat) (S : Nat → Nat × Nat × Nat) (a : Nat) (l : List (Nat × Nat × Nat)) : Prop := ∀ j, j < l.length → Vd n (a + j) ∧ ovS S (a + j) = l.getD j (2, 0, 0)
abbrev SV (n : Nat) (S : Nat → Nat × Nat × Nat) (a : Nat) : Prop := sq n S a [(0, 7, 0), (1, 0, 5), (1, 0, 8), (1, 0, 20), (1, 0, 20), (1, 0, 20)]
abbrev GV (n : Nat) (S : Nat → Nat × Nat × Nat) (a : Nat) : Prop := sq n S a [(0, 1, 0), (1, 0, 48), (1, 0, 48), (1, 0, 5), (1, 0, 5), (1, 0, 8), (1, 0, 8), (1, 0, 8), (1, 0, 8), (0, 3, 0), (1, 0, 8), (1, 0, 10), (1, 0, 10), (1, 0, 8), (1, 0, 8)]
abbrev RV (n : Nat) (S : Nat → Nat × Nat × Nat) (a l m : Nat) : Prop := sq n S a [(0, 5, 0), (1, 3, 32), (1, 0, l), (1, 0, m), (1, 0, m), (1, 0, m), (1, 0, m)]
theorem vd_f {n r : Nat} (h1 : 128 ≤ r) (h2 : r < 188) : Vd n r := ⟨h1, .inl h2⟩
section CN
variable {n sl : Nat} {U : Nat → va_E} {S : Nat → Nat × Nat × Nat} {T : Tc} {σ : Sg}
theorem sq_f {a : Nat} {l : List (Nat × Nat × Nat)} (h1 : 128 ≤ a) (h2 : a + l.length ≤ 188) (h : ∀ j, j < l.length → shp.getD (a + j - 128) (2, 0, 0) = l.getD j (2, 0, 0)) : sq n S a l := by
  intro j hj
  refine ⟨vd_f (by omega) (by omega), ?_⟩
  unfold ovS
  rw [if_pos (by omega)]
  exact h j hj
theorem sv_161 : SV n S 161 := sq_f (by decide) (by decide) (by decide)
theorem sv_167 : SV n S 167 := sq_f (by decide) (by decide) (by decide)
theorem gv_132 : GV n S 132 := sq_f (by decide) (by decide) (by decide)
theorem rv_153 : RV n S 153 0 0 := sq_f (by decide) (by decide) (by decide)
theorem cnI {r ci k : Nat} {x : Int32} (h : Vd n r) (hs : ovS S r = (0, ci, 0)) (hk : (fsT (ovT S T) ci r)[k]? = some (.int x)) : gI (cn n sl U S T σ) r ci k = some x := gI_cmG h hs hk
theorem cnR {r ci k v : Nat} (h : Vd n r) (hs : ovS S r = (0, ci, 0)) (hk : (fsT (ovT S T) ci r)[k]? = some (.ref (ovG S T.2.2.2.1 r k))) (hv : ovF ci r k = some v) : gR (cn n sl U S T σ) r ci k = some v := by
  rw [show gR (cn n sl U S T σ) r ci k = some (ovG S T.2.2.2.1 r k) from gR_cmG h hs hk, ovG_o hs hv]
theorem cnQ {r ci k : Nat} (h : Vd n r) (hs : ovS S r = (0, ci, 0)) (hk : (fsT (ovT S T) ci r)[k]? = some (.ref (ovG S T.2.2.2.1 r k))) (hv : ovF ci r k = none) : gR (cn n sl U S T σ) r ci k = some (T.2.2.2.1 r k) := by
  rw [show gR (cn n sl U S T σ) r ci k = some (ovG S T.2.2.2.1 r k) from gR_cmG h hs hk, ovG_f hs hv]
theorem cnP {r ci k : Nat} {v : Int32} (h : Vd n r) (hs : ovS S r = (0, ci, 0)) (hp : pV (cm n sl U (ovS S) (ovT S T) σ) r ci k (.int v) = some (cm n sl U (ovS S) (tI (ovT S T) r k v) σ)) : pV (cn n sl U S T σ) r ci k (.int v) = some (cn n sl U S (tI T r k v) σ) := hp
theorem cnZ {r ci k : Nat} {v : Int32} (hp : ∀ v, pV (cn n sl U S T σ) r ci k (.int v) = some (cn n sl U S (tI T r k v) σ)) : pZ (cn n sl U S T σ) r ci k v = if v = 0 ∨ v = 1 then some (cn n sl U S (tI T r k v) σ) else none := by
  unfold pZ
  rw [hp]
theorem cnPR {r ci k v : Nat} (hs : ovS S r = (0, ci, 0)) (hv : ovF ci r k = none) (hp : pV (cm n sl U (ovS S) (ovT S T) σ) r ci k (.ref v) = some (cm n sl U (ovS S) (tR (ovT S T) r k v) σ)) : pV (cn n sl U S T σ) r ci k (.ref v) = some (cn n sl U S (tR T r k v) σ) := by
  unfold cn
  rw [ovT_R hs hv]
  exact hp
theorem cnA {r t m i : Nat} (h : Vd n r) (hs : ovS S r = (1, t, m)) (ht : t < 3) (hm : m < 2 ^ 31) (hi : i < m) : aI (cn n sl U S T σ) r t (nI i) = some (T.2.1 r i) := by
  rw [show aI (cn n sl U S T σ) r t (nI i) = _ from aI_cm (nI i) h hs ht, if_neg (nI_in hi hm), nI_clamp (by omega)]; rfl
theorem cnS {r t m i : Nat} {v : Int32} (h : Vd n r) (hs : ovS S r = (1, t, m)) (ht : t < 3) (hm : m < 2 ^ 31) (hi : i < m) : sI (cn n sl U S T σ) r t (nI i) v = some (cn n sl U S (tA T r i (narT t v)) σ) := by
  rw [show sI (cn n sl U S T σ) r t (nI i) v = _ from sI_cm (nI i) v h hs ht, if_neg (nI_in hi hm), nI_clamp (by omega)]; rfl
theorem cnAL {r m i : Nat} (h : Vd n r) (hs : ovS S r = (1, 3, m)) (hm : m < 2 ^ 31) (hi : i < m) : aL (cn n sl U S T σ) r 3 (nI i) = some (T.2.2.1 r i) := by
  rw [show aL (cn n sl U S T σ) r 3 (nI i) = _ from aL_cm (nI i) h hs, if_neg (nI_in hi hm), nI_clamp (by omega)]; rfl
theorem cnSL {r m i : Nat} {v : Int64} (h : Vd n r) (hs : ovS S r = (1, 3, m)) (hm : m < 2 ^ 31) (hi : i < m) : sL (cn n sl U S T σ) r 3 (nI i) v = some (cn n sl U S (tG T r i v) σ) := by
  rw [show sL (cn n sl U S T σ) r 3 (nI i) v = _ from sL_cm (nI i) v h hs, if_neg (nI_in hi hm), nI_clamp (by omega)]; rfl
theorem cnAO {r t m i : Nat} (h : Vd n r) (hs : ovS S r = (1, t, m)) (ht : 3 < t) (hm : m < 2 ^ 31) (hi : i < m) : aR (cn n sl U S T σ) r t (nI i) = some (T.2.2.2.2 r i) := by
  rw [show aR (cn n sl U S T σ) r t (nI i) = _ from aR_cm (nI i) h hs ht, if_neg (nI_in hi hm), nI_clamp (by omega)]; rfl
theorem cnSO {r t m i ci v : Nat} (h : Vd n r) (hs : ovS S r = (1, t, m)) (ht : 3 < t) (hm : m < 2 ^ 31) (hi : i < m) (hv : Vd n v) (hsv : ovS S v = (0, ci, 0)) : sR (cn n sl U S T σ) r t (nI i) ci v = some (cn n sl U S (tO T r i (some v)) σ) := by
  rw [show sR (cn n sl U S T σ) r t (nI i) ci v = _ from sR_cm (nI i) h hs ht hv hsv, if_neg (nI_in hi hm), nI_clamp (by omega)]; rfl
theorem cnN {r t m : Nat} (h : Vd n r) (hs : ovS S r = (1, t, m)) (ht : t < 3) : aN (cn n sl U S T σ) r t = some (nI m) := aN_cm h hs ht
theorem cnO {r ci : Nat} (h : Vd n r) (hs : ovS S r = (0, ci, 0)) : ob (cn n sl U S T σ) r ci = some (fsT (ovT S T) ci r) := ob_cm h hs
theorem cnC {a r m0 m1 x y z : Nat} (ha : Vd n a) (hsa : ovS S a = (1, 0, m0)) (h : Vd n r) (hs : ovS S r = (1, 0, m1)) (h0 : x + z ≤ m0) (h1 : y + z ≤ m1) (hm : m0 < 2 ^ 31) (hm1 : m1 < 2 ^ 31) : cpI (cn n sl U S T σ) a (nI x) r (nI y) (nI z) = some (cn n sl U S (tF T r (va_cpy (T.2.1 a) (T.2.1 r) x y z)) σ) := by
  rw [show cpI (cn n sl U S T σ) a (nI x) r (nI y) (nI z) = _ from cpI_cm (nI x) (nI y) (nI z) ha hsa h hs, if_neg, nI_clamp (by omega), nI_clamp (by omega), nI_clamp (by omega)]
  · rfl
  · rw [nI_clamp (by omega), nI_clamp (by omega), nI_clamp (by omega)]
    rintro (q | q | q | q | q)
    · exact nI_pos (by omega) q
    · exact nI_pos (by omega) q
    · exact nI_pos (by omega) q
    · omega
    · omega
theorem x128_o : ob (cn n sl U S T σ) 128 11 = some (fsT (ovT S T) 11 128) := cnO (vd_f (by decide) (by decide)) rfl
theorem x128_0 : gR (cn n sl U S T σ) 128 11 0 = some 129 := cnR (vd_f (by decide) (by decide)) rfl rfl rfl
theorem x128_1 : gR (cn n sl U S T σ) 128 11 1 = some 131 := cnR (vd_f (by decide) (by decide)) rfl rfl rfl
theorem x128_2 : gR (cn n sl U S T σ) 128 11 2 = some 147 := cnR (vd_f (by decide) (by decide)) rfl rfl rfl
theorem x128_3 : gR (cn n sl U S T σ) 128 11 3 = some 153 := cnR (vd_f (by decide) (by decide)) rfl rfl rfl
theorem x128_4 : gR (cn n sl U S T σ) 128 11 4 = some 160 := cnR (vd_f (by decide) (by decide)) rfl rfl rfl
theorem x128_5 : gI (cn n sl U S T σ) 128 11 5 = some (T.1 128 5) := cnI (vd_f (by decide) (by decide)) rfl rfl
theorem x128_5p (v : Int32) : pV (cn n sl U S T σ) 128 11 5 (.int v) = some (cn n sl U S (tI T 128 5 v) σ) := cnP (vd_f (by decide) (by decide)) rfl (cP_11_5 (vd_f (by decide) (by decide)) rfl v)
theorem x128_6 : gR (cn n sl U S T σ) 128 11 6 = some 161 := cnR (vd_f (by decide) (by decide)) rfl rfl rfl
theorem x128_7 : gR (cn n sl U S T σ) 128 11 7 = some 167 := cnR (vd_f (by decide) (by decide)) rfl rfl rfl
theorem x128_8 : gR (cn n sl U S T σ) 128 11 8 = some 173 := cnR (vd_f (by decide) (by decide)) rfl rfl rfl
theorem x128_9 : gR (cn n sl U S T σ) 128 11 9 = some 174 := cnR (vd_f (by decide) (by decide)) rfl rfl rfl
theorem x128_10 : gR (cn n sl U S T σ) 128 11 10 = some 176 := cnR (vd_f (by decide) (by decide)) rfl rfl rfl
theorem x128_11 : gR (cn n sl U S T σ) 128 11 11 = some 179 := cnR (vd_f (by decide) (by decide)) rfl rfl rfl
theorem x128_12 : gR (cn n sl U S T σ) 128 11 12 = some 181 := cnR (vd_f (by decide) (by decide)) rfl rfl rfl
theorem x128_13 : gR (cn n sl U S T σ) 128 11 13 = some 187 := cnR (vd_f (by decide) (by decide)) rfl rfl rfl
theorem x129_o : ob (cn n sl U S T σ) 129 9 = some (fsT (ovT S T) 9 129) := cnO (vd_f (by decide) (by decide)) rfl
theorem x129_0 : gR (cn n sl U S T σ) 129 9 0 = some 130 := cnR (vd_f (by decide) (by decide)) rfl rfl rfl
theorem x129_1 : gI (cn n sl U S T σ) 129 9 1 = some (T.1 129 1) := cnI (vd_f (by decide) (by decide)) rfl rfl
theorem x129_1p (v : Int32) : pV (cn n sl U S T σ) 129 9 1 (.int v) = some (cn n sl U S (tI T 129 1 v) σ) := cnP (vd_f (by decide) (by decide)) rfl (cP_9_1 (vd_f (by decide) (by decide)) rfl v)
theorem x129_2 : gI (cn n sl U S T σ) 129 9 2 = some (T.1 129 2) := cnI (vd_f (by decide) (by decide)) rfl rfl
theorem x129_2p (v : Int32) : pV (cn n sl U S T σ) 129 9 2 (.int v) = some (cn n sl U S (tI T 129 2 v) σ) := cnP (vd_f (by decide) (by decide)) rfl (cP_9_2 (vd_f (by decide) (by decide)) rfl v)
theorem x129_3 : gI (cn n sl U S T σ) 129 9 3 = some (T.1 129 3) := cnI (vd_f (by decide) (by decide)) rfl rfl
theorem x129_3p (v : Int32) : pV (cn n sl U S T σ) 129 9 3 (.int v) = some (cn n sl U S (tI T 129 3 v) σ) := cnP (vd_f (by decide) (by decide)) rfl (cP_9_3 (vd_f (by decide) (by decide)) rfl v)
theorem x131_o : ob (cn n sl U S T σ) 131 2 = some (fsT (ovT S T) 2 131) := cnO (vd_f (by decide) (by decide)) rfl
theorem x131_0 : gR (cn n sl U S T σ) 131 2 0 = some 129 := cnR (vd_f (by decide) (by decide)) rfl rfl rfl
theorem x131_1 : gR (cn n sl U S T σ) 131 2 1 = some (T.2.2.2.1 131 1) := cnQ (vd_f (by decide) (by decide)) rfl rfl rfl
theorem x131_1p (v : Nat) : pV (cn n sl U S T σ) 131 2 1 (.ref v) = some (cn n sl U S (tR T 131 1 v) σ) := cnPR rfl rfl (cP_2_1 (vd_f (by decide) (by decide)) rfl v)
theorem x131_2 : gI (cn n sl U S T σ) 131 2 2 = some (T.1 131 2) := cnI (vd_f (by decide) (by decide)) rfl rfl
theorem x131_2p (v : Int32) : pV (cn n sl U S T σ) 131 2 2 (.int v) = some (cn n sl U S (tI T 131 2 v) σ) := cnP (vd_f (by decide) (by decide)) rfl (cP_2_2 (vd_f (by decide) (by decide)) rfl v)
theorem x147_o : ob (cn n sl U S T σ) 147 6 = some (fsT (ovT S T) 6 147) := cnO (vd_f (by decide) (by decide)) rfl
theorem x147_0 : gR (cn n sl U S T σ) 147 6 0 = some 129 := cnR (vd_f (by decide) (by decide)) rfl rfl rfl
theorem x147_1 : gR (cn n sl U S T σ) 147 6 1 = some 148 := cnR (vd_f (by decide) (by decide)) rfl rfl rfl
theorem x147_2 : gI (cn n sl U S T σ) 147 6 2 = some (T.1 147 2) := cnI (vd_f (by decide) (by decide)) rfl rfl
theorem x147_2p (v : Int32) : pV (cn n sl U S T σ) 147 6 2 (.int v) = some (cn n sl U S (tI T 147 2 v) σ) := cnP (vd_f (by decide) (by decide)) rfl (cP_6_2 (vd_f (by decide) (by decide)) rfl v)
theorem x147_3 : gI (cn n sl U S T σ) 147 6 3 = some (T.1 147 3) := cnI (vd_f (by decide) (by decide)) rfl rfl
theorem x147_3p (v : Int32) : pV (cn n sl U S T σ) 147 6 3 (.int v) = some (cn n sl U S (tI T 147 3 v) σ) := cnP (vd_f (by decide) (by decide)) rfl (cP_6_3 (vd_f (by decide) (by decide)) rfl v)
theorem x147_4 : gI (cn n sl U S T σ) 147 6 4 = some (T.1 147 4) := cnI (vd_f (by decide) (by decide)) rfl rfl
theorem x147_4p (v : Int32) : pV (cn n sl U S T σ) 147 6 4 (.int v) = some (cn n sl U S (tI T 147 4 v) σ) := cnP (vd_f (by decide) (by decide)) rfl (cP_6_4 (vd_f (by decide) (by decide)) rfl v)
theorem x147_5 : gR (cn n sl U S T σ) 147 6 5 = some 149 := cnR (vd_f (by decide) (by decide)) rfl rfl rfl
theorem x147_6 : gR (cn n sl U S T σ) 147 6 6 = some 150 := cnR (vd_f (by decide) (by decide)) rfl rfl rfl
theorem x147_7 : gR (cn n sl U S T σ) 147 6 7 = some 151 := cnR (vd_f (by decide) (by decide)) rfl rfl rfl
theorem x147_8 : gR (cn n sl U S T σ) 147 6 8 = some 152 := cnR (vd_f (by decide) (by decide)) rfl rfl rfl
theorem x174_o : ob (cn n sl U S T σ) 174 0 = some (fsT (ovT S T) 0 174) := cnO (vd_f (by decide) (by decide)) rfl
theorem x174_0 : gR (cn n sl U S T σ) 174 0 0 = some (T.2.2.2.1 174 0) := cnQ (vd_f (by decide) (by decide)) rfl rfl rfl
theorem x174_0p (v : Nat) : pV (cn n sl U S T σ) 174 0 0 (.ref v) = some (cn n sl U S (tR T 174 0 v) σ) := cnPR rfl rfl (cP_0_0 (vd_f (by decide) (by decide)) rfl v)
theorem x174_1 : gR (cn n sl U S T σ) 174 0 1 = some (T.2.2.2.1 174 1) := cnQ (vd_f (by decide) (by decide)) rfl rfl rfl
theorem x174_1p (v : Nat) : pV (cn n sl U S T σ) 174 0 1 (.ref v) = some (cn n sl U S (tR T 174 1 v) σ) := cnPR rfl rfl (cP_0_1 (vd_f (by decide) (by decide)) rfl v)
theorem x174_2 : gR (cn n sl U S T σ) 174 0 2 = some (T.2.2.2.1 174 2) := cnQ (vd_f (by decide) (by decide)) rfl rfl rfl
theorem x174_2p (v : Nat) : pV (cn n sl U S T σ) 174 0 2 (.ref v) = some (cn n sl U S (tR T 174 2 v) σ) := cnPR rfl rfl (cP_0_2 (vd_f (by decide) (by decide)) rfl v)
theorem x174_3 : gI (cn n sl U S T σ) 174 0 3 = some (T.1 174 3) := cnI (vd_f (by decide) (by decide)) rfl rfl
theorem x174_3p (v : Int32) : pV (cn n sl U S T σ) 174 0 3 (.int v) = some (cn n sl U S (tI T 174 3 v) σ) := cnP (vd_f (by decide) (by decide)) rfl (cP_0_3 (vd_f (by decide) (by decide)) rfl v)
theorem x174_4 : gI (cn n sl U S T σ) 174 0 4 = some (T.1 174 4) := cnI (vd_f (by decide) (by decide)) rfl rfl
theorem x174_4p (v : Int32) : pV (cn n sl U S T σ) 174 0 4 (.int v) = some (cn n sl U S (tI T 174 4 v) σ) := cnP (vd_f (by decide) (by decide)) rfl (cP_0_4 (vd_f (by decide) (by decide)) rfl v)
theorem x174_5 : gI (cn n sl U S T σ) 174 0 5 = some (T.1 174 5) := cnI (vd_f (by decide) (by decide)) rfl rfl
theorem x174_5p (v : Int32) : pV (cn n sl U S T σ) 174 0 5 (.int v) = some (cn n sl U S (tI T 174 5 v) σ) := cnP (vd_f (by decide) (by decide)) rfl (cP_0_5 (vd_f (by decide) (by decide)) rfl v)
theorem x174_6 : gI (cn n sl U S T σ) 174 0 6 = some (T.1 174 6) := cnI (vd_f (by decide) (by decide)) rfl rfl
theorem x174_6p (v : Int32) : pV (cn n sl U S T σ) 174 0 6 (.int v) = some (cn n sl U S (tI T 174 6 v) σ) := cnP (vd_f (by decide) (by decide)) rfl (cP_0_6 (vd_f (by decide) (by decide)) rfl v)
theorem x174_7 : gI (cn n sl U S T σ) 174 0 7 = some (T.1 174 7) := cnI (vd_f (by decide) (by decide)) rfl rfl
theorem x174_7p (v : Int32) : pV (cn n sl U S T σ) 174 0 7 (.int v) = some (cn n sl U S (tI T 174 7 v) σ) := cnP (vd_f (by decide) (by decide)) rfl (cP_0_7 (vd_f (by decide) (by decide)) rfl v)
theorem x174_8 : gI (cn n sl U S T σ) 174 0 8 = some (T.1 174 8) := cnI (vd_f (by decide) (by decide)) rfl rfl
theorem x174_8p (v : Int32) : pV (cn n sl U S T σ) 174 0 8 (.int v) = some (cn n sl U S (tI T 174 8 v) σ) := cnP (vd_f (by decide) (by decide)) rfl (cP_0_8 (vd_f (by decide) (by decide)) rfl v)
theorem x174_9 : gI (cn n sl U S T σ) 174 0 9 = some (T.1 174 9) := cnI (vd_f (by decide) (by decide)) rfl rfl
theorem x174_9p (v : Int32) : pV (cn n sl U S T σ) 174 0 9 (.int v) = some (cn n sl U S (tI T 174 9 v) σ) := cnP (vd_f (by decide) (by decide)) rfl (cP_0_9 (vd_f (by decide) (by decide)) rfl v)
theorem x174_10 : gI (cn n sl U S T σ) 174 0 10 = some (T.1 174 10) := cnI (vd_f (by decide) (by decide)) rfl rfl
theorem x174_10p (v : Int32) : pV (cn n sl U S T σ) 174 0 10 (.int v) = some (cn n sl U S (tI T 174 10 v) σ) := cnP (vd_f (by decide) (by decide)) rfl (cP_0_10 (vd_f (by decide) (by decide)) rfl v)
theorem x174_10z (v : Int32) : pZ (cn n sl U S T σ) 174 0 10 v = if v = 0 ∨ v = 1 then some (cn n sl U S (tI T 174 10 v) σ) else none := cnZ (x174_10p)
theorem x174_11 : gR (cn n sl U S T σ) 174 0 11 = some 175 := cnR (vd_f (by decide) (by decide)) rfl rfl rfl
theorem x176_o : ob (cn n sl U S T σ) 176 10 = some (fsT (ovT S T) 10 176) := cnO (vd_f (by decide) (by decide)) rfl
theorem x176_0 : gR (cn n sl U S T σ) 176 10 0 = some 174 := cnR (vd_f (by decide) (by decide)) rfl rfl rfl
theorem x176_1 : gR (cn n sl U S T σ) 176 10 1 = some 177 := cnR (vd_f (by decide) (by decide)) rfl rfl rfl
theorem x176_2 : gR (cn n sl U S T σ) 176 10 2 = some 178 := cnR (vd_f (by decide) (by decide)) rfl rfl rfl
theorem x176_3 : gI (cn n sl U S T σ) 176 10 3 = some (T.1 176 3) := cnI (vd_f (by decide) (by decide)) rfl rfl
theorem x176_3p (v : Int32) : pV (cn n sl U S T σ) 176 10 3 (.int v) = some (cn n sl U S (tI T 176 3 v) σ) := cnP (vd_f (by decide) (by decide)) rfl (cP_10_3 (vd_f (by decide) (by decide)) rfl v)
theorem x176_4 : gI (cn n sl U S T σ) 176 10 4 = some (T.1 176 4) := cnI (vd_f (by decide) (by decide)) rfl rfl
theorem x176_4p (v : Int32) : pV (cn n sl U S T σ) 176 10 4 (.int v) = some (cn n sl U S (tI T 176 4 v) σ) := cnP (vd_f (by decide) (by decide)) rfl (cP_10_4 (vd_f (by decide) (by decide)) rfl v)
theorem x179_o : ob (cn n sl U S T σ) 179 4 = some (fsT (ovT S T) 4 179) := cnO (vd_f (by decide) (by decide)) rfl
theorem x179_0 : gR (cn n sl U S T σ) 179 4 0 = some 174 := cnR (vd_f (by decide) (by decide)) rfl rfl rfl
theorem x179_1 : gI (cn n sl U S T σ) 179 4 1 = some (T.1 179 1) := cnI (vd_f (by decide) (by decide)) rfl rfl
theorem x179_1p (v : Int32) : pV (cn n sl U S T σ) 179 4 1 (.int v) = some (cn n sl U S (tI T 179 1 v) σ) := cnP (vd_f (by decide) (by decide)) rfl (cP_4_1 (vd_f (by decide) (by decide)) rfl v)
theorem x179_2 : gI (cn n sl U S T σ) 179 4 2 = some (T.1 179 2) := cnI (vd_f (by decide) (by decide)) rfl rfl
theorem x179_2p (v : Int32) : pV (cn n sl U S T σ) 179 4 2 (.int v) = some (cn n sl U S (tI T 179 2 v) σ) := cnP (vd_f (by decide) (by decide)) rfl (cP_4_2 (vd_f (by decide) (by decide)) rfl v)
theorem x179_3 : gI (cn n sl U S T σ) 179 4 3 = some (T.1 179 3) := cnI (vd_f (by decide) (by decide)) rfl rfl
theorem x179_3p (v : Int32) : pV (cn n sl U S T σ) 179 4 3 (.int v) = some (cn n sl U S (tI T 179 3 v) σ) := cnP (vd_f (by decide) (by decide)) rfl (cP_4_3 (vd_f (by decide) (by decide)) rfl v)
theorem x179_4 : gR (cn n sl U S T σ) 179 4 4 = some 180 := cnR (vd_f (by decide) (by decide)) rfl rfl rfl
theorem x181_o : ob (cn n sl U S T σ) 181 8 = some (fsT (ovT S T) 8 181) := cnO (vd_f (by decide) (by decide)) rfl
theorem x181_0 : gR (cn n sl U S T σ) 181 8 0 = some 182 := cnR (vd_f (by decide) (by decide)) rfl rfl rfl
theorem x181_1 : gR (cn n sl U S T σ) 181 8 1 = some 183 := cnR (vd_f (by decide) (by decide)) rfl rfl rfl
theorem x181_2 : gI (cn n sl U S T σ) 181 8 2 = some (T.1 181 2) := cnI (vd_f (by decide) (by decide)) rfl rfl
theorem x181_2p (v : Int32) : pV (cn n sl U S T σ) 181 8 2 (.int v) = some (cn n sl U S (tI T 181 2 v) σ) := cnP (vd_f (by decide) (by decide)) rfl (cP_8_2 (vd_f (by decide) (by decide)) rfl v)
theorem x181_3 : gR (cn n sl U S T σ) 181 8 3 = some 184 := cnR (vd_f (by decide) (by decide)) rfl rfl rfl
theorem x181_4 : gR (cn n sl U S T σ) 181 8 4 = some 185 := cnR (vd_f (by decide) (by decide)) rfl rfl rfl
theorem x181_5 : gR (cn n sl U S T σ) 181 8 5 = some 186 := cnR (vd_f (by decide) (by decide)) rfl rfl rfl
theorem x130_r {i : Nat} (hi : i < 400) : aI (cn n sl U S T σ) 130 1 (nI i) = some (T.2.1 130 i) := cnA (vd_f (by decide) (by decide)) rfl (by decide) (by omega) hi
theorem x130_w {i : Nat} {v : Int32} (hi : i < 400) : sI (cn n sl U S T σ) 130 1 (nI i) v = some (cn n sl U S (tA T 130 i (narT 1 v)) σ) := cnS (vd_f (by decide) (by decide)) rfl (by decide) (by omega) hi
theorem x130_n : aN (cn n sl U S T σ) 130 1 = some (nI 400) := cnN (vd_f (by decide) (by decide)) rfl (by decide)
theorem x148_r {i : Nat} (hi : i < 400) : aI (cn n sl U S T σ) 148 0 (nI i) = some (T.2.1 148 i) := cnA (vd_f (by decide) (by decide)) rfl (by decide) (by omega) hi
theorem x148_w {i : Nat} {v : Int32} (hi : i < 400) : sI (cn n sl U S T σ) 148 0 (nI i) v = some (cn n sl U S (tA T 148 i v) σ) := cnS (vd_f (by decide) (by decide)) rfl (by decide) (by omega) hi
theorem x148_n : aN (cn n sl U S T σ) 148 0 = some (nI 400) := cnN (vd_f (by decide) (by decide)) rfl (by decide)
theorem x149_r {i : Nat} (hi : i < 12) : aI (cn n sl U S T σ) 149 0 (nI i) = some (T.2.1 149 i) := cnA (vd_f (by decide) (by decide)) rfl (by decide) (by omega) hi
theorem x149_w {i : Nat} {v : Int32} (hi : i < 12) : sI (cn n sl U S T σ) 149 0 (nI i) v = some (cn n sl U S (tA T 149 i v) σ) := cnS (vd_f (by decide) (by decide)) rfl (by decide) (by omega) hi
theorem x149_n : aN (cn n sl U S T σ) 149 0 = some (nI 12) := cnN (vd_f (by decide) (by decide)) rfl (by decide)
theorem x150_r {i : Nat} (hi : i < 12) : aI (cn n sl U S T σ) 150 0 (nI i) = some (T.2.1 150 i) := cnA (vd_f (by decide) (by decide)) rfl (by decide) (by omega) hi
theorem x150_w {i : Nat} {v : Int32} (hi : i < 12) : sI (cn n sl U S T σ) 150 0 (nI i) v = some (cn n sl U S (tA T 150 i v) σ) := cnS (vd_f (by decide) (by decide)) rfl (by decide) (by omega) hi
theorem x150_n : aN (cn n sl U S T σ) 150 0 = some (nI 12) := cnN (vd_f (by decide) (by decide)) rfl (by decide)
theorem x151_r {i : Nat} (hi : i < 12) : aI (cn n sl U S T σ) 151 0 (nI i) = some (T.2.1 151 i) := cnA (vd_f (by decide) (by decide)) rfl (by decide) (by omega) hi
theorem x151_w {i : Nat} {v : Int32} (hi : i < 12) : sI (cn n sl U S T σ) 151 0 (nI i) v = some (cn n sl U S (tA T 151 i v) σ) := cnS (vd_f (by decide) (by decide)) rfl (by decide) (by omega) hi
theorem x151_n : aN (cn n sl U S T σ) 151 0 = some (nI 12) := cnN (vd_f (by decide) (by decide)) rfl (by decide)
theorem x152_r {i : Nat} (hi : i < 12) : aI (cn n sl U S T σ) 152 0 (nI i) = some (T.2.1 152 i) := cnA (vd_f (by decide) (by decide)) rfl (by decide) (by omega) hi
theorem x152_w {i : Nat} {v : Int32} (hi : i < 12) : sI (cn n sl U S T σ) 152 0 (nI i) v = some (cn n sl U S (tA T 152 i v) σ) := cnS (vd_f (by decide) (by decide)) rfl (by decide) (by omega) hi
theorem x152_n : aN (cn n sl U S T σ) 152 0 = some (nI 12) := cnN (vd_f (by decide) (by decide)) rfl (by decide)
theorem x160_r {i : Nat} (hi : i < 6) : aR (cn n sl U S T σ) 160 4 (nI i) = some (T.2.2.2.2 160 i) := cnAO (vd_f (by decide) (by decide)) rfl (by decide) (by omega) hi
theorem x160_w {i v : Nat} (hi : i < 6) (hv : Vd n v) (hsv : ovS S v = (0, 5, 0)) : sR (cn n sl U S T σ) 160 4 (nI i) 5 v = some (cn n sl U S (tO T 160 i (some v)) σ) := cnSO (vd_f (by decide) (by decide)) rfl (by decide) (by omega) hi hv hsv
theorem x173_r {i : Nat} (hi : i < 4) : aR (cn n sl U S T σ) 173 5 (nI i) = some (T.2.2.2.2 173 i) := cnAO (vd_f (by decide) (by decide)) rfl (by decide) (by omega) hi
theorem x173_w {i v : Nat} (hi : i < 4) (hv : Vd n v) (hsv : ovS S v = (0, 7, 0)) : sR (cn n sl U S T σ) 173 5 (nI i) 7 v = some (cn n sl U S (tO T 173 i (some v)) σ) := cnSO (vd_f (by decide) (by decide)) rfl (by decide) (by omega) hi hv hsv
theorem x175_r {i : Nat} (hi : i < 12) : aI (cn n sl U S T σ) 175 0 (nI i) = some (T.2.1 175 i) := cnA (vd_f (by decide) (by decide)) rfl (by decide) (by omega) hi
theorem x175_w {i : Nat} {v : Int32} (hi : i < 12) : sI (cn n sl U S T σ) 175 0 (nI i) v = some (cn n sl U S (tA T 175 i v) σ) := cnS (vd_f (by decide) (by decide)) rfl (by decide) (by omega) hi
theorem x175_n : aN (cn n sl U S T σ) 175 0 = some (nI 12) := cnN (vd_f (by decide) (by decide)) rfl (by decide)
theorem x177_r {i : Nat} (hi : i < 9) : aI (cn n sl U S T σ) 177 0 (nI i) = some (T.2.1 177 i) := cnA (vd_f (by decide) (by decide)) rfl (by decide) (by omega) hi
theorem x177_w {i : Nat} {v : Int32} (hi : i < 9) : sI (cn n sl U S T σ) 177 0 (nI i) v = some (cn n sl U S (tA T 177 i v) σ) := cnS (vd_f (by decide) (by decide)) rfl (by decide) (by omega) hi
theorem x177_n : aN (cn n sl U S T σ) 177 0 = some (nI 9) := cnN (vd_f (by decide) (by decide)) rfl (by decide)
theorem x178_r {i : Nat} (hi : i < 9) : aI (cn n sl U S T σ) 178 0 (nI i) = some (T.2.1 178 i) := cnA (vd_f (by decide) (by decide)) rfl (by decide) (by omega) hi
theorem x178_w {i : Nat} {v : Int32} (hi : i < 9) : sI (cn n sl U S T σ) 178 0 (nI i) v = some (cn n sl U S (tA T 178 i v) σ) := cnS (vd_f (by decide) (by decide)) rfl (by decide) (by omega) hi
theorem x178_n : aN (cn n sl U S T σ) 178 0 = some (nI 9) := cnN (vd_f (by decide) (by decide)) rfl (by decide)
theorem x180_r {i : Nat} (hi : i < 8) : aI (cn n sl U S T σ) 180 0 (nI i) = some (T.2.1 180 i) := cnA (vd_f (by decide) (by decide)) rfl (by decide) (by omega) hi
theorem x180_w {i : Nat} {v : Int32} (hi : i < 8) : sI (cn n sl U S T σ) 180 0 (nI i) v = some (cn n sl U S (tA T 180 i v) σ) := cnS (vd_f (by decide) (by decide)) rfl (by decide) (by omega) hi
theorem x180_n : aN (cn n sl U S T σ) 180 0 = some (nI 8) := cnN (vd_f (by decide) (by decide)) rfl (by decide)
theorem x182_r {i : Nat} (hi : i < 48) : aL (cn n sl U S T σ) 182 3 (nI i) = some (T.2.2.1 182 i) := cnAL (vd_f (by decide) (by decide)) rfl (by omega) hi
theorem x182_w {i : Nat} {v : Int64} (hi : i < 48) : sL (cn n sl U S T σ) 182 3 (nI i) v = some (cn n sl U S (tG T 182 i v) σ) := cnSL (vd_f (by decide) (by decide)) rfl (by omega) hi
theorem x183_r {i : Nat} (hi : i < 48) : aL (cn n sl U S T σ) 183 3 (nI i) = some (T.2.2.1 183 i) := cnAL (vd_f (by decide) (by decide)) rfl (by omega) hi
theorem x183_w {i : Nat} {v : Int64} (hi : i < 48) : sL (cn n sl U S T σ) 183 3 (nI i) v = some (cn n sl U S (tG T 183 i v) σ) := cnSL (vd_f (by decide) (by decide)) rfl (by omega) hi
theorem x184_r {i : Nat} (hi : i < 3) : aI (cn n sl U S T σ) 184 0 (nI i) = some (T.2.1 184 i) := cnA (vd_f (by decide) (by decide)) rfl (by decide) (by omega) hi
theorem x184_w {i : Nat} {v : Int32} (hi : i < 3) : sI (cn n sl U S T σ) 184 0 (nI i) v = some (cn n sl U S (tA T 184 i v) σ) := cnS (vd_f (by decide) (by decide)) rfl (by decide) (by omega) hi
theorem x184_n : aN (cn n sl U S T σ) 184 0 = some (nI 3) := cnN (vd_f (by decide) (by decide)) rfl (by decide)
theorem x185_r {i : Nat} (hi : i < 48) : aI (cn n sl U S T σ) 185 2 (nI i) = some (T.2.1 185 i) := cnA (vd_f (by decide) (by decide)) rfl (by decide) (by omega) hi
theorem x185_w {i : Nat} {v : Int32} (hi : i < 48) : sI (cn n sl U S T σ) 185 2 (nI i) v = some (cn n sl U S (tA T 185 i (narT 2 v)) σ) := cnS (vd_f (by decide) (by decide)) rfl (by decide) (by omega) hi
theorem x185_n : aN (cn n sl U S T σ) 185 2 = some (nI 48) := cnN (vd_f (by decide) (by decide)) rfl (by decide)
theorem x186_r {i : Nat} (hi : i < 48) : aL (cn n sl U S T σ) 186 3 (nI i) = some (T.2.2.1 186 i) := cnAL (vd_f (by decide) (by decide)) rfl (by omega) hi
theorem x186_w {i : Nat} {v : Int64} (hi : i < 48) : sL (cn n sl U S T σ) 186 3 (nI i) v = some (cn n sl U S (tG T 186 i v) σ) := cnSL (vd_f (by decide) (by decide)) rfl (by omega) hi
theorem x187_r {i : Nat} (hi : i < 3) : aI (cn n sl U S T σ) 187 0 (nI i) = some (T.2.1 187 i) := cnA (vd_f (by decide) (by decide)) rfl (by decide) (by omega) hi
theorem x187_w {i : Nat} {v : Int32} (hi : i < 3) : sI (cn n sl U S T σ) 187 0 (nI i) v = some (cn n sl U S (tA T 187 i v) σ) := cnS (vd_f (by decide) (by decide)) rfl (by decide) (by omega) hi
theorem x187_n : aN (cn n sl U S T σ) 187 0 = some (nI 3) := cnN (vd_f (by decide) (by decide)) rfl (by decide)
section SV
variable {a : Nat}
theorem s0_o (h : SV n S a) : ob (cn n sl U S T σ) a 7 = some (fsT (ovT S T) 7 a) := cnO (h 0 (show 0 < 6 by decide)).1 (h 0 (show 0 < 6 by decide)).2
theorem s0_0 (h : SV n S a) : gR (cn n sl U S T σ) a 7 0 = some (T.2.2.2.1 a 0) := cnQ (h 0 (show 0 < 6 by decide)).1 (h 0 (show 0 < 6 by decide)).2 rfl rfl
theorem s0_0p (h : SV n S a) (v : Nat) : pV (cn n sl U S T σ) a 7 0 (.ref v) = some (cn n sl U S (tR T a 0 v) σ) := cnPR (h 0 (show 0 < 6 by decide)).2 rfl (cP_7_0 (h 0 (show 0 < 6 by decide)).1 (h 0 (show 0 < 6 by decide)).2 v)
theorem s0_1 (h : SV n S a) : gI (cn n sl U S T σ) a 7 1 = some (T.1 a 1) := cnI (h 0 (show 0 < 6 by decide)).1 (h 0 (show 0 < 6 by decide)).2 rfl
theorem s0_1p (h : SV n S a) (v : Int32) : pV (cn n sl U S T σ) a 7 1 (.int v) = some (cn n sl U S (tI T a 1 v) σ) := cnP (h 0 (show 0 < 6 by decide)).1 (h 0 (show 0 < 6 by decide)).2 (cP_7_1 (h 0 (show 0 < 6 by decide)).1 (h 0 (show 0 < 6 by decide)).2 v)
theorem s0_2 (h : SV n S a) : gI (cn n sl U S T σ) a 7 2 = some (T.1 a 2) := cnI (h 0 (show 0 < 6 by decide)).1 (h 0 (show 0 < 6 by decide)).2 rfl
theorem s0_2p (h : SV n S a) (v : Int32) : pV (cn n sl U S T σ) a 7 2 (.int v) = some (cn n sl U S (tI T a 2 v) σ) := cnP (h 0 (show 0 < 6 by decide)).1 (h 0 (show 0 < 6 by decide)).2 (cP_7_2 (h 0 (show 0 < 6 by decide)).1 (h 0 (show 0 < 6 by decide)).2 v)
theorem s0_3 (h : SV n S a) : gI (cn n sl U S T σ) a 7 3 = some (T.1 a 3) := cnI (h 0 (show 0 < 6 by decide)).1 (h 0 (show 0 < 6 by decide)).2 rfl
theorem s0_3p (h : SV n S a) (v : Int32) : pV (cn n sl U S T σ) a 7 3 (.int v) = some (cn n sl U S (tI T a 3 v) σ) := cnP (h 0 (show 0 < 6 by decide)).1 (h 0 (show 0 < 6 by decide)).2 (cP_7_3 (h 0 (show 0 < 6 by decide)).1 (h 0 (show 0 < 6 by decide)).2 v)
theorem s0_4 (h : SV n S a) : gR (cn n sl U S T σ) a 7 4 = some (a + 1) := cnR (h 0 (show 0 < 6 by decide)).1 (h 0 (show 0 < 6 by decide)).2 rfl rfl
theorem s0_5 (h : SV n S a) : gR (cn n sl U S T σ) a 7 5 = some (a + 2) := cnR (h 0 (show 0 < 6 by decide)).1 (h 0 (show 0 < 6 by decide)).2 rfl rfl
theorem s0_6 (h : SV n S a) : gI (cn n sl U S T σ) a 7 6 = some (T.1 a 6) := cnI (h 0 (show 0 < 6 by decide)).1 (h 0 (show 0 < 6 by decide)).2 rfl
theorem s0_6p (h : SV n S a) (v : Int32) : pV (cn n sl U S T σ) a 7 6 (.int v) = some (cn n sl U S (tI T a 6 v) σ) := cnP (h 0 (show 0 < 6 by decide)).1 (h 0 (show 0 < 6 by decide)).2 (cP_7_6 (h 0 (show 0 < 6 by decide)).1 (h 0 (show 0 < 6 by decide)).2 v)
theorem s0_7 (h : SV n S a) : gI (cn n sl U S T σ) a 7 7 = some (T.1 a 7) := cnI (h 0 (show 0 < 6 by decide)).1 (h 0 (show 0 < 6 by decide)).2 rfl
theorem s0_7p (h : SV n S a) (v : Int32) : pV (cn n sl U S T σ) a 7 7 (.int v) = some (cn n sl U S (tI T a 7 v) σ) := cnP (h 0 (show 0 < 6 by decide)).1 (h 0 (show 0 < 6 by decide)).2 (cP_7_7 (h 0 (show 0 < 6 by decide)).1 (h 0 (show 0 < 6 by decide)).2 v)
theorem s0_8 (h : SV n S a) : gI (cn n sl U S T σ) a 7 8 = some (T.1 a 8) := cnI (h 0 (show 0 < 6 by decide)).1 (h 0 (show 0 < 6 by decide)).2 rfl
theorem s0_8p (h : SV n S a) (v : Int32) : pV (cn n sl U S T σ) a 7 8 (.int v) = some (cn n sl U S (tI T a 8 v) σ) := cnP (h 0 (show 0 < 6 by decide)).1 (h 0 (show 0 < 6 by decide)).2 (cP_7_8 (h 0 (show 0 < 6 by decide)).1 (h 0 (show 0 < 6 by decide)).2 v)
theorem s0_9 (h : SV n S a) : gI (cn n sl U S T σ) a 7 9 = some (T.1 a 9) := cnI (h 0 (show 0 < 6 by decide)).1 (h 0 (show 0 < 6 by decide)).2 rfl
theorem s0_9p (h : SV n S a) (v : Int32) : pV (cn n sl U S T σ) a 7 9 (.int v) = some (cn n sl U S (tI T a 9 v) σ) := cnP (h 0 (show 0 < 6 by decide)).1 (h 0 (show 0 < 6 by decide)).2 (cP_7_9 (h 0 (show 0 < 6 by decide)).1 (h 0 (show 0 < 6 by decide)).2 v)
theorem s0_10 (h : SV n S a) : gR (cn n sl U S T σ) a 7 10 = some (a + 3) := cnR (h 0 (show 0 < 6 by decide)).1 (h 0 (show 0 < 6 by decide)).2 rfl rfl
theorem s0_11 (h : SV n S a) : gR (cn n sl U S T σ) a 7 11 = some (a + 4) := cnR (h 0 (show 0 < 6 by decide)).1 (h 0 (show 0 < 6 by decide)).2 rfl rfl
theorem s0_12 (h : SV n S a) : gR (cn n sl U S T σ) a 7 12 = some (a + 5) := cnR (h 0 (show 0 < 6 by decide)).1 (h 0 (show 0 < 6 by decide)).2 rfl rfl
theorem s1_r (h : SV n S a) {i : Nat} (hi : i < 5) : aI (cn n sl U S T σ) (a + 1) 0 (nI i) = some (T.2.1 (a + 1) i) := cnA (h 1 (show 1 < 6 by decide)).1 (h 1 (show 1 < 6 by decide)).2 (by decide) (by omega) hi
theorem s1_w (h : SV n S a) {i : Nat} {v : Int32} (hi : i < 5) : sI (cn n sl U S T σ) (a + 1) 0 (nI i) v = some (cn n sl U S (tA T (a + 1) i v) σ) := cnS (h 1 (show 1 < 6 by decide)).1 (h 1 (show 1 < 6 by decide)).2 (by decide) (by omega) hi
theorem s1_n (h : SV n S a) : aN (cn n sl U S T σ) (a + 1) 0 = some (nI 5) := cnN (h 1 (show 1 < 6 by decide)).1 (h 1 (show 1 < 6 by decide)).2 (by decide)
theorem s2_r (h : SV n S a) {i : Nat} (hi : i < 8) : aI (cn n sl U S T σ) (a + 2) 0 (nI i) = some (T.2.1 (a + 2) i) := cnA (h 2 (show 2 < 6 by decide)).1 (h 2 (show 2 < 6 by decide)).2 (by decide) (by omega) hi
theorem s2_w (h : SV n S a) {i : Nat} {v : Int32} (hi : i < 8) : sI (cn n sl U S T σ) (a + 2) 0 (nI i) v = some (cn n sl U S (tA T (a + 2) i v) σ) := cnS (h 2 (show 2 < 6 by decide)).1 (h 2 (show 2 < 6 by decide)).2 (by decide) (by omega) hi
theorem s2_n (h : SV n S a) : aN (cn n sl U S T σ) (a + 2) 0 = some (nI 8) := cnN (h 2 (show 2 < 6 by decide)).1 (h 2 (show 2 < 6 by decide)).2 (by decide)
theorem s3_r (h : SV n S a) {i : Nat} (hi : i < 20) : aI (cn n sl U S T σ) (a + 3) 0 (nI i) = some (T.2.1 (a + 3) i) := cnA (h 3 (show 3 < 6 by decide)).1 (h 3 (show 3 < 6 by decide)).2 (by decide) (by omega) hi
theorem s3_w (h : SV n S a) {i : Nat} {v : Int32} (hi : i < 20) : sI (cn n sl U S T σ) (a + 3) 0 (nI i) v = some (cn n sl U S (tA T (a + 3) i v) σ) := cnS (h 3 (show 3 < 6 by decide)).1 (h 3 (show 3 < 6 by decide)).2 (by decide) (by omega) hi
theorem s3_n (h : SV n S a) : aN (cn n sl U S T σ) (a + 3) 0 = some (nI 20) := cnN (h 3 (show 3 < 6 by decide)).1 (h 3 (show 3 < 6 by decide)).2 (by decide)
theorem s4_r (h : SV n S a) {i : Nat} (hi : i < 20) : aI (cn n sl U S T σ) (a + 4) 0 (nI i) = some (T.2.1 (a + 4) i) := cnA (h 4 (show 4 < 6 by decide)).1 (h 4 (show 4 < 6 by decide)).2 (by decide) (by omega) hi
theorem s4_w (h : SV n S a) {i : Nat} {v : Int32} (hi : i < 20) : sI (cn n sl U S T σ) (a + 4) 0 (nI i) v = some (cn n sl U S (tA T (a + 4) i v) σ) := cnS (h 4 (show 4 < 6 by decide)).1 (h 4 (show 4 < 6 by decide)).2 (by decide) (by omega) hi
theorem s4_n (h : SV n S a) : aN (cn n sl U S T σ) (a + 4) 0 = some (nI 20) := cnN (h 4 (show 4 < 6 by decide)).1 (h 4 (show 4 < 6 by decide)).2 (by decide)
theorem s5_r (h : SV n S a) {i : Nat} (hi : i < 20) : aI (cn n sl U S T σ) (a + 5) 0 (nI i) = some (T.2.1 (a + 5) i) := cnA (h 5 (show 5 < 6 by decide)).1 (h 5 (show 5 < 6 by decide)).2 (by decide) (by omega) hi
theorem s5_w (h : SV n S a) {i : Nat} {v : Int32} (hi : i < 20) : sI (cn n sl U S T σ) (a + 5) 0 (nI i) v = some (cn n sl U S (tA T (a + 5) i v) σ) := cnS (h 5 (show 5 < 6 by decide)).1 (h 5 (show 5 < 6 by decide)).2 (by decide) (by omega) hi
theorem s5_n (h : SV n S a) : aN (cn n sl U S T σ) (a + 5) 0 = some (nI 20) := cnN (h 5 (show 5 < 6 by decide)).1 (h 5 (show 5 < 6 by decide)).2 (by decide)
end SV
section GV
variable {a : Nat}
theorem g0_o (h : GV n S a) : ob (cn n sl U S T σ) a 1 = some (fsT (ovT S T) 1 a) := cnO (h 0 (show 0 < 15 by decide)).1 (h 0 (show 0 < 15 by decide)).2
theorem g0_0 (h : GV n S a) : gI (cn n sl U S T σ) a 1 0 = some (T.1 a 0) := cnI (h 0 (show 0 < 15 by decide)).1 (h 0 (show 0 < 15 by decide)).2 rfl
theorem g0_0p (h : GV n S a) (v : Int32) : pV (cn n sl U S T σ) a 1 0 (.int v) = some (cn n sl U S (tI T a 0 v) σ) := cnP (h 0 (show 0 < 15 by decide)).1 (h 0 (show 0 < 15 by decide)).2 (cP_1_0 (h 0 (show 0 < 15 by decide)).1 (h 0 (show 0 < 15 by decide)).2 v)
theorem g0_1 (h : GV n S a) : gI (cn n sl U S T σ) a 1 1 = some (T.1 a 1) := cnI (h 0 (show 0 < 15 by decide)).1 (h 0 (show 0 < 15 by decide)).2 rfl
theorem g0_1p (h : GV n S a) (v : Int32) : pV (cn n sl U S T σ) a 1 1 (.int v) = some (cn n sl U S (tI T a 1 v) σ) := cnP (h 0 (show 0 < 15 by decide)).1 (h 0 (show 0 < 15 by decide)).2 (cP_1_1 (h 0 (show 0 < 15 by decide)).1 (h 0 (show 0 < 15 by decide)).2 v)
theorem g0_2 (h : GV n S a) : gI (cn n sl U S T σ) a 1 2 = some (T.1 a 2) := cnI (h 0 (show 0 < 15 by decide)).1 (h 0 (show 0 < 15 by decide)).2 rfl
theorem g0_2p (h : GV n S a) (v : Int32) : pV (cn n sl U S T σ) a 1 2 (.int v) = some (cn n sl U S (tI T a 2 v) σ) := cnP (h 0 (show 0 < 15 by decide)).1 (h 0 (show 0 < 15 by decide)).2 (cP_1_2 (h 0 (show 0 < 15 by decide)).1 (h 0 (show 0 < 15 by decide)).2 v)
theorem g0_3 (h : GV n S a) : gR (cn n sl U S T σ) a 1 3 = some (a + 1) := cnR (h 0 (show 0 < 15 by decide)).1 (h 0 (show 0 < 15 by decide)).2 rfl rfl
theorem g0_4 (h : GV n S a) : gR (cn n sl U S T σ) a 1 4 = some (a + 2) := cnR (h 0 (show 0 < 15 by decide)).1 (h 0 (show 0 < 15 by decide)).2 rfl rfl
theorem g0_5 (h : GV n S a) : gL (cn n sl U S T σ) a 1 5 = some (T.2.2.1 a 5) := gL_cmG (h 0 (show 0 < 15 by decide)).1 (h 0 (show 0 < 15 by decide)).2 rfl
theorem g0_5p (h : GV n S a) (v : Int64) : pV (cn n sl U S T σ) a 1 5 (.long v) = some (cn n sl U S (tJ T a 5 v) σ) := (cP_1_5 (h 0 (show 0 < 15 by decide)).1 (h 0 (show 0 < 15 by decide)).2 v)
theorem g0_6 (h : GV n S a) : gI (cn n sl U S T σ) a 1 6 = some (T.1 a 6) := cnI (h 0 (show 0 < 15 by decide)).1 (h 0 (show 0 < 15 by decide)).2 rfl
theorem g0_6p (h : GV n S a) (v : Int32) : pV (cn n sl U S T σ) a 1 6 (.int v) = some (cn n sl U S (tI T a 6 v) σ) := cnP (h 0 (show 0 < 15 by decide)).1 (h 0 (show 0 < 15 by decide)).2 (cP_1_6 (h 0 (show 0 < 15 by decide)).1 (h 0 (show 0 < 15 by decide)).2 v)
theorem g0_7 (h : GV n S a) : gR (cn n sl U S T σ) a 1 7 = some (a + 3) := cnR (h 0 (show 0 < 15 by decide)).1 (h 0 (show 0 < 15 by decide)).2 rfl rfl
theorem g0_8 (h : GV n S a) : gR (cn n sl U S T σ) a 1 8 = some (a + 4) := cnR (h 0 (show 0 < 15 by decide)).1 (h 0 (show 0 < 15 by decide)).2 rfl rfl
theorem g0_9 (h : GV n S a) : gI (cn n sl U S T σ) a 1 9 = some (T.1 a 9) := cnI (h 0 (show 0 < 15 by decide)).1 (h 0 (show 0 < 15 by decide)).2 rfl
theorem g0_9p (h : GV n S a) (v : Int32) : pV (cn n sl U S T σ) a 1 9 (.int v) = some (cn n sl U S (tI T a 9 v) σ) := cnP (h 0 (show 0 < 15 by decide)).1 (h 0 (show 0 < 15 by decide)).2 (cP_1_9 (h 0 (show 0 < 15 by decide)).1 (h 0 (show 0 < 15 by decide)).2 v)
theorem g0_10 (h : GV n S a) : gR (cn n sl U S T σ) a 1 10 = some (a + 5) := cnR (h 0 (show 0 < 15 by decide)).1 (h 0 (show 0 < 15 by decide)).2 rfl rfl
theorem g0_11 (h : GV n S a) : gR (cn n sl U S T σ) a 1 11 = some (a + 6) := cnR (h 0 (show 0 < 15 by decide)).1 (h 0 (show 0 < 15 by decide)).2 rfl rfl
theorem g0_12 (h : GV n S a) : gR (cn n sl U S T σ) a 1 12 = some (a + 7) := cnR (h 0 (show 0 < 15 by decide)).1 (h 0 (show 0 < 15 by decide)).2 rfl rfl
theorem g0_13 (h : GV n S a) : gR (cn n sl U S T σ) a 1 13 = some (a + 8) := cnR (h 0 (show 0 < 15 by decide)).1 (h 0 (show 0 < 15 by decide)).2 rfl rfl
theorem g0_14 (h : GV n S a) : gR (cn n sl U S T σ) a 1 14 = some (a + 9) := cnR (h 0 (show 0 < 15 by decide)).1 (h 0 (show 0 < 15 by decide)).2 rfl rfl
theorem g1_r (h : GV n S a) {i : Nat} (hi : i < 48) : aI (cn n sl U S T σ) (a + 1) 0 (nI i) = some (T.2.1 (a + 1) i) := cnA (h 1 (show 1 < 15 by decide)).1 (h 1 (show 1 < 15 by decide)).2 (by decide) (by omega) hi
theorem g1_w (h : GV n S a) {i : Nat} {v : Int32} (hi : i < 48) : sI (cn n sl U S T σ) (a + 1) 0 (nI i) v = some (cn n sl U S (tA T (a + 1) i v) σ) := cnS (h 1 (show 1 < 15 by decide)).1 (h 1 (show 1 < 15 by decide)).2 (by decide) (by omega) hi
theorem g1_n (h : GV n S a) : aN (cn n sl U S T σ) (a + 1) 0 = some (nI 48) := cnN (h 1 (show 1 < 15 by decide)).1 (h 1 (show 1 < 15 by decide)).2 (by decide)
theorem g2_r (h : GV n S a) {i : Nat} (hi : i < 48) : aI (cn n sl U S T σ) (a + 2) 0 (nI i) = some (T.2.1 (a + 2) i) := cnA (h 2 (show 2 < 15 by decide)).1 (h 2 (show 2 < 15 by decide)).2 (by decide) (by omega) hi
theorem g2_w (h : GV n S a) {i : Nat} {v : Int32} (hi : i < 48) : sI (cn n sl U S T σ) (a + 2) 0 (nI i) v = some (cn n sl U S (tA T (a + 2) i v) σ) := cnS (h 2 (show 2 < 15 by decide)).1 (h 2 (show 2 < 15 by decide)).2 (by decide) (by omega) hi
theorem g2_n (h : GV n S a) : aN (cn n sl U S T σ) (a + 2) 0 = some (nI 48) := cnN (h 2 (show 2 < 15 by decide)).1 (h 2 (show 2 < 15 by decide)).2 (by decide)
theorem g3_r (h : GV n S a) {i : Nat} (hi : i < 5) : aI (cn n sl U S T σ) (a + 3) 0 (nI i) = some (T.2.1 (a + 3) i) := cnA (h 3 (show 3 < 15 by decide)).1 (h 3 (show 3 < 15 by decide)).2 (by decide) (by omega) hi
theorem g3_w (h : GV n S a) {i : Nat} {v : Int32} (hi : i < 5) : sI (cn n sl U S T σ) (a + 3) 0 (nI i) v = some (cn n sl U S (tA T (a + 3) i v) σ) := cnS (h 3 (show 3 < 15 by decide)).1 (h 3 (show 3 < 15 by decide)).2 (by decide) (by omega) hi
theorem g3_n (h : GV n S a) : aN (cn n sl U S T σ) (a + 3) 0 = some (nI 5) := cnN (h 3 (show 3 < 15 by decide)).1 (h 3 (show 3 < 15 by decide)).2 (by decide)
theorem g4_r (h : GV n S a) {i : Nat} (hi : i < 5) : aI (cn n sl U S T σ) (a + 4) 0 (nI i) = some (T.2.1 (a + 4) i) := cnA (h 4 (show 4 < 15 by decide)).1 (h 4 (show 4 < 15 by decide)).2 (by decide) (by omega) hi
theorem g4_w (h : GV n S a) {i : Nat} {v : Int32} (hi : i < 5) : sI (cn n sl U S T σ) (a + 4) 0 (nI i) v = some (cn n sl U S (tA T (a + 4) i v) σ) := cnS (h 4 (show 4 < 15 by decide)).1 (h 4 (show 4 < 15 by decide)).2 (by decide) (by omega) hi
theorem g4_n (h : GV n S a) : aN (cn n sl U S T σ) (a + 4) 0 = some (nI 5) := cnN (h 4 (show 4 < 15 by decide)).1 (h 4 (show 4 < 15 by decide)).2 (by decide)
theorem g5_r (h : GV n S a) {i : Nat} (hi : i < 8) : aI (cn n sl U S T σ) (a + 5) 0 (nI i) = some (T.2.1 (a + 5) i) := cnA (h 5 (show 5 < 15 by decide)).1 (h 5 (show 5 < 15 by decide)).2 (by decide) (by omega) hi
theorem g5_w (h : GV n S a) {i : Nat} {v : Int32} (hi : i < 8) : sI (cn n sl U S T σ) (a + 5) 0 (nI i) v = some (cn n sl U S (tA T (a + 5) i v) σ) := cnS (h 5 (show 5 < 15 by decide)).1 (h 5 (show 5 < 15 by decide)).2 (by decide) (by omega) hi
theorem g5_n (h : GV n S a) : aN (cn n sl U S T σ) (a + 5) 0 = some (nI 8) := cnN (h 5 (show 5 < 15 by decide)).1 (h 5 (show 5 < 15 by decide)).2 (by decide)
theorem g6_r (h : GV n S a) {i : Nat} (hi : i < 8) : aI (cn n sl U S T σ) (a + 6) 0 (nI i) = some (T.2.1 (a + 6) i) := cnA (h 6 (show 6 < 15 by decide)).1 (h 6 (show 6 < 15 by decide)).2 (by decide) (by omega) hi
theorem g6_w (h : GV n S a) {i : Nat} {v : Int32} (hi : i < 8) : sI (cn n sl U S T σ) (a + 6) 0 (nI i) v = some (cn n sl U S (tA T (a + 6) i v) σ) := cnS (h 6 (show 6 < 15 by decide)).1 (h 6 (show 6 < 15 by decide)).2 (by decide) (by omega) hi
theorem g6_n (h : GV n S a) : aN (cn n sl U S T σ) (a + 6) 0 = some (nI 8) := cnN (h 6 (show 6 < 15 by decide)).1 (h 6 (show 6 < 15 by decide)).2 (by decide)
theorem g7_r (h : GV n S a) {i : Nat} (hi : i < 8) : aI (cn n sl U S T σ) (a + 7) 0 (nI i) = some (T.2.1 (a + 7) i) := cnA (h 7 (show 7 < 15 by decide)).1 (h 7 (show 7 < 15 by decide)).2 (by decide) (by omega) hi
theorem g7_w (h : GV n S a) {i : Nat} {v : Int32} (hi : i < 8) : sI (cn n sl U S T σ) (a + 7) 0 (nI i) v = some (cn n sl U S (tA T (a + 7) i v) σ) := cnS (h 7 (show 7 < 15 by decide)).1 (h 7 (show 7 < 15 by decide)).2 (by decide) (by omega) hi
theorem g7_n (h : GV n S a) : aN (cn n sl U S T σ) (a + 7) 0 = some (nI 8) := cnN (h 7 (show 7 < 15 by decide)).1 (h 7 (show 7 < 15 by decide)).2 (by decide)
theorem g8_r (h : GV n S a) {i : Nat} (hi : i < 8) : aI (cn n sl U S T σ) (a + 8) 0 (nI i) = some (T.2.1 (a + 8) i) := cnA (h 8 (show 8 < 15 by decide)).1 (h 8 (show 8 < 15 by decide)).2 (by decide) (by omega) hi
theorem g8_w (h : GV n S a) {i : Nat} {v : Int32} (hi : i < 8) : sI (cn n sl U S T σ) (a + 8) 0 (nI i) v = some (cn n sl U S (tA T (a + 8) i v) σ) := cnS (h 8 (show 8 < 15 by decide)).1 (h 8 (show 8 < 15 by decide)).2 (by decide) (by omega) hi
theorem g8_n (h : GV n S a) : aN (cn n sl U S T σ) (a + 8) 0 = some (nI 8) := cnN (h 8 (show 8 < 15 by decide)).1 (h 8 (show 8 < 15 by decide)).2 (by decide)
theorem g9_o (h : GV n S a) : ob (cn n sl U S T σ) (a + 9) 3 = some (fsT (ovT S T) 3 (a + 9)) := cnO (h 9 (show 9 < 15 by decide)).1 (h 9 (show 9 < 15 by decide)).2
theorem g9_0 (h : GV n S a) : gI (cn n sl U S T σ) (a + 9) 3 0 = some (T.1 (a + 9) 0) := cnI (h 9 (show 9 < 15 by decide)).1 (h 9 (show 9 < 15 by decide)).2 rfl
theorem g9_0p (h : GV n S a) (v : Int32) : pV (cn n sl U S T σ) (a + 9) 3 0 (.int v) = some (cn n sl U S (tI T (a + 9) 0 v) σ) := cnP (h 9 (show 9 < 15 by decide)).1 (h 9 (show 9 < 15 by decide)).2 (cP_3_0 (h 9 (show 9 < 15 by decide)).1 (h 9 (show 9 < 15 by decide)).2 v)
theorem g9_1 (h : GV n S a) : gR (cn n sl U S T σ) (a + 9) 3 1 = some (a + 10) := cnR (h 9 (show 9 < 15 by decide)).1 (h 9 (show 9 < 15 by decide)).2 rfl rfl
theorem g9_2 (h : GV n S a) : gI (cn n sl U S T σ) (a + 9) 3 2 = some (T.1 (a + 9) 2) := cnI (h 9 (show 9 < 15 by decide)).1 (h 9 (show 9 < 15 by decide)).2 rfl
theorem g9_2p (h : GV n S a) (v : Int32) : pV (cn n sl U S T σ) (a + 9) 3 2 (.int v) = some (cn n sl U S (tI T (a + 9) 2 v) σ) := cnP (h 9 (show 9 < 15 by decide)).1 (h 9 (show 9 < 15 by decide)).2 (cP_3_2 (h 9 (show 9 < 15 by decide)).1 (h 9 (show 9 < 15 by decide)).2 v)
theorem g9_3 (h : GV n S a) : gR (cn n sl U S T σ) (a + 9) 3 3 = some (a + 11) := cnR (h 9 (show 9 < 15 by decide)).1 (h 9 (show 9 < 15 by decide)).2 rfl rfl
theorem g9_4 (h : GV n S a) : gR (cn n sl U S T σ) (a + 9) 3 4 = some (a + 12) := cnR (h 9 (show 9 < 15 by decide)).1 (h 9 (show 9 < 15 by decide)).2 rfl rfl
theorem g9_5 (h : GV n S a) : gR (cn n sl U S T σ) (a + 9) 3 5 = some (a + 13) := cnR (h 9 (show 9 < 15 by decide)).1 (h 9 (show 9 < 15 by decide)).2 rfl rfl
theorem g9_6 (h : GV n S a) : gR (cn n sl U S T σ) (a + 9) 3 6 = some (a + 14) := cnR (h 9 (show 9 < 15 by decide)).1 (h 9 (show 9 < 15 by decide)).2 rfl rfl
theorem g9_7 (h : GV n S a) : gI (cn n sl U S T σ) (a + 9) 3 7 = some (T.1 (a + 9) 7) := cnI (h 9 (show 9 < 15 by decide)).1 (h 9 (show 9 < 15 by decide)).2 rfl
theorem g9_7p (h : GV n S a) (v : Int32) : pV (cn n sl U S T σ) (a + 9) 3 7 (.int v) = some (cn n sl U S (tI T (a + 9) 7 v) σ) := cnP (h 9 (show 9 < 15 by decide)).1 (h 9 (show 9 < 15 by decide)).2 (cP_3_7 (h 9 (show 9 < 15 by decide)).1 (h 9 (show 9 < 15 by decide)).2 v)
theorem g10_r (h : GV n S a) {i : Nat} (hi : i < 8) : aI (cn n sl U S T σ) (a + 10) 0 (nI i) = some (T.2.1 (a + 10) i) := cnA (h 10 (show 10 < 15 by decide)).1 (h 10 (show 10 < 15 by decide)).2 (by decide) (by omega) hi
theorem g10_w (h : GV n S a) {i : Nat} {v : Int32} (hi : i < 8) : sI (cn n sl U S T σ) (a + 10) 0 (nI i) v = some (cn n sl U S (tA T (a + 10) i v) σ) := cnS (h 10 (show 10 < 15 by decide)).1 (h 10 (show 10 < 15 by decide)).2 (by decide) (by omega) hi
theorem g10_n (h : GV n S a) : aN (cn n sl U S T σ) (a + 10) 0 = some (nI 8) := cnN (h 10 (show 10 < 15 by decide)).1 (h 10 (show 10 < 15 by decide)).2 (by decide)
theorem g11_r (h : GV n S a) {i : Nat} (hi : i < 10) : aI (cn n sl U S T σ) (a + 11) 0 (nI i) = some (T.2.1 (a + 11) i) := cnA (h 11 (show 11 < 15 by decide)).1 (h 11 (show 11 < 15 by decide)).2 (by decide) (by omega) hi
theorem g11_w (h : GV n S a) {i : Nat} {v : Int32} (hi : i < 10) : sI (cn n sl U S T σ) (a + 11) 0 (nI i) v = some (cn n sl U S (tA T (a + 11) i v) σ) := cnS (h 11 (show 11 < 15 by decide)).1 (h 11 (show 11 < 15 by decide)).2 (by decide) (by omega) hi
theorem g11_n (h : GV n S a) : aN (cn n sl U S T σ) (a + 11) 0 = some (nI 10) := cnN (h 11 (show 11 < 15 by decide)).1 (h 11 (show 11 < 15 by decide)).2 (by decide)
theorem g12_r (h : GV n S a) {i : Nat} (hi : i < 10) : aI (cn n sl U S T σ) (a + 12) 0 (nI i) = some (T.2.1 (a + 12) i) := cnA (h 12 (show 12 < 15 by decide)).1 (h 12 (show 12 < 15 by decide)).2 (by decide) (by omega) hi
theorem g12_w (h : GV n S a) {i : Nat} {v : Int32} (hi : i < 10) : sI (cn n sl U S T σ) (a + 12) 0 (nI i) v = some (cn n sl U S (tA T (a + 12) i v) σ) := cnS (h 12 (show 12 < 15 by decide)).1 (h 12 (show 12 < 15 by decide)).2 (by decide) (by omega) hi
theorem g12_n (h : GV n S a) : aN (cn n sl U S T σ) (a + 12) 0 = some (nI 10) := cnN (h 12 (show 12 < 15 by decide)).1 (h 12 (show 12 < 15 by decide)).2 (by decide)
theorem g13_r (h : GV n S a) {i : Nat} (hi : i < 8) : aI (cn n sl U S T σ) (a + 13) 0 (nI i) = some (T.2.1 (a + 13) i) := cnA (h 13 (show 13 < 15 by decide)).1 (h 13 (show 13 < 15 by decide)).2 (by decide) (by omega) hi
theorem g13_w (h : GV n S a) {i : Nat} {v : Int32} (hi : i < 8) : sI (cn n sl U S T σ) (a + 13) 0 (nI i) v = some (cn n sl U S (tA T (a + 13) i v) σ) := cnS (h 13 (show 13 < 15 by decide)).1 (h 13 (show 13 < 15 by decide)).2 (by decide) (by omega) hi
theorem g13_n (h : GV n S a) : aN (cn n sl U S T σ) (a + 13) 0 = some (nI 8) := cnN (h 13 (show 13 < 15 by decide)).1 (h 13 (show 13 < 15 by decide)).2 (by decide)
theorem g14_r (h : GV n S a) {i : Nat} (hi : i < 8) : aI (cn n sl U S T σ) (a + 14) 0 (nI i) = some (T.2.1 (a + 14) i) := cnA (h 14 (show 14 < 15 by decide)).1 (h 14 (show 14 < 15 by decide)).2 (by decide) (by omega) hi
theorem g14_w (h : GV n S a) {i : Nat} {v : Int32} (hi : i < 8) : sI (cn n sl U S T σ) (a + 14) 0 (nI i) v = some (cn n sl U S (tA T (a + 14) i v) σ) := cnS (h 14 (show 14 < 15 by decide)).1 (h 14 (show 14 < 15 by decide)).2 (by decide) (by omega) hi
theorem g14_n (h : GV n S a) : aN (cn n sl U S T σ) (a + 14) 0 = some (nI 8) := cnN (h 14 (show 14 < 15 by decide)).1 (h 14 (show 14 < 15 by decide)).2 (by decide)
end GV
section RV
variable {a l m : Nat}
theorem r0_o (h : RV n S a l m) : ob (cn n sl U S T σ) a 5 = some (fsT (ovT S T) 5 a) := cnO (h 0 (show 0 < 7 by decide)).1 (h 0 (show 0 < 7 by decide)).2
theorem r0_0 (h : RV n S a l m) : gR (cn n sl U S T σ) a 5 0 = some (a + 2) := cnR (h 0 (show 0 < 7 by decide)).1 (h 0 (show 0 < 7 by decide)).2 rfl rfl
theorem r0_1 (h : RV n S a l m) : gI (cn n sl U S T σ) a 5 1 = some (T.1 a 1) := cnI (h 0 (show 0 < 7 by decide)).1 (h 0 (show 0 < 7 by decide)).2 rfl
theorem r0_1p (h : RV n S a l m) (v : Int32) : pV (cn n sl U S T σ) a 5 1 (.int v) = some (cn n sl U S (tI T a 1 v) σ) := cnP (h 0 (show 0 < 7 by decide)).1 (h 0 (show 0 < 7 by decide)).2 (cP_5_1 (h 0 (show 0 < 7 by decide)).1 (h 0 (show 0 < 7 by decide)).2 v)
theorem r0_2 (h : RV n S a l m) : gR (cn n sl U S T σ) a 5 2 = some (a + 3) := cnR (h 0 (show 0 < 7 by decide)).1 (h 0 (show 0 < 7 by decide)).2 rfl rfl
theorem r0_3 (h : RV n S a l m) : gR (cn n sl U S T σ) a 5 3 = some (a + 4) := cnR (h 0 (show 0 < 7 by decide)).1 (h 0 (show 0 < 7 by decide)).2 rfl rfl
theorem r0_4 (h : RV n S a l m) : gR (cn n sl U S T σ) a 5 4 = some (a + 5) := cnR (h 0 (show 0 < 7 by decide)).1 (h 0 (show 0 < 7 by decide)).2 rfl rfl
theorem r0_5 (h : RV n S a l m) : gR (cn n sl U S T σ) a 5 5 = some (a + 6) := cnR (h 0 (show 0 < 7 by decide)).1 (h 0 (show 0 < 7 by decide)).2 rfl rfl
theorem r0_6 (h : RV n S a l m) : gI (cn n sl U S T σ) a 5 6 = some (T.1 a 6) := cnI (h 0 (show 0 < 7 by decide)).1 (h 0 (show 0 < 7 by decide)).2 rfl
theorem r0_6p (h : RV n S a l m) (v : Int32) : pV (cn n sl U S T σ) a 5 6 (.int v) = some (cn n sl U S (tI T a 6 v) σ) := cnP (h 0 (show 0 < 7 by decide)).1 (h 0 (show 0 < 7 by decide)).2 (cP_5_6 (h 0 (show 0 < 7 by decide)).1 (h 0 (show 0 < 7 by decide)).2 v)
theorem r0_6z (h : RV n S a l m) (v : Int32) : pZ (cn n sl U S T σ) a 5 6 v = if v = 0 ∨ v = 1 then some (cn n sl U S (tI T a 6 v) σ) else none := cnZ (r0_6p h)
theorem r0_7 (h : RV n S a l m) : gI (cn n sl U S T σ) a 5 7 = some (T.1 a 7) := cnI (h 0 (show 0 < 7 by decide)).1 (h 0 (show 0 < 7 by decide)).2 rfl
theorem r0_7p (h : RV n S a l m) (v : Int32) : pV (cn n sl U S T σ) a 5 7 (.int v) = some (cn n sl U S (tI T a 7 v) σ) := cnP (h 0 (show 0 < 7 by decide)).1 (h 0 (show 0 < 7 by decide)).2 (cP_5_7 (h 0 (show 0 < 7 by decide)).1 (h 0 (show 0 < 7 by decide)).2 v)
theorem r0_7z (h : RV n S a l m) (v : Int32) : pZ (cn n sl U S T σ) a 5 7 v = if v = 0 ∨ v = 1 then some (cn n sl U S (tI T a 7 v) σ) else none := cnZ (r0_7p h)
theorem r0_8 (h : RV n S a l m) : gR (cn n sl U S T σ) a 5 8 = some (a + 1) := cnR (h 0 (show 0 < 7 by decide)).1 (h 0 (show 0 < 7 by decide)).2 rfl rfl
theorem r1_r (h : RV n S a l m) {i : Nat} (hi : i < 32) : aL (cn n sl U S T σ) (a + 1) 3 (nI i) = some (T.2.2.1 (a + 1) i) := cnAL (h 1 (show 1 < 7 by decide)).1 (h 1 (show 1 < 7 by decide)).2 (by omega) hi
theorem r1_w (h : RV n S a l m) {i : Nat} {v : Int64} (hi : i < 32) : sL (cn n sl U S T σ) (a + 1) 3 (nI i) v = some (cn n sl U S (tG T (a + 1) i v) σ) := cnSL (h 1 (show 1 < 7 by decide)).1 (h 1 (show 1 < 7 by decide)).2 (by omega) hi
theorem r2_r (h : RV n S a l m) (hm : l < 2 ^ 31) {i : Nat} (hi : i < l) : aI (cn n sl U S T σ) (a + 2) 0 (nI i) = some (T.2.1 (a + 2) i) := cnA (h 2 (show 2 < 7 by decide)).1 (h 2 (show 2 < 7 by decide)).2 (by decide) hm hi
theorem r2_n (h : RV n S a l m) : aN (cn n sl U S T σ) (a + 2) 0 = some (nI l) := cnN (h 2 (show 2 < 7 by decide)).1 (h 2 (show 2 < 7 by decide)).2 (by decide)
theorem r3_r (h : RV n S a l m) (hm : m < 2 ^ 31) {i : Nat} (hi : i < m) : aI (cn n sl U S T σ) (a + 3) 0 (nI i) = some (T.2.1 (a + 3) i) := cnA (h 3 (show 3 < 7 by decide)).1 (h 3 (show 3 < 7 by decide)).2 (by decide) hm hi
theorem r3_n (h : RV n S a l m) : aN (cn n sl U S T σ) (a + 3) 0 = some (nI m) := cnN (h 3 (show 3 < 7 by decide)).1 (h 3 (show 3 < 7 by decide)).2 (by decide)
theorem r4_r (h : RV n S a l m) (hm : m < 2 ^ 31) {i : Nat} (hi : i < m) : aI (cn n sl U S T σ) (a + 4) 0 (nI i) = some (T.2.1 (a + 4) i) := cnA (h 4 (show 4 < 7 by decide)).1 (h 4 (show 4 < 7 by decide)).2 (by decide) hm hi
theorem r4_n (h : RV n S a l m) : aN (cn n sl U S T σ) (a + 4) 0 = some (nI m) := cnN (h 4 (show 4 < 7 by decide)).1 (h 4 (show 4 < 7 by decide)).2 (by decide)
theorem r5_r (h : RV n S a l m) (hm : m < 2 ^ 31) {i : Nat} (hi : i < m) : aI (cn n sl U S T σ) (a + 5) 0 (nI i) = some (T.2.1 (a + 5) i) := cnA (h 5 (show 5 < 7 by decide)).1 (h 5 (show 5 < 7 by decide)).2 (by decide) hm hi
theorem r5_n (h : RV n S a l m) : aN (cn n sl U S T σ) (a + 5) 0 = some (nI m) := cnN (h 5 (show 5 < 7 by decide)).1 (h 5 (show 5 < 7 by decide)).2 (by decide)
theorem r6_r (h : RV n S a l m) (hm : m < 2 ^ 31) {i : Nat} (hi : i < m) : aI (cn n sl U S T σ) (a + 6) 0 (nI i) = some (T.2.1 (a + 6) i) := cnA (h 6 (show 6 < 7 by decide)).1 (h 6 (show 6 < 7 by decide)).2 (by decide) hm hi
theorem r6_n (h : RV n S a l m) : aN (cn n sl U S T σ) (a + 6) 0 = some (nI m) := cnN (h 6 (show 6 < 7 by decide)).1 (h 6 (show 6 < 7 by decide)).2 (by decide)
end RV
end CN
theorem y189_r {ρ : Mm} {τ : Nat → va_E} {σ : Sg} {i : Nat} (hi : i < 11) : aI (mem ρ τ σ) 189 0 (nI i) = some (σ.2.1 189 i) := by rw [mA_189, if_neg (nI_in hi (by decide)), nI_clamp (by omega)]
theorem y189_w {ρ : Mm} {τ : Nat → va_E} {σ : Sg} {i : Nat} {v : Int32} (hi : i < 11) : sI (mem ρ τ σ) 189 0 (nI i) v = some (mem ρ τ (stA σ 189 i v)) := by rw [mS_189, if_neg (nI_in hi (by decide)), nI_clamp (by omega)]
theorem y190_r {ρ : Mm} {τ : Nat → va_E} {σ : Sg} {i : Nat} (hi : i < 48) : aI (mem ρ τ σ) 190 0 (nI i) = some (σ.2.1 190 i) := by rw [mA_190, if_neg (nI_in hi (by decide)), nI_clamp (by omega)]
theorem y190_w {ρ : Mm} {τ : Nat → va_E} {σ : Sg} {i : Nat} {v : Int32} (hi : i < 48) : sI (mem ρ τ σ) 190 0 (nI i) v = some (mem ρ τ (stA σ 190 i v)) := by rw [mS_190, if_neg (nI_in hi (by decide)), nI_clamp (by omega)]
theorem y191_r {ρ : Mm} {τ : Nat → va_E} {σ : Sg} {i : Nat} (hi : i < 5) : aI (mem ρ τ σ) 191 0 (nI i) = some (σ.2.1 191 i) := by rw [mA_191, if_neg (nI_in hi (by decide)), nI_clamp (by omega)]
theorem y191_w {ρ : Mm} {τ : Nat → va_E} {σ : Sg} {i : Nat} {v : Int32} (hi : i < 5) : sI (mem ρ τ σ) 191 0 (nI i) v = some (mem ρ τ (stA σ 191 i v)) := by rw [mS_191, if_neg (nI_in hi (by decide)), nI_clamp (by omega)]
theorem y192_r {ρ : Mm} {τ : Nat → va_E} {σ : Sg} {i : Nat} (hi : i < 5) : aI (mem ρ τ σ) 192 0 (nI i) = some (σ.2.1 192 i) := by rw [mA_192, if_neg (nI_in hi (by decide)), nI_clamp (by omega)]
theorem y192_w {ρ : Mm} {τ : Nat → va_E} {σ : Sg} {i : Nat} {v : Int32} (hi : i < 5) : sI (mem ρ τ σ) 192 0 (nI i) v = some (mem ρ τ (stA σ 192 i v)) := by rw [mS_192, if_neg (nI_in hi (by decide)), nI_clamp (by omega)]
theorem y193_r {ρ : Mm} {τ : Nat → va_E} {σ : Sg} {i : Nat} (hi : i < 8) : aI (mem ρ τ σ) 193 0 (nI i) = some (σ.2.1 193 i) := by rw [mA_193, if_neg (nI_in hi (by decide)), nI_clamp (by omega)]
theorem y193_w {ρ : Mm} {τ : Nat → va_E} {σ : Sg} {i : Nat} {v : Int32} (hi : i < 8) : sI (mem ρ τ σ) 193 0 (nI i) v = some (mem ρ τ (stA σ 193 i v)) := by rw [mS_193, if_neg (nI_in hi (by decide)), nI_clamp (by omega)]
theorem y194_r {ρ : Mm} {τ : Nat → va_E} {σ : Sg} {i : Nat} (hi : i < 8) : aI (mem ρ τ σ) 194 0 (nI i) = some (σ.2.1 194 i) := by rw [mA_194, if_neg (nI_in hi (by decide)), nI_clamp (by omega)]
theorem y194_w {ρ : Mm} {τ : Nat → va_E} {σ : Sg} {i : Nat} {v : Int32} (hi : i < 8) : sI (mem ρ τ σ) 194 0 (nI i) v = some (mem ρ τ (stA σ 194 i v)) := by rw [mS_194, if_neg (nI_in hi (by decide)), nI_clamp (by omega)]
theorem y195_r {ρ : Mm} {τ : Nat → va_E} {σ : Sg} {i : Nat} (hi : i < 8) : aI (mem ρ τ σ) 195 0 (nI i) = some (σ.2.1 195 i) := by rw [mA_195, if_neg (nI_in hi (by decide)), nI_clamp (by omega)]
theorem y195_w {ρ : Mm} {τ : Nat → va_E} {σ : Sg} {i : Nat} {v : Int32} (hi : i < 8) : sI (mem ρ τ σ) 195 0 (nI i) v = some (mem ρ τ (stA σ 195 i v)) := by rw [mS_195, if_neg (nI_in hi (by decide)), nI_clamp (by omega)]
theorem y196_r {ρ : Mm} {τ : Nat → va_E} {σ : Sg} {i : Nat} (hi : i < 8) : aI (mem ρ τ σ) 196 0 (nI i) = some (σ.2.1 196 i) := by rw [mA_196, if_neg (nI_in hi (by decide)), nI_clamp (by omega)]
theorem y196_w {ρ : Mm} {τ : Nat → va_E} {σ : Sg} {i : Nat} {v : Int32} (hi : i < 8) : sI (mem ρ τ σ) 196 0 (nI i) v = some (mem ρ τ (stA σ 196 i v)) := by rw [mS_196, if_neg (nI_in hi (by decide)), nI_clamp (by omega)]
theorem y197_r {ρ : Mm} {τ : Nat → va_E} {σ : Sg} {i : Nat} (hi : i < 4) : aI (mem ρ τ σ) 197 0 (nI i) = some (σ.2.1 197 i) := by rw [mA_197, if_neg (nI_in hi (by decide)), nI_clamp (by omega)]
theorem y197_w {ρ : Mm} {τ : Nat → va_E} {σ : Sg} {i : Nat} {v : Int32} (hi : i < 4) : sI (mem ρ τ σ) 197 0 (nI i) v = some (mem ρ τ (stA σ 197 i v)) := by rw [mS_197, if_neg (nI_in hi (by decide)), nI_clamp (by omega)]
theorem y198_r {ρ : Mm} {τ : Nat → va_E} {σ : Sg} {i : Nat} (hi : i < 8) : aI (mem ρ τ σ) 198 0 (nI i) = some (σ.2.1 198 i) := by rw [mA_198, if_neg (nI_in hi (by decide)), nI_clamp (by omega)]
theorem y198_w {ρ : Mm} {τ : Nat → va_E} {σ : Sg} {i : Nat} {v : Int32} (hi : i < 8) : sI (mem ρ τ σ) 198 0 (nI i) v = some (mem ρ τ (stA σ 198 i v)) := by rw [mS_198, if_neg (nI_in hi (by decide)), nI_clamp (by omega)]
theorem y199_r {ρ : Mm} {τ : Nat → va_E} {σ : Sg} {i : Nat} (hi : i < 10) : aI (mem ρ τ σ) 199 0 (nI i) = some (σ.2.1 199 i) := by rw [mA_199, if_neg (nI_in hi (by decide)), nI_clamp (by omega)]
theorem y199_w {ρ : Mm} {τ : Nat → va_E} {σ : Sg} {i : Nat} {v : Int32} (hi : i < 10) : sI (mem ρ τ σ) 199 0 (nI i) v = some (mem ρ τ (stA σ 199 i v)) := by rw [mS_199, if_neg (nI_in hi (by decide)), nI_clamp (by omega)]
theorem y200_r {ρ : Mm} {τ : Nat → va_E} {σ : Sg} {i : Nat} (hi : i < 10) : aI (mem ρ τ σ) 200 0 (nI i) = some (σ.2.1 200 i) := by rw [mA_200, if_neg (nI_in hi (by decide)), nI_clamp (by omega)]
theorem y200_w {ρ : Mm} {τ : Nat → va_E} {σ : Sg} {i : Nat} {v : Int32} (hi : i < 10) : sI (mem ρ τ σ) 200 0 (nI i) v = some (mem ρ τ (stA σ 200 i v)) := by rw [mS_200, if_neg (nI_in hi (by decide)), nI_clamp (by omega)]
theorem y201_r {ρ : Mm} {τ : Nat → va_E} {σ : Sg} {i : Nat} (hi : i < 8) : aI (mem ρ τ σ) 201 0 (nI i) = some (σ.2.1 201 i) := by rw [mA_201, if_neg (nI_in hi (by decide)), nI_clamp (by omega)]
theorem y201_w {ρ : Mm} {τ : Nat → va_E} {σ : Sg} {i : Nat} {v : Int32} (hi : i < 8) : sI (mem ρ τ σ) 201 0 (nI i) v = some (mem ρ τ (stA σ 201 i v)) := by rw [mS_201, if_neg (nI_in hi (by decide)), nI_clamp (by omega)]
theorem y202_r {ρ : Mm} {τ : Nat → va_E} {σ : Sg} {i : Nat} (hi : i < 8) : aI (mem ρ τ σ) 202 0 (nI i) = some (σ.2.1 202 i) := by rw [mA_202, if_neg (nI_in hi (by decide)), nI_clamp (by omega)]
theorem y202_w {ρ : Mm} {τ : Nat → va_E} {σ : Sg} {i : Nat} {v : Int32} (hi : i < 8) : sI (mem ρ τ σ) 202 0 (nI i) v = some (mem ρ τ (stA σ 202 i v)) := by rw [mS_202, if_neg (nI_in hi (by decide)), nI_clamp (by omega)]
theorem y203_r {ρ : Mm} {τ : Nat → va_E} {σ : Sg} {i : Nat} (hi : i < 7) : aI (mem ρ τ σ) 203 0 (nI i) = some (σ.2.1 203 i) := by rw [mA_203, if_neg (nI_in hi (by decide)), nI_clamp (by omega)]
theorem y203_w {ρ : Mm} {τ : Nat → va_E} {σ : Sg} {i : Nat} {v : Int32} (hi : i < 7) : sI (mem ρ τ σ) 203 0 (nI i) v = some (mem ρ τ (stA σ 203 i v)) := by rw [mS_203, if_neg (nI_in hi (by decide)), nI_clamp (by omega)]
theorem y204_r {ρ : Mm} {τ : Nat → va_E} {σ : Sg} {i : Nat} (hi : i < 48) : aI (mem ρ τ σ) 204 0 (nI i) = some (σ.2.1 204 i) := by rw [mA_204, if_neg (nI_in hi (by decide)), nI_clamp (by omega)]
theorem y204_w {ρ : Mm} {τ : Nat → va_E} {σ : Sg} {i : Nat} {v : Int32} (hi : i < 48) : sI (mem ρ τ σ) 204 0 (nI i) v = some (mem ρ τ (stA σ 204 i v)) := by rw [mS_204, if_neg (nI_in hi (by decide)), nI_clamp (by omega)]
theorem y205_r {ρ : Mm} {τ : Nat → va_E} {σ : Sg} {i : Nat} (hi : i < 5) : aI (mem ρ τ σ) 205 0 (nI i) = some (σ.2.1 205 i) := by rw [mA_205, if_neg (nI_in hi (by decide)), nI_clamp (by omega)]
theorem y205_w {ρ : Mm} {τ : Nat → va_E} {σ : Sg} {i : Nat} {v : Int32} (hi : i < 5) : sI (mem ρ τ σ) 205 0 (nI i) v = some (mem ρ τ (stA σ 205 i v)) := by rw [mS_205, if_neg (nI_in hi (by decide)), nI_clamp (by omega)]
theorem y206_r {ρ : Mm} {τ : Nat → va_E} {σ : Sg} {i : Nat} (hi : i < 5) : aI (mem ρ τ σ) 206 0 (nI i) = some (σ.2.1 206 i) := by rw [mA_206, if_neg (nI_in hi (by decide)), nI_clamp (by omega)]
theorem y206_w {ρ : Mm} {τ : Nat → va_E} {σ : Sg} {i : Nat} {v : Int32} (hi : i < 5) : sI (mem ρ τ σ) 206 0 (nI i) v = some (mem ρ τ (stA σ 206 i v)) := by rw [mS_206, if_neg (nI_in hi (by decide)), nI_clamp (by omega)]
theorem y207_r {ρ : Mm} {τ : Nat → va_E} {σ : Sg} {i : Nat} (hi : i < 8) : aI (mem ρ τ σ) 207 0 (nI i) = some (σ.2.1 207 i) := by rw [mA_207, if_neg (nI_in hi (by decide)), nI_clamp (by omega)]
theorem y207_w {ρ : Mm} {τ : Nat → va_E} {σ : Sg} {i : Nat} {v : Int32} (hi : i < 8) : sI (mem ρ τ σ) 207 0 (nI i) v = some (mem ρ τ (stA σ 207 i v)) := by rw [mS_207, if_neg (nI_in hi (by decide)), nI_clamp (by omega)]
theorem y208_r {ρ : Mm} {τ : Nat → va_E} {σ : Sg} {i : Nat} (hi : i < 8) : aI (mem ρ τ σ) 208 0 (nI i) = some (σ.2.1 208 i) := by rw [mA_208, if_neg (nI_in hi (by decide)), nI_clamp (by omega)]
theorem y208_w {ρ : Mm} {τ : Nat → va_E} {σ : Sg} {i : Nat} {v : Int32} (hi : i < 8) : sI (mem ρ τ σ) 208 0 (nI i) v = some (mem ρ τ (stA σ 208 i v)) := by rw [mS_208, if_neg (nI_in hi (by decide)), nI_clamp (by omega)]
theorem y209_r {ρ : Mm} {τ : Nat → va_E} {σ : Sg} {i : Nat} (hi : i < 8) : aI (mem ρ τ σ) 209 0 (nI i) = some (σ.2.1 209 i) := by rw [mA_209, if_neg (nI_in hi (by decide)), nI_clamp (by omega)]
theorem y209_w {ρ : Mm} {τ : Nat → va_E} {σ : Sg} {i : Nat} {v : Int32} (hi : i < 8) : sI (mem ρ τ σ) 209 0 (nI i) v = some (mem ρ τ (stA σ 209 i v)) := by rw [mS_209, if_neg (nI_in hi (by decide)), nI_clamp (by omega)]
theorem y210_r {ρ : Mm} {τ : Nat → va_E} {σ : Sg} {i : Nat} (hi : i < 8) : aI (mem ρ τ σ) 210 0 (nI i) = some (σ.2.1 210 i) := by rw [mA_210, if_neg (nI_in hi (by decide)), nI_clamp (by omega)]
theorem y210_w {ρ : Mm} {τ : Nat → va_E} {σ : Sg} {i : Nat} {v : Int32} (hi : i < 8) : sI (mem ρ τ σ) 210 0 (nI i) v = some (mem ρ τ (stA σ 210 i v)) := by rw [mS_210, if_neg (nI_in hi (by decide)), nI_clamp (by omega)]
theorem y211_r {ρ : Mm} {τ : Nat → va_E} {σ : Sg} {i : Nat} (hi : i < 4) : aI (mem ρ τ σ) 211 0 (nI i) = some (σ.2.1 211 i) := by rw [mA_211, if_neg (nI_in hi (by decide)), nI_clamp (by omega)]
theorem y211_w {ρ : Mm} {τ : Nat → va_E} {σ : Sg} {i : Nat} {v : Int32} (hi : i < 4) : sI (mem ρ τ σ) 211 0 (nI i) v = some (mem ρ τ (stA σ 211 i v)) := by rw [mS_211, if_neg (nI_in hi (by decide)), nI_clamp (by omega)]
theorem y212_r {ρ : Mm} {τ : Nat → va_E} {σ : Sg} {i : Nat} (hi : i < 8) : aI (mem ρ τ σ) 212 0 (nI i) = some (σ.2.1 212 i) := by rw [mA_212, if_neg (nI_in hi (by decide)), nI_clamp (by omega)]
theorem y212_w {ρ : Mm} {τ : Nat → va_E} {σ : Sg} {i : Nat} {v : Int32} (hi : i < 8) : sI (mem ρ τ σ) 212 0 (nI i) v = some (mem ρ τ (stA σ 212 i v)) := by rw [mS_212, if_neg (nI_in hi (by decide)), nI_clamp (by omega)]
theorem y213_r {ρ : Mm} {τ : Nat → va_E} {σ : Sg} {i : Nat} (hi : i < 10) : aI (mem ρ τ σ) 213 0 (nI i) = some (σ.2.1 213 i) := by rw [mA_213, if_neg (nI_in hi (by decide)), nI_clamp (by omega)]
theorem y213_w {ρ : Mm} {τ : Nat → va_E} {σ : Sg} {i : Nat} {v : Int32} (hi : i < 10) : sI (mem ρ τ σ) 213 0 (nI i) v = some (mem ρ τ (stA σ 213 i v)) := by rw [mS_213, if_neg (nI_in hi (by decide)), nI_clamp (by omega)]
theorem y214_r {ρ : Mm} {τ : Nat → va_E} {σ : Sg} {i : Nat} (hi : i < 10) : aI (mem ρ τ σ) 214 0 (nI i) = some (σ.2.1 214 i) := by rw [mA_214, if_neg (nI_in hi (by decide)), nI_clamp (by omega)]
theorem y214_w {ρ : Mm} {τ : Nat → va_E} {σ : Sg} {i : Nat} {v : Int32} (hi : i < 10) : sI (mem ρ τ σ) 214 0 (nI i) v = some (mem ρ τ (stA σ 214 i v)) := by rw [mS_214, if_neg (nI_in hi (by decide)), nI_clamp (by omega)]
theorem y215_r {ρ : Mm} {τ : Nat → va_E} {σ : Sg} {i : Nat} (hi : i < 400) : aI (mem ρ τ σ) 215 1 (nI i) = some (σ.2.1 215 i) := by rw [mA_215, if_neg (nI_in hi (by decide)), nI_clamp (by omega)]
theorem y215_w {ρ : Mm} {τ : Nat → va_E} {σ : Sg} {i : Nat} {v : Int32} (hi : i < 400) : sI (mem ρ τ σ) 215 1 (nI i) v = some (mem ρ τ (stA σ 215 i (narT 1 v))) := by rw [mS_215, if_neg (nI_in hi (by decide)), nI_clamp (by omega)]
theorem y216_r {ρ : Mm} {τ : Nat → va_E} {σ : Sg} {i : Nat} (hi : i < 1800) : aI (mem ρ τ σ) 216 0 (nI i) = some (σ.2.1 216 i) := by rw [mA_216, if_neg (nI_in hi (by decide)), nI_clamp (by omega)]
theorem y216_w {ρ : Mm} {τ : Nat → va_E} {σ : Sg} {i : Nat} {v : Int32} (hi : i < 1800) : sI (mem ρ τ σ) 216 0 (nI i) v = some (mem ρ τ (stA σ 216 i v)) := by rw [mS_216, if_neg (nI_in hi (by decide)), nI_clamp (by omega)]
theorem y217_r {ρ : Mm} {τ : Nat → va_E} {σ : Sg} {i : Nat} (hi : i < 1800) : aI (mem ρ τ σ) 217 0 (nI i) = some (σ.2.1 217 i) := by rw [mA_217, if_neg (nI_in hi (by decide)), nI_clamp (by omega)]
theorem y217_w {ρ : Mm} {τ : Nat → va_E} {σ : Sg} {i : Nat} {v : Int32} (hi : i < 1800) : sI (mem ρ τ σ) 217 0 (nI i) v = some (mem ρ τ (stA σ 217 i v)) := by rw [mS_217, if_neg (nI_in hi (by decide)), nI_clamp (by omega)]
theorem y218_r {ρ : Mm} {τ : Nat → va_E} {σ : Sg} {i : Nat} (hi : i < 6) : aI (mem ρ τ σ) 218 0 (nI i) = some (σ.2.1 218 i) := by rw [mA_218, if_neg (nI_in hi (by decide)), nI_clamp (by omega)]
theorem y218_w {ρ : Mm} {τ : Nat → va_E} {σ : Sg} {i : Nat} {v : Int32} (hi : i < 6) : sI (mem ρ τ σ) 218 0 (nI i) v = some (mem ρ τ (stA σ 218 i v)) := by rw [mS_218, if_neg (nI_in hi (by decide)), nI_clamp (by omega)]
theorem y219_r {ρ : Mm} {τ : Nat → va_E} {σ : Sg} {i : Nat} (hi : i < 72) : aI (mem ρ τ σ) 219 0 (nI i) = some (σ.2.1 219 i) := by rw [mA_219, if_neg (nI_in hi (by decide)), nI_clamp (by omega)]
theorem y219_w {ρ : Mm} {τ : Nat → va_E} {σ : Sg} {i : Nat} {v : Int32} (hi : i < 72) : sI (mem ρ τ σ) 219 0 (nI i) v = some (mem ρ τ (stA σ 219 i v)) := by rw [mS_219, if_neg (nI_in hi (by decide)), nI_clamp (by omega)]
theorem y220_r {ρ : Mm} {τ : Nat → va_E} {σ : Sg} {i : Nat} (hi : i < 72) : aI (mem ρ τ σ) 220 0 (nI i) = some (σ.2.1 220 i) := by rw [mA_220, if_neg (nI_in hi (by decide)), nI_clamp (by omega)]
theorem y220_w {ρ : Mm} {τ : Nat → va_E} {σ : Sg} {i : Nat} {v : Int32} (hi : i < 72) : sI (mem ρ τ σ) 220 0 (nI i) v = some (mem ρ τ (stA σ 220 i v)) := by rw [mS_220, if_neg (nI_in hi (by decide)), nI_clamp (by omega)]
theorem y221_r {ρ : Mm} {τ : Nat → va_E} {σ : Sg} {i : Nat} (hi : i < 72) : aI (mem ρ τ σ) 221 0 (nI i) = some (σ.2.1 221 i) := by rw [mA_221, if_neg (nI_in hi (by decide)), nI_clamp (by omega)]
theorem y221_w {ρ : Mm} {τ : Nat → va_E} {σ : Sg} {i : Nat} {v : Int32} (hi : i < 72) : sI (mem ρ τ σ) 221 0 (nI i) v = some (mem ρ τ (stA σ 221 i v)) := by rw [mS_221, if_neg (nI_in hi (by decide)), nI_clamp (by omega)]
theorem y222_r {ρ : Mm} {τ : Nat → va_E} {σ : Sg} {i : Nat} (hi : i < 402) : aI (mem ρ τ σ) 222 0 (nI i) = some (σ.2.1 222 i) := by rw [mA_222, if_neg (nI_in hi (by decide)), nI_clamp (by omega)]
theorem y222_w {ρ : Mm} {τ : Nat → va_E} {σ : Sg} {i : Nat} {v : Int32} (hi : i < 402) : sI (mem ρ τ σ) 222 0 (nI i) v = some (mem ρ τ (stA σ 222 i v)) := by rw [mS_222, if_neg (nI_in hi (by decide)), nI_clamp (by omega)]
theorem y223_r {ρ : Mm} {τ : Nat → va_E} {σ : Sg} {i : Nat} (hi : i < 72) : aI (mem ρ τ σ) 223 2 (nI i) = some (σ.2.1 223 i) := by rw [mA_223, if_neg (nI_in hi (by decide)), nI_clamp (by omega)]
theorem y223_w {ρ : Mm} {τ : Nat → va_E} {σ : Sg} {i : Nat} {v : Int32} (hi : i < 72) : sI (mem ρ τ σ) 223 2 (nI i) v = some (mem ρ τ (stA σ 223 i (narT 2 v))) := by rw [mS_223, if_neg (nI_in hi (by decide)), nI_clamp (by omega)]
theorem y224_r {ρ : Mm} {τ : Nat → va_E} {σ : Sg} {i : Nat} (hi : i < 12) : aL (mem ρ τ σ) 224 3 (nI i) = some (σ.2.2 224 i) := by rw [mL_224, if_neg (nI_in hi (by decide)), nI_clamp (by omega)]
theorem y224_w {ρ : Mm} {τ : Nat → va_E} {σ : Sg} {i : Nat} {v : Int64} (hi : i < 12) : sL (mem ρ τ σ) 224 3 (nI i) v = some (mem ρ τ (stL σ 224 i v)) := by rw [mS_224, if_neg (nI_in hi (by decide)), nI_clamp (by omega)]
theorem y225_r {ρ : Mm} {τ : Nat → va_E} {σ : Sg} {i : Nat} (hi : i < 300) : aL (mem ρ τ σ) 225 3 (nI i) = some (σ.2.2 225 i) := by rw [mL_225, if_neg (nI_in hi (by decide)), nI_clamp (by omega)]
theorem y225_w {ρ : Mm} {τ : Nat → va_E} {σ : Sg} {i : Nat} {v : Int64} (hi : i < 300) : sL (mem ρ τ σ) 225 3 (nI i) v = some (mem ρ τ (stL σ 225 i v)) := by rw [mS_225, if_neg (nI_in hi (by decide)), nI_clamp (by omega)]
theorem y226_r {ρ : Mm} {τ : Nat → va_E} {σ : Sg} {i : Nat} (hi : i < 280) : aI (mem ρ τ σ) 226 0 (nI i) = some (σ.2.1 226 i) := by rw [mA_226, if_neg (nI_in hi (by decide)), nI_clamp (by omega)]
theorem y226_w {ρ : Mm} {τ : Nat → va_E} {σ : Sg} {i : Nat} {v : Int32} (hi : i < 280) : sI (mem ρ τ σ) 226 0 (nI i) v = some (mem ρ τ (stA σ 226 i v)) := by rw [mS_226, if_neg (nI_in hi (by decide)), nI_clamp (by omega)]
theorem y227_r {ρ : Mm} {τ : Nat → va_E} {σ : Sg} {i : Nat} (hi : i < 1) : aI (mem ρ τ σ) 227 0 (nI i) = some (σ.2.1 227 i) := by rw [mA_227, if_neg (nI_in hi (by decide)), nI_clamp (by omega)]
theorem y227_w {ρ : Mm} {τ : Nat → va_E} {σ : Sg} {i : Nat} {v : Int32} (hi : i < 1) : sI (mem ρ τ σ) 227 0 (nI i) v = some (mem ρ τ (stA σ 227 i v)) := by rw [mS_227, if_neg (nI_in hi (by decide)), nI_clamp (by omega)]
theorem y228_r {ρ : Mm} {τ : Nat → va_E} {σ : Sg} {i : Nat} (hi : i < 11) : aI (mem ρ τ σ) 228 0 (nI i) = some (σ.2.1 228 i) := by rw [mA_228, if_neg (nI_in hi (by decide)), nI_clamp (by omega)]
theorem y228_w {ρ : Mm} {τ : Nat → va_E} {σ : Sg} {i : Nat} {v : Int32} (hi : i < 11) : sI (mem ρ τ σ) 228 0 (nI i) v = some (mem ρ τ (stA σ 228 i v)) := by rw [mS_228, if_neg (nI_in hi (by decide)), nI_clamp (by omega)]
theorem y229_r {ρ : Mm} {τ : Nat → va_E} {σ : Sg} {i : Nat} (hi : i < 11) : aI (mem ρ τ σ) 229 0 (nI i) = some (σ.2.1 229 i) := by rw [mA_229, if_neg (nI_in hi (by decide)), nI_clamp (by omega)]
theorem y229_w {ρ : Mm} {τ : Nat → va_E} {σ : Sg} {i : Nat} {v : Int32} (hi : i < 11) : sI (mem ρ τ σ) 229 0 (nI i) v = some (mem ρ τ (stA σ 229 i v)) := by rw [mS_229, if_neg (nI_in hi (by decide)), nI_clamp (by omega)]
theorem y230_r {ρ : Mm} {τ : Nat → va_E} {σ : Sg} {i : Nat} (hi : i < 11) : aI (mem ρ τ σ) 230 0 (nI i) = some (σ.2.1 230 i) := by rw [mA_230, if_neg (nI_in hi (by decide)), nI_clamp (by omega)]
theorem y230_w {ρ : Mm} {τ : Nat → va_E} {σ : Sg} {i : Nat} {v : Int32} (hi : i < 11) : sI (mem ρ τ σ) 230 0 (nI i) v = some (mem ρ τ (stA σ 230 i v)) := by rw [mS_230, if_neg (nI_in hi (by decide)), nI_clamp (by omega)]
theorem y231_r {ρ : Mm} {τ : Nat → va_E} {σ : Sg} {i : Nat} (hi : i < 11) : aI (mem ρ τ σ) 231 0 (nI i) = some (σ.2.1 231 i) := by rw [mA_231, if_neg (nI_in hi (by decide)), nI_clamp (by omega)]
theorem y231_w {ρ : Mm} {τ : Nat → va_E} {σ : Sg} {i : Nat} {v : Int32} (hi : i < 11) : sI (mem ρ τ σ) 231 0 (nI i) v = some (mem ρ τ (stA σ 231 i v)) := by rw [mS_231, if_neg (nI_in hi (by decide)), nI_clamp (by omega)]
theorem y232_r {ρ : Mm} {τ : Nat → va_E} {σ : Sg} {i : Nat} (hi : i < 11) : aI (mem ρ τ σ) 232 0 (nI i) = some (σ.2.1 232 i) := by rw [mA_232, if_neg (nI_in hi (by decide)), nI_clamp (by omega)]
theorem y232_w {ρ : Mm} {τ : Nat → va_E} {σ : Sg} {i : Nat} {v : Int32} (hi : i < 11) : sI (mem ρ τ σ) 232 0 (nI i) v = some (mem ρ τ (stA σ 232 i v)) := by rw [mS_232, if_neg (nI_in hi (by decide)), nI_clamp (by omega)]
theorem y233_r {ρ : Mm} {τ : Nat → va_E} {σ : Sg} {i : Nat} (hi : i < 8) : aI (mem ρ τ σ) 233 0 (nI i) = some (σ.2.1 233 i) := by rw [mA_233, if_neg (nI_in hi (by decide)), nI_clamp (by omega)]
theorem y233_w {ρ : Mm} {τ : Nat → va_E} {σ : Sg} {i : Nat} {v : Int32} (hi : i < 8) : sI (mem ρ τ σ) 233 0 (nI i) v = some (mem ρ τ (stA σ 233 i v)) := by rw [mS_233, if_neg (nI_in hi (by decide)), nI_clamp (by omega)]
theorem y234_r {ρ : Mm} {τ : Nat → va_E} {σ : Sg} {i : Nat} (hi : i < 4) : aI (mem ρ τ σ) 234 0 (nI i) = some (σ.2.1 234 i) := by rw [mA_234, if_neg (nI_in hi (by decide)), nI_clamp (by omega)]
theorem y234_w {ρ : Mm} {τ : Nat → va_E} {σ : Sg} {i : Nat} {v : Int32} (hi : i < 4) : sI (mem ρ τ σ) 234 0 (nI i) v = some (mem ρ τ (stA σ 234 i v)) := by rw [mS_234, if_neg (nI_in hi (by decide)), nI_clamp (by omega)]
theorem y235_r {ρ : Mm} {τ : Nat → va_E} {σ : Sg} {i : Nat} (hi : i < 4) : aI (mem ρ τ σ) 235 0 (nI i) = some (σ.2.1 235 i) := by rw [mA_235, if_neg (nI_in hi (by decide)), nI_clamp (by omega)]
theorem y235_w {ρ : Mm} {τ : Nat → va_E} {σ : Sg} {i : Nat} {v : Int32} (hi : i < 4) : sI (mem ρ τ σ) 235 0 (nI i) v = some (mem ρ τ (stA σ 235 i v)) := by rw [mS_235, if_neg (nI_in hi (by decide)), nI_clamp (by omega)]
theorem y236_r {ρ : Mm} {τ : Nat → va_E} {σ : Sg} {i : Nat} (hi : i < 48) : aI (mem ρ τ σ) 236 2 (nI i) = some (σ.2.1 236 i) := by rw [mA_236, if_neg (nI_in hi (by decide)), nI_clamp (by omega)]
theorem y236_w {ρ : Mm} {τ : Nat → va_E} {σ : Sg} {i : Nat} {v : Int32} (hi : i < 48) : sI (mem ρ τ σ) 236 2 (nI i) v = some (mem ρ τ (stA σ 236 i (narT 2 v))) := by rw [mS_236, if_neg (nI_in hi (by decide)), nI_clamp (by omega)]
theorem y237_r {ρ : Mm} {τ : Nat → va_E} {σ : Sg} {i : Nat} (hi : i < 48) : aL (mem ρ τ σ) 237 3 (nI i) = some (σ.2.2 237 i) := by rw [mL_237, if_neg (nI_in hi (by decide)), nI_clamp (by omega)]
theorem y237_w {ρ : Mm} {τ : Nat → va_E} {σ : Sg} {i : Nat} {v : Int64} (hi : i < 48) : sL (mem ρ τ σ) 237 3 (nI i) v = some (mem ρ τ (stL σ 237 i v)) := by rw [mS_237, if_neg (nI_in hi (by decide)), nI_clamp (by omega)]
theorem y238_r {ρ : Mm} {τ : Nat → va_E} {σ : Sg} {i : Nat} (hi : i < 8) : aI (mem ρ τ σ) 238 0 (nI i) = some (σ.2.1 238 i) := by rw [mA_238, if_neg (nI_in hi (by decide)), nI_clamp (by omega)]
theorem y238_w {ρ : Mm} {τ : Nat → va_E} {σ : Sg} {i : Nat} {v : Int32} (hi : i < 8) : sI (mem ρ τ σ) 238 0 (nI i) v = some (mem ρ τ (stA σ 238 i v)) := by rw [mS_238, if_neg (nI_in hi (by decide)), nI_clamp (by omega)]
theorem y239_r {ρ : Mm} {τ : Nat → va_E} {σ : Sg} {i : Nat} (hi : i < 8) : aI (mem ρ τ σ) 239 0 (nI i) = some (σ.2.1 239 i) := by rw [mA_239, if_neg (nI_in hi (by decide)), nI_clamp (by omega)]
theorem y239_w {ρ : Mm} {τ : Nat → va_E} {σ : Sg} {i : Nat} {v : Int32} (hi : i < 8) : sI (mem ρ τ σ) 239 0 (nI i) v = some (mem ρ τ (stA σ 239 i v)) := by rw [mS_239, if_neg (nI_in hi (by decide)), nI_clamp (by omega)]
theorem y240_r {ρ : Mm} {τ : Nat → va_E} {σ : Sg} {i : Nat} (hi : i < 2300) : aI (mem ρ τ σ) 240 0 (nI i) = some (σ.2.1 240 i) := by rw [mA_240, if_neg (nI_in hi (by decide)), nI_clamp (by omega)]
theorem y240_w {ρ : Mm} {τ : Nat → va_E} {σ : Sg} {i : Nat} {v : Int32} (hi : i < 2300) : sI (mem ρ τ σ) 240 0 (nI i) v = some (mem ρ τ (stA σ 240 i v)) := by rw [mS_240, if_neg (nI_in hi (by decide)), nI_clamp (by omega)]
theorem y241_r {ρ : Mm} {τ : Nat → va_E} {σ : Sg} {i : Nat} (hi : i < 4) : aI (mem ρ τ σ) 241 2 (nI i) = some (σ.2.1 241 i) := by rw [mA_241, if_neg (nI_in hi (by decide)), nI_clamp (by omega)]
theorem y241_w {ρ : Mm} {τ : Nat → va_E} {σ : Sg} {i : Nat} {v : Int32} (hi : i < 4) : sI (mem ρ τ σ) 241 2 (nI i) v = some (mem ρ τ (stA σ 241 i (narT 2 v))) := by rw [mS_241, if_neg (nI_in hi (by decide)), nI_clamp (by omega)]
theorem stI1 (σ : Sg) (k : Nat) (v : Int32) (j : Nat) : (stI σ k v).1 j = if j = k then v else σ.1 j := by
  show va_up σ.1 k v j = _
  by_cases hj : j = k
  · subst hj; rw [va_up_self, if_pos rfl]
  · rw [va_up_ne _ _ hj, if_neg hj]
theorem stI2 (σ : Sg) (k : Nat) (v : Int32) : (stI σ k v).2 = σ.2 := rfl
theorem stA1 (σ : Sg) (r i : Nat) (v : Int32) : (stA σ r i v).1 = σ.1 := rfl
theorem stA2 (σ : Sg) (r i : Nat) (v : Int32) (q j : Nat) : (stA σ r i v).2.1 q j = if q = r ∧ j = i then v else σ.2.1 q j := by
  show va_up σ.2.1 r (upd (σ.2.1 r) i v) q j = _
  by_cases hq : q = r
  · subst hq
    rw [va_up_self]
    by_cases hj : j = i
    · subst hj; rw [pk_us, if_pos ⟨rfl, rfl⟩]
    · rw [pk_un hj, if_neg (fun h => hj h.2)]
  · rw [va_up_ne _ _ hq, if_neg (fun h => hq h.1)]
theorem stA3 (σ : Sg) (r i : Nat) (v : Int32) : (stA σ r i v).2.2 = σ.2.2 := rfl
theorem stL1 (σ : Sg) (r i : Nat) (v : Int64) : (stL σ r i v).1 = σ.1 := rfl
theorem stL2 (σ : Sg) (r i : Nat) (v : Int64) : (stL σ r i v).2.1 = σ.2.1 := rfl
theorem stL3 (σ : Sg) (r i : Nat) (v : Int64) (q j : Nat) : (stL σ r i v).2.2 q j = if q = r ∧ j = i then v else σ.2.2 q j := by
  show va_up σ.2.2 r (vp_updL (σ.2.2 r) i v) q j = _
  by_cases hq : q = r
  · subst hq
    rw [va_up_self]
    by_cases hj : j = i
    · subst hj; rw [pk_uLs, if_pos ⟨rfl, rfl⟩]
    · rw [pk_uLn hj, if_neg (fun h => hj h.2)]
  · rw [va_up_ne _ _ hq, if_neg (fun h => hq h.1)]
