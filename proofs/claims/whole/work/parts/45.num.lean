/-! Literals and order as natural numbers; loops by their remaining rounds. -/
def mo : Int32 := -1
def mt : Int32 := -2
theorem mo_e : (-1 : Int32) = mo := rfl
theorem mt_e : (-2 : Int32) = mt := rfl
theorem oin1 : Int32.ofInt 1 = nI 1 := rfl
theorem oinm1 : Int32.ofInt (-1) = mo := rfl
theorem lit_0 : (0 : Int32) = nI 0 := rfl
theorem lit_1 : (1 : Int32) = nI 1 := rfl
theorem lit_2 : (2 : Int32) = nI 2 := rfl
theorem lit_3 : (3 : Int32) = nI 3 := rfl
theorem lit_4 : (4 : Int32) = nI 4 := rfl
theorem lit_5 : (5 : Int32) = nI 5 := rfl
theorem lit_6 : (6 : Int32) = nI 6 := rfl
theorem lit_7 : (7 : Int32) = nI 7 := rfl
theorem lit_8 : (8 : Int32) = nI 8 := rfl
theorem lit_9 : (9 : Int32) = nI 9 := rfl
theorem lit_10 : (10 : Int32) = nI 10 := rfl
theorem lit_11 : (11 : Int32) = nI 11 := rfl
theorem lit_12 : (12 : Int32) = nI 12 := rfl
theorem lit_13 : (13 : Int32) = nI 13 := rfl
theorem lit_14 : (14 : Int32) = nI 14 := rfl
theorem lit_15 : (15 : Int32) = nI 15 := rfl
theorem lit_16 : (16 : Int32) = nI 16 := rfl
theorem lit_17 : (17 : Int32) = nI 17 := rfl
theorem lit_18 : (18 : Int32) = nI 18 := rfl
theorem lit_19 : (19 : Int32) = nI 19 := rfl
theorem lit_20 : (20 : Int32) = nI 20 := rfl
theorem lit_21 : (21 : Int32) = nI 21 := rfl
theorem lit_22 : (22 : Int32) = nI 22 := rfl
theorem lit_23 : (23 : Int32) = nI 23 := rfl
theorem lit_24 : (24 : Int32) = nI 24 := rfl
theorem lit_25 : (25 : Int32) = nI 25 := rfl
theorem lit_26 : (26 : Int32) = nI 26 := rfl
theorem lit_27 : (27 : Int32) = nI 27 := rfl
theorem lit_28 : (28 : Int32) = nI 28 := rfl
theorem lit_29 : (29 : Int32) = nI 29 := rfl
theorem lit_30 : (30 : Int32) = nI 30 := rfl
theorem lit_31 : (31 : Int32) = nI 31 := rfl
theorem lit_32 : (32 : Int32) = nI 32 := rfl
theorem lit_33 : (33 : Int32) = nI 33 := rfl
theorem lit_34 : (34 : Int32) = nI 34 := rfl
theorem lit_35 : (35 : Int32) = nI 35 := rfl
theorem lit_36 : (36 : Int32) = nI 36 := rfl
theorem lit_37 : (37 : Int32) = nI 37 := rfl
theorem lit_38 : (38 : Int32) = nI 38 := rfl
theorem lit_39 : (39 : Int32) = nI 39 := rfl
theorem lit_40 : (40 : Int32) = nI 40 := rfl
theorem lit_41 : (41 : Int32) = nI 41 := rfl
theorem lit_42 : (42 : Int32) = nI 42 := rfl
theorem lit_43 : (43 : Int32) = nI 43 := rfl
theorem lit_44 : (44 : Int32) = nI 44 := rfl
theorem lit_45 : (45 : Int32) = nI 45 := rfl
theorem lit_46 : (46 : Int32) = nI 46 := rfl
theorem lit_47 : (47 : Int32) = nI 47 := rfl
theorem lit_48 : (48 : Int32) = nI 48 := rfl
theorem lit_49 : (49 : Int32) = nI 49 := rfl
theorem lit_50 : (50 : Int32) = nI 50 := rfl
theorem lit_51 : (51 : Int32) = nI 51 := rfl
theorem lit_52 : (52 : Int32) = nI 52 := rfl
theorem lit_53 : (53 : Int32) = nI 53 := rfl
theorem lit_54 : (54 : Int32) = nI 54 := rfl
theorem lit_55 : (55 : Int32) = nI 55 := rfl
theorem lit_56 : (56 : Int32) = nI 56 := rfl
theorem lit_57 : (57 : Int32) = nI 57 := rfl
theorem lit_58 : (58 : Int32) = nI 58 := rfl
theorem lit_59 : (59 : Int32) = nI 59 := rfl
theorem lit_60 : (60 : Int32) = nI 60 := rfl
theorem lit_90 : (90 : Int32) = nI 90 := rfl
theorem lit_91 : (91 : Int32) = nI 91 := rfl
theorem lit_93 : (93 : Int32) = nI 93 := rfl
theorem lit_97 : (97 : Int32) = nI 97 := rfl
theorem lit_98 : (98 : Int32) = nI 98 := rfl
theorem lit_99 : (99 : Int32) = nI 99 := rfl
theorem lit_100 : (100 : Int32) = nI 100 := rfl
theorem lit_101 : (101 : Int32) = nI 101 := rfl
theorem lit_110 : (110 : Int32) = nI 110 := rfl
theorem lit_111 : (111 : Int32) = nI 111 := rfl
theorem lit_122 : (122 : Int32) = nI 122 := rfl
theorem lit_255 : (255 : Int32) = nI 255 := rfl
theorem lit_300 : (300 : Int32) = nI 300 := rfl
theorem lit_400 : (400 : Int32) = nI 400 := rfl
theorem lit_401 : (401 : Int32) = nI 401 := rfl
theorem lit_402 : (402 : Int32) = nI 402 := rfl
theorem lit_460 : (460 : Int32) = nI 460 := rfl
theorem lit_1800 : (1800 : Int32) = nI 1800 := rfl
theorem lit_99999 : (99999 : Int32) = nI 99999 := rfl
theorem lit_100000 : (100000 : Int32) = nI 100000 := rfl
theorem lit_100001 : (100001 : Int32) = nI 100001 := rfl
theorem lit_100002 : (100002 : Int32) = nI 100002 := rfl
theorem lit_100003 : (100003 : Int32) = nI 100003 := rfl
theorem lit_100004 : (100004 : Int32) = nI 100004 := rfl
theorem lit_100005 : (100005 : Int32) = nI 100005 := rfl
theorem lit_100006 : (100006 : Int32) = nI 100006 := rfl
theorem lit_100007 : (100007 : Int32) = nI 100007 := rfl
theorem lit_100008 : (100008 : Int32) = nI 100008 := rfl
theorem lit_100009 : (100009 : Int32) = nI 100009 := rfl
theorem lit_100010 : (100010 : Int32) = nI 100010 := rfl
theorem lit_100011 : (100011 : Int32) = nI 100011 := rfl
theorem lit_100012 : (100012 : Int32) = nI 100012 := rfl
theorem lit_100013 : (100013 : Int32) = nI 100013 := rfl
theorem lit_100014 : (100014 : Int32) = nI 100014 := rfl
theorem lit_100015 : (100015 : Int32) = nI 100015 := rfl
theorem lit_100016 : (100016 : Int32) = nI 100016 := rfl
theorem lit_100017 : (100017 : Int32) = nI 100017 := rfl
theorem lit_100018 : (100018 : Int32) = nI 100018 := rfl
theorem lit_100019 : (100019 : Int32) = nI 100019 := rfl
theorem lit_100020 : (100020 : Int32) = nI 100020 := rfl
theorem lit_100021 : (100021 : Int32) = nI 100021 := rfl
theorem lit_100022 : (100022 : Int32) = nI 100022 := rfl
theorem lit_100023 : (100023 : Int32) = nI 100023 := rfl
theorem lit_100024 : (100024 : Int32) = nI 100024 := rfl
theorem lit_100025 : (100025 : Int32) = nI 100025 := rfl
theorem nI_mo {n : Nat} (hn : n < 2 ^ 31) : (nI n = mo) = False := eq_false (nI_nm1 hn)
theorem oI_mo (o : Option Nat) (h : ∀ n, o = some n → n < 2 ^ 31) : (oI o = mo) = (o = none) := by
  cases o with
  | none => exact propext ⟨fun _ => rfl, fun _ => rfl⟩
  | some n => exact (nI_mo (h n rfl)).trans (eq_false (fun h => by cases h)).symm
theorem nle {a b : Nat} (ha : a < 2 ^ 31) (hb : b < 2 ^ 31) : (nI a ≤ nI b) = (a ≤ b) := propext (nI_leI ha hb)
theorem nlt {a b : Nat} (ha : a < 2 ^ 31) (hb : b < 2 ^ 31) : (nI a < nI b) = (a < b) := propext (nI_ltI ha hb)
theorem neq {a b : Nat} (ha : a < 2 ^ 31) (hb : b < 2 ^ 31) : (nI a = nI b) = (a = b) := propext (nI_eq ha hb)
theorem lpU (Q : Nat → Nat → Prop) (e : Nat) (hx : ∀ m, Q (m + 1) e) (hs : ∀ m i, i < e → Q m (i + 1) → Q (m + 1) i) : ∀ (i m : Nat), i ≤ e → e - i < m → Q m i := by
  intro i m hi hm
  obtain ⟨j, hj⟩ : ∃ j, i + j = e := ⟨e - i, by omega⟩
  induction j generalizing i m with
  | zero =>
    obtain ⟨k, rfl⟩ : ∃ k, m = k + 1 := ⟨m - 1, by omega⟩
    have : i = e := by omega
    subst this
    exact hx k
  | succ j ih =>
    obtain ⟨k, rfl⟩ : ∃ k, m = k + 1 := ⟨m - 1, by omega⟩
    exact hs k i (by omega) (ih (i + 1) k (by omega) (by omega) (by omega))
/-- a loop with a state: an invariant goes on -/
theorem lpS {α : Type} (Q : Nat → Nat → α → Prop) (I : Nat → α → Prop) (e : Nat) (hx : ∀ m s, I e s → Q (m + 1) e s) (hs : ∀ m i s, i < e → I i s → (∀ s', I (i + 1) s' → Q m (i + 1) s') → Q (m + 1) i s) : ∀ (i m : Nat) (s : α), i ≤ e → e - i < m → I i s → Q m i s := by
  intro i m s hi hm h
  obtain ⟨j, hj⟩ : ∃ j, i + j = e := ⟨e - i, by omega⟩
  induction j generalizing i m s with
  | zero =>
    obtain ⟨k, rfl⟩ : ∃ k, m = k + 1 := ⟨m - 1, by omega⟩
    have : i = e := by omega
    subst this
    exact hx k s h
  | succ j ih =>
    obtain ⟨k, rfl⟩ : ∃ k, m = k + 1 := ⟨m - 1, by omega⟩
    exact hs k i s (by omega) h (fun s' h' => ih (i + 1) k s' (by omega) (by omega) h' (by omega))
theorem FUb {n : Nat} (h : n < 1000) : n < FU := by unfold FU; omega
theorem nI_cl (x : Int32) (h : 0 ≤ x) : x = nI x.toNatClampNeg := by
  obtain ⟨j, hj, rfl⟩ := nI_of (x := x) (by rw [i32le] at h; rw [i32lt]; omega)
  rw [nI_clamp hj]
/-- the set of those below k that have p, as bits -/
def mI (p : Nat → Bool) : Nat → Int32
  | 0 => 0
  | k + 1 => if p k then mI p k ||| ((1 : Int32) <<< (nI k &&& 31)) else mI p k
theorem mI_congr {p q : Nat → Bool} {k : Nat} (h : ∀ i, i < k → p i = q i) : mI p k = mI q k := by
  induction k with
  | zero => rfl
  | succ k ih => rw [mI, mI, h k (by omega), ih (fun i hi => h i (by omega))]
