/-! The state of a school as the reference keeps it, and how the class's cells follow it. -/
abbrev Dt : Type := Nat → Nat → Int32
def dlen (r : Nat) : Nat := if r = 0 then 1 else if r = 226 then 280 else if 189 ≤ r ∧ r ≤ 202 then [11, 48, 5, 5, 8, 8, 8, 8, 4, 8, 10, 10, 8, 8].getD (r - 189) 0 else 0
def dof (r : Nat) : Nat := if r = 0 then 0 else if r = 226 then 150 else [1, 12, 60, 65, 70, 78, 86, 94, 102, 106, 114, 124, 134, 142].getD (r - 189) 0
def cur (σ : Sg) : Dt := fun r i => if i < dlen r then (if r = 0 then σ.1 55 else σ.2.1 r i) else 0
def img (σ : Sg) (k : Nat) : Dt := fun r i => if i < dlen r then σ.2.1 240 (460 * k + dof r + i) else 0
def dN (D : Dt) (k : Nat) : Nat := (D 189 k).toNatClampNeg
def dM (D : Dt) : Nat := (D 0 0).toNatClampNeg
def dh (D : Dt) (c : Nat) : Nat := if c < 48 then (D 190 c).toNatClampNeg else 0
def dAt (D : Dt) (q : Nat) : Nat := (D 191 q).toNatClampNeg
def dTh (D : Dt) (t : Nat) : Nat := (D 193 t).toNatClampNeg
def dNe (D : Dt) (k : Nat) : Nat := (D 197 k).toNatClampNeg
abbrev nc (D : Dt) : Nat := dN D 0 * dN D 1
/-- rows of the past; behind the last the present -/
def rwB (D : Dt) (k : Nat) : Int32 := if k < dM D then D 226 (14 * k) else D 189 7
def rwA (D : Dt) (k q : Nat) : Int32 := if k < dM D then D 226 (14 * k + 1 + q) else D 191 q
def rwT (D : Dt) (k t : Nat) : Int32 := if k < dM D then D 226 (14 * k + 6 + t) else D 193 t
/-- a Nat below b -/
def isB (x : Int32) (b : Nat) : Prop := ∃ j, j < b ∧ x = nI j
/-- a sound state, with nr rules -/
def DG (nr : Nat) (D : Dt) : Prop := (D 189 0 = nI (dN D 0)) ∧ (dN D 0 ≤ 8) ∧ (D 189 1 = nI (dN D 1)) ∧ (dN D 1 ≤ 6) ∧ (D 189 2 = nI (dN D 2)) ∧ (dN D 2 ≤ 5) ∧ (D 189 3 = nI (dN D 3)) ∧ (dN D 3 ≤ 8) ∧ (D 189 4 = nI (dN D 4)) ∧ (dN D 4 ≤ 4) ∧ (D 189 5 = nI (dN D 5)) ∧ (dN D 5 ≤ 8) ∧ (D 189 6 = nI (dN D 6)) ∧ (dN D 6 ≤ 10) ∧ (D 189 7 = nI (dN D 7)) ∧ (dN D 7 < 256) ∧ (D 189 8 = nI (dN D 8)) ∧ (dN D 8 ≤ 8) ∧ (D 0 0 = nI (dM D)) ∧ (dM D ≤ 20) ∧ ((dN D 0 = 0 ∧ dN D 1 = 0 ∧ dN D 2 = 0 ∧ dN D 3 = 0 ∧ dN D 4 = 0 ∧ dN D 5 = 0 ∧ dN D 6 = 0) ∨ (2 ≤ dN D 0 ∧ 2 ≤ dN D 1)) ∧ (∀ c, c < 48 → D 190 c = nI (dh D c)) ∧ (∀ c, dh D c ≤ 9) ∧ (∀ k, k ≤ dM D → ∀ q, q < dN D 2 → isB (rwA D k q) (nc D)) ∧ (∀ k, k ≤ dM D → ∀ t, t < dN D 3 → isB (rwT D k t) (nc D)) ∧ (∀ k, k ≤ dM D → isB (rwB D k) 256) ∧ (∀ t, t < dN D 3 → isB (D 196 t) 61) ∧ (∀ k, k < dN D 4 → isB (D 197 k) (nc D)) ∧ (∀ i j, i < dN D 4 → j < dN D 4 → D 197 i = D 197 j → i = j) ∧ (∀ l, l < dN D 5 → isB (D 198 l) 21 ∧ D 198 l ≠ nI 0) ∧ (∀ k, k < dN D 6 → isB (D 199 k) (dN D 5)) ∧ (∀ k, k < dN D 6 → isB (D 200 k) (dN D 5)) ∧ (∀ k, k < dN D 8 → isB (D 201 k) (dN D 3)) ∧ (∀ k, k < dN D 8 → isB (D 202 k) 2) ∧ (0 ≤ D 189 9) ∧ (D 189 10 = -1 ∨ isB (D 189 10) nr)
theorem DG.sC {nr : Nat} {D : Dt} (h : DG nr D) : D 189 0 = nI (dN D 0) := h.1
theorem DG.bC {nr : Nat} {D : Dt} (h : DG nr D) : dN D 0 ≤ 8 := h.2.1
theorem DG.sR {nr : Nat} {D : Dt} (h : DG nr D) : D 189 1 = nI (dN D 1) := h.2.2.1
theorem DG.bR {nr : Nat} {D : Dt} (h : DG nr D) : dN D 1 ≤ 6 := h.2.2.2.1
theorem DG.sP {nr : Nat} {D : Dt} (h : DG nr D) : D 189 2 = nI (dN D 2) := h.2.2.2.2.1
theorem DG.bP {nr : Nat} {D : Dt} (h : DG nr D) : dN D 2 ≤ 5 := h.2.2.2.2.2.1
theorem DG.sT {nr : Nat} {D : Dt} (h : DG nr D) : D 189 3 = nI (dN D 3) := h.2.2.2.2.2.2.1
theorem DG.bT {nr : Nat} {D : Dt} (h : DG nr D) : dN D 3 ≤ 8 := h.2.2.2.2.2.2.2.1
theorem DG.sN {nr : Nat} {D : Dt} (h : DG nr D) : D 189 4 = nI (dN D 4) := h.2.2.2.2.2.2.2.2.1
theorem DG.bN {nr : Nat} {D : Dt} (h : DG nr D) : dN D 4 ≤ 4 := h.2.2.2.2.2.2.2.2.2.1
theorem DG.sL {nr : Nat} {D : Dt} (h : DG nr D) : D 189 5 = nI (dN D 5) := h.2.2.2.2.2.2.2.2.2.2.1
theorem DG.bL {nr : Nat} {D : Dt} (h : DG nr D) : dN D 5 ≤ 8 := h.2.2.2.2.2.2.2.2.2.2.2.1
theorem DG.sA {nr : Nat} {D : Dt} (h : DG nr D) : D 189 6 = nI (dN D 6) := h.2.2.2.2.2.2.2.2.2.2.2.2.1
theorem DG.bA {nr : Nat} {D : Dt} (h : DG nr D) : dN D 6 ≤ 10 := h.2.2.2.2.2.2.2.2.2.2.2.2.2.1
theorem DG.sB {nr : Nat} {D : Dt} (h : DG nr D) : D 189 7 = nI (dN D 7) := h.2.2.2.2.2.2.2.2.2.2.2.2.2.2.1
theorem DG.bB {nr : Nat} {D : Dt} (h : DG nr D) : dN D 7 < 256 := h.2.2.2.2.2.2.2.2.2.2.2.2.2.2.2.1
theorem DG.sK {nr : Nat} {D : Dt} (h : DG nr D) : D 189 8 = nI (dN D 8) := h.2.2.2.2.2.2.2.2.2.2.2.2.2.2.2.2.1
theorem DG.bK {nr : Nat} {D : Dt} (h : DG nr D) : dN D 8 ≤ 8 := h.2.2.2.2.2.2.2.2.2.2.2.2.2.2.2.2.2.1
theorem DG.sM {nr : Nat} {D : Dt} (h : DG nr D) : D 0 0 = nI (dM D) := h.2.2.2.2.2.2.2.2.2.2.2.2.2.2.2.2.2.2.1
theorem DG.bM {nr : Nat} {D : Dt} (h : DG nr D) : dM D ≤ 20 := h.2.2.2.2.2.2.2.2.2.2.2.2.2.2.2.2.2.2.2.1
theorem DG.gr {nr : Nat} {D : Dt} (h : DG nr D) : (dN D 0 = 0 ∧ dN D 1 = 0 ∧ dN D 2 = 0 ∧ dN D 3 = 0 ∧ dN D 4 = 0 ∧ dN D 5 = 0 ∧ dN D 6 = 0) ∨ (2 ≤ dN D 0 ∧ 2 ≤ dN D 1) := h.2.2.2.2.2.2.2.2.2.2.2.2.2.2.2.2.2.2.2.2.1
theorem DG.hh {nr : Nat} {D : Dt} (h : DG nr D) : ∀ c, c < 48 → D 190 c = nI (dh D c) := h.2.2.2.2.2.2.2.2.2.2.2.2.2.2.2.2.2.2.2.2.2.1
theorem DG.h9 {nr : Nat} {D : Dt} (h : DG nr D) : ∀ c, dh D c ≤ 9 := h.2.2.2.2.2.2.2.2.2.2.2.2.2.2.2.2.2.2.2.2.2.2.1
theorem DG.at_ {nr : Nat} {D : Dt} (h : DG nr D) : ∀ k, k ≤ dM D → ∀ q, q < dN D 2 → isB (rwA D k q) (nc D) := h.2.2.2.2.2.2.2.2.2.2.2.2.2.2.2.2.2.2.2.2.2.2.2.1
theorem DG.th {nr : Nat} {D : Dt} (h : DG nr D) : ∀ k, k ≤ dM D → ∀ t, t < dN D 3 → isB (rwT D k t) (nc D) := h.2.2.2.2.2.2.2.2.2.2.2.2.2.2.2.2.2.2.2.2.2.2.2.2.1
theorem DG.br {nr : Nat} {D : Dt} (h : DG nr D) : ∀ k, k ≤ dM D → isB (rwB D k) 256 := h.2.2.2.2.2.2.2.2.2.2.2.2.2.2.2.2.2.2.2.2.2.2.2.2.2.1
theorem DG.wo {nr : Nat} {D : Dt} (h : DG nr D) : ∀ t, t < dN D 3 → isB (D 196 t) 61 := h.2.2.2.2.2.2.2.2.2.2.2.2.2.2.2.2.2.2.2.2.2.2.2.2.2.2.1
theorem DG.ne {nr : Nat} {D : Dt} (h : DG nr D) : ∀ k, k < dN D 4 → isB (D 197 k) (nc D) := h.2.2.2.2.2.2.2.2.2.2.2.2.2.2.2.2.2.2.2.2.2.2.2.2.2.2.2.1
theorem DG.nd {nr : Nat} {D : Dt} (h : DG nr D) : ∀ i j, i < dN D 4 → j < dN D 4 → D 197 i = D 197 j → i = j := h.2.2.2.2.2.2.2.2.2.2.2.2.2.2.2.2.2.2.2.2.2.2.2.2.2.2.2.2.1
theorem DG.ho {nr : Nat} {D : Dt} (h : DG nr D) : ∀ l, l < dN D 5 → isB (D 198 l) 21 ∧ D 198 l ≠ nI 0 := h.2.2.2.2.2.2.2.2.2.2.2.2.2.2.2.2.2.2.2.2.2.2.2.2.2.2.2.2.2.1
theorem DG.al {nr : Nat} {D : Dt} (h : DG nr D) : ∀ k, k < dN D 6 → isB (D 199 k) (dN D 5) := h.2.2.2.2.2.2.2.2.2.2.2.2.2.2.2.2.2.2.2.2.2.2.2.2.2.2.2.2.2.2.1
theorem DG.as_ {nr : Nat} {D : Dt} (h : DG nr D) : ∀ k, k < dN D 6 → isB (D 200 k) (dN D 5) := h.2.2.2.2.2.2.2.2.2.2.2.2.2.2.2.2.2.2.2.2.2.2.2.2.2.2.2.2.2.2.2.1
theorem DG.ct {nr : Nat} {D : Dt} (h : DG nr D) : ∀ k, k < dN D 8 → isB (D 201 k) (dN D 3) := h.2.2.2.2.2.2.2.2.2.2.2.2.2.2.2.2.2.2.2.2.2.2.2.2.2.2.2.2.2.2.2.2.1
theorem DG.cb {nr : Nat} {D : Dt} (h : DG nr D) : ∀ k, k < dN D 8 → isB (D 202 k) 2 := h.2.2.2.2.2.2.2.2.2.2.2.2.2.2.2.2.2.2.2.2.2.2.2.2.2.2.2.2.2.2.2.2.2.1
theorem DG.dx {nr : Nat} {D : Dt} (h : DG nr D) : 0 ≤ D 189 9 := h.2.2.2.2.2.2.2.2.2.2.2.2.2.2.2.2.2.2.2.2.2.2.2.2.2.2.2.2.2.2.2.2.2.2.1
theorem DG.fo {nr : Nat} {D : Dt} (h : DG nr D) : D 189 10 = -1 ∨ isB (D 189 10) nr := h.2.2.2.2.2.2.2.2.2.2.2.2.2.2.2.2.2.2.2.2.2.2.2.2.2.2.2.2.2.2.2.2.2.2.2
/-! lessons: what each one's beginning is, the least that can be next, all of them laid -/
def stOf (la so : Nat → Nat) (E : Nat → Option Nat) (l : Nat) : Nat → Option Nat
  | 0 => some 0
  | k + 1 => if la k = l then (match stOf la so E l k, E (so k) with
    | some a, some b => some (max a b)
    | _, _ => none) else stOf la so E l k
def lnx (A : Nat) (la so : Nat → Nat) (E : Nat → Option Nat) : Nat → Option Nat
  | 0 => none
  | l + 1 => match lnx A la so E l with
    | some x => some x
    | none => if E l = none ∧ stOf la so E l A ≠ none then some l else none
def lst (L A : Nat) (la so ho : Nat → Nat) (s : (Nat → Option Nat) × (Nat → Nat) × Nat) : (Nat → Option Nat) × (Nat → Nat) × Nat := match lnx A la so s.1 L with
  | none => s
  | some l => (fun x => if x = l then some ((stOf la so s.1 l A).getD 0 + ho l) else s.1 x, fun x => if x = s.2.2 then l else s.2.1 x, s.2.2 + 1)
def lsK (L A : Nat) (la so ho : Nat → Nat) : Nat → (Nat → Option Nat) × (Nat → Nat) × Nat
  | 0 => (fun _ => none, fun _ => 0, 0)
  | k + 1 => lst L A la so ho (lsK L A la so ho k)
def les (D : Dt) : (Nat → Option Nat) × (Nat → Nat) × Nat := lsK (dN D 5) (dN D 6) (fun i => (D 199 i).toNatClampNeg) (fun i => (D 200 i).toNatClampNeg) (fun i => (D 198 i).toNatClampNeg) (dN D 5)
/-- nets as bits -/
def nbL (f : Nat → Int32) : Nat → Int64
  | 0 => 0
  | k + 1 => nbL f k ||| ((1 : Int64) <<< ((f k).toInt64 &&& 63))
/-- clues of a kind as bits -/
def cmK (D : Dt) (b : Int32) : Nat → Int32
  | 0 => 0
  | k + 1 => if D 202 k = b then cmK D b k ||| ((1 : Int32) <<< (D 201 k &&& 31)) else cmK D b k
/-- the class holds the ground of D -/
def GR (n : Nat) (S : Nat → Nat × Nat × Nat) (T : Tc) (g : Nat) (D : Dt) : Prop := (GV n S g) ∧ (CG T g (dN D 0) (dN D 1) (dh D)) ∧ (CL T g (dN D 0) (dN D 1) (dh D)) ∧ (T.1 g 6 = D 189 2) ∧ (∀ q, q < dN D 2 → T.2.1 (g + 4) q = D 192 q) ∧ (T.1 g 9 = D 189 3) ∧ (∀ t, t < dN D 3 → T.2.1 (g + 6) t = D 194 t) ∧ (∀ t, t < dN D 3 → T.2.1 (g + 7) t = D 195 t) ∧ (∀ t, t < dN D 3 → T.2.1 (g + 8) t = D 196 t) ∧ (T.2.2.1 g 5 = nbL (D 197) (dN D 4)) ∧ (T.1 (g + 9) 0 = D 189 5) ∧ (T.1 (g + 9) 2 = D 189 6) ∧ (∀ l, l < dN D 5 → T.2.1 (g + 13) l = oI ((les D).1 l)) ∧ (T.1 (g + 9) 7 = nI (les D).2.2) ∧ (∀ k, k < (les D).2.2 → T.2.1 (g + 14) k = nI ((les D).2.1 k))
theorem GR.gv {n : Nat} {S : Nat → Nat × Nat × Nat} {T : Tc} {g : Nat} {D : Dt} (h : GR n S T g D) : GV n S g := h.1
theorem GR.cg {n : Nat} {S : Nat → Nat × Nat × Nat} {T : Tc} {g : Nat} {D : Dt} (h : GR n S T g D) : CG T g (dN D 0) (dN D 1) (dh D) := h.2.1
theorem GR.cl {n : Nat} {S : Nat → Nat × Nat × Nat} {T : Tc} {g : Nat} {D : Dt} (h : GR n S T g D) : CL T g (dN D 0) (dN D 1) (dh D) := h.2.2.1
theorem GR.pe {n : Nat} {S : Nat → Nat × Nat × Nat} {T : Tc} {g : Nat} {D : Dt} (h : GR n S T g D) : T.1 g 6 = D 189 2 := h.2.2.2.1
theorem GR.so {n : Nat} {S : Nat → Nat × Nat × Nat} {T : Tc} {g : Nat} {D : Dt} (h : GR n S T g D) : ∀ q, q < dN D 2 → T.2.1 (g + 4) q = D 192 q := h.2.2.2.2.1
theorem GR.th {n : Nat} {S : Nat → Nat × Nat × Nat} {T : Tc} {g : Nat} {D : Dt} (h : GR n S T g D) : T.1 g 9 = D 189 3 := h.2.2.2.2.2.1
theorem GR.ow {n : Nat} {S : Nat → Nat × Nat × Nat} {T : Tc} {g : Nat} {D : Dt} (h : GR n S T g D) : ∀ t, t < dN D 3 → T.2.1 (g + 6) t = D 194 t := h.2.2.2.2.2.2.1
theorem GR.ha {n : Nat} {S : Nat → Nat × Nat × Nat} {T : Tc} {g : Nat} {D : Dt} (h : GR n S T g D) : ∀ t, t < dN D 3 → T.2.1 (g + 7) t = D 195 t := h.2.2.2.2.2.2.2.1
theorem GR.wo {n : Nat} {S : Nat → Nat × Nat × Nat} {T : Tc} {g : Nat} {D : Dt} (h : GR n S T g D) : ∀ t, t < dN D 3 → T.2.1 (g + 8) t = D 196 t := h.2.2.2.2.2.2.2.2.1
theorem GR.ne {n : Nat} {S : Nat → Nat × Nat × Nat} {T : Tc} {g : Nat} {D : Dt} (h : GR n S T g D) : T.2.2.1 g 5 = nbL (D 197) (dN D 4) := h.2.2.2.2.2.2.2.2.2.1
theorem GR.to {n : Nat} {S : Nat → Nat × Nat × Nat} {T : Tc} {g : Nat} {D : Dt} (h : GR n S T g D) : T.1 (g + 9) 0 = D 189 5 := h.2.2.2.2.2.2.2.2.2.2.1
theorem GR.af {n : Nat} {S : Nat → Nat × Nat × Nat} {T : Tc} {g : Nat} {D : Dt} (h : GR n S T g D) : T.1 (g + 9) 2 = D 189 6 := h.2.2.2.2.2.2.2.2.2.2.2.1
theorem GR.en {n : Nat} {S : Nat → Nat × Nat × Nat} {T : Tc} {g : Nat} {D : Dt} (h : GR n S T g D) : ∀ l, l < dN D 5 → T.2.1 (g + 13) l = oI ((les D).1 l) := h.2.2.2.2.2.2.2.2.2.2.2.2.1
theorem GR.rl {n : Nat} {S : Nat → Nat × Nat × Nat} {T : Tc} {g : Nat} {D : Dt} (h : GR n S T g D) : T.1 (g + 9) 7 = nI (les D).2.2 := h.2.2.2.2.2.2.2.2.2.2.2.2.2.1
theorem GR.rw_ {n : Nat} {S : Nat → Nat × Nat × Nat} {T : Tc} {g : Nat} {D : Dt} (h : GR n S T g D) : ∀ k, k < (les D).2.2 → T.2.1 (g + 14) k = nI ((les D).2.1 k) := h.2.2.2.2.2.2.2.2.2.2.2.2.2.2
/-- act k took one from row k to row k + 1 -/
def actR (D : Dt) (k : Nat) (mv cell : Int32) : Prop := (∃ q, q < dN D 2 ∧ mv = nI q ∧ (∀ p, p < dN D 2 → rwA D k p = if p = q then cell else rwA D (k + 1) p) ∧ ∀ t, t < dN D 3 → rwT D k t = rwT D (k + 1) t) ∨ (∃ t, t < dN D 3 ∧ mv = nI (5 + t) ∧ (∀ p, p < dN D 3 → rwT D k p = if p = t then cell else rwT D (k + 1) p) ∧ ∀ q, q < dN D 2 → rwA D k q = rwA D (k + 1) q)
/-- the class's school a holds D -/
def SR (n : Nat) (S : Nat → Nat × Nat × Nat) (T : Tc) (a : Nat) (D : Dt) : Prop := (SV n S a) ∧ (GR n S T (T.2.2.2.1 a 0) D) ∧ (T.1 a 1 = D 189 10) ∧ (T.1 a 2 = D 189 9) ∧ (T.1 a 3 = D 189 7) ∧ (∀ q, q < dN D 2 → T.2.1 (a + 1) q = D 191 q) ∧ (∀ t, t < dN D 3 → T.2.1 (a + 2) t = D 193 t) ∧ (T.1 a 6 = D 189 8) ∧ (T.1 a 7 = cmK D 1 (dN D 8)) ∧ (T.1 a 8 = cmK D 0 (dN D 8)) ∧ (T.1 a 9 = D 0 0) ∧ (∀ k, k < dM D → T.2.1 (a + 5) k = rwB D k) ∧ (∀ k, k < dM D → actR D k (T.2.1 (a + 3) k) (T.2.1 (a + 4) k))
theorem SR.sv {n : Nat} {S : Nat → Nat × Nat × Nat} {T : Tc} {a : Nat} {D : Dt} (h : SR n S T a D) : SV n S a := h.1
theorem SR.la {n : Nat} {S : Nat → Nat × Nat × Nat} {T : Tc} {a : Nat} {D : Dt} (h : SR n S T a D) : GR n S T (T.2.2.2.1 a 0) D := h.2.1
theorem SR.fo {n : Nat} {S : Nat → Nat × Nat × Nat} {T : Tc} {a : Nat} {D : Dt} (h : SR n S T a D) : T.1 a 1 = D 189 10 := h.2.2.1
theorem SR.xx {n : Nat} {S : Nat → Nat × Nat × Nat} {T : Tc} {a : Nat} {D : Dt} (h : SR n S T a D) : T.1 a 2 = D 189 9 := h.2.2.2.1
theorem SR.br {n : Nat} {S : Nat → Nat × Nat × Nat} {T : Tc} {a : Nat} {D : Dt} (h : SR n S T a D) : T.1 a 3 = D 189 7 := h.2.2.2.2.1
theorem SR.pc {n : Nat} {S : Nat → Nat × Nat × Nat} {T : Tc} {a : Nat} {D : Dt} (h : SR n S T a D) : ∀ q, q < dN D 2 → T.2.1 (a + 1) q = D 191 q := h.2.2.2.2.2.1
theorem SR.tc {n : Nat} {S : Nat → Nat × Nat × Nat} {T : Tc} {a : Nat} {D : Dt} (h : SR n S T a D) : ∀ t, t < dN D 3 → T.2.1 (a + 2) t = D 193 t := h.2.2.2.2.2.2.1
theorem SR.ck {n : Nat} {S : Nat → Nat × Nat × Nat} {T : Tc} {a : Nat} {D : Dt} (h : SR n S T a D) : T.1 a 6 = D 189 8 := h.2.2.2.2.2.2.2.1
theorem SR.cb {n : Nat} {S : Nat → Nat × Nat × Nat} {T : Tc} {a : Nat} {D : Dt} (h : SR n S T a D) : T.1 a 7 = cmK D 1 (dN D 8) := h.2.2.2.2.2.2.2.2.1
theorem SR.cw {n : Nat} {S : Nat → Nat × Nat × Nat} {T : Tc} {a : Nat} {D : Dt} (h : SR n S T a D) : T.1 a 8 = cmK D 0 (dN D 8) := h.2.2.2.2.2.2.2.2.2.1
theorem SR.ac {n : Nat} {S : Nat → Nat × Nat × Nat} {T : Tc} {a : Nat} {D : Dt} (h : SR n S T a D) : T.1 a 9 = D 0 0 := h.2.2.2.2.2.2.2.2.2.2.1
theorem SR.hb {n : Nat} {S : Nat → Nat × Nat × Nat} {T : Tc} {a : Nat} {D : Dt} (h : SR n S T a D) : ∀ k, k < dM D → T.2.1 (a + 5) k = rwB D k := h.2.2.2.2.2.2.2.2.2.2.2.1
theorem SR.hm {n : Nat} {S : Nat → Nat × Nat × Nat} {T : Tc} {a : Nat} {D : Dt} (h : SR n S T a D) : ∀ k, k < dM D → actR D k (T.2.1 (a + 3) k) (T.2.1 (a + 4) k) := h.2.2.2.2.2.2.2.2.2.2.2.2
/-- a rule of the class's and the reference's r-th: code by code -/
def cod (s v : Int32) : Int32 := if s = 0 then v else if s = 1 then v + 100000 else if s = 2 then 100015 else if s = 3 then 100016 else if s = 4 then 100020 else if s = 5 then 100021 else if s = 6 then 100022 else if s = 7 then 100023 else if s = 8 then 100024 else if s = 9 then 100012 else if s = 10 then 100013 else if s = 11 then 100014 else if s = 13 then 100017 else if s = 14 then 100018 else 100019
/-- what two come to -/
def bth (s : Int32) (a b : Int64) : Int64 := if s = 2 then a + b else if s = 3 then a - b else if s = 13 then a * b else if s = 14 then (if b = 0 then 0 else a / b) else if s = 15 then (if b = 0 then 0 else a - a / b * b) else if s = 4 then (if a < b then 1 else 0) else if s = 5 then (if a ≤ b then 1 else 0) else if s = 6 then (if a = b then 1 else 0) else if s = 7 then (if b ≤ a then 1 else 0) else if s = 8 then (if b < a then 1 else 0) else if s = 10 then a &&& b else a ||| b
def ev1 (s v : Int32) (w : Nat → Int64) (st : List Int64) : Option (List Int64) := if s = 0 ∨ s = 1 then (if st.length < 31 then some ((if s = 0 then v.toInt64 else w v.toNatClampNeg) :: st) else none) else if s = 9 then (match st with
  | [] => none
  | a :: r => some ((1 - a) :: r)) else (match st with
  | b :: a :: r => some (bth s a b :: r)
  | _ => none)
/-- what entries from i on make of a stack -/
def evl (so nu : Nat → Int32) (w : Nat → Int64) : Nat → Nat → List Int64 → Option (List Int64)
  | _, 0, st => some st
  | i, k + 1, st => (ev1 (so i) (nu i) w st).bind (evl so nu w (i + 1) k)
def entOk (s v : Int32) : Prop := (s = 0 ∧ isB v 100000) ∨ (s = 1 ∧ isB v 12) ∨ (∃ j, 2 ≤ j ∧ j < 16 ∧ j ≠ 12 ∧ s = nI j)
/-- the class's rule a is the reference's r-th -/
def RR (n : Nat) (S : Nat → Nat × Nat × Nat) (T : Tc) (a : Nat) (σ : Sg) (r l m : Nat) : Prop := (RV n S a l m) ∧ (l ≤ 300) ∧ (m ≤ 12) ∧ (T.1 a 1 = nI m) ∧ (σ.2.1 218 r = nI m) ∧ (∀ i, i < l → T.2.1 (a + 2) i = cod (σ.2.1 216 (300 * r + i)) (σ.2.1 217 (300 * r + i)) ∧ entOk (σ.2.1 216 (300 * r + i)) (σ.2.1 217 (300 * r + i))) ∧ (∀ c, c < m → (T.2.1 (a + 3) c = nI 0 ∧ σ.2.1 223 (12 * r + c) = nI 1) ∨ (T.2.1 (a + 3) c = nI 1 ∧ σ.2.1 223 (12 * r + c) = nI 0)) ∧ (∀ c, c < m → ∃ x y z, x ≤ y ∧ y ≤ z ∧ z ≤ l ∧ T.2.1 (a + 4) c = nI x ∧ σ.2.1 219 (12 * r + c) = nI x ∧ T.2.1 (a + 5) c = nI y ∧ σ.2.1 220 (12 * r + c) = nI y ∧ T.2.1 (a + 6) c = nI z ∧ σ.2.1 221 (12 * r + c) = nI z ∧ (T.2.1 (a + 3) c = nI 1 → ∀ w, ∃ v, evl (fun i => σ.2.1 216 (300 * r + i)) (fun i => σ.2.1 217 (300 * r + i)) w x (y - x) [] = some [v]) ∧ (y < z → ∀ w, ∃ v, (v = 0 ∨ v = 1) ∧ evl (fun i => σ.2.1 216 (300 * r + i)) (fun i => σ.2.1 217 (300 * r + i)) w y (z - y) [] = some [v]) ∧ (T.2.1 (a + 3) c = nI 0 → y < z)) ∧ (T.1 a 6 = if (∃ c, c < m ∧ T.2.1 (a + 3) c = nI 0) then nI 1 else nI 0) ∧ (T.1 a 7 = if (∃ c, c < m ∧ T.2.1 (a + 3) c = nI 1) then nI 1 else nI 0)
theorem RR.rv {n : Nat} {S : Nat → Nat × Nat × Nat} {T : Tc} {a : Nat} {σ : Sg} {r l m : Nat} (h : RR n S T a σ r l m) : RV n S a l m := h.1
theorem RR.l3 {n : Nat} {S : Nat → Nat × Nat × Nat} {T : Tc} {a : Nat} {σ : Sg} {r l m : Nat} (h : RR n S T a σ r l m) : l ≤ 300 := h.2.1
theorem RR.m1 {n : Nat} {S : Nat → Nat × Nat × Nat} {T : Tc} {a : Nat} {σ : Sg} {r l m : Nat} (h : RR n S T a σ r l m) : m ≤ 12 := h.2.2.1
theorem RR.cl {n : Nat} {S : Nat → Nat × Nat × Nat} {T : Tc} {a : Nat} {σ : Sg} {r l m : Nat} (h : RR n S T a σ r l m) : T.1 a 1 = nI m := h.2.2.2.1
theorem RR.cs {n : Nat} {S : Nat → Nat × Nat × Nat} {T : Tc} {a : Nat} {σ : Sg} {r l m : Nat} (h : RR n S T a σ r l m) : σ.2.1 218 r = nI m := h.2.2.2.2.1
theorem RR.co {n : Nat} {S : Nat → Nat × Nat × Nat} {T : Tc} {a : Nat} {σ : Sg} {r l m : Nat} (h : RR n S T a σ r l m) : ∀ i, i < l → T.2.1 (a + 2) i = cod (σ.2.1 216 (300 * r + i)) (σ.2.1 217 (300 * r + i)) ∧ entOk (σ.2.1 216 (300 * r + i)) (σ.2.1 217 (300 * r + i)) := h.2.2.2.2.2.1
theorem RR.ki {n : Nat} {S : Nat → Nat × Nat × Nat} {T : Tc} {a : Nat} {σ : Sg} {r l m : Nat} (h : RR n S T a σ r l m) : ∀ c, c < m → (T.2.1 (a + 3) c = nI 0 ∧ σ.2.1 223 (12 * r + c) = nI 1) ∨ (T.2.1 (a + 3) c = nI 1 ∧ σ.2.1 223 (12 * r + c) = nI 0) := h.2.2.2.2.2.2.1
theorem RR.pl {n : Nat} {S : Nat → Nat × Nat × Nat} {T : Tc} {a : Nat} {σ : Sg} {r l m : Nat} (h : RR n S T a σ r l m) : ∀ c, c < m → ∃ x y z, x ≤ y ∧ y ≤ z ∧ z ≤ l ∧ T.2.1 (a + 4) c = nI x ∧ σ.2.1 219 (12 * r + c) = nI x ∧ T.2.1 (a + 5) c = nI y ∧ σ.2.1 220 (12 * r + c) = nI y ∧ T.2.1 (a + 6) c = nI z ∧ σ.2.1 221 (12 * r + c) = nI z ∧ (T.2.1 (a + 3) c = nI 1 → ∀ w, ∃ v, evl (fun i => σ.2.1 216 (300 * r + i)) (fun i => σ.2.1 217 (300 * r + i)) w x (y - x) [] = some [v]) ∧ (y < z → ∀ w, ∃ v, (v = 0 ∨ v = 1) ∧ evl (fun i => σ.2.1 216 (300 * r + i)) (fun i => σ.2.1 217 (300 * r + i)) w y (z - y) [] = some [v]) ∧ (T.2.1 (a + 3) c = nI 0 → y < z) := h.2.2.2.2.2.2.2.1
theorem RR.tb {n : Nat} {S : Nat → Nat × Nat × Nat} {T : Tc} {a : Nat} {σ : Sg} {r l m : Nat} (h : RR n S T a σ r l m) : T.1 a 6 = if (∃ c, c < m ∧ T.2.1 (a + 3) c = nI 0) then nI 1 else nI 0 := h.2.2.2.2.2.2.2.2.1
theorem RR.tm {n : Nat} {S : Nat → Nat × Nat × Nat} {T : Tc} {a : Nat} {σ : Sg} {r l m : Nat} (h : RR n S T a σ r l m) : T.1 a 7 = if (∃ c, c < m ∧ T.2.1 (a + 3) c = nI 1) then nI 1 else nI 0 := h.2.2.2.2.2.2.2.2.2
