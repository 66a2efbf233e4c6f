/-! The first moment. -/
def cE : va_E := .inr (11, [.ref 129, .ref 131, .ref 147, .ref 153, .ref 160, .int 0, .ref 161, .ref 167, .ref 173, .ref 174, .ref 176, .ref 179, .ref 181, .ref 187])
/-- an empty memory -/
def μF : Mm := (128, 0, fun _ => cE)
theorem Rel.startF {G : GG} {H : Heap} (h : gB G = H.size) : Rel G μF H := ⟨Nat.le_refl _, h.symm, fun k h1 h2 => absurd h2 (Nat.not_lt.mpr h1)⟩
def fA : List Value := [.null, .null, .null, .null, .null, .int 0, .null, .null, .null, .null, .null, .null, .null, .null]
def fB : List Value := [.int 0, .null, .null, .null, .null, .null, .null, .null, .null, .null, .null, .null, .null, .null, .null, .null, .null, .null, .null, .null, .null, .null, .null, .null, .null, .null, .null, .int 0, .int 0, .int 0, .int 0, .int 0, .int 0, .int 0, .int 0, .int 0, .int 0, .int 0, .null, .null, .null, .null, .null, .null, .null, .null, .null, .null, .null, .int 0, .int 0, .int 0, .int 0, .null, .null, .int 0, .int 0, .int 0, .null, .null, .null, .null, .null, .int 0, .int 0, .null, .null, .null, .null, .null, .null, .null, .int 0, .null, .null, .int 0, .int 0]
def stC : Option Mm := f_X11_init (pu μF 14 (.inr (11, fA))) 128
def μC : Mm := match stC with
  | some μ => μ
  | none => μF
theorem stC_s : (match stC with | some μ => Nat.beq μ.1 188 | none => false) = true := by decide +kernel
theorem stC_e : stC = some μC ∧ μC.1 = 188 := by
  have h := stC_s
  unfold μC
  cases hs : stC with
  | none => rw [hs] at h; cases h
  | some μ =>
    rw [hs] at h
    exact ⟨rfl, Nat.eq_of_beq_eq_true h⟩
def stM : Option Mm := f_X12_init (pu μC 77 (.inr (12, fB))) 188
def μS : Mm := match stM with
  | some μ => μ
  | none => μF
theorem stM_s : (match stM with | some μ => Nat.beq μ.1 242 && Nat.ble μ.2.1 20000 | none => false) = true := by decide +kernel
theorem stM_e : stM = some μS ∧ μS.1 = 242 ∧ μS.2.1 ≤ 20000 := by
  have h := stM_s
  unfold μS
  cases hs : stM with
  | none => rw [hs] at h; cases h
  | some μ =>
    rw [hs] at h
    have h : (Nat.beq μ.1 242 && Nat.ble μ.2.1 20000) = true := h
    rw [Bool.and_eq_true] at h
    exact ⟨rfl, Nat.eq_of_beq_eq_true h.1, Nat.le_of_ble_eq_true h.2⟩
/-! what a cell holds -/
def vi (e : va_E) (k : Nat) : Int32 := match e with
  | .inr o => (match o.2[k]? with
    | some (.int x) => x
    | _ => 0)
  | .inl _ => 0
def vl (e : va_E) : Nat → Int64 := match e with
  | .inr o => fun k => (match o.2[k]? with
    | some (.long x) => x
    | _ => 0)
  | .inl (_, _, .inr (.inl f)) => f
  | .inl _ => fun _ => 0
def vr (e : va_E) (k : Nat) : Nat := match e with
  | .inr o => (match o.2[k]? with
    | some (.ref x) => x
    | _ => 0)
  | .inl _ => 0
def va (e : va_E) : Nat → Int32 := match e with
  | .inl (_, _, .inl f) => f
  | _ => fun _ => 0
def vo (e : va_E) : Nat → Option Nat := match e with
  | .inl (_, _, .inr (.inr (.inr (.inr f)))) => f
  | _ => fun _ => none
def tS (μ : Mm) : Tc := (fun r k => vi (μ.2.2 r) k, fun r => va (μ.2.2 r), fun r => vl (μ.2.2 r), fun r k => vr (μ.2.2 r) k, fun r => vo (μ.2.2 r))
def sS0 (μ : Mm) : Sg := (fun k => vi (μ.2.2 188) k, fun r => va (μ.2.2 r), fun r => vl (μ.2.2 r))
def S0 : Nat → Nat × Nat × Nat := fun _ => (2, 0, 0)
def ckC (μ : Mm) (r : Nat) : Bool := match μ.2.2 r with
  | .inr o => decide (ovS S0 r = (0, o.1, 0)) && decide (o.2 = fsT (ovT S0 (tS μ)) o.1 r)
  | .inl (t, m, .inl _) => decide (ovS S0 r = (1, t, m)) && decide (t < 3)
  | .inl (t, m, .inr (.inl _)) => decide (ovS S0 r = (1, t, m)) && decide (t = 3)
  | .inl (t, m, .inr (.inr (.inr (.inr _)))) => decide (ovS S0 r = (1, t, m)) && decide (3 < t)
  | _ => false
theorem ckC_all : (List.range 188).all (ckC μS) = true := by decide +kernel
