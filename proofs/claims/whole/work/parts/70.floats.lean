/-! no share and no mean is a NaN -/
theorem share_n : ∀ (n : Fin 7) (m : Fin 7), m.1 = 0 ∨ (decide (FP.fdiv (FP.i2f (nI n)) (FP.i2f (nI m)) &&& 0x7fffffff ≤ 0x7f800000) && decide (FP.f2d (FP.fdiv (FP.i2f (nI n)) (FP.i2f (nI m))) &&& 0x7fffffffffffffff ≤ 0x7ff0000000000000)) = true := by decide +kernel
theorem share_ok {n m : Nat} (hn : n < 7) (hm : m < 7) (h0 : m ≠ 0) : vf_n32 (FP.fdiv (FP.i2f (nI n)) (FP.i2f (nI m))) ∧ vf_n64 (FP.f2d (FP.fdiv (FP.i2f (nI n)) (FP.i2f (nI m)))) := by
  rcases share_n ⟨n, hn⟩ ⟨m, hm⟩ with h | h
  · exact absurd h h0
  · rw [Bool.and_eq_true, decide_eq_true_eq, decide_eq_true_eq] at h
    exact h
def fgood (n : Nat) : Prop := ∃ s E T, n = (s * 2048 + E) * 4503599627370496 + T ∧ s ≤ 1 ∧ T < 4503599627370496 ∧ (E ≤ 2046 ∨ (E = 2047 ∧ T = 0))
theorem fg_asm (s : Bool) (e k : Nat) : FP.Core.assemble FP.Core.b64 s e k = (s.toNat * 2048 + e) * 4503599627370496 + k := rfl
theorem fg_s (s : Bool) : s.toNat ≤ 1 := by cases s <;> decide
theorem fg_inf (s : Bool) : fgood (FP.Core.encode FP.Core.b64 (.inf s)) := ⟨s.toNat, 2047, 0, rfl, fg_s s, by decide, Or.inr ⟨rfl, rfl⟩⟩
theorem fg_bound (s : Bool) (c : Nat) (q : Int) (hc : c < 9007199254740992) : fgood (FP.Core.encode FP.Core.b64 (FP.Core.bound FP.Core.b64 s c q)) := by
  unfold FP.Core.bound
  by_cases h : q ≤ FP.Core.b64.qmax
  · rw [if_pos h]
    have h1 : q ≤ 971 := h
    show fgood (if c < FP.Core.b64.tails then FP.Core.assemble FP.Core.b64 s 0 c else FP.Core.assemble FP.Core.b64 s ((q - FP.Core.b64.qmin).toNat + 1) (c - FP.Core.b64.tails))
    have h2 : FP.Core.b64.qmin = -1074 := by decide
    have h3 : FP.Core.b64.tails = 4503599627370496 := by decide
    rw [h2, h3]
    by_cases h4 : c < 4503599627370496
    · rw [if_pos h4]
      exact ⟨s.toNat, 0, c, fg_asm _ _ _, fg_s s, h4, Or.inl (by decide)⟩
    · rw [if_neg h4]
      exact ⟨s.toNat, _, _, fg_asm _ _ _, fg_s s, by omega, Or.inl (by omega)⟩
  · rw [if_neg h]
    exact fg_inf s
theorem fg_round (s : Bool) (num den : Nat) (e : Int) : fgood (FP.Core.encode FP.Core.b64 (FP.Core.roundRatio FP.Core.b64 s num den e)) := by
  unfold FP.Core.roundRatio
  by_cases h : num = 0
  · rw [if_pos h]
    exact ⟨s.toNat, 0, 0, rfl, fg_s s, by decide, Or.inl (by decide)⟩
  · rw [if_neg h]
    unfold FP.Core.roundAt FP.Core.settle
    generalize FP.Core.nearest _ _ = c
    by_cases h1 : c < 2 ^ FP.Core.b64.p
    · rw [if_pos h1]
      exact fg_bound s c _ h1
    · rw [if_neg h1]
      exact fg_bound s _ _ (show FP.Core.b64.tails < 9007199254740992 by decide)
theorem fg_lt {n : Nat} (h : fgood n) : n < 18446744073709551616 := by
  obtain ⟨s, E, T, e, h1, h2, h3⟩ := h
  omega
theorem fg_n64 {n : Nat} (h : fgood n) : vf_n64 (UInt64.ofNat n) := by
  have hl := fg_lt h
  obtain ⟨s, E, T, e, h1, h2, h3⟩ := h
  unfold vf_n64
  rw [UInt64.le_iff_toNat_le, UInt64.toNat_and, UInt64.toNat_ofNat', Nat.mod_eq_of_lt hl]
  rw [show (0x7fffffffffffffff : UInt64).toNat = 2 ^ 63 - 1 by decide, Nat.and_two_pow_sub_one_eq_mod, show (0x7ff0000000000000 : UInt64).toNat = 9218868437227405312 by decide]
  omega
theorem fg_notnan {n : Nat} (h : fgood n) : FP.Core.decode FP.Core.b64 n ≠ .nan := by
  obtain ⟨s, E, T, e, h1, h2, h3⟩ := h
  unfold FP.Core.decode
  have eE : FP.Core.fieldE FP.Core.b64 n = E := by
    show n / 4503599627370496 % 2048 = E
    omega
  have eT : FP.Core.fieldT FP.Core.b64 n = T := by
    show n % 4503599627370496 = T
    omega
  rw [eE, eT]
  rcases h3 with h3 | ⟨h3, h4⟩
  · rw [if_neg (show ¬ E = FP.Core.b64.exps - 1 by show ¬ E = 2047; omega)]
    split <;> exact fun z => nomatch z
  · rw [if_pos (show E = FP.Core.b64.exps - 1 from h3), if_pos h4]
    exact fun z => nomatch z
/-- a divisor -/
def fdv (n : Nat) : Bool := match FP.Core.decode FP.Core.b64 (FP.i2d (nI n)).toNat with
  | .fin _ d _ => decide (d ≠ 0)
  | _ => false
theorem fdv_8 : ∀ n : Fin 9, n.1 = 0 ∨ fdv n = true := by decide +kernel
theorem fg_i2d (z : Int32) : fgood (FP.i2d z).toNat := by
  have h : fgood (FP.Core.encode FP.Core.b64 (FP.Core.roundRatio FP.Core.b64 (decide (z.toInt < 0)) z.toInt.natAbs 1 0)) := fg_round _ _ _ _
  have e : (FP.i2d z).toNat = FP.Core.encode FP.Core.b64 (FP.Core.roundRatio FP.Core.b64 (decide (z.toInt < 0)) z.toInt.natAbs 1 0) := by
    show (UInt64.ofNat (FP.Core.encode FP.Core.b64 (FP.Core.roundRatio FP.Core.b64 (decide (z.toInt < 0)) z.toInt.natAbs 1 0))).toNat = _
    rw [UInt64.toNat_ofNat', Nat.mod_eq_of_lt (fg_lt h)]
  rw [e]
  exact h
theorem mean_ok (z : Int32) {n : Nat} (hn : n ≤ 8) (h0 : n ≠ 0) : vf_n64 (FP.ddiv (FP.i2d z) (FP.i2d (nI n))) := by
  have hx := fg_notnan (fg_i2d z)
  have hy : fdv n = true := (fdv_8 ⟨n, by omega⟩).resolve_left h0
  unfold fdv at hy
  show vf_n64 (UInt64.ofNat (FP.Core.encode FP.Core.b64 (FP.Core.quotient FP.Core.b64 (FP.Core.decode FP.Core.b64 (FP.i2d z).toNat) (FP.Core.decode FP.Core.b64 (FP.i2d (nI n)).toNat))))
  refine fg_n64 ?_
  generalize FP.Core.decode FP.Core.b64 (FP.i2d z).toNat = x at hx ⊢
  generalize FP.Core.decode FP.Core.b64 (FP.i2d (nI n)).toNat = y at hy ⊢
  cases y with
  | nan => exact absurd (show false = true from hy) (by decide)
  | inf t => exact absurd (show false = true from hy) (by decide)
  | fin t d r =>
    have hd : d ≠ 0 := of_decide_eq_true hy
    cases x with
    | nan => exact absurd rfl hx
    | inf s => exact fg_inf _
    | fin s c q =>
      show fgood (FP.Core.encode FP.Core.b64 (if d = 0 then (if c = 0 then .nan else .inf (s != t)) else FP.Core.roundRatio FP.Core.b64 (s != t) c d (q - r)))
      rw [if_neg hd]
      exact fg_round _ _ _ _
