/-! THE PURE PART: the desk's numbers and the reference's. First: sets of pieces as numbers under 64 -/
def bitb (x : Int32) (j : Nat) : Bool := decide (¬ x >>> (nI j &&& 31) &&& 1 = 0)
/-- a set of pieces -/
def st64 (x : Int32) : Prop := ∃ n, n < 64 ∧ x = nI n
theorem bits_or : ∀ (n : Fin 64) (k j : Fin 6), bitb (nI n ||| (1 <<< (nI k &&& 31))) j = (bitb (nI n) j || decide (j = k)) := by decide +kernel
theorem bits_or64 : ∀ (n : Fin 64) (k : Fin 6), decide ((nI n ||| (1 <<< (nI k &&& 31))).toInt < 64 ∧ 0 ≤ (nI n ||| (1 <<< (nI k &&& 31))).toInt) = true := by decide +kernel
theorem bits_andn : ∀ (n : Fin 64) (k j : Fin 6), bitb (nI n &&& ((1 <<< (nI k &&& 31)) ^^^ (-1))) j = (bitb (nI n) j && !decide (j = k)) := by decide +kernel
theorem bits_andn64 : ∀ (n : Fin 64) (k : Fin 6), decide ((nI n &&& ((1 <<< (nI k &&& 31)) ^^^ (-1))).toInt < 64 ∧ 0 ≤ (nI n &&& ((1 <<< (nI k &&& 31)) ^^^ (-1))).toInt) = true := by decide +kernel
theorem bits_lor : ∀ (n m : Fin 64) (j : Fin 6), bitb (nI n ||| nI m) j = (bitb (nI n) j || bitb (nI m) j) := by decide +kernel
theorem bits_sub : ∀ (n m : Fin 64), decide (nI n &&& (nI m ^^^ (-1)) = 0) = decide (∀ j : Fin 6, bitb (nI n) j = true → bitb (nI m) j = true) := by decide +kernel
theorem bits_one : ∀ (n : Fin 64) (j : Fin 6), decide (((nI n) >>> (nI j &&& 31)) &&& 1 = 1) = bitb (nI n) j := by decide +kernel
theorem bits_zero : ∀ j : Fin 6, bitb 0 j = false := by decide +kernel
theorem st64_of {x : Int32} (h0 : 0 ≤ x.toInt) (h1 : x.toInt < 64) : st64 x := by
  refine ⟨x.toInt.toNat, by omega, ?_⟩
  apply Int32.toInt_inj.mp
  rw [nI_toInt' (by omega)]
  omega
theorem st64.or {x : Int32} (h : st64 x) {k : Nat} (hk : k < 6) : st64 (x ||| (1 <<< (nI k &&& 31))) := by
  obtain ⟨n, hn, rfl⟩ := h
  have := of_decide_eq_true (bits_or64 ⟨n, hn⟩ ⟨k, hk⟩)
  exact st64_of this.2 this.1
theorem st64.andn {x : Int32} (h : st64 x) {k : Nat} (hk : k < 6) : st64 (x &&& ((1 <<< (nI k &&& 31)) ^^^ (-1))) := by
  obtain ⟨n, hn, rfl⟩ := h
  have := of_decide_eq_true (bits_andn64 ⟨n, hn⟩ ⟨k, hk⟩)
  exact st64_of this.2 this.1
theorem bit_or {x : Int32} (h : st64 x) {k j : Nat} (hk : k < 6) (hj : j < 6) : bitb (x ||| (1 <<< (nI k &&& 31))) j = true ↔ bitb x j = true ∨ j = k := by
  obtain ⟨n, hn, rfl⟩ := h
  have e := bits_or ⟨n, hn⟩ ⟨k, hk⟩ ⟨j, hj⟩
  rw [e, Bool.or_eq_true, decide_eq_true_eq, Fin.mk.injEq]
theorem bit_andn {x : Int32} (h : st64 x) {k j : Nat} (hk : k < 6) (hj : j < 6) : bitb (x &&& ((1 <<< (nI k &&& 31)) ^^^ (-1))) j = true ↔ bitb x j = true ∧ j ≠ k := by
  obtain ⟨n, hn, rfl⟩ := h
  have e := bits_andn ⟨n, hn⟩ ⟨k, hk⟩ ⟨j, hj⟩
  rw [e, Bool.and_eq_true, Bool.not_eq_true', decide_eq_false_iff_not, Fin.mk.injEq]
theorem bit_sub {x y : Int32} (hx : st64 x) (hy : st64 y) : x &&& (y ^^^ (-1)) = 0 ↔ ∀ j, j < 6 → bitb x j = true → bitb y j = true := by
  obtain ⟨n, hn, rfl⟩ := hx
  obtain ⟨m, hm, rfl⟩ := hy
  have e := bits_sub ⟨n, hn⟩ ⟨m, hm⟩
  rw [decide_eq_decide] at e
  exact e.trans ⟨fun h j hj => h ⟨j, hj⟩, fun h j => h j.1 j.2⟩
theorem bit_one {x : Int32} (hx : st64 x) {j : Nat} (hj : j < 6) : (x >>> (nI j &&& 31)) &&& 1 = 1 ↔ bitb x j = true := by
  obtain ⟨n, hn, rfl⟩ := hx
  have e := bits_one ⟨n, hn⟩ ⟨j, hj⟩
  rw [← e, decide_eq_true_eq]
theorem bit_is {x : Int32} {j : Nat} : (¬ x >>> (nI j &&& 31) &&& 1 = 0) ↔ bitb x j = true := by
  unfold bitb
  rw [decide_eq_true_eq]
/-- the reference's count of the bits is the desk's -/
theorem bits_count : ∀ n : Fin 64, fr_J6_bitCount_0f7a4 (fun _ _ => 0) (nI n) = nI ((List.range 6).countP (fun j => bitb (nI n) j)) := by decide +kernel
