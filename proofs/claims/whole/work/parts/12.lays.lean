/-! cells by a number that is not written: the points, the pieces, the towns, the three rigs -/
theorem ix_lt {x : Int32} {n : Nat} (h : vp_in x n) : ix x < n := Nat.not_le.mp fun q => h (Or.inr q)
abbrev slPt : List Nat := [0, 0]
abbrev slPc : List Nat := [0, 0, 0, 0, 0, 0, 0, 0, 0]
abbrev slTn : List Nat := [0, 0, 0, 0, 0, 0, 0, 0]
theorem lt_pt {j : Nat} (h : j < 8) : 23 + j < 68 := by omega
theorem lt_pc {j : Nat} (h : j < 6) : 31 + j < 68 := by omega
theorem lt_tn {j : Nat} (h : j < 4) : 37 + j < 68 := by omega
theorem lay_pt {j : Nat} (h : j < 8) : lay (23 + j) = .inl (3, slPt) := by
  match j, h with
  | 0, _ => rfl
  | 1, _ => rfl
  | 2, _ => rfl
  | 3, _ => rfl
  | 4, _ => rfl
  | 5, _ => rfl
  | 6, _ => rfl
  | 7, _ => rfl
  | k + 8, h => exact absurd h (by omega)
theorem lay_pc {j : Nat} (h : j < 6) : lay (31 + j) = .inl (2, slPc) := by
  match j, h with
  | 0, _ => rfl
  | 1, _ => rfl
  | 2, _ => rfl
  | 3, _ => rfl
  | 4, _ => rfl
  | 5, _ => rfl
  | k + 6, h => exact absurd h (by omega)
theorem lay_tn {j : Nat} (h : j < 4) : lay (37 + j) = .inl (5, slTn) := by
  match j, h with
  | 0, _ => rfl
  | 1, _ => rfl
  | 2, _ => rfl
  | 3, _ => rfl
  | k + 4, h => exact absurd h (by omega)
def isR (r : Nat) : Prop := r = 5 ∨ r = 11 ∨ r = 17
theorem isR5 : isR 5 := Or.inl rfl
theorem isR11 : isR 11 := Or.inr (Or.inl rfl)
theorem isR17 : isR 17 := Or.inr (Or.inr rfl)
theorem lt_rg {r : Nat} (h : isR r) : r < 68 := by rcases h with rfl | rfl | rfl <;> decide
theorem lt_ra {r k : Nat} (h : isR r) (hk : k < 6) : r + k < 68 := by rcases h with rfl | rfl | rfl <;> omega
theorem lay_rg {r : Nat} (h : isR r) : lay r = .inl (4, [r + 3, r + 4, r + 5, r + 6, r + 7, 0, 0, 0]) := by rcases h with rfl | rfl | rfl <;> rfl
theorem lay_r1 {r : Nat} (h : isR r) : lay (r + 1) = .inr (0, 6, 0) := by rcases h with rfl | rfl | rfl <;> rfl
theorem lay_r2 {r : Nat} (h : isR r) : lay (r + 2) = .inr (0, 6, 0) := by rcases h with rfl | rfl | rfl <;> rfl
theorem lay_r3 {r : Nat} (h : isR r) : lay (r + 3) = .inr (0, 6, 0) := by rcases h with rfl | rfl | rfl <;> rfl
theorem lay_r4 {r : Nat} (h : isR r) : lay (r + 4) = .inr (0, 6, 0) := by rcases h with rfl | rfl | rfl <;> rfl
theorem lay_r5 {r : Nat} (h : isR r) : lay (r + 5) = .inr (0, 8, 0) := by rcases h with rfl | rfl | rfl <;> rfl
theorem nI_add1 (n : Nat) : nI n + Int32.ofInt 1 = nI (n + 1) := nI_1 n
theorem nI_toInt' {n : Nat} (h : n < 1000) : (nI n).toInt = n := nI_toInt (by omega)
theorem nI_lt_iff {a b : Nat} (ha : a < 1000) (hb : b < 1000) : nI a < nI b ↔ a < b := by
  rw [Int32.lt_iff_toInt_lt, nI_toInt' ha, nI_toInt' hb]; omega
theorem nI_eq_iff {a b : Nat} (ha : a < 1000) (hb : b < 1000) : nI a = nI b ↔ a = b := by
  rw [← Int32.toInt_inj, nI_toInt' ha, nI_toInt' hb]; omega
theorem nI_nn {a : Nat} (ha : a < 1000) : ¬ nI a < 0 := by
  rw [Int32.lt_iff_toInt_lt, nI_toInt' ha]
  show ¬ ((a : Int) < 0)
  omega
theorem nI_z : nI 0 = 0 := rfl
theorem b2i_nar {P : Prop} [Decidable P] : narrow .boolean (.int (b2i P)) = .int (b2i P) := by
  unfold b2i
  split <;> rfl
theorem b2i_t {P : Prop} [Decidable P] (h : P) : 1 = b2i P := by rw [b2i, if_pos h]
theorem b2i_f {P : Prop} [Decidable P] (h : ¬ P) : 0 = b2i P := by rw [b2i, if_neg h]
section VM
variable {X : Cx} {cc : ByteArray} {own : String} {a b nL rk mc ms : Nat} {sg : Sg} {o : Ot} {lo : List (Nat × Value)} {pc pc1 : Nat} {st : List Value}
theorem v_mmax (C : CF X cc own nL rk mc ms) {idx : Nat} (k : KS own idx yJ9_max_7cf53 cJ9_max_7cf53 2 (some .int) 2) (hr : 1 ≤ rk) (hcat : (st.map fun v => v.category).sum ≤ 8) (ha : a ≤ mc) (hb : b ≤ ms) {x y : Int32} (d : decode cc pc = .ok (.invokestatic idx, 3)) (hp : pc + 3 = pc1) (kk : V X a b nL sg o lo pc1 (.int (if x < y then y else x) :: st)) : V X a b nL sg o lo pc (.int y :: .int x :: st) := by
  subst hp
  intro H locs ls hP hS hl
  obtain ⟨cx, cb, cm, co, ct, cK, cG, cA, ⟨r1, r2, r3, r4⟩, cl⟩ := C
  exact va_mmax cx cb (cm.trans hl.1.symm) co (ct _ k.1.2.2.2.2.1) (ct _ k.2) (ct _ k.1.2.1) (ct _ k.1.1) (Nat.le_trans hr r1) (by omega) (Nat.le_trans ha r3) (Nat.le_trans hb r4) d (kk H locs ls hP hS hl)
theorem v_mmin (C : CF X cc own nL rk mc ms) {idx : Nat} (k : KS own idx yJ9_min_7cf53 cJ9_min_7cf53 2 (some .int) 2) (hr : 1 ≤ rk) (hcat : (st.map fun v => v.category).sum ≤ 8) (ha : a ≤ mc) (hb : b ≤ ms) {x y : Int32} (d : decode cc pc = .ok (.invokestatic idx, 3)) (hp : pc + 3 = pc1) (kk : V X a b nL sg o lo pc1 (.int (if y < x then y else x) :: st)) : V X a b nL sg o lo pc (.int y :: .int x :: st) := by
  subst hp
  intro H locs ls hP hS hl
  obtain ⟨cx, cb, cm, co, ct, cK, cG, cA, ⟨r1, r2, r3, r4⟩, cl⟩ := C
  exact va_mmin cx cb (cm.trans hl.1.symm) co (ct _ k.1.2.2.2.2.1) (ct _ k.2) (ct _ k.1.2.1) (ct _ k.1.1) (Nat.le_trans hr r1) (by omega) (Nat.le_trans ha r3) (Nat.le_trans hb r4) d (kk H locs ls hP hS hl)
end VM
theorem v_rwi {X : Cx} {a b nL : Nat} {sg : Sg} {o : Ot} {lo : List (Nat × Value)} {pc : Nat} {st : List Value} {x y : Int32} (h : x = y) (k : V X a b nL sg o lo pc (.int y :: st)) : V X a b nL sg o lo pc (.int x :: st) := by rw [h]; exact k
theorem up_if {sg : Sg} {c k k1 : Nat} {v x : Int32} (h : sg c k1 = x) : up sg c k v c k1 = if k1 = k then v else x := by simp [up, h]
theorem chr_if {P : Prop} [Decidable P] {a b : Int32} (ha : narrow .char (.int a) = .int a) (hb : narrow .char (.int b) = .int b) : narrow .char (.int (if P then a else b)) = .int (if P then a else b) := by
  split
  · exact ha
  · exact hb
