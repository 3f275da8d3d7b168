/-! one more need -/
def rk1 (b : Bool) : Nat := if b = true then 1 else 0
theorem rk1_le {a b : Bool} (h : a = true → b = true) : rk1 a ≤ rk1 b := by
  unfold rk1
  by_cases c : a = true
  · rw [if_pos c, if_pos (h c)]; exact Nat.le_refl 1
  · rw [if_neg c]; exact Nat.zero_le _
noncomputable def rcb (t : Sg) (p q : Nat) : Bool := @decide (Rc t p q) (Classical.propDecidable _)
theorem rcb_iff {t : Sg} {p q : Nat} : rcb t p q = true ↔ Rc t p q := by
  unfold rcb
  exact @decide_eq_true_iff _ (Classical.propDecidable _)
noncomputable def rho6 (t : Sg) (p : Nat) : Nat := rk1 (rcb t p 0) + rk1 (rcb t p 1) + rk1 (rcb t p 2) + rk1 (rcb t p 3) + rk1 (rcb t p 4) + rk1 (rcb t p 5)
theorem rk1_1 (b : Bool) : rk1 b ≤ 1 := by
  unfold rk1
  split <;> omega
theorem rc_cons {t : Sg} {p k q : Nat} (hk : k < 6) (he : En t p k) (h : Rc t k q) : Rc t p q := by
  obtain ⟨d, h⟩ := h
  exact ⟨d + 1, k, hk, he, Or.inr h⟩
theorem ac_of {t : Sg} (hs : ∀ p, p < 6 → st64 (t 53 p)) (h : ∀ p, p < 6 → ¬ Rc t p p) : AC t := by
  refine ⟨rho6 t, fun p => ?_, fun p k hp hk he => ?_⟩
  · have a0 := rk1_1 (rcb t p 0)
    have a1 := rk1_1 (rcb t p 1)
    have a2 := rk1_1 (rcb t p 2)
    have a3 := rk1_1 (rcb t p 3)
    have a4 := rk1_1 (rcb t p 4)
    have a5 := rk1_1 (rcb t p 5)
    unfold rho6
    omega
  · have he := (bit_one (hs p hp) hk).mp he
    have m : ∀ j, rk1 (rcb t k j) ≤ rk1 (rcb t p j) := fun j => rk1_le (fun z => rcb_iff.mpr (rc_cons hk he (rcb_iff.mp z)))
    have b1 : rk1 (rcb t p k) = 1 := if_pos (rcb_iff.mpr ⟨1, k, hk, he, Or.inl rfl⟩)
    have b2 : rk1 (rcb t k k) = 0 := if_neg (fun z => h k hk (rcb_iff.mp z))
    have m0 := m 0
    have m1 := m 1
    have m2 := m 2
    have m3 := m 3
    have m4 := m 4
    have m5 := m 5
    unfold rho6
    rcases (show k = 0 ∨ k = 1 ∨ k = 2 ∨ k = 3 ∨ k = 4 ∨ k = 5 by omega) with e | e | e | e | e | e <;> rw [e] at b1 b2 m0 m1 m2 m3 m4 m5 ⊢ <;> omega
theorem rch_new {t u : Sg} {p q : Nat} (hp : p < 6) (hq : q < 6) (he : ∀ i j, i < 6 → j < 6 → En u i j → En t i j ∨ (i = p ∧ j = q)) : ∀ (d x y : Nat), x < 6 → y < 6 → Rch u d x y → Rc t x y ∨ ((x = p ∨ Rc t x p) ∧ (q = y ∨ Rc t q y))
  | 0, _, _, _, _, h => h.elim
  | d + 1, x, y, hx, hy, ⟨k, h1, h2, h3⟩ => by
    rcases he x k hx h1 h2 with e | ⟨e1, e2⟩
    · rcases h3 with h3 | h3
      · left; exact ⟨1, k, h1, e, Or.inl h3⟩
      · rcases rch_new hp hq he d k y h1 hy h3 with h4 | ⟨h4, h5⟩
        · left; exact rc_cons h1 e h4
        · right
          refine ⟨Or.inr ?_, h5⟩
          rcases h4 with h4 | h4
          · exact ⟨1, k, h1, e, Or.inl h4⟩
          · exact rc_cons h1 e h4
    · right
      refine ⟨Or.inl e1, ?_⟩
      rcases h3 with h3 | h3
      · exact Or.inl (e2.symm.trans h3)
      · rw [e2] at h3
        rcases rch_new hp hq he d q y hq hy h3 with h4 | ⟨_, h5⟩
        · exact Or.inr h4
        · exact h5
theorem rc_trans {t : Sg} {p q r : Nat} (h1 : Rc t p q) (h2 : Rc t q r) : Rc t p r := by
  obtain ⟨d, h1⟩ := h1
  obtain ⟨e, h2⟩ := h2
  exact ⟨d + e, rch_trans h2 d p h1⟩
theorem ac_new {t u : Sg} {p q : Nat} (hN : Nb t) (hA : AC t) (hp : p < 6) (hq : q < 6) (hpq : p ≠ q) (hn : ¬ Rc t q p) (hs : ∀ i, i < 6 → st64 (u 53 i)) (he : ∀ i j, i < 6 → j < 6 → En u i j → En t i j ∨ (i = p ∧ j = q)) : AC u := by
  refine ac_of hs fun x hx => ?_
  rintro ⟨d, h⟩
  rcases rch_new hp hq he d x x hx hx h with h1 | ⟨h1 | h1, h2 | h2⟩
  · exact rc_self hN hA hx h1
  · exact hpq (h1.symm.trans h2.symm)
  · rw [h1] at h2; exact hn h2
  · rw [← h2] at h1; exact hn h1
  · exact hn (rc_trans h2 h1)
/-! how many it needs -/
theorem bits_01 : ∀ (n : Fin 64) (j : Fin 6), ((nI n) >>> (nI j &&& 31)) &&& 1 = nI (rk1 (bitb (nI n) j)) := by decide +kernel
def cnb (x : Int32) : Nat → Nat → Nat
  | 0, _ => 0
  | n + 1, k => rk1 (bitb x k) + cnb x n (k + 1)
theorem cnb_6 : ∀ n : Fin 64, (List.range 6).countP (fun j => bitb (nI n) j) = cnb (nI n) 6 0 := by decide +kernel
theorem cnb_split (x : Int32) : ∀ (n m k : Nat), cnb x (n + m) k = cnb x n k + cnb x m (k + n)
  | 0, m, k => by rw [Nat.zero_add]; exact (Nat.zero_add _).symm
  | n + 1, m, k => by
    rw [show n + 1 + m = (n + m) + 1 by omega]
    show rk1 (bitb x k) + cnb x (n + m) (k + 1) = (rk1 (bitb x k) + cnb x n (k + 1)) + cnb x m (k + (n + 1))
    rw [cnb_split x n m (k + 1), show k + 1 + n = k + (n + 1) by omega, Nat.add_assoc]
theorem cnb_no {x : Int32} : ∀ (n k : Nat), (∀ j, k ≤ j → j < k + n → ¬ bitb x j = true) → cnb x n k = 0
  | 0, _, _ => rfl
  | n + 1, k, h => by
    show rk1 (bitb x k) + cnb x n (k + 1) = 0
    rw [cnb_no n (k + 1) (fun j h1 h2 => h j (by omega) (by omega))]
    unfold rk1
    rw [if_neg (h k (by omega) (by omega))]
theorem need_sum {u : Sg} {p : Int32} (h : st64 (u 53 (ix p))) : ∀ (n k c : Nat), n + k ≤ 6 → fl_X5_need u p n k (nI c) = nI (c + cnb (u 53 (ix p)) n k)
  | 0, _, _, _ => rfl
  | n + 1, k, c, hk => by
    obtain ⟨m, hm, e⟩ := h
    show fl_X5_need u p n (k + 1) (nI c + (((u 53 (ix p)) >>> (nI k &&& 31)) &&& 1)) = nI (c + (rk1 (bitb (u 53 (ix p)) k) + cnb (u 53 (ix p)) n (k + 1)))
    rw [e, bits_01 ⟨m, hm⟩ ⟨k, by omega⟩, nI_add, need_sum ⟨m, hm, e⟩ n (k + 1) _ (by omega), e, Nat.add_assoc]
theorem need_count {u s : Sg} {p x : Int32} (h : u 53 (ix p) = x) (hx : st64 x) {c : Nat} (hc : c ≤ 6) (hb : ∀ j, j < 6 → bitb x j = true → j < c) : fr_J6_bitCount_0f7a4 s x = fl_X5_need u p c 0 0 := by
  have e := need_sum (u := u) (p := p) (by rw [h]; exact hx) c 0 0 (by omega)
  rw [Nat.zero_add, h] at e
  rw [show (0 : Int32) = nI 0 from rfl, e]
  have e2 := cnb_split x c (6 - c) 0
  rw [show c + (6 - c) = 6 by omega, cnb_no (6 - c) (0 + c) (fun j h1 h2 z => by have := hb j (by omega) z; omega)] at e2
  obtain ⟨n, hn, rfl⟩ := hx
  have e3 := bits_count ⟨n, hn⟩
  rw [cnb_6 ⟨n, hn⟩, e2] at e3
  exact e3
