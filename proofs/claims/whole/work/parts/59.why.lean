theorem lacks_iff {t : Sg} {L : Rg} (h : RepT t L) {x : Int32} : ∀ (n k : Nat), n + k ≤ 6 → (fl_X5_lacks t x n k = true ↔ ∃ j, k ≤ j ∧ j < k + n ∧ (t 53 (ix x) >>> (nI j &&& 31)) &&& 1 = 1 ∧ ¬ has L j)
  | 0, k, _ => ⟨fun q => (by cases q), fun ⟨j, q1, q2, _⟩ => absurd q2 (by omega)⟩
  | n + 1, k, hk => by
    have ih := lacks_iff h (x := x) n (k + 1) (by omega)
    unfold fl_X5_lacks
    by_cases c1 : (t 53 (ix x) >>> (nI k &&& 31)) &&& 1 = 1
    · rw [if_pos c1]
      by_cases c2 : fl_X5_inRig t (nI k) (ix (t 41 24)) 0 < 0
      · rw [if_pos c2]
        exact ⟨fun _ => ⟨k, Nat.le_refl _, by omega, c1, (rep_off h (by omega)).mp c2⟩, fun _ => rfl⟩
      · rw [if_neg c2, ih]
        constructor
        · rintro ⟨j, q1, q2, q3, q4⟩; exact ⟨j, by omega, by omega, q3, q4⟩
        · rintro ⟨j, q1, q2, q3, q4⟩
          refine ⟨j, ?_, by omega, q3, q4⟩
          rcases Nat.lt_or_ge k j with z | z
          · omega
          · have : j = k := by omega
            subst this
            exact absurd ((rep_off h (by omega)).mpr q4) c2
    · rw [if_neg c1, ih]
      constructor
      · rintro ⟨j, q1, q2, q3, q4⟩; exact ⟨j, by omega, by omega, q3, q4⟩
      · rintro ⟨j, q1, q2, q3, q4⟩
        refine ⟨j, ?_, by omega, q3, q4⟩
        rcases Nat.lt_or_ge k j with z | z
        · omega
        · have : j = k := by omega
          subst this
          exact absurd q3 c1
/-- the numbers of what was added lie within the document's bounds; who is needed was added; a fixing is one -/
def Nb (t : Sg) : Prop := (∀ p, p < 6 → bnd (t 45 p) 0 240 ∧ bnd (t 46 p) 0 99 ∧ (p < ix (t 41 3) → 5 ≤ (t 45 p).toInt) ∧ ∀ j, j < 6 → bitb (t 53 p) j = true → j < ix (t 41 3)) ∧ (∀ i, i < 3 → bnd (t 54 i) 0 1440) ∧ (∀ i, i < 4 → bnd (t 55 i) 0 100 ∧ bnd (t 56 i) 0 480 ∧ bnd (t 58 i) 0 1440 ∧ bnd (t 59 i) 0 99 ∧ bnd (t 60 i) 0 1440 ∧ bnd (t 61 i) 0 99 ∧ (i < ix (t 41 15) → 5 ≤ (t 57 i).toInt ∧ (t 57 i).toInt ≤ 120)) ∧ (¬ t 41 23 < 0 → ix (t 41 23) < ix (t 41 15))
theorem s_lacks {s t : Sg} {r : Nat} {L : Rg} (hS : Stat s t) (hN : Nb t) (hM : MI t) (h : RepS s t r L) (hT : RepT t L) {p : Nat} (hp : p < 6) : t 53 p &&& (s r 6 ^^^ (-1)) = 0 ↔ ¬ fl_X5_lacks t (nI p) (ix (t 41 3)) 0 = true := by
  have e9 := (hS.2.2.1 p hp).1.2.2.2.2.2
  have h5 := h.2.1
  have hc := hM.nc.ixl
  rw [bit_sub e9 h5, lacks_iff hT _ 0 (by omega), nI_ix (show p < 2 ^ 31 by omega)]
  constructor
  · rintro q ⟨j, -, q2, q3, q4⟩
    exact q4 ((h.2.2.1 j (by omega)).mp (q j (by omega) ((bit_one e9 (by omega)).mp q3)))
  · intro q j hj hb
    rw [h.2.2.1 j hj]
    refine Classical.byContradiction fun hz => q ⟨j, Nat.zero_le _, ?_, (bit_one e9 hj).mpr hb, hz⟩
    have := (hN.1 p hp).2.2.2 j hj hb
    omega
