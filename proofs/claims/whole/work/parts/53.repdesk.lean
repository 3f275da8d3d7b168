/-- the desk's rig r holds the rig -/
def RS (s t : Sg) (r : Nat) : Rg → Prop
  | [] => True
  | x :: L => (s (r + 1) L.length = nI x.1 ∧ s (r + 2) L.length = x.2.1 ∧ s (r + 3) L.length = x.2.1 + t 45 x.1 ∧ s (r + 4) L.length = x.2.2) ∧ RS s t r L
def RepS (s t : Sg) (r : Nat) (L : Rg) : Prop := (s r 5 = nI L.length ∧ L.length ≤ 6 ∧ RS s t r L ∧ ∀ x, x ∈ L → x.1 < 6) ∧ st64 (s r 6) ∧ (∀ j, j < 6 → (bitb (s r 6) j = true ↔ has L j)) ∧ s r 7 = aWorth t L ∧ ∀ q, q < 8 → s (r + 5) q = aBorne t (nI q) L
theorem RS.cong {s t u v : Sg} {r : Nat} : ∀ {L : Rg}, (∀ x, x ∈ L → x.1 < 6) → RS s t r L → (∀ c k, r + 1 ≤ c → c ≤ r + 4 → k < L.length → u c k = s c k) → (∀ p, p < 6 → v 45 p = t 45 p) → RS u v r L
  | [], _, _, _, _ => trivial
  | x :: L, h6, h, e, et => by
    refine ⟨⟨?_, ?_, ?_, ?_⟩, h.2.cong (fun y hy => h6 y (List.mem_cons_of_mem _ hy)) (fun c k h1 h2 h3 => e c k h1 h2 (Nat.lt_succ_of_lt h3)) et⟩
    · rw [e _ _ (by omega) (by omega) (Nat.lt_succ_self _)]; exact h.1.1
    · rw [e _ _ (by omega) (by omega) (Nat.lt_succ_self _)]; exact h.1.2.1
    · rw [e _ _ (by omega) (by omega) (Nat.lt_succ_self _), et _ (h6 x List.mem_cons_self)]; exact h.1.2.2.1
    · rw [e _ _ (by omega) (by omega) (Nat.lt_succ_self _)]; exact h.1.2.2.2
theorem pos_nI {n : Nat} (h : n < 6) : (0 : Int32) < nI (n + 1) := (nI_lt_iff (a := 0) (by omega) (by omega)).mpr (by omega)
theorem s_end {s t : Sg} {r : Nat} {L : Rg} (h : RepS s t r L) : fr_X2_lastMinute s r = aEnd t L := by
  obtain ⟨⟨h1, h2, h3, h4⟩, -⟩ := h
  unfold fr_X2_lastMinute
  cases L with
  | nil => rw [if_neg (show ¬ 0 < s r 5 by rw [h1]; decide)]; rfl
  | cons x L =>
    have hl : L.length < 6 := h2
    have e : s r 5 - 1 = nI L.length := by rw [h1]; exact nI_pred L.length
    rw [if_pos (show 0 < s r 5 by rw [h1]; exact pos_nI hl), e, nI_ix (by omega), h3.1.2.2.1]
    rfl
theorem s_work {s t : Sg} {r : Nat} {L : Rg} (h : RepS s t r L) : fr_X2_workAtEnd s r = aWork L := by
  obtain ⟨⟨h1, h2, h3, h4⟩, -⟩ := h
  unfold fr_X2_workAtEnd
  cases L with
  | nil => rw [if_neg (show ¬ 0 < s r 5 by rw [h1]; decide)]; rfl
  | cons x L =>
    have hl : L.length < 6 := h2
    have e : s r 5 - 1 = nI L.length := by rw [h1]; exact nI_pred L.length
    rw [if_pos (show 0 < s r 5 by rw [h1]; exact pos_nI hl), e, nI_ix (by omega), h3.1.2.2.2]
    rfl
