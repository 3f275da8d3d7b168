/-- the reference holds the rig -/
def RepT (t : Sg) (L : Rg) : Prop := t 41 24 = nI L.length ∧ L.length ≤ 6 ∧ RepR t L ∧ ∀ x, x ∈ L → x.1 < 6
theorem rep_62 {t : Sg} {p : Nat} (hp : p < 6) : ∀ {L : Rg}, (∀ x, x ∈ L → x.1 < 6) → RepR t L → ((∃ j, j < L.length ∧ t 62 j = nI p) ↔ has L p)
  | [], _, _ => ⟨fun ⟨j, hj, _⟩ => absurd hj (Nat.not_lt_zero _), fun ⟨x, hx, _⟩ => nomatch hx⟩
  | x :: L, h6, h => by
    have ih := rep_62 hp (fun y hy => h6 y (List.mem_cons_of_mem _ hy)) h.2
    have hx6 := h6 x List.mem_cons_self
    constructor
    · rintro ⟨j, hj, e⟩
      rcases Nat.lt_or_ge j L.length with q | q
      · obtain ⟨y, hy, e1⟩ := ih.mp ⟨j, q, e⟩
        exact ⟨y, List.mem_cons_of_mem _ hy, e1⟩
      · have : j = L.length := by
          have : j < L.length + 1 := hj
          omega
        rw [this, h.1.1] at e
        exact ⟨x, List.mem_cons_self, (nI_eq_iff (by omega) (by omega)).mp e⟩
    · rintro ⟨y, hy, e⟩
      rcases List.mem_cons.mp hy with rfl | hy
      · exact ⟨L.length, Nat.lt_succ_self _, by rw [h.1.1, e]⟩
      · obtain ⟨j, hj, e1⟩ := ih.mpr ⟨y, hy, e⟩
        exact ⟨j, Nat.lt_succ_of_lt hj, e1⟩
theorem rep_off {t : Sg} {L : Rg} (h : RepT t L) {p : Nat} (hp : p < 6) : fl_X5_inRig t (nI p) (ix (t 41 24)) 0 < 0 ↔ ¬ has L p := by
  obtain ⟨h1, h2, h3, h4⟩ := h
  have := offR_iff (p := nI p) h1 h2
  unfold offR at this
  rw [this]
  rw [← rep_62 hp h4 h3]
  exact ⟨fun q ⟨j, hj, e⟩ => q j hj e, fun q j hj e => q ⟨j, hj, e⟩⟩
theorem rep_end {t : Sg} {L : Rg} (h : RepT t L) : fr_X5_lastEnd t = aEnd t L := by
  obtain ⟨h1, h2, h3, h4⟩ := h
  unfold fr_X5_lastEnd fr_X5_endOf
  cases L with
  | nil => rw [if_pos (show t 41 24 = 0 from h1)]; rfl
  | cons x L =>
    have hx6 := h4 x List.mem_cons_self
    have hl : L.length < 6 := h2
    have e : t 41 24 - 1 = nI L.length := by rw [h1]; exact nI_pred L.length
    rw [if_neg (by rw [h1]; exact fun z => absurd ((nI_eq_iff (b := 0) (by simp; omega) (by omega)).mp z) (by simp)), e, nI_ix (by omega), h3.1.1, h3.1.2.1, nI_ix (by omega)]
    rfl
theorem rep_work {t : Sg} {L : Rg} (h : RepT t L) : fr_X5_lastWork t = aWork L := by
  obtain ⟨h1, h2, h3, h4⟩ := h
  unfold fr_X5_lastWork
  cases L with
  | nil => rw [if_pos (show t 41 24 = 0 from h1)]; rfl
  | cons x L =>
    have hl : L.length < 6 := h2
    have e : t 41 24 - 1 = nI L.length := by rw [h1]; exact nI_pred L.length
    rw [if_neg (by rw [h1]; exact fun z => absurd ((nI_eq_iff (b := 0) (by simp; omega) (by omega)).mp z) (by simp)), e, nI_ix (by omega), h3.1.2.2]
    rfl
