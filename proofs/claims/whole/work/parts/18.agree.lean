/-! two states of the reference that differ in what the search writes alone: the counts and the best (41 from 28 on, 65), and what lies behind the first h hung pieces -/
def Ag (h : Nat) (s t : Sg) : Prop := ∀ c k, 41 ≤ c → (c = 41 → k < 28) → c ≠ 65 → (c = 62 ∨ c = 63 ∨ c = 64 → k < h) → t c k = s c k
theorem Ag.rf {h : Nat} (s : Sg) : Ag h s s := fun _ _ _ _ _ _ => rfl
theorem Ag.sm {h : Nat} {s t : Sg} (a : Ag h s t) : Ag h t s := fun c k h1 h2 h3 h4 => (a c k h1 h2 h3 h4).symm
theorem Ag.tr {h : Nat} {s t u : Sg} (a : Ag h s t) (b : Ag h t u) : Ag h s u := fun c k h1 h2 h3 h4 => (b c k h1 h2 h3 h4).trans (a c k h1 h2 h3 h4)
theorem Ag.le {h h1 : Nat} {s t : Sg} (a : Ag h s t) (hh : h1 ≤ h) : Ag h1 s t := fun c k q1 q2 q3 q4 => a c k q1 q2 q3 (fun z => Nat.lt_of_lt_of_le (q4 z) hh)
theorem Ag.upf {h : Nat} {s t : Sg} (a : Ag h s t) {j : Nat} {v : Int32} (hj : 28 ≤ j) : Ag h s (up t 41 j v) := fun c k q1 q2 q3 q4 => by
  have hc : c ≠ 41 ∨ k ≠ j := by omega
  rw [up_ne _ _ hc]
  exact a c k q1 q2 q3 q4
theorem Ag.up65 {h : Nat} {s t : Sg} (a : Ag h s t) {j : Nat} {v : Int32} : Ag h s (up t 65 j v) := fun c k q1 q2 q3 q4 => by
  rw [up_ne _ _ (Or.inl q3)]
  exact a c k q1 q2 q3 q4
/-- the fields and the rows that the search leaves -/
theorem Ag.f {h : Nat} {s t : Sg} (a : Ag h s t) (k : Nat) (hk : k < 28) : t 41 k = s 41 k := a 41 k (by decide) (fun _ => hk) (by decide) (fun z => absurd z (by decide))
theorem Ag.a {h : Nat} {s t : Sg} (a : Ag h s t) (c k : Nat) (hc : 42 ≤ c ∧ c < 62) : t c k = s c k := a c k (by omega) (fun z => by omega) (by omega) (fun z => by omega)
theorem Ag.o {h : Nat} {s t : Sg} (a : Ag h s t) (c k : Nat) (hc : 62 ≤ c ∧ c < 65) (hk : k < h) : t c k = s c k := a c k (by omega) (fun z => by omega) (by omega) (fun _ => hk)
theorem ag_inRig {h : Nat} {s t : Sg} (a : Ag h s t) (p : Int32) : ∀ n k, n + k ≤ h → fl_X5_inRig t p n k = fl_X5_inRig s p n k
  | 0, _, _ => rfl
  | n + 1, k, hk => by
    unfold fl_X5_inRig
    rw [a.o 62 k (by decide) (by omega), ag_inRig a p n (k + 1) (by omega)]
theorem ag_inRig0 {s t : Sg} (a : Ag (ix (s 41 24)) s t) (p : Int32) : fl_X5_inRig t p (ix (s 41 24)) 0 = fl_X5_inRig s p (ix (s 41 24)) 0 := ag_inRig a p _ 0 (Nat.le_refl _)
theorem ag_part {h : Nat} {s t : Sg} (a : Ag h s t) (p : Int32) : fr_X5_partOfRight t p = fr_X5_partOfRight s p := by
  unfold fr_X5_partOfRight
  simp only [a.a 44 _ (by decide), a.a 51 _ (by decide), a.a 49 _ (by decide), a.a 50 _ (by decide), a.a 42 _ (by decide)]
theorem ag_load {h : Nat} {s t : Sg} (a : Ag h s t) (p q : Int32) : fr_X5_load t p q = fr_X5_load s p q := by
  unfold fr_X5_load
  simp only [ag_part a, a.a 44 _ (by decide), a.a 48 _ (by decide), a.a 49 _ (by decide), a.a 50 _ (by decide), a.a 52 _ (by decide)]
theorem ag_borne {h : Nat} {s t : Sg} (a : Ag h s t) (q : Int32) : ∀ n k z, n + k ≤ h → fl_X5_borne t q n k z = fl_X5_borne s q n k z
  | 0, _, _, _ => rfl
  | n + 1, k, z, hk => by
    unfold fl_X5_borne
    rw [a.o 62 k (by decide) (by omega), ag_load a, ag_borne a q n (k + 1) _ (by omega)]
theorem ag_borne0 {s t : Sg} (a : Ag (ix (s 41 24)) s t) (q : Int32) : fl_X5_borne t q (ix (s 41 24)) 0 0 = fl_X5_borne s q (ix (s 41 24)) 0 0 := ag_borne a q _ 0 0 (Nat.le_refl _)
theorem ag_may {h : Nat} {s t : Sg} (a : Ag h s t) (q : Int32) : fr_X5_may t q = fr_X5_may s q := by
  unfold fr_X5_may
  simp only [a.a 43 _ (by decide), a.a 55 _ (by decide), a.f 23 (by decide)]
theorem hung_pred {s : Sg} (hM : MI s) (hz : ¬ s 41 24 = 0) : ix (s 41 24 - 1) < ix (s 41 24) := by
  obtain ⟨-, k, hk, e1, e2⟩ := hM.nh.pred (by decide) (hM.nh.nz (by decide) hz)
  rw [e2, e1, nI_ix (by omega), nI_ix (by omega)]
  omega
theorem ag_lastEnd {s t : Sg} (hM : MI s) (a : Ag (ix (s 41 24)) s t) : fr_X5_lastEnd t = fr_X5_lastEnd s := by
  unfold fr_X5_lastEnd fr_X5_endOf
  rw [a.f 24 (by decide)]
  by_cases hz : s 41 24 = 0
  · rw [if_pos hz, if_pos hz]
  · have := hung_pred hM hz
    rw [if_neg hz, if_neg hz, a.o 63 _ (by decide) this, a.o 62 _ (by decide) this, a.a 45 _ (by decide)]
theorem ag_lastWork {s t : Sg} (hM : MI s) (a : Ag (ix (s 41 24)) s t) : fr_X5_lastWork t = fr_X5_lastWork s := by
  unfold fr_X5_lastWork
  rw [a.f 24 (by decide)]
  by_cases hz : s 41 24 = 0
  · rw [if_pos hz, if_pos hz]
  · rw [if_neg hz, if_neg hz, a.o 64 _ (by decide) (hung_pred hM hz)]
theorem ag_beginNext {s t : Sg} (hM : MI s) (a : Ag (ix (s 41 24)) s t) (p : Int32) : fr_X5_beginNext t p = fr_X5_beginNext s p := by
  unfold fr_X5_beginNext
  simp only [ag_lastEnd hM a, ag_lastWork hM a, a.a 54 _ (by decide), a.a 47 _ (by decide), a.a 57 _ (by decide), a.a 56 _ (by decide), a.a 45 _ (by decide), a.f 23 (by decide)]
theorem ag_fw {s t : Sg} (hM : MI s) (a : Ag (ix (s 41 24)) s t) (p : Int32) : fw_X5 t p = fw_X5 s p := by
  unfold fw_X5
  simp only [ag_lastEnd hM a, ag_lastWork hM a, a.a 54 _ (by decide), a.a 47 _ (by decide), a.a 57 _ (by decide), a.a 56 _ (by decide), a.a 45 _ (by decide), a.f 23 (by decide)]
theorem ag_lacks {s t : Sg} (a : Ag (ix (s 41 24)) s t) (p : Int32) : ∀ n k, fl_X5_lacks t p n k = fl_X5_lacks s p n k
  | 0, _ => rfl
  | n + 1, k => by
    unfold fl_X5_lacks
    rw [a.a 53 _ (by decide), a.f 24 (by decide), ag_inRig a _ _ 0 (by omega), ag_lacks a p n (k + 1)]
theorem ag_why {s t : Sg} (hM : MI s) (a : Ag (ix (s 41 24)) s t) (p : Int32) : fr_X5_why t p = fr_X5_why s p := by
  unfold fr_X5_why
  simp only [a.f 24 (by decide), a.f 23 (by decide), a.f 3 (by decide), ag_inRig0 a, ag_borne0 a, ag_lacks a, ag_load a, ag_may a, ag_beginNext hM a, a.a 48 _ (by decide), a.a 56 _ (by decide), a.a 45 _ (by decide), a.a 49 _ (by decide), a.a 50 _ (by decide), a.a 58 _ (by decide)]
theorem ag_worth {h : Nat} {s t : Sg} (a : Ag h s t) : ∀ n k z, n + k ≤ h → fl_X5_worth t n k z = fl_X5_worth s n k z
  | 0, _, _, _ => rfl
  | n + 1, k, z, hk => by
    unfold fl_X5_worth
    rw [a.o 62 k (by decide) (by omega), a.a 46 _ (by decide), ag_worth a n (k + 1) _ (by omega)]
theorem ag_costs {h : Nat} {s t : Sg} (a : Ag h s t) : ∀ n k z, n + k ≤ h → fl_X5_costs t n k z = fl_X5_costs s n k z
  | 0, _, _, _ => rfl
  | n + 1, k, z, hk => by
    unfold fl_X5_costs
    rw [a.o 62 k (by decide) (by omega), a.o 63 k (by decide) (by omega), a.f 23 (by decide), a.a 60 _ (by decide), a.a 59 _ (by decide), a.a 61 _ (by decide), a.a 45 _ (by decide)]
    simp only [ag_costs a n (k + 1) _ (by omega)]
theorem ag_MI {s t : Sg} (hM : MI s) (a : Ag (ix (s 41 24)) s t) : MI t := by
  refine ⟨⟨?_, ?_, ?_, ?_⟩, ?_, ?_, ?_, ?_⟩
  · rw [a.f 0 (by decide)]; exact hM.np
  · rw [a.f 3 (by decide)]; exact hM.nc
  · rw [a.f 15 (by decide)]; exact hM.nt
  · rw [a.f 24 (by decide)]; exact hM.nh
  · rw [a.f 23 (by decide)]; exact hM.2.1
  · intro k hk hl
    rw [a.f 24 (by decide)] at hl
    have : k < ix (s 41 24) := by
      have := hl
      rw [hM.nh.ixe, nI_lt_iff (by omega) (by have := hM.nh.ixl; omega)] at this
      exact this
    rw [a.o 62 k (by decide) this]
    exact hM.od hk hl
  · intro p hp hf
    rw [a.a 48 _ (by decide)] at hf
    have := hM.fx hp hf
    unfold FxOk at this ⊢
    rw [a.a 49 _ (by decide), a.a 50 _ (by decide), a.a 42 _ (by decide), a.a 42 _ (by decide)]
    exact this
  · intro p hp
    rw [a.a 47 _ (by decide)]
    exact hM.tr hp
theorem ag_u {s t : Sg} (a : Ag (ix (s 41 24)) s t) : ung t = ung s := by
  unfold ung u1
  simp only [a.f 24 (by decide), ag_inRig0 a]
theorem ag_RI {s t : Sg} (hR : RI s) (a : Ag (ix (s 41 24)) s t) : RI t := by
  unfold RI at hR ⊢
  rw [ag_u a, a.f 24 (by decide), a.f 23 (by decide)]
  exact hR
/-- a piece more, and what hung before -/
theorem ag_hput {s : Sg} {p b w : Int32} (hu : vp_in (s 41 24) 6) : Ag (ix (s 41 24)) s (up (hput s p b w) 41 24 (s 41 24)) := by
  intro c k h1 h2 h3 h4
  by_cases hc : c = 41 ∧ k = 24
  · rw [hc.1, hc.2, up_at]
  · rw [up_ne _ _ (by omega)]
    unfold hput
    rw [up_ne _ _ (by omega), up_ne _ _ (by omega), up_ne _ _ (by omega), up_ne _ _ (by omega)]
