/-! the reference's rig: who hangs, how many do not -/
theorem inRig_neg {sg : Sg} {p : Int32} : ∀ {n k : Nat}, n + k < 900 → (fl_X5_inRig sg p n k < 0 ↔ ∀ j, k ≤ j → j < k + n → ¬ sg 62 j = p)
  | 0, k, _ => ⟨fun _ j h1 h2 => absurd h2 (by omega), fun _ => show ((-1 : Int32) < 0) by decide⟩
  | n + 1, k, h => by
    unfold fl_X5_inRig
    by_cases hp : sg 62 k = p
    · rw [if_pos hp]
      exact ⟨fun q => absurd q (nI_nn (by omega)), fun q => absurd hp (q k (Nat.le_refl _) (by omega))⟩
    · rw [if_neg hp, inRig_neg (n := n) (k := k + 1) (by omega)]
      refine ⟨fun q j h1 h2 => ?_, fun q j h1 h2 => q j (by omega) (by omega)⟩
      by_cases hj : j = k
      · rw [hj]; exact hp
      · exact q j (by omega) (by omega)
/-- p hangs nowhere -/
def offR (sg : Sg) (p : Int32) : Prop := fl_X5_inRig sg p (ix (sg 41 24)) 0 < 0
theorem offR_iff {sg : Sg} {p : Int32} {h : Nat} (hh : sg 41 24 = nI h) (h6 : h ≤ 6) : offR sg p ↔ ∀ j, j < h → ¬ sg 62 j = p := by
  unfold offR
  rw [hh, nI_ix (by omega), inRig_neg (by omega)]
  exact ⟨fun q j hj => q j (Nat.zero_le _) (by omega), fun q j _ hj => q j (by omega)⟩
def u1 (sg : Sg) (q : Nat) : Nat := if fl_X5_inRig sg (nI q) (ix (sg 41 24)) 0 < 0 then 1 else 0
def ung (sg : Sg) : Nat := u1 sg 0 + u1 sg 1 + u1 sg 2 + u1 sg 3 + u1 sg 4 + u1 sg 5
def RI (sg : Sg) : Prop := ix (sg 41 24) + ung sg = 6 ∧ (sg 41 23 < 0 → sg 41 24 = 0)
theorem RI.tn {sg : Sg} (h : RI sg) : ∀ k, k < 6 → nI k < sg 41 24 → ¬ sg 41 23 < 0 := by
  intro k hk hl ht
  rw [h.2 ht] at hl
  exact nI_nn (by omega) hl
theorem RI.room {sg : Sg} (h : RI sg) (hM : MI sg) {p : Int32} (hp : vp_in p 6) (ho : offR sg p) : vp_in (sg 41 24) 6 := by
  obtain ⟨q, hq, rfl⟩ := in_nat hp (by decide)
  have h1 : u1 sg q = 1 := by unfold u1; exact if_pos ho
  have h2 : 1 ≤ ung sg := by
    unfold ung
    rcases (show q = 0 ∨ q = 1 ∨ q = 2 ∨ q = 3 ∨ q = 4 ∨ q = 5 by omega) with rfl | rfl | rfl | rfl | rfl | rfl <;> omega
  have h3 := h.1
  rw [hM.nh.ixe]
  exact in_nI (by omega) (by decide)
/-- the rig with one more piece -/
def hput (sg : Sg) (p b w : Int32) : Sg := up (up (up (up sg 64 (ix (sg 41 24)) w) 63 (ix (sg 41 24)) b) 62 (ix (sg 41 24)) p) 41 24 (sg 41 24 + 1)
def fw_X5 (sg : Sg) (p : Int32) : Int32 := if ¬ (sg 54 (ix (sg 47 (ix p))) - fr_X5_lastEnd sg < sg 57 (ix (sg 41 23))) ∨ sg 56 (ix (sg 41 23)) < fr_X5_lastWork sg + sg 45 (ix p) then 0 + sg 45 (ix p) else fr_X5_lastWork sg + sg 45 (ix p)
theorem hangs_eq (sg : Sg) (p : Int32) : fs_X5_hangs sg p = hput sg p (fr_X5_beginNext sg p) (fw_X5 sg p) := by
  unfold fs_X5_hangs fw_X5 hput
  split <;> rfl
theorem hput_h {sg : Sg} {p b w : Int32} : hput sg p b w 41 24 = sg 41 24 + 1 := rfl
theorem hput_62 {sg : Sg} {p b w : Int32} (k : Nat) : hput sg p b w 62 k = if k = ix (sg 41 24) then p else sg 62 k := by simp [hput, up]
theorem hput_63 {sg : Sg} {p b w : Int32} (k : Nat) : hput sg p b w 63 k = if k = ix (sg 41 24) then b else sg 63 k := by simp [hput, up]
theorem hput_64 {sg : Sg} {p b w : Int32} (k : Nat) : hput sg p b w 64 k = if k = ix (sg 41 24) then w else sg 64 k := by simp [hput, up]
theorem hput_o {sg : Sg} {p b w : Int32} (c k : Nat) (h : (c ≠ 41 ∧ c ≠ 62 ∧ c ≠ 63 ∧ c ≠ 64) ∨ (c = 41 ∧ k ≠ 24)) : hput sg p b w c k = sg c k := by
  unfold hput
  rw [up_ne _ _ (by omega), up_ne _ _ (by omega), up_ne _ _ (by omega), up_ne _ _ (by omega)]
theorem hput_off {sg : Sg} {p b w : Int32} (hM : MI sg) (hu : vp_in (sg 41 24) 6) (q : Int32) : offR (hput sg p b w) q ↔ offR sg q ∧ ¬ p = q := by
  obtain ⟨h, hh, e⟩ := in_nat hu (by decide)
  have e1 : hput sg p b w 41 24 = nI (h + 1) := by rw [hput_h, e]; exact nI_add1 h
  rw [offR_iff e1 (by omega), offR_iff e (by omega)]
  have ei : ix (sg 41 24) = h := by rw [e, nI_ix (by omega)]
  constructor
  · intro z
    refine ⟨fun j hj => ?_, ?_⟩
    · have := z j (by omega)
      rw [hput_62, ei, if_neg (by omega)] at this
      exact this
    · have := z h (by omega)
      rw [hput_62, ei, if_pos rfl] at this
      exact this
  · rintro ⟨z1, z2⟩ j hj
    rw [hput_62, ei]
    split
    · exact z2
    · exact z1 j (by omega)
theorem hput_MI {sg : Sg} {p b w : Int32} (hM : MI sg) (hp : vp_in p 6) (hu : vp_in (sg 41 24) 6) : MI (hput sg p b w) := by
  obtain ⟨h, hh, e⟩ := in_nat hu (by decide)
  have ei : ix (sg 41 24) = h := by rw [e, nI_ix (by omega)]
  have e1 : hput sg p b w 41 24 = nI (h + 1) := by rw [hput_h, e]; exact nI_add1 h
  refine ⟨⟨hM.np, hM.nc, hM.nt, ⟨h + 1, by omega, e1⟩⟩, hM.2.1, fun k hk hl => ?_, hM.2.2.2.1, hM.2.2.2.2⟩
  rw [hput_62, ei]
  split
  · exact hp
  · rw [e1, nI_lt_iff (by omega) (by omega)] at hl
    exact hM.od hk (by rw [e, nI_lt_iff (by omega) (by omega)]; omega)
theorem hput_u {sg : Sg} {p b w : Int32} (hM : MI sg) (hp : vp_in p 6) (hu : vp_in (sg 41 24) 6) (ho : offR sg p) : ung sg = ung (hput sg p b w) + 1 := by
  obtain ⟨q, hq, rfl⟩ := in_nat hp (by decide)
  have key : ∀ z, z < 6 → u1 (hput sg (nI q) b w) z = if z = q then 0 else u1 sg z := by
    intro z hz
    have hoff := hput_off (b := b) (w := w) (p := nI q) hM hu (nI z)
    unfold offR at hoff
    unfold u1
    by_cases hzq : z = q
    · subst hzq
      rw [if_pos rfl, if_neg (fun c => (hoff.mp c).2 rfl)]
    · rw [if_neg hzq]
      by_cases hc : fl_X5_inRig sg (nI z) (ix (sg 41 24)) 0 < 0
      · rw [if_pos hc, if_pos (hoff.mpr ⟨hc, fun c => hzq ((nI_eq_iff (by omega) (by omega)).mp c).symm⟩)]
      · rw [if_neg hc, if_neg (fun c => hc (hoff.mp c).1)]
  have h1 : u1 sg q = 1 := by unfold u1; exact if_pos ho
  unfold ung
  rw [key 0 (by decide), key 1 (by decide), key 2 (by decide), key 3 (by decide), key 4 (by decide), key 5 (by decide)]
  rcases (show q = 0 ∨ q = 1 ∨ q = 2 ∨ q = 3 ∨ q = 4 ∨ q = 5 by omega) with rfl | rfl | rfl | rfl | rfl | rfl <;> simp <;> omega
theorem hput_RI {sg : Sg} {p b w : Int32} (hM : MI sg) (hR : RI sg) (hp : vp_in p 6) (ho : offR sg p) (ht : ¬ sg 41 23 < 0) : RI (hput sg p b w) := by
  have hu := hR.room hM hp ho
  have h1 := hput_u (b := b) (w := w) hM hp hu ho
  obtain ⟨h, hh, e⟩ := in_nat hu (by decide)
  have e1 : hput sg p b w 41 24 = nI (h + 1) := by rw [hput_h, e]; exact nI_add1 h
  have h2 := hR.1
  refine ⟨?_, fun q => absurd q ht⟩
  rw [e1, nI_ix (by omega)]
  rw [e, nI_ix (by omega)] at h2
  omega
