/-- the begin and the work of the piece p hung next, as the reference says it -/
def aBeg (t : Sg) (p : Nat) (L : Rg) : Int32 :=
  if t 54 (ix (t 47 p)) - aEnd t L < t 57 (ix (t 41 23)) then (if aEnd t L < t 54 (ix (t 47 p)) then (if ¬ (t 54 (ix (t 47 p)) - aEnd t L < t 57 (ix (t 41 23))) ∨ t 56 (ix (t 41 23)) < aWork L + t 45 p then t 54 (ix (t 47 p)) + t 57 (ix (t 41 23)) else t 54 (ix (t 47 p)) + 0)
    else (if ¬ (t 54 (ix (t 47 p)) - aEnd t L < t 57 (ix (t 41 23))) ∨ t 56 (ix (t 41 23)) < aWork L + t 45 p then aEnd t L + t 57 (ix (t 41 23)) else aEnd t L + 0))
  else t 54 (ix (t 47 p))
def aWk (t : Sg) (p : Nat) (L : Rg) : Int32 := if ¬ (t 54 (ix (t 47 p)) - aEnd t L < t 57 (ix (t 41 23))) ∨ t 56 (ix (t 41 23)) < aWork L + t 45 p then 0 + t 45 p else aWork L + t 45 p
def aPut (t : Sg) (p : Nat) (L : Rg) : Rg := (p, aBeg t p L, aWk t p L) :: L
theorem t_begin {t : Sg} {L : Rg} (h : RepT t L) {p : Nat} (hp : p < 6) : fr_X5_beginNext t (nI p) = aBeg t p L := by
  unfold fr_X5_beginNext aBeg
  simp only [rep_end h, rep_work h, nI_ix (show p < 2 ^ 31 by omega)]
theorem t_work {t : Sg} {L : Rg} (h : RepT t L) {p : Nat} (hp : p < 6) : fw_X5 t (nI p) = aWk t p L := by
  unfold fw_X5 aWk
  simp only [rep_end h, rep_work h, nI_ix (show p < 2 ^ 31 by omega)]
theorem t_hangs {t : Sg} {L : Rg} (h : RepT t L) {p : Nat} (hp : p < 6) (hl : L.length < 6) : RepT (fs_X5_hangs t (nI p)) (aPut t p L) := by
  have e1 := t_begin h hp
  have e2 := t_work h hp
  rw [hangs_eq, e1, e2]
  obtain ⟨h1, h2, h3, h4⟩ := h
  have hi : ix (t 41 24) = L.length := by rw [h1, nI_ix (by omega)]
  refine ⟨?_, hl, ⟨⟨?_, ?_, ?_⟩, h3.cong fun c k q1 q2 q3 => ?_⟩, fun x hx => ?_⟩
  · rw [hput_h, h1]; exact nI_add1 _
  · rw [hput_62, hi, if_pos rfl]
  · rw [hput_63, hi, if_pos rfl]
  · rw [hput_64, hi, if_pos rfl]
  · rcases (show c = 62 ∨ c = 63 ∨ c = 64 by omega) with rfl | rfl | rfl
    · rw [hput_62, hi, if_neg (by omega)]
    · rw [hput_63, hi, if_neg (by omega)]
    · rw [hput_64, hi, if_neg (by omega)]
  · rcases List.mem_cons.mp hx with rfl | hx
    · exact hp
    · exact h4 x hx
