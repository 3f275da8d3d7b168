/-- a piece, said by the desk and by the reference -/
def Pcs (s t : Sg) (p : Nat) : Prop := (s (31 + p) 0 = t 44 p ∧ s (31 + p) 1 = t 45 p ∧ s (31 + p) 2 = t 46 p ∧ s (31 + p) 3 = t 47 p ∧ s (31 + p) 8 = t 53 p ∧ st64 (t 53 p)) ∧ (t 48 p = 0 → s (31 + p) 4 < 0) ∧
  (¬ t 48 p = 0 → s (31 + p) 4 = t 49 p ∧ s (31 + p) 5 = t 50 p ∧ ¬ t 49 p = t 50 p ∧ s (31 + p) 6 = fr_X5_load t (nI p) (t 49 p) ∧ s (31 + p) 7 = fr_X5_load t (nI p) (t 50 p))
def Twn (s t : Sg) (i : Nat) : Prop := s (37 + i) 0 = nI i ∧ s (37 + i) 1 = t 55 i ∧ s (37 + i) 2 = t 56 i ∧ s (37 + i) 3 = t 57 i ∧ s (37 + i) 4 = t 58 i ∧ s (37 + i) 5 = t 59 i ∧ s (37 + i) 6 = t 60 i ∧ s (37 + i) 7 = t 61 i
/-- what the show and the towns hold is the same on both sides -/
def Stat (s t : Sg) : Prop := (s 0 7 = t 41 0 ∧ s 0 8 = t 41 3 ∧ s 0 9 = t 41 15 ∧ s 0 10 = t 41 23) ∧ (∀ i, i < 8 → s (23 + i) 0 = t 42 i ∧ s (23 + i) 1 = t 43 i) ∧ (∀ p, p < 6 → Pcs s t p) ∧ (∀ i, i < 3 → s 4 i = t 54 i) ∧ ∀ i, i < 4 → Twn s t i
theorem s_begin {s t : Sg} {r : Nat} {L : Rg} (hS : Stat s t) (h : RepS s t r L) {p : Nat} (hp : p < 6) (htr : vp_in (t 47 p) 3) (htn : vp_in (t 41 23) 4) (ha : bnd (t 54 (ix (t 47 p))) 0 1440) (he : bnd (aEnd t L) 0 1440) (hz : bnd (t 57 (ix (t 41 23))) 5 120) (hm : ¬ t 56 (ix (t 41 23)) < t 45 p) : fr_X4_beginNext s r p (ix (t 41 23)) = aBeg t p L ∧ fr_X4_workNext s r p (ix (t 41 23)) = aWk t p L := by
  obtain ⟨-, -, hP, hA, hT⟩ := hS
  obtain ⟨⟨-, e1, -, e3, -, -⟩, -, -⟩ := hP p hp
  obtain ⟨-, -, f2, f3, -, -, -, -⟩ := hT _ (ix_lt htn)
  have g := hA _ (ix_lt htr)
  refine ⟨?_, ?_⟩
  · unfold fr_X4_beginNext fr_X4_workCarried aBeg
    rw [s_end h, s_work h, e1, e3, f2, f3, g]
    exact begin_eq ha he hz hm
  · unfold fr_X4_workNext fr_X4_workCarried aWk
    rw [s_end h, s_work h, e1, e3, f2, f3, g]
    exact work_eq hm
