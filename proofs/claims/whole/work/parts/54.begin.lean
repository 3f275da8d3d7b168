/-- a number between two -/
def bnd (x : Int32) (a b : Int) : Prop := a ≤ x.toInt ∧ x.toInt ≤ b
theorem sub_toInt {x y : Int32} (h1 : -100000 ≤ x.toInt) (h2 : x.toInt ≤ 100000) (h3 : -100000 ≤ y.toInt) (h4 : y.toInt ≤ 100000) : (x - y).toInt = x.toInt - y.toInt := by
  rw [Int32.toInt_sub]
  exact Int.bmod_eq_of_le (by omega) (by omega)
theorem add_toInt {x y : Int32} (h1 : -100000 ≤ x.toInt) (h2 : x.toInt ≤ 100000) (h3 : -100000 ≤ y.toInt) (h4 : y.toInt ≤ 100000) : (x + y).toInt = x.toInt + y.toInt := by
  rw [Int32.toInt_add]
  exact Int.bmod_eq_of_le (by omega) (by omega)
/-- when a wait is a break the piece comes after all that hangs -/
theorem wait_lt {a e z : Int32} (ha : bnd a 0 1440) (he : bnd e 0 1440) (hz : bnd z 5 120) (h : ¬ a - e < z) : e < a := by
  rw [Int32.lt_iff_toInt_lt] at h ⊢
  rw [sub_toInt (by have := ha.1; omega) (by have := ha.2; omega) (by have := he.1; omega) (by have := he.2; omega)] at h
  have := hz.1
  omega
theorem begin_eq {a e z u w m : Int32} (ha : bnd a 0 1440) (he : bnd e 0 1440) (hz : bnd z 5 120) (hm : ¬ u < m) :
    (if u < (if a - e < z then w else 0) + m then (if e < a then a else e) + z else (if e < a then a else e)) =
    (if a - e < z then (if e < a then (if ¬ (a - e < z) ∨ u < w + m then a + z else a + 0) else (if ¬ (a - e < z) ∨ u < w + m then e + z else e + 0)) else a) := by
  by_cases h : a - e < z
  · by_cases h1 : e < a
    · by_cases h2 : u < w + m
      · simp [h, h1, h2]
      · simp [h, h1, h2]
    · by_cases h2 : u < w + m
      · simp [h, h1, h2]
      · simp [h, h1, h2]
  · have h1 := wait_lt ha he hz h
    simp [h, h1, hm]
theorem work_eq {a e z u w m : Int32} (hm : ¬ u < m) :
    (if u < (if a - e < z then w else 0) + m then m else (if a - e < z then w else 0) + m) =
    (if ¬ (a - e < z) ∨ u < w + m then 0 + m else w + m) := by
  by_cases h : a - e < z
  · by_cases h2 : u < w + m
    · simp [h, h2]
    · simp [h, h2]
  · simp [h, hm]
