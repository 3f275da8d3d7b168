def wS (ex : Option String) (a b : Sg) : Sg := match ex with
  | none => a
  | some _ => b
def wO (ex : Option String) (a b : Ot) : Ot := match ex with
  | none => a
  | some _ => b
def wC (f : String → Int32) (ex : Option String) : Int32 := match ex with
  | none => 0
  | some E => f E
theorem lk13 : Cond.classLink RL 13 eIAE ∈ ALL := (all_in2 131 (by decide +kernel) rfl)
theorem lk15 : Cond.classLink RL 15 eISE ∈ ALL := (all_in2 132 (by decide +kernel) rfl)
theorem lk25 : Cond.classLink RL 25 eNSE ∈ ALL := (all_in3 0 (by decide +kernel) rfl)
theorem lk27 : Cond.classLink RL 27 eIOB ∈ ALL := (all_in3 1 (by decide +kernel) rfl)
theorem lk32 : Cond.classLink RL 32 eUOE ∈ ALL := (all_in3 78 (by decide +kernel) rfl)
theorem lk86 : Cond.classLink RL 86 eAE ∈ ALL := (all_in4 13 (by decide +kernel) rfl)
theorem ite_or {P : Prop} [Decidable P] {x y : Option String} {E : String} (h : (if P then x else y) = some E) : x = some E ∨ y = some E := by
  by_cases hp : P
  · rw [if_pos hp] at h; exact Or.inl h
  · rw [if_neg hp] at h; exact Or.inr h
theorem om_or {x y : Option String} {E : String} (h : (match x with | some e => some e | none => y) = some E) : x = some E ∨ y = some E := by
  cases x with
  | none => exact Or.inr h
  | some e => exact Or.inl h
theorem hx_checkPoint {sg : Sg} {p : Int32} {E : String} (h : fe_X4_checkPoint sg p = some E) : E = eIOB := by
  unfold fe_X4_checkPoint at h
  rcases ite_or h with h | h
  · skip
    obtain rfl := Option.some.inj h
    exact rfl
  · skip
    cases h
theorem hx_checkPiece {sg : Sg} {p : Int32} {E : String} (h : fe_X4_checkPiece sg p = some E) : E = eNSE := by
  unfold fe_X4_checkPiece at h
  rcases ite_or h with h | h
  · skip
    obtain rfl := Option.some.inj h
    exact rfl
  · skip
    cases h
theorem hx_checkTown {sg : Sg} {p : Int32} {E : String} (h : fe_X4_checkTown sg p = some E) : E = eNSE := by
  unfold fe_X4_checkTown at h
  rcases ite_or h with h | h
  · skip
    obtain rfl := Option.some.inj h
    exact rfl
  · skip
    cases h
theorem hx_checkNotHung {sg : Sg} {p : Int32} {E : String} (h : fe_X4_checkNotHung sg p = some E) : E = eISE := by
  unfold fe_X4_checkNotHung at h
  rcases ite_or h with h | h
  · skip
    obtain rfl := Option.some.inj h
    exact rfl
  · skip
    cases h
theorem hx_pieceAt {sg : Sg} {r : Nat} {p : Int32} {E : String} (h : fe_X4_pieceAt sg r p = some E) : E = eIOB := by
  unfold fe_X4_pieceAt at h
  rcases ite_or h with h | h
  · skip
    obtain rfl := Option.some.inj h
    exact rfl
  · skip
    cases h
theorem hx_addPoint {sg : Sg} {p : Int32} {z : Int32} {E : String} (h : fe_X4_addPoint sg p z = some E) : E = eIAE ∨ E = eISE := by
  unfold fe_X4_addPoint at h
  rcases ite_or h with h | h
  · skip
    obtain rfl := Option.some.inj h
    exact Or.inl rfl
  · skip
    rcases ite_or h with h | h
    · skip
      obtain rfl := Option.some.inj h
      exact Or.inl rfl
    · skip
      rcases ite_or h with h | h
      · skip
        cases h
      · skip
        obtain rfl := Option.some.inj h
        exact Or.inr (rfl)
theorem hx_addPiece {sg : Sg} {p : Int32} {z : Int32} {w : Int32} {t : Int32} {E : String} (h : fe_X4_addPiece sg p z w t = some E) : E = eIAE ∨ E = eISE := by
  unfold fe_X4_addPiece at h
  rcases ite_or h with h | h
  · skip
    obtain rfl := Option.some.inj h
    exact Or.inl rfl
  · skip
    rcases ite_or h with h | h
    · skip
      obtain rfl := Option.some.inj h
      exact Or.inl rfl
    · skip
      rcases ite_or h with h | h
      · skip
        obtain rfl := Option.some.inj h
        exact Or.inl rfl
      · skip
        rcases ite_or h with h | h
        · skip
          obtain rfl := Option.some.inj h
          exact Or.inl rfl
        · skip
          rcases ite_or h with h | h
          · skip
            cases h
          · skip
            obtain rfl := Option.some.inj h
            exact Or.inr (rfl)
theorem hx_fix {sg : Sg} {p : Int32} {a : Int32} {b : Int32} {z : Int32} {w : Int32} {E : String} (h : fe_X4_fix sg p a b z w = some E) : E = eNSE ∨ E = eIOB ∨ E = eIAE ∨ E = eISE := by
  unfold fe_X4_fix at h
  rcases om_or h with h | h
  · obtain rfl := hx_checkPiece h
    exact Or.inl rfl
  · skip
    rcases om_or h with h | h
    · obtain rfl := hx_checkPoint h
      exact Or.inr (Or.inl rfl)
    · skip
      rcases om_or h with h | h
      · obtain rfl := hx_checkPoint h
        exact Or.inr (Or.inl rfl)
      · skip
        rcases ite_or h with h | h
        · skip
          rcases ite_or h with h | h
          · skip
            obtain rfl := Option.some.inj h
            exact Or.inr (Or.inr (Or.inl rfl))
          · skip
            rcases ite_or h with h | h
            · skip
              obtain rfl := Option.some.inj h
              exact Or.inr (Or.inr (Or.inl rfl))
            · skip
              rcases om_or h with h | h
              · obtain rfl := hx_checkNotHung h
                exact Or.inr (Or.inr (Or.inr (rfl)))
              · skip
                cases h
        · skip
          obtain rfl := Option.some.inj h
          exact Or.inr (Or.inr (Or.inl rfl))
theorem hx_need {sg : Sg} {p : Int32} {a : Int32} {E : String} (h : fe_X4_need sg p a = some E) : E = eNSE ∨ E = eIAE ∨ E = eUOE ∨ E = eISE := by
  unfold fe_X4_need at h
  rcases om_or h with h | h
  · obtain rfl := hx_checkPiece h
    exact Or.inl rfl
  · skip
    rcases om_or h with h | h
    · obtain rfl := hx_checkPiece h
      exact Or.inl rfl
    · skip
      rcases ite_or h with h | h
      · skip
        obtain rfl := Option.some.inj h
        exact Or.inr (Or.inl rfl)
      · skip
        rcases ite_or h with h | h
        · skip
          obtain rfl := Option.some.inj h
          exact Or.inr (Or.inr (Or.inl rfl))
        · skip
          rcases om_or h with h | h
          · obtain rfl := hx_checkNotHung h
            exact Or.inr (Or.inr (Or.inr (rfl)))
          · skip
            cases h
theorem hx_setArrival {sg : Sg} {p : Int32} {z : Int32} {E : String} (h : fe_X4_setArrival sg p z = some E) : E = eIOB ∨ E = eIAE ∨ E = eISE := by
  unfold fe_X4_setArrival at h
  rcases ite_or h with h | h
  · skip
    obtain rfl := Option.some.inj h
    exact Or.inl rfl
  · skip
    rcases ite_or h with h | h
    · skip
      obtain rfl := Option.some.inj h
      exact Or.inr (Or.inl rfl)
    · skip
      rcases ite_or h with h | h
      · skip
        obtain rfl := Option.some.inj h
        exact Or.inr (Or.inr (rfl))
      · skip
        cases h
theorem hx_addTown {sg : Sg} {p : Int32} {z : Int32} {w : Int32} {t : Int32} {E : String} (h : fe_X4_addTown sg p z w t = some E) : E = eIAE ∨ E = eISE := by
  unfold fe_X4_addTown at h
  rcases ite_or h with h | h
  · skip
    obtain rfl := Option.some.inj h
    exact Or.inl rfl
  · skip
    rcases ite_or h with h | h
    · skip
      obtain rfl := Option.some.inj h
      exact Or.inl rfl
    · skip
      rcases ite_or h with h | h
      · skip
        obtain rfl := Option.some.inj h
        exact Or.inl rfl
      · skip
        rcases ite_or h with h | h
        · skip
          obtain rfl := Option.some.inj h
          exact Or.inl rfl
        · skip
          rcases ite_or h with h | h
          · skip
            cases h
          · skip
            obtain rfl := Option.some.inj h
            exact Or.inr (rfl)
theorem hx_setRates {sg : Sg} {p : Int32} {z : Int32} {w : Int32} {t : Int32} {E : String} (h : fe_X4_setRates sg p z w t = some E) : E = eNSE ∨ E = eIAE := by
  unfold fe_X4_setRates at h
  rcases om_or h with h | h
  · obtain rfl := hx_checkTown h
    exact Or.inl rfl
  · skip
    rcases ite_or h with h | h
    · skip
      obtain rfl := Option.some.inj h
      exact Or.inr (rfl)
    · skip
      rcases ite_or h with h | h
      · skip
        obtain rfl := Option.some.inj h
        exact Or.inr (rfl)
      · skip
        rcases ite_or h with h | h
        · skip
          obtain rfl := Option.some.inj h
          exact Or.inr (rfl)
        · skip
          cases h
theorem hx_come {sg : Sg} {p : Int32} {E : String} (h : fe_X4_come sg p = some E) : E = eNSE := by
  unfold fe_X4_come at h
  rcases om_or h with h | h
  · obtain rfl := hx_checkTown h
    exact rfl
  · skip
    cases h
theorem hx_town {sg : Sg}  {E : String} (h : fe_X4_town sg  = some E) : E = eNSE := by
  unfold fe_X4_town at h
  rcases ite_or h with h | h
  · skip
    obtain rfl := Option.some.inj h
    exact rfl
  · skip
    cases h
theorem hx_loadOn {sg : Sg} {p : Int32} {q : Int32} {E : String} (h : fe_X4_loadOn sg p q = some E) : E = eNSE ∨ E = eIOB := by
  unfold fe_X4_loadOn at h
  rcases om_or h with h | h
  · obtain rfl := hx_checkPiece h
    exact Or.inl rfl
  · skip
    rcases om_or h with h | h
    · obtain rfl := hx_checkPoint h
      exact Or.inr (rfl)
    · skip
      cases h
theorem hx_mayBear {sg : Sg} {q : Int32} {E : String} (h : fe_X4_mayBear sg q = some E) : E = eIOB ∨ E = eISE := by
  unfold fe_X4_mayBear at h
  rcases om_or h with h | h
  · obtain rfl := hx_checkPoint h
    exact Or.inl rfl
  · skip
    rcases ite_or h with h | h
    · skip
      obtain rfl := Option.some.inj h
      exact Or.inr (rfl)
    · skip
      cases h
theorem hx_bears {sg : Sg} {q : Int32} {E : String} (h : fe_X4_bears sg q = some E) : E = eIOB := by
  unfold fe_X4_bears at h
  rcases om_or h with h | h
  · obtain rfl := hx_checkPoint h
    exact rfl
  · skip
    cases h
theorem hx_reason {sg : Sg} {p : Int32} {E : String} (h : fe_X4_reason sg p = some E) : E = eNSE := by
  unfold fe_X4_reason at h
  rcases om_or h with h | h
  · obtain rfl := hx_checkPiece h
    exact rfl
  · skip
    cases h
theorem hx_hang {sg : Sg} {p : Int32} {E : String} (h : fe_X4_hang sg p = some E) : E = eNSE ∨ E = eISE := by
  unfold fe_X4_hang at h
  rcases om_or h with h | h
  · obtain rfl := hx_checkPiece h
    exact Or.inl rfl
  · skip
    rcases ite_or h with h | h
    · skip
      obtain rfl := Option.some.inj h
      exact Or.inr (rfl)
    · skip
      rcases ite_or h with h | h
      · skip
        cases h
      · skip
        obtain rfl := Option.some.inj h
        exact Or.inr (rfl)
theorem hx_takeDown {sg : Sg}  {E : String} (h : fe_X4_takeDown sg  = some E) : E = eISE := by
  unfold fe_X4_takeDown at h
  rcases ite_or h with h | h
  · skip
    cases h
  · skip
    obtain rfl := Option.some.inj h
    exact rfl
theorem hx_hungAt {sg : Sg} {p : Int32} {E : String} (h : fe_X4_hungAt sg p = some E) : E = eIOB := by
  unfold fe_X4_hungAt at h
  rcases om_or h with h | h
  · obtain rfl := hx_pieceAt h
    exact rfl
  · skip
    cases h
theorem hx_beginOf {sg : Sg} {p : Int32} {E : String} (h : fe_X4_beginOf sg p = some E) : E = eNSE := by
  unfold fe_X4_beginOf at h
  rcases ite_or h with h | h
  · skip
    obtain rfl := Option.some.inj h
    exact rfl
  · skip
    cases h
theorem hx_bestAt {sg : Sg} {p : Int32} {E : String} (h : fe_X4_bestAt sg p = some E) : E = eIOB := by
  unfold fe_X4_bestAt at h
  rcases om_or h with h | h
  · obtain rfl := hx_pieceAt h
    exact rfl
  · skip
    cases h
theorem hx_tightest {sg : Sg}  {E : String} (h : fe_X4_tightest sg  = some E) : E = eISE ∨ E = eNSE := by
  unfold fe_X4_tightest at h
  rcases ite_or h with h | h
  · skip
    obtain rfl := Option.some.inj h
    exact Or.inl rfl
  · skip
    rcases ite_or h with h | h
    · skip
      obtain rfl := Option.some.inj h
      exact Or.inr (rfl)
    · skip
      cases h
theorem hx_hungShare {sg : Sg}  {E : String} (h : fe_X4_hungShare sg  = some E) : E = eAE := by
  unfold fe_X4_hungShare at h
  rcases ite_or h with h | h
  · skip
    obtain rfl := Option.some.inj h
    exact rfl
  · skip
    cases h
theorem hx_meanLoad {sg : Sg}  {E : String} (h : fe_X4_meanLoad sg  = some E) : E = eAE := by
  unfold fe_X4_meanLoad at h
  rcases ite_or h with h | h
  · skip
    obtain rfl := Option.some.inj h
    exact rfl
  · skip
    cases h
