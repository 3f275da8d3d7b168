/-! the beginning: nothing was entered -/
theorem z_at (c k : Nat) (h0 : ¬ (c = 0 ∧ k = 10)) (h1 : ¬ (31 ≤ c ∧ c < 37 ∧ (k = 4 ∨ k = 5))) (h2 : ¬ (37 ≤ c ∧ c < 41 ∧ k = 0)) (h3 : ¬ (c = 41 ∧ k = 23)) : sg0 c k = 0 := by
  unfold sg0
  rw [if_neg h0, if_neg h1, if_neg h2, if_neg h3]
theorem z_st : sg0 41 23 = -1 := rfl
theorem z_bnd {a b : Int} {x : Int32} (hx : x = 0) (ha : a ≤ 0) (hb : 0 ≤ b) : bnd x a b := by
  rw [hx]
  exact ⟨ha, hb⟩
theorem z_cnt {x : Int32} {n : Nat} (hx : x = 0) : cnt x n := ⟨0, Nat.zero_le _, by rw [hx]; rfl⟩
theorem z_bit {x : Int32} (hx : x = 0) {j : Nat} (hj : j < 6) : ¬ bitb x j = true := by
  rw [hx, bits_zero ⟨j, hj⟩]
  decide
theorem rel0 : Rel sg0 := by
  have tn : sg0 41 23 < 0 := by rw [z_st]; decide
  have z53 : ∀ p, p < 6 → sg0 53 p = 0 := fun p hp => z_at 53 p (by omega) (by omega) (by omega) (by omega)
  have z48 : ∀ p, p < 6 → sg0 48 p = 0 := fun p hp => z_at 48 p (by omega) (by omega) (by omega) (by omega)
  have z3 : ix (sg0 41 3) = 0 := by rw [z_at 41 3 (by omega) (by omega) (by omega) (by omega)]; rfl
  have z15 : ix (sg0 41 15) = 0 := by rw [z_at 41 15 (by omega) (by omega) (by omega) (by omega)]; rfl
  refine ⟨[], Rl.of (fun r hr => ?_) ⟨⟨?_, ?_, ?_⟩, Or.inl tn, fun p hp c => absurd (z48 p hp) c, fun p hp => ?_⟩ ⟨fun _ => 0, fun _ => show (0 : Nat) < 7 by decide, fun p k hp hk he => ?_⟩ ⟨⟨?_, ?_, ?_, ?_⟩, fun i hi => ?_, fun p hp => ⟨⟨?_, ?_, ?_, ?_, ?_, ?_⟩, fun _ => ?_, fun c => absurd (z48 p hp) c⟩, fun i hi => ?_, fun i hi => ⟨?_, ?_, ?_, ?_, ?_, ?_, ?_, ?_⟩⟩ ⟨fun p hp => ⟨⟨?_, ?_, ?_⟩, fun z => ?_, ⟨?_, fun j hj z => ?_⟩, fun c => absurd (z48 p hp) c⟩, fun i hi => ?_, fun i hi => ⟨⟨?_, ?_, ?_, ?_⟩, ⟨?_, ?_, ?_⟩, fun z => ?_⟩, fun i hi => ⟨?_, ?_⟩, fun c => absurd tn c⟩ ⟨⟨?_, Nat.zero_le _, trivial, fun x hx => nomatch hx⟩, ?_, fun j hj => ⟨fun z => ?_, fun ⟨x, hx, _⟩ => nomatch hx⟩, ?_, fun q hq => ?_⟩ ⟨?_, Nat.zero_le _, trivial, fun x hx => nomatch hx⟩ trivial (fun p hp => ⟨fun _ => ?_, fun c => absurd (z48 p hp) c⟩)⟩
  · have e : sg0 r 5 = 0 := by unfold isR at hr; exact z_at r 5 (by omega) (by omega) (by omega) (by omega)
    rw [e]
    exact ⟨z_cnt rfl, fun k hk hl => absurd hl (nI_nn (by omega))⟩
  · exact z_cnt (z_at 41 0 (by omega) (by omega) (by omega) (by omega))
  · exact z_cnt (z_at 41 3 (by omega) (by omega) (by omega) (by omega))
  · exact z_cnt (z_at 41 15 (by omega) (by omega) (by omega) (by omega))
  · rw [z_at 47 p (by omega) (by omega) (by omega) (by omega)]; exact in_nI (k := 0) (by decide) (by decide)
  · rw [z53 p hp] at he
    exact absurd he (fun z => z_bit rfl hk ((bit_one ⟨0, by decide, rfl⟩ hk).mp z))
  · rw [z_at 0 7 (by omega) (by omega) (by omega) (by omega), z_at 41 0 (by omega) (by omega) (by omega) (by omega)]
  · rw [z_at 0 8 (by omega) (by omega) (by omega) (by omega), z_at 41 3 (by omega) (by omega) (by omega) (by omega)]
  · rw [z_at 0 9 (by omega) (by omega) (by omega) (by omega), z_at 41 15 (by omega) (by omega) (by omega) (by omega)]
  · rfl
  · rw [z_at (23 + i) 0 (by omega) (by omega) (by omega) (by omega), z_at 42 i (by omega) (by omega) (by omega) (by omega), z_at (23 + i) 1 (by omega) (by omega) (by omega) (by omega), z_at 43 i (by omega) (by omega) (by omega) (by omega)]
    exact ⟨rfl, rfl⟩
  · rw [z_at (31 + p) 0 (by omega) (by omega) (by omega) (by omega), z_at 44 p (by omega) (by omega) (by omega) (by omega)]
  · rw [z_at (31 + p) 1 (by omega) (by omega) (by omega) (by omega), z_at 45 p (by omega) (by omega) (by omega) (by omega)]
  · rw [z_at (31 + p) 2 (by omega) (by omega) (by omega) (by omega), z_at 46 p (by omega) (by omega) (by omega) (by omega)]
  · rw [z_at (31 + p) 3 (by omega) (by omega) (by omega) (by omega), z_at 47 p (by omega) (by omega) (by omega) (by omega)]
  · rw [z_at (31 + p) 8 (by omega) (by omega) (by omega) (by omega), z53 p hp]
  · rw [z53 p hp]; exact ⟨0, by decide, rfl⟩
  · have e : sg0 (31 + p) 4 = -1 := by unfold sg0; rw [if_neg (by omega), if_pos (by omega)]
    rw [e]; decide
  · rw [z_at 4 i (by omega) (by omega) (by omega) (by omega), z_at 54 i (by omega) (by omega) (by omega) (by omega)]
  · unfold sg0
    rw [if_neg (by omega), if_neg (by omega), if_pos (by omega), show 37 + i - 37 = i by omega]
  · rw [z_at (37 + i) 1 (by omega) (by omega) (by omega) (by omega), z_at 55 i (by omega) (by omega) (by omega) (by omega)]
  · rw [z_at (37 + i) 2 (by omega) (by omega) (by omega) (by omega), z_at 56 i (by omega) (by omega) (by omega) (by omega)]
  · rw [z_at (37 + i) 3 (by omega) (by omega) (by omega) (by omega), z_at 57 i (by omega) (by omega) (by omega) (by omega)]
  · rw [z_at (37 + i) 4 (by omega) (by omega) (by omega) (by omega), z_at 58 i (by omega) (by omega) (by omega) (by omega)]
  · rw [z_at (37 + i) 5 (by omega) (by omega) (by omega) (by omega), z_at 59 i (by omega) (by omega) (by omega) (by omega)]
  · rw [z_at (37 + i) 6 (by omega) (by omega) (by omega) (by omega), z_at 60 i (by omega) (by omega) (by omega) (by omega)]
  · rw [z_at (37 + i) 7 (by omega) (by omega) (by omega) (by omega), z_at 61 i (by omega) (by omega) (by omega) (by omega)]
  · exact z_bnd (z_at 45 p (by omega) (by omega) (by omega) (by omega)) (by decide) (by decide)
  · exact z_bnd (z_at 46 p (by omega) (by omega) (by omega) (by omega)) (by decide) (by decide)
  · exact z_bnd (z_at 44 p (by omega) (by omega) (by omega) (by omega)) (by decide) (by decide)
  · omega
  · rw [z53 p hp]; exact ⟨0, by decide, rfl⟩
  · exact absurd z (z_bit (z53 p hp) hj)
  · exact z_bnd (z_at 54 i (by omega) (by omega) (by omega) (by omega)) (by decide) (by decide)
  · exact z_bnd (z_at 55 i (by omega) (by omega) (by omega) (by omega)) (by decide) (by decide)
  · exact z_bnd (z_at 56 i (by omega) (by omega) (by omega) (by omega)) (by decide) (by decide)
  · exact z_bnd (z_at 57 i (by omega) (by omega) (by omega) (by omega)) (by decide) (by decide)
  · exact z_bnd (z_at 58 i (by omega) (by omega) (by omega) (by omega)) (by decide) (by decide)
  · exact z_bnd (z_at 59 i (by omega) (by omega) (by omega) (by omega)) (by decide) (by decide)
  · exact z_bnd (z_at 60 i (by omega) (by omega) (by omega) (by omega)) (by decide) (by decide)
  · exact z_bnd (z_at 61 i (by omega) (by omega) (by omega) (by omega)) (by decide) (by decide)
  · omega
  · exact z_bnd (z_at 42 i (by omega) (by omega) (by omega) (by omega)) (by decide) (by decide)
  · exact z_bnd (z_at 43 i (by omega) (by omega) (by omega) (by omega)) (by decide) (by decide)
  · exact z_at 5 5 (by omega) (by omega) (by omega) (by omega)
  · rw [z_at 5 6 (by omega) (by omega) (by omega) (by omega)]; exact ⟨0, by decide, rfl⟩
  · exact absurd z (z_bit (z_at 5 6 (by omega) (by omega) (by omega) (by omega)) hj)
  · exact z_at 5 7 (by omega) (by omega) (by omega) (by omega)
  · exact z_at 10 q (by omega) (by omega) (by omega) (by omega)
  · exact z_at 41 24 (by omega) (by omega) (by omega) (by omega)
  · have e : sg0 (31 + p) 5 = -1 := by unfold sg0; rw [if_neg (by omega), if_pos (by omega)]
    rw [e]; decide
theorem st_all : St_all Rel := ⟨st_addPoint, st_addPiece, st_fix, st_need, st_setArrival, st_addTown, st_setRates, st_come, st_town, st_loadOn, st_mayBear, st_bears, st_reason, st_hang, st_takeDown, st_hung, st_hungAt, st_beginOf, st_end, st_work, st_cost, st_costByMinutes, st_bestWorth, st_bestByAll, st_bestEnd, st_bestCost, st_bestSize, st_bestAt, st_complete, st_completions, st_tightest, st_hungShare, st_meanLoad, st_isSound⟩
