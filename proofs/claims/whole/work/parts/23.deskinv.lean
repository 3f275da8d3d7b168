/-! what the desk's own writes leave of its invariant -/
/-- the places that the invariant speaks of -/
def relD (c k : Nat) : Prop := (c = 0 ∧ 7 ≤ k ∧ k ≤ 10) ∨ ((c = 5 ∨ c = 11 ∨ c = 17) ∧ k = 5) ∨ (c = 6 ∨ c = 12 ∨ c = 18) ∨ (31 ≤ c ∧ c ≤ 36 ∧ 3 ≤ k ∧ k ≤ 5)
theorem DI.cong {s t : Sg} (h : DI s) (e : ∀ c k, relD c k → t c k = s c k) : DI t := by
  refine ⟨⟨?_, ?_, ?_⟩, ?_, fun r hr => ⟨?_, fun k hk hl => ?_⟩, fun p hp => ⟨?_, ?_, ?_⟩⟩
  · rw [e 0 7 (by unfold relD; omega)]; exact h.np
  · rw [e 0 8 (by unfold relD; omega)]; exact h.nc
  · rw [e 0 9 (by unfold relD; omega)]; exact h.nt
  · rw [e 0 10 (by unfold relD; omega)]; exact h.2.1
  · rw [e r 5 (by unfold relD; unfold isR at hr; omega)]; exact h.sz hr
  · rw [e r 5 (by unfold relD; unfold isR at hr; omega)] at hl
    rw [e (r + 1) k (by unfold relD; unfold isR at hr; omega)]
    exact h.od hr hk hl
  · rw [e (31 + p) 4 (by unfold relD; omega)]; exact (h.2.2.2 p hp).1
  · rw [e (31 + p) 5 (by unfold relD; omega)]; exact (h.2.2.2 p hp).2.1
  · rw [e (31 + p) 3 (by unfold relD; omega)]; exact (h.2.2.2 p hp).2.2
theorem DI.upn {s : Sg} (h : DI s) {c k : Nat} {v : Int32} (hn : ¬ relD c k) : DI (up s c k v) := h.cong fun c1 k1 hr => by
  by_cases hc : c1 = c ∧ k1 = k
  · rw [hc.1, hc.2] at hr; exact absurd hr hn
  · exact up_ne _ _ (by omega)
theorem DI.upo {s : Sg} (h : DI s) {r k : Nat} {v : Int32} (hr : isR r) (hv : vp_in v 6) : DI (up s (r + 1) k v) := by
  unfold isR at hr
  refine ⟨h.1, h.2.1, fun r1 hr1 => ⟨?_, fun k1 hk hl => ?_⟩, fun p hp => ?_⟩
  · rw [up_ne _ _ (by unfold isR at hr1; omega)]; exact h.sz hr1
  · rw [up_ne _ _ (by unfold isR at hr1; omega)] at hl
    by_cases hc : r1 + 1 = r + 1 ∧ k1 = k
    · rw [hc.1, hc.2, up_at]; exact hv
    · rw [up_ne _ _ (by omega)]; exact h.od hr1 hk hl
  · rw [up_ne _ _ (by omega), up_ne _ _ (by omega), up_ne _ _ (by omega)]; exact h.2.2.2 p hp
theorem DI.ups {s : Sg} (h : DI s) {r : Nat} {v : Int32} (hr : isR r) (hv : cnt v 6) (ho : ∀ k, k < 6 → nI k < v → vp_in (s (r + 1) k) 6) : DI (up s r 5 v) := by
  have hr0 := hr
  unfold isR at hr
  refine ⟨?_, ?_, fun r1 hr1 => ⟨?_, fun k1 hk hl => ?_⟩, fun p hp => ?_⟩
  · rw [up_ne _ _ (by omega), up_ne _ _ (by omega), up_ne _ _ (by omega)]; exact h.1
  · rw [up_ne _ _ (by omega)]; exact h.2.1
  · by_cases hc : r1 = r
    · rw [hc, up_at]; exact hv
    · rw [up_ne _ _ (by omega)]; exact h.sz hr1
  · rw [up_ne _ _ (by unfold isR at hr1; omega)]
    by_cases hc : r1 = r
    · rw [hc, up_at] at hl; rw [hc]; exact ho k1 hk hl
    · rw [up_ne _ _ (by omega)] at hl; exact h.od hr1 hk hl
  · rw [up_ne _ _ (by omega), up_ne _ _ (by omega), up_ne _ _ (by omega)]; exact h.2.2.2 p hp
theorem DI.putOn {s : Sg} (h : DI s) {r t : Nat} {p : Int32} (hr : isR r) (hp : vp_in p 6) : DI (fs_X4_putOn s r p t) := by
  have hr0 := hr
  unfold isR at hr
  unfold fs_X4_putOn
  split
  · rename_i hz
    split
    · exact h
    · split
      · exact h
      · obtain ⟨n, hn, en⟩ := h.sz hr0
        have hn6 : n < 6 := by
          rw [en, show (6 : Int32) = nI 6 from rfl, nI_lt_iff (by omega) (by omega)] at hz
          exact hz
        have e6 : ix (s r 5) = n := by rw [en, nI_ix (by omega)]
        refine DI.ups ((((((((h.upo hr0 hp).upn ?_).upn ?_).upn ?_).upn ?_).upn ?_).upn ?_).upn ?_) hr0 ?_ ?_
        · unfold relD; omega
        · unfold relD; omega
        · unfold relD; omega
        · unfold relD; omega
        · unfold relD; omega
        · unfold relD; omega
        · unfold relD; omega
        · rw [en]; exact ⟨n + 1, by omega, nI_add1 n⟩
        · intro k hk hl
          rw [en, show nI n + 1 = nI (n + 1) from nI_add1 n, nI_lt_iff (by omega) (by omega)] at hl
          rw [up_ne _ _ (by omega), up_ne _ _ (by omega), up_ne _ _ (by omega), up_ne _ _ (by omega), up_ne _ _ (by omega), up_ne _ _ (by omega), up_ne _ _ (by omega)]
          by_cases hc : k = n
          · rw [hc, e6, up_at]; exact hp
          · rw [up_ne _ _ (by rw [e6]; omega)]
            exact h.od hr0 hk (by rw [en, nI_lt_iff (by omega) (by omega)]; omega)
  · exact h
theorem DI.take {s : Sg} (h : DI s) {r : Nat} (hr : isR r) : DI (fs_X4_takeLastOff s r) := by
  have hr0 := hr
  unfold isR at hr
  unfold fs_X4_takeLastOff
  split
  · exact h
  · rename_i hz
    split
    · exact h
    · split
      · exact h
      · obtain ⟨-, n, hn, en, en1⟩ := (h.sz hr0).pred (by decide) (sub_nn (h.sz hr0) (by decide) hz)
        refine DI.ups ((((h.upn ?_).upn ?_).upn ?_).upn ?_) hr0 ?_ ?_
        · unfold relD; omega
        · unfold relD; omega
        · unfold relD; omega
        · unfold relD; omega
        · rw [en1]; exact ⟨n, by omega, rfl⟩
        · intro k hk hl
          rw [en1, nI_lt_iff (by omega) (by omega)] at hl
          rw [up_ne _ _ (by omega), up_ne _ _ (by omega), up_ne _ _ (by omega), up_ne _ _ (by omega)]
          exact h.od hr0 hk (by rw [en, nI_lt_iff (by omega) (by omega)]; omega)
theorem nI_lt_ix {k : Nat} {x : Int32} (hk : k < 2 ^ 31) : nI k < x ↔ k < ix x := by
  unfold ix
  rw [Int32.lt_iff_toInt_lt, nI_toInt hk]
  unfold Int32.toNatClampNeg
  omega
theorem ix_small (x : Int32) : ix x < 2 ^ 31 := by
  unfold ix Int32.toNatClampNeg
  have := x.toInt_lt
  omega
