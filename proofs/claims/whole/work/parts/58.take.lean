theorem i32_addsub (x y : Int32) : x + y - y = x := Int32.add_sub_cancel x y
/-- the desk takes the last piece off -/
theorem s_take {s t : Sg} {r : Nat} {x : Nat × Int32 × Int32} {L : Rg} (hr : isR r) (hS : Stat s t) (h : RepS s t r (x :: L)) (hn : ¬ has L x.1) (hfx : ¬ t 48 x.1 = 0) (hin : vp_in (t 49 x.1) 8 ∧ vp_in (t 50 x.1) 8) : RepS (fs_X4_takeLastOff s r) t r L := by
  obtain ⟨⟨h1, h2, h3, h4⟩, h5, h6, h7, h8⟩ := h
  have hp : x.1 < 6 := h4 x List.mem_cons_self
  obtain ⟨⟨e0, e1, e2, e3, e8, e9⟩, -, hf⟩ := hS.2.2.1 x.1 hp
  obtain ⟨f4, f5, f45, f6, f7⟩ := hf hfx
  unfold isR at hr
  have hl : L.length < 6 := h2
  have he : s r 5 - 1 = nI L.length := by rw [h1]; exact nI_pred L.length
  have hi : ix (nI L.length) = L.length := nI_ix (by omega)
  have hpi : ix (nI x.1) = x.1 := nI_ix (by omega)
  obtain ⟨a, ha, ea⟩ := in_nat hin.1 (by decide)
  obtain ⟨b, hb2, eb⟩ := in_nat hin.2 (by decide)
  have ia : ix (t 49 x.1) = a := by rw [ea, nI_ix (by omega)]
  have ib : ix (t 50 x.1) = b := by rw [eb, nI_ix (by omega)]
  have hab : b ≠ a := fun e => f45 (by rw [ea, eb, e])
  unfold fs_X4_takeLastOff
  rw [he, hi, h3.1.1, hpi, f4, f5, f6, f7, e2, if_neg (nI_nn (by omega)), if_neg (in_ne hin.1), if_neg (in_ne hin.2), ia, ib, if_neg hab]
  refine ⟨⟨?_, Nat.le_of_lt hl, h3.2.cong (fun y hy => h4 y (List.mem_cons_of_mem _ hy)) (fun c k q1 q2 q3 => ?_) (fun _ _ => rfl), fun y hy => h4 y (List.mem_cons_of_mem _ hy)⟩, ?_, fun j hj => ?_, ?_, fun q hq => ?_⟩
  · rw [up_at]
  · rw [up_ne _ _ (by omega), up_ne _ _ (by omega), up_ne _ _ (by omega), up_ne _ _ (by omega), up_ne _ _ (by omega)]
  · rw [up_ne _ _ (by omega), up_ne _ _ (by omega), up_at]; exact h5.andn hp
  · rw [up_ne _ _ (by omega), up_ne _ _ (by omega), up_at, bit_andn h5 hp hj, h6 j hj, has_cons]
    constructor
    · rintro ⟨q1 | q1, q2⟩
      · exact q1
      · exact absurd q1 q2
    · intro q1
      exact ⟨Or.inl q1, fun e => hn (e ▸ q1)⟩
  · rw [up_ne _ _ (by omega), up_at, h7]; exact i32_addsub _ _
  · have g := h8 q hq
    have g' : s (r + 5) q = aBorne t (nI q) L + fr_X5_load t (nI x.1) (nI q) := g
    rw [up_ne _ _ (by omega), up_ne _ _ (by omega), up_ne _ _ (by omega)]
    by_cases c1 : q = b
    · rw [c1, up_at, ← c1, g', c1, eb]; exact i32_addsub _ _
    · rw [up_ne _ _ (by omega)]
      by_cases c2 : q = a
      · rw [c2, up_at, ← c2, g', c2, ea]; exact i32_addsub _ _
      · rw [up_ne _ _ (by omega), g']
        have z : fr_X5_load t (nI x.1) (nI q) = 0 := by
          unfold fr_X5_load
          rw [hpi, if_neg hfx, if_neg (by rw [ea]; exact fun e => c2 ((nI_eq_iff (by omega) (by omega)).mp e)), if_neg (by rw [eb]; exact fun e => c1 ((nI_eq_iff (by omega) (by omega)).mp e))]
        rw [z, Int32.add_zero]
