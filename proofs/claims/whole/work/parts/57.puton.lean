theorem has_cons {x : Nat × Int32 × Int32} {L : Rg} {j : Nat} : has (x :: L) j ↔ has L j ∨ j = x.1 := by
  constructor
  · rintro ⟨y, hy, e⟩
    rcases List.mem_cons.mp hy with rfl | hy
    · exact Or.inr e.symm
    · exact Or.inl ⟨y, hy, e⟩
  · rintro (⟨y, hy, e⟩ | e)
    · exact ⟨y, List.mem_cons_of_mem _ hy, e⟩
    · exact ⟨x, List.mem_cons_self, e.symm⟩
/-- the desk hangs one more piece -/
theorem s_putOn {s t : Sg} {r : Nat} {L : Rg} (hr : isR r) (hS : Stat s t) (h : RepS s t r L) {p : Nat} (hp : p < 6) (hl : L.length < 6) (hfx : ¬ t 48 p = 0) (hin : vp_in (t 49 p) 8 ∧ vp_in (t 50 p) 8) (hb : fr_X4_beginNext s r p (ix (t 41 23)) = aBeg t p L ∧ fr_X4_workNext s r p (ix (t 41 23)) = aWk t p L) : RepS (fs_X4_putOn s r (nI p) (ix (t 41 23))) t r (aPut t p L) := by
  obtain ⟨⟨h1, h2, h3, h4⟩, h5, h6, h7, h8⟩ := h
  obtain ⟨⟨e0, e1, e2, e3, e8, e9⟩, -, hf⟩ := hS.2.2.1 p hp
  obtain ⟨f4, f5, f45, f6, f7⟩ := hf hfx
  unfold isR at hr
  have hi : ix (s r 5) = L.length := by rw [h1, nI_ix (by omega)]
  have hpi : ix (nI p) = p := nI_ix (by omega)
  have n4 := in_ne hin.1
  have n5 := in_ne hin.2
  have hne : ix (t 50 p) ≠ ix (t 49 p) := fun e => f45 (by
    obtain ⟨a, ha, ea⟩ := in_nat hin.1 (by decide)
    obtain ⟨b, hb, eb⟩ := in_nat hin.2 (by decide)
    rw [ea, eb, nI_ix (by omega), nI_ix (by omega)] at e
    rw [ea, eb, e])
  unfold fs_X4_putOn
  rw [hpi, f4, f5, hi, hb.1, hb.2, e1, e2, f6, f7, if_pos (show s r 5 < 6 by rw [h1]; exact (nI_lt_iff (b := 6) (by omega) (by omega)).mpr hl), if_neg n4, if_neg n5, if_neg hne]
  refine ⟨⟨?_, hl, ⟨⟨?_, ?_, ?_, ?_⟩, h3.cong h4 (fun c k q1 q2 q3 => ?_) (fun _ _ => rfl)⟩, fun x hx => ?_⟩, ?_, fun j hj => ?_, ?_, fun q hq => ?_⟩
  · rw [up_at, h1]; exact nI_add1 _
  · rw [up_ne _ _ (by omega), up_ne _ _ (by omega), up_ne _ _ (by omega), up_ne _ _ (by omega), up_ne _ _ (by omega), up_ne _ _ (by omega), up_ne _ _ (by omega), up_ne _ _ (by omega), up_at]
  · rw [up_ne _ _ (by omega), up_ne _ _ (by omega), up_ne _ _ (by omega), up_ne _ _ (by omega), up_ne _ _ (by omega), up_ne _ _ (by omega), up_ne _ _ (by omega), up_at]
  · rw [up_ne _ _ (by omega), up_ne _ _ (by omega), up_ne _ _ (by omega), up_ne _ _ (by omega), up_ne _ _ (by omega), up_ne _ _ (by omega), up_at]
  · rw [up_ne _ _ (by omega), up_ne _ _ (by omega), up_ne _ _ (by omega), up_ne _ _ (by omega), up_ne _ _ (by omega), up_at]
  · rw [up_ne _ _ (by omega), up_ne _ _ (by omega), up_ne _ _ (by omega), up_ne _ _ (by omega), up_ne _ _ (by omega), up_ne _ _ (by omega), up_ne _ _ (by omega), up_ne _ _ (by omega), up_ne _ _ (by omega)]
  · rcases List.mem_cons.mp hx with rfl | hx
    · exact hp
    · exact h4 x hx
  · rw [up_ne _ _ (by omega), up_ne _ _ (by omega), up_at]; exact h5.or hp
  · rw [up_ne _ _ (by omega), up_ne _ _ (by omega), up_at, bit_or h5 hp hj, h6 j hj]
    exact (has_cons (x := (p, aBeg t p L, aWk t p L))).symm
  · rw [up_ne _ _ (by omega), up_at, h7]; rfl
  · obtain ⟨a, ha, ea⟩ := in_nat hin.1 (by decide)
    obtain ⟨b, hb2, eb⟩ := in_nat hin.2 (by decide)
    have ia : ix (t 49 p) = a := by rw [ea, nI_ix (by omega)]
    have ib : ix (t 50 p) = b := by rw [eb, nI_ix (by omega)]
    have hab : b ≠ a := by rw [ia, ib] at hne; exact hne
    rw [up_ne _ _ (by omega), up_ne _ _ (by omega), up_ne _ _ (by omega), ia, ib]
    show _ = aBorne t (nI q) L + fr_X5_load t (nI p) (nI q)
    by_cases c1 : q = b
    · rw [c1, up_at, h8 b hb2, eb]
    · rw [up_ne _ _ (by omega)]
      by_cases c2 : q = a
      · rw [c2, up_at, h8 a ha, ea]
      · rw [up_ne _ _ (by omega), up_ne _ _ (by omega), up_ne _ _ (by omega), up_ne _ _ (by omega), up_ne _ _ (by omega), h8 q hq]
        have z : fr_X5_load t (nI p) (nI q) = 0 := by
          unfold fr_X5_load
          rw [hpi, if_neg hfx, if_neg (by rw [ea]; exact fun e => c2 ((nI_eq_iff (by omega) (by omega)).mp e)), if_neg (by rw [eb]; exact fun e => c1 ((nI_eq_iff (by omega) (by omega)).mp e))]
        rw [z, Int32.add_zero]
