/-! what was entered changes: what the hung pieces stand on does not -/
def Sm (t u : Sg) (p : Nat) : Prop := (u 45 p = t 45 p ∧ u 46 p = t 46 p ∧ u 47 p = t 47 p ∧ u 48 p = t 48 p ∧ u 49 p = t 49 p ∧ u 50 p = t 50 p ∧ u 53 p = t 53 p) ∧ (∀ q, fr_X5_load u (nI p) q = fr_X5_load t (nI p) q) ∧ u 54 (ix (t 47 p)) = t 54 (ix (t 47 p)) ∧ fr_X5_may u (t 49 p) = fr_X5_may t (t 49 p) ∧ fr_X5_may u (t 50 p) = fr_X5_may t (t 50 p)
def Tm (t u : Sg) : Prop := u 41 23 = t 41 23 ∧ u 56 (ix (t 41 23)) = t 56 (ix (t 41 23)) ∧ u 57 (ix (t 41 23)) = t 57 (ix (t 41 23)) ∧ u 58 (ix (t 41 23)) = t 58 (ix (t 41 23))
theorem has_hd {x : Nat × Int32 × Int32} {L : Rg} : has (x :: L) x.1 := ⟨x, List.mem_cons_self, rfl⟩
theorem has_tl {x : Nat × Int32 × Int32} {L : Rg} {p : Nat} (h : has L p) : has (x :: L) p := has_cons.mpr (Or.inl h)
section CG
variable {t u : Sg}
theorem cg_end : ∀ {L : Rg}, (∀ p, has L p → u 45 p = t 45 p) → aEnd u L = aEnd t L
  | [], _ => rfl
  | x :: L, h => by show x.2.1 + u 45 x.1 = x.2.1 + t 45 x.1; rw [h x.1 has_hd]
theorem cg_borne (q : Int32) : ∀ {L : Rg}, (∀ p, has L p → Sm t u p) → aBorne u q L = aBorne t q L
  | [], _ => rfl
  | x :: L, h => by
    show aBorne u q L + fr_X5_load u (nI x.1) q = aBorne t q L + fr_X5_load t (nI x.1) q
    rw [cg_borne q (fun p hp => h p (has_tl hp)), (h x.1 has_hd).2.1]
theorem cg_worth : ∀ {L : Rg}, (∀ p, has L p → Sm t u p) → aWorth u L = aWorth t L
  | [], _ => rfl
  | x :: L, h => by
    show aWorth u L + u 46 x.1 = aWorth t L + t 46 x.1
    rw [cg_worth (fun p hp => h p (has_tl hp)), (h x.1 has_hd).1.2.1]
theorem cg_beg {L : Rg} {p : Nat} (hT : Tm t u) (hp : Sm t u p) (hL : ∀ p, has L p → Sm t u p) : aBeg u p L = aBeg t p L ∧ aWk u p L = aWk t p L := by
  obtain ⟨⟨a1, a2, a3, a4, a5, a6, a7⟩, b, c, d, e⟩ := hp
  obtain ⟨f1, f2, f3, f4⟩ := hT
  have g := cg_end (fun p hp => (hL p hp).1.1)
  unfold aBeg aWk
  rw [g, a3, a1, c, f1, f2, f3]
  exact ⟨rfl, rfl⟩
theorem cg_why {L : Rg} {p : Nat} (hT : Tm t u) (hp : Sm t u p) (hL : ∀ p, has L p → Sm t u p) : aWhy u p L = aWhy t p L := by
  have g := (cg_beg hT hp hL).1
  obtain ⟨⟨a1, a2, a3, a4, a5, a6, a7⟩, b, c, d, e⟩ := hp
  obtain ⟨f1, f2, f3, f4⟩ := hT
  have k : aLk u p L = aLk t p L := by unfold aLk; rw [a7]
  unfold aWhy aOv
  rw [g, k, a4, a5, a6, a1, f1, f2, f4, d, e]
  simp only [b, cg_borne _ hL]
theorem Ok.cg (hT : Tm t u) (hc : ix (t 41 3) ≤ ix (u 41 3)) : ∀ {L : Rg}, Ok t L → (∀ p, has L p → Sm t u p) → Ok u L
  | [], _, _ => trivial
  | x :: L, h, hL => by
    have h2 := fun p hp => hL p (has_tl (x := x) hp)
    have g := cg_beg hT (hL x.1 has_hd) h2
    refine ⟨⟨Nat.lt_of_lt_of_le h.1.1 hc, ?_, ?_⟩, h.2.cg hT hc h2⟩
    · rw [g.1, g.2]; exact h.1.2.1
    · rw [cg_why hT (hL x.1 has_hd) h2]; exact h.1.2.2
theorem RS.cg {s : Sg} {r : Nat} : ∀ {L : Rg}, RS s t r L → (∀ p, has L p → Sm t u p) → RS s u r L
  | [], _, _ => trivial
  | x :: L, h, hL => ⟨⟨h.1.1, h.1.2.1, by rw [(hL x.1 has_hd).1.1]; exact h.1.2.2.1, h.1.2.2.2⟩, h.2.cg fun p hp => hL p (has_tl hp)⟩
theorem RepS.cg {s : Sg} {r : Nat} {L : Rg} (h : RepS s t r L) (hL : ∀ p, has L p → Sm t u p) : RepS s u r L := by
  obtain ⟨⟨h1, h2, h3, h4⟩, h5, h6, h7, h8⟩ := h
  exact ⟨⟨h1, h2, h3.cg hL, h4⟩, h5, h6, by rw [h7, cg_worth hL], fun q hq => by rw [h8 q hq, cg_borne _ hL]⟩
end CG
theorem part_cg {t u : Sg} {p : Nat} (hp : p < 6) (e44 : u 44 p = t 44 p) (e49 : u 49 p = t 49 p) (e50 : u 50 p = t 50 p) (e51 : u 51 p = t 51 p) (el : u 42 (ix (t 49 p)) = t 42 (ix (t 49 p))) (er : u 42 (ix (t 50 p)) = t 42 (ix (t 50 p))) : fr_X5_partOfRight u (nI p) = fr_X5_partOfRight t (nI p) := by
  unfold fr_X5_partOfRight
  rw [nI_ix (by omega), e44, e49, e50, e51, el, er]
theorem load_cg {t u : Sg} {p : Nat} (hp : p < 6) (q : Int32) (e44 : u 44 p = t 44 p) (e48 : u 48 p = t 48 p) (e49 : u 49 p = t 49 p) (e50 : u 50 p = t 50 p) (e51 : u 51 p = t 51 p) (e52 : u 52 p = t 52 p) (el : ¬ t 48 p = 0 → u 42 (ix (t 49 p)) = t 42 (ix (t 49 p)) ∧ u 42 (ix (t 50 p)) = t 42 (ix (t 50 p))) : fr_X5_load u (nI p) q = fr_X5_load t (nI p) q := by
  unfold fr_X5_load
  rw [nI_ix (by omega), e48]
  by_cases c : t 48 p = 0
  · rw [if_pos c, if_pos c]
  · rw [part_cg hp e44 e49 e50 e51 (el c).1 (el c).2, e44, e49, e50, e52]
/-- the three rigs' sizes and rows -/
def DIr (s : Sg) : Prop := ∀ r, isR r → cnt (s r 5) 6 ∧ ∀ k, k < 6 → nI k < s r 5 → vp_in (s (r + 1) k) 6
theorem DI.r {s : Sg} (h : DI s) : DIr s := h.2.2.1
theorem DIr.cong {s u : Sg} (h : DIr s) (e : ∀ r, isR r → u r 5 = s r 5 ∧ ∀ k, u (r + 1) k = s (r + 1) k) : DIr u := fun r hr => by
  obtain ⟨e1, e2⟩ := e r hr
  rw [e1]
  exact ⟨(h r hr).1, fun k hk hl => by rw [e2 k]; exact (h r hr).2 k hk hl⟩
theorem DI.of {s t : Sg} (hM : MS t) (hS : Stat s t) (hn : RtN s t) (hr : DIr s) : DI s := by
  refine ⟨⟨?_, ?_, ?_⟩, ?_, hr, fun p hp => ?_⟩
  · rw [hS.1.1]; exact hM.1.1
  · rw [hS.1.2.1]; exact hM.1.2.1
  · rw [hS.1.2.2.1]; exact hM.1.2.2
  · rw [hS.1.2.2.2]; exact hM.2.1
  · obtain ⟨⟨e0, e1, e2, e3, e8, e9⟩, hu, hf⟩ := hS.2.2.1 p hp
    refine ⟨?_, ?_, by rw [e3]; exact hM.2.2.2 p hp⟩
    · by_cases c : t 48 p = 0
      · exact Or.inl (hu c)
      · rw [(hf c).1]; exact Or.inr (hM.2.2.1 p hp c).1
    · by_cases c : t 48 p = 0
      · exact Or.inl ((hn p hp).1 c)
      · rw [(hf c).2.1]; exact Or.inr (hM.2.2.1 p hp c).2.1
theorem Rl.of {v : Sg} {L : Rg} (hr : DIr v) (hM : MS v) (hA : AC v) (hS : Stat v v) (hN : Nb v) (hR : RepS v v 5 L) (hT : RepT v L) (hO : Ok v L) (hn : RtN v v) : Rl v v L :=
  ⟨⟨DI.of hM hS hn hr, hM, hA, hS, hN⟩, hR, hT, hO, hn⟩
theorem AC.of53 {t u : Sg} (h : AC t) (e : ∀ p, p < 6 → u 53 p = t 53 p) : AC u := by
  obtain ⟨rho, h1, h2⟩ := h
  exact ⟨rho, h1, fun p k hp hk he => h2 p k hp hk (by rw [← e p hp]; exact he)⟩
/-- a hung piece is fixed; it was added -/
theorem Ok.fx {t : Sg} (hM : MS t) : ∀ {L : Rg}, Ok t L → ∀ p, has L p → ¬ t 48 p = 0 ∧ p < ix (t 41 3) ∧ p < 6 ∧ ¬ t 41 23 < 0
  | [], _, p, ⟨x, hx, _⟩ => nomatch hx
  | x :: L, h, p, hp => by
    rcases has_cons.mp hp with c | c
    · exact h.2.fx hM p c
    · rw [c]
      have := Ok.lt hM h x List.mem_cons_self
      exact ⟨(why45a h.1.2.2).2.2.1, this.1, this.2, (why45a h.1.2.2).1⟩
