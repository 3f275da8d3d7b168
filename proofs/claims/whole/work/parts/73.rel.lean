/-! what holds between the desk (s) and the reference (t) at all times: both hold the rig L -/
def RtN (s t : Sg) : Prop := ∀ p, p < 6 → (t 48 p = 0 → s (31 + p) 5 < 0) ∧ (¬ t 48 p = 0 → p < ix (t 41 3))
def Rl (s t : Sg) (L : Rg) : Prop := (DI s ∧ MS t ∧ AC t ∧ Stat s t ∧ Nb t) ∧ RepS s t 5 L ∧ RepT t L ∧ Ok t L ∧ RtN s t
def Rel (sg : Sg) : Prop := ∃ L, Rl sg sg L
theorem AC.sa {t u : Sg} (hs : rs u = rs t) (h : AC t) : AC u := by
  obtain ⟨rho, h1, h2⟩ := h
  exact ⟨rho, h1, fun p k hp hk he => h2 p k hp hk (by rw [← rs_at hs 53 p (by omega)]; exact he)⟩
section RL
variable {s t u : Sg} {L : Rg}
theorem Rl.di (h : Rl s t L) : DI s := h.1.1
theorem Rl.ms (h : Rl s t L) : MS t := h.1.2.1
theorem Rl.ac (h : Rl s t L) : AC t := h.1.2.2.1
theorem Rl.st (h : Rl s t L) : Stat s t := h.1.2.2.2.1
theorem Rl.nb (h : Rl s t L) : Nb t := h.1.2.2.2.2
theorem Rl.rp (h : Rl s t L) : RepS s t 5 L := h.2.1
theorem Rl.rt (h : Rl s t L) : RepT t L := h.2.2.1
theorem Rl.ok (h : Rl s t L) : Ok t L := h.2.2.2.1
theorem Rl.rn (h : Rl s t L) : RtN s t := h.2.2.2.2
theorem Rl.mi (h : Rl s t L) : MI t := h.ms.mi h.rt
theorem Rl.ri (h : Rl s t L) : RI t := h.ok.ri rfl h.rt
theorem Rl.tt (h : Rl s t L) (hs : rs u = rs t) (hR : RepT u L) : Rl s u L :=
  ⟨⟨h.di, (sa_MS hs).mpr h.ms, h.ac.sa hs, h.st.sa hs, (sa_Nb hs).mpr h.nb⟩, h.rp.sa hs, hR, (sa_Ok hs L).mpr h.ok, fun p hp => by rw [rs_at hs 48 p (by omega), rs_at hs 41 3 (by omega)]; exact h.rn p hp⟩
theorem Rl.ss (h : Rl s t L) (e : ∀ c k, c < 41 → u c k = s c k) : Rl u t L :=
  ⟨⟨h.di.cong fun c k hr => e c k (by unfold relD at hr; omega), h.ms, h.ac, h.st.cong fun c k hc => e c k (by omega), h.nb⟩, h.rp.cong fun c k _ _ => e c k (by omega), h.rt, h.ok, fun p hp => by rw [e _ 5 (by omega)]; exact h.rn p hp⟩
theorem Rl.ad (h : Rl s t L) (hD : DI u) (a : Ad s u) : Rl u t L :=
  ⟨⟨hD, h.ms, h.ac, h.st.ad a, h.nb⟩, h.rp.cong fun c k h1 h2 => a c k (by omega) (by omega), h.rt, h.ok, fun p hp => by rw [a _ 5 (by omega) (by omega)]; exact h.rn p hp⟩
/-- the reference's state is the same behind a change of the desk's -/
theorem Rl.hi (h : Rl s t L) (e : ∀ c k, 41 ≤ c → u c k = t c k) : Rl s u L :=
  h.tt (rs_of fun c k hc => e c k (by omega)) (h.rt.cong (e 41 24 (by omega)) fun c k h1 _ _ => e c k (by omega))
end RL
theorem Rel.ad {sg u : Sg} {L : Rg} (h : Rl sg sg L) (hD : DI u) (a : Ad sg u) : Rl u u L :=
  (h.ad hD a).hi fun c k hc => a c k (by omega) (by omega)
theorem Rl.up34 {s t : Sg} {L : Rg} {v : Int32} (h : Rl s t L) : Rl s (up t 41 34 v) L :=
  h.tt (rs_of fun c k hc => up_ne _ _ (by omega)) (h.rt.cong (up_ne _ _ (by omega)) fun c k h1 _ _ => up_ne _ _ (by omega))
theorem Rel.up34 {sg : Sg} {v : Int32} (h : Rel sg) : Rel (up sg 41 34 v) := by
  obtain ⟨L, h⟩ := h
  exact ⟨L, h.up34.ss fun c k hc => up_ne _ _ (by omega)⟩
/-! the reference's calls leave the desk's cells -/
theorem lo_cpb {c : Nat} (hc : c < 41) : ∀ (n k : Nat) (s : Sg) (j : Nat), fcpb n k s c j = s c j := fun n k s j => by rw [cpb_at, if_neg (by omega)]
theorem lo_take {c : Nat} (hc : c < 41) (s : Sg) (j : Nat) : fs_take s c j = s c j := by
  unfold fs_take
  split
  · rw [lo_cpb hc, up_ne _ _ (by omega), up_ne _ _ (by omega), up_ne _ _ (by omega), up_ne _ _ (by omega), up_ne _ _ (by omega)]
  · rw [up_ne _ _ (by omega)]
theorem lo_hangs {c : Nat} (hc : c < 41) (s : Sg) (p : Int32) (j : Nat) : fs_X5_hangs s p c j = s c j := by
  rw [hangs_eq, hput_o c j (by omega)]
theorem lo_Tl {c : Nat} (hc : c < 41) {F : Sg → Sg} (hF : ∀ s j, F s c j = s c j) : ∀ (n k : Nat) (s : Sg) (j : Nat), fTl F n k s c j = s c j
  | 0, _, _, _ => rfl
  | n + 1, k, s, j => by
    unfold fTl
    rw [lo_Tl hc hF n (k + 1)]
    split
    · rw [up_ne _ _ (by omega), hF, lo_hangs hc]
    · rfl
theorem lo_T {c : Nat} (hc : c < 41) : ∀ (d : Nat) (s : Sg) (j : Nat), fT d s c j = s c j
  | 0, _, _ => rfl
  | d + 1, s, j => by
    unfold fT
    rw [lo_Tl hc (lo_T hc d), lo_take hc]
theorem lo_searches {c : Nat} (hc : c < 41) (s : Sg) (j : Nat) : fs_X5_searches s c j = s c j := by
  unfold fs_X5_searches s0_
  rw [lo_T hc, up_ne _ _ (by omega), up_ne _ _ (by omega)]
theorem lo_cmp {c : Nat} (hc : c < 41) (n : Nat) (s : Sg) (j : Nat) : fl_cmp n s c j = s c j := cmp_f n s c j (by omega)
/-- after a search of the desk: the reference's search finds the same -/
theorem pack {sg sd : Sg} {L : Rg} (h : Rl sg sg L) (hD : DI sd) (a : Ad sg sd) : Rl sd sd L ∧ rs sd = rs sg ∧ BS sg (fs_X5_searches sd) (nds sg 7 L).length (bst sg L) ∧ Rl (fs_X5_searches sd) (fs_X5_searches sd) L ∧ 0 < (nds sg 7 L).length := by
  have h1 := Rel.ad h hD a
  have hs : rs sd = rs sg := rs_of fun c k hc => a c k (by omega) (by omega)
  obtain ⟨b1, b2, b3⟩ := r_searches h.ms h.nb hs h1.rt h.ok
  have h2 : Rl sd (fs_X5_searches sd) L := h1.tt (by rw [b2, hs]) b3
  exact ⟨h1, hs, b1, h2.ss fun c k hc => lo_searches hc sd k, Nat.succ_pos _⟩
theorem wS_same (ex : Option String) (a : Sg) : wS ex a a = a := by cases ex <;> rfl
theorem row_eq {s t u : Sg} {r : Nat} : ∀ {M : Rg}, RS s t r M → RowB u M → ∀ k, k < M.length → s (r + 1) k = u 65 k
  | [], _, _, k, hk => absurd hk (Nat.not_lt_zero _)
  | x :: M, h1, h2, k, hk => by
    rcases Nat.lt_or_ge k M.length with z | z
    · exact row_eq h1.2 h2.2 k z
    · have e : k = M.length := by
        have : k < M.length + 1 := hk
        omega
      rw [e, h1.1.1, h2.1]
theorem row_rep {s t u : Sg} {r : Nat} : ∀ {M : Rg}, RS s t r M → RepR u M → ∀ k, k < M.length → s (r + 1) k = u 62 k ∧ s (r + 2) k = u 63 k ∧ s (r + 4) k = u 64 k
  | [], _, _, k, hk => absurd hk (Nat.not_lt_zero _)
  | x :: M, h1, h2, k, hk => by
    rcases Nat.lt_or_ge k M.length with z | z
    · exact row_rep h1.2 h2.2 k z
    · have e : k = M.length := by
        have : k < M.length + 1 := hk
        omega
      rw [e]
      exact ⟨h1.1.1.trans h2.1.1.symm, h1.1.2.1.trans h2.1.2.1.symm, h1.1.2.2.2.trans h2.1.2.2.symm⟩
theorem some_no {x : String} {P : Prop} (h : some x = none) : P := (nomatch h)
