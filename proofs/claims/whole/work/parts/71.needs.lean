/-! who needs whom -/
abbrev En (t : Sg) (p k : Nat) : Prop := bitb (t 53 p) k = true
/-- p needs q, itself or by at most d - 1 pieces between -/
def Rch (t : Sg) : Nat → Nat → Nat → Prop
  | 0, _, _ => False
  | d + 1, p, q => ∃ k, k < 6 ∧ En t p k ∧ (k = q ∨ Rch t d k q)
theorem rch_mono {t : Sg} : ∀ (d e p q : Nat), d ≤ e → Rch t d p q → Rch t e p q
  | 0, _, _, _, _, h => h.elim
  | d + 1, 0, _, _, hd, _ => absurd hd (by omega)
  | d + 1, e + 1, p, q, hd, ⟨k, h1, h2, h3⟩ => ⟨k, h1, h2, h3.imp id (rch_mono d e k q (by omega))⟩
theorem rch_snoc {t : Sg} {k j : Nat} (hk : j < 6) (he : En t k j) : ∀ (d p : Nat), k < 6 → Rch t d p k → Rch t (d + 1) p j
  | 0, _, _, h => h.elim
  | d + 1, p, hk6, ⟨m, h1, h2, h3⟩ => by
    rcases h3 with h3 | h3
    · exact ⟨m, h1, h2, Or.inr (by
        rw [h3]
        refine rch_mono 1 (d + 1) k j (by omega) ⟨j, hk, he, Or.inl rfl⟩)⟩
    · exact ⟨m, h1, h2, Or.inr (rch_snoc hk he d m hk6 h3)⟩
theorem rch_trans {t : Sg} {q r e : Nat} (h2 : Rch t e q r) : ∀ (d p : Nat), Rch t d p q → Rch t (d + e) p r
  | 0, _, h => h.elim
  | d + 1, p, ⟨k, h1, h3, h4⟩ => by
    rw [show d + 1 + e = (d + e) + 1 by omega]
    rcases h4 with h4 | h4
    · exact ⟨k, h1, h3, Or.inr (by rw [h4]; exact rch_mono e (d + e) q r (by omega) h2)⟩
    · exact ⟨k, h1, h3, Or.inr (rch_trans h2 d k h4)⟩
/-- who is needed at last -/
def Rc (t : Sg) (p q : Nat) : Prop := ∃ d, Rch t d p q
theorem nd_iff {t : Sg} (hN : Nb t) {F : Int32 → Bool} {p : Nat} (hp : p < 6) {q : Nat} (hq : q < 6) : ∀ (n k : Nat), n + k ≤ 6 → (fl_nd F t (nI p) (nI q) n k = true ↔ ∃ j, k ≤ j ∧ j < k + n ∧ En t p j ∧ (j = q ∨ F (nI j) = true))
  | 0, k, _ => ⟨fun h => absurd (show false = true from h) (by decide), fun ⟨j, h1, h2, _⟩ => by omega⟩
  | n + 1, k, hk => by
    have ih := nd_iff hN (F := F) hp hq n (k + 1) (by omega)
    have hb := bit_one (hN.1 p hp).2.2.1.1 (show k < 6 by omega)
    have hi : ix (nI p) = p := nI_ix (by omega)
    unfold fl_nd
    rw [hi]
    have tail : (∃ j, k + 1 ≤ j ∧ j < k + 1 + n ∧ En t p j ∧ (j = q ∨ F (nI j) = true)) → ∃ j, k ≤ j ∧ j < k + (n + 1) ∧ En t p j ∧ (j = q ∨ F (nI j) = true) := fun ⟨j, h1, h2, h3⟩ => ⟨j, by omega, by omega, h3⟩
    have back : ¬ (En t p k ∧ (k = q ∨ F (nI k) = true)) → (∃ j, k ≤ j ∧ j < k + (n + 1) ∧ En t p j ∧ (j = q ∨ F (nI j) = true)) → ∃ j, k + 1 ≤ j ∧ j < k + 1 + n ∧ En t p j ∧ (j = q ∨ F (nI j) = true) := fun hne ⟨j, h1, h2, h3⟩ => ⟨j, by
      rcases Nat.lt_or_ge k j with z | z
      · omega
      · have : j = k := by omega
        rw [this] at h3; exact absurd h3 hne, by omega, h3⟩
    by_cases c1 : (t 53 p >>> (nI k &&& 31)) &&& 1 = 1
    · rw [if_pos c1]
      by_cases c2 : nI k = nI q
      · rw [if_pos c2]
        exact ⟨fun _ => ⟨k, Nat.le_refl _, by omega, hb.mp c1, Or.inl ((nI_eq_iff (by omega) (by omega)).mp c2)⟩, fun _ => rfl⟩
      · rw [if_neg c2]
        by_cases c3 : F (nI k) = true
        · rw [if_pos c3]
          exact ⟨fun _ => ⟨k, Nat.le_refl _, by omega, hb.mp c1, Or.inr c3⟩, fun _ => rfl⟩
        · rw [if_neg c3, ih]
          exact ⟨tail, back (fun z => z.2.elim (fun w => c2 (by rw [w])) c3)⟩
    · rw [if_neg c1, ih]
      exact ⟨tail, back (fun z => c1 (hb.mpr z.1))⟩
theorem fn_iff {t : Sg} (hM : MS t) (hN : Nb t) {q : Nat} (hq : q < 6) : ∀ (d p : Nat), p < 6 → (fn_X5 t (nI q) d (nI p) = true ↔ Rch t d p q)
  | 0, _, _ => ⟨fun h => absurd (show false = true from h) (by decide), fun h => h.elim⟩
  | d + 1, p, hp => by
    have hc := hM.nc
    show fl_nd (fn_X5 t (nI q) d) t (nI p) (nI q) (ix (t 41 3)) 0 = true ↔ _
    rw [nd_iff hN hp hq _ 0 (by omega)]
    constructor
    · rintro ⟨j, -, h2, h3, h4⟩
      exact ⟨j, by omega, h3, h4.imp id (fn_iff hM hN hq d j (by omega)).mp⟩
    · rintro ⟨j, h1, h3, h4⟩
      have := (hN.1 p hp).2.2.1.2 j h1 h3
      exact ⟨j, Nat.zero_le _, by omega, h3, h4.imp id (fn_iff hM hN hq d j h1).mpr⟩
/-- a rank goes down along the needs -/
theorem ac_iff {t : Sg} (hN : Nb t) (hA : AC t) : ∃ rho : Nat → Nat, (∀ p, rho p < 7) ∧ ∀ p k, p < 6 → k < 6 → En t p k → rho k < rho p := by
  obtain ⟨rho, h1, h2⟩ := hA
  exact ⟨rho, h1, fun p k hp hk he => h2 p k hp hk ((bit_one (hN.1 p hp).2.2.1.1 hk).mpr he)⟩
theorem rch_rank {t : Sg} {rho : Nat → Nat} (h : ∀ p k, p < 6 → k < 6 → En t p k → rho k < rho p) {q : Nat} (hq : q < 6) : ∀ (d p : Nat), p < 6 → Rch t d p q → rho q < rho p ∧ Rch t (rho p) p q
  | 0, _, _, h => h.elim
  | d + 1, p, hp, ⟨k, h1, h2, h3⟩ => by
    have hr := h p k hp h1 h2
    obtain ⟨e, he⟩ : ∃ e, rho p = e + 1 := ⟨rho p - 1, by omega⟩
    rcases h3 with h3 | h3
    · rw [he]
      exact ⟨by rw [← he, ← h3]; exact hr, k, h1, h2, Or.inl h3⟩
    · obtain ⟨a, b⟩ := rch_rank h hq d k h1 h3
      exact ⟨by omega, by rw [he]; exact ⟨k, h1, h2, Or.inr (rch_mono _ e k q (by omega) b)⟩⟩
theorem rc_7 {t : Sg} (hN : Nb t) (hA : AC t) {p q : Nat} (hp : p < 6) (hq : q < 6) : Rc t p q ↔ Rch t 7 p q := by
  obtain ⟨rho, h1, h2⟩ := ac_iff hN hA
  exact ⟨fun ⟨d, h⟩ => rch_mono _ 7 p q (by have := h1 p; omega) (rch_rank h2 hq d p hp h).2, fun h => ⟨7, h⟩⟩
theorem rc_self {t : Sg} (hN : Nb t) (hA : AC t) {p : Nat} (hp : p < 6) : ¬ Rc t p p := by
  obtain ⟨rho, h1, h2⟩ := ac_iff hN hA
  exact fun ⟨d, h⟩ => absurd (rch_rank h2 hp d p hp h).1 (by omega)
/-! the desk's way: it adds the needs of what it has found until nothing is new -/
theorem bits_card : ∀ (n m : Fin 64), (∀ j : Fin 6, bitb (nI n) j = true → bitb (nI m) j = true) → n = m ∨ (List.range 6).countP (fun j => bitb (nI n) j) < (List.range 6).countP (fun j => bitb (nI m) j) := by decide +kernel
theorem bits_nc : ∀ (n : Fin 64) (c : Fin 7), (∀ j : Fin 6, bitb (nI n) j = true → j.1 < c.1) → (List.range 6).countP (fun j => bitb (nI n) j) ≤ c.1 := by decide +kernel
def crd (x : Int32) : Nat := (List.range 6).countP (fun j => bitb x j)
def sbs (x y : Int32) : Prop := ∀ j, j < 6 → bitb x j = true → bitb y j = true
theorem crd_lt {x y : Int32} (hx : st64 x) (hy : st64 y) (h : sbs x y) : x = y ∨ crd x < crd y := by
  obtain ⟨n, hn, rfl⟩ := hx
  obtain ⟨m, hm, rfl⟩ := hy
  rcases bits_card ⟨n, hn⟩ ⟨m, hm⟩ (fun j => h j.1 j.2) with e | e
  · exact Or.inl (by rw [Fin.mk.injEq] at e; rw [e])
  · exact Or.inr e
theorem crd_nc {x : Int32} (hx : st64 x) {c : Nat} (hc : c ≤ 6) (h : ∀ j, j < 6 → bitb x j = true → j < c) : crd x ≤ c := by
  obtain ⟨n, hn, rfl⟩ := hx
  exact bits_nc ⟨n, hn⟩ ⟨c, by omega⟩ (fun j => h j.1 j.2)
theorem bits_lor64 : ∀ (n m : Fin 64), decide ((nI n ||| nI m).toInt < 64 ∧ 0 ≤ (nI n ||| nI m).toInt) = true := by decide +kernel
theorem st64.lor {x y : Int32} (hx : st64 x) (hy : st64 y) : st64 (x ||| y) := by
  obtain ⟨n, hn, rfl⟩ := hx
  obtain ⟨m, hm, rfl⟩ := hy
  have := of_decide_eq_true (bits_lor64 ⟨n, hn⟩ ⟨m, hm⟩)
  exact st64_of this.2 this.1
theorem bit_lor {x y : Int32} (hx : st64 x) (hy : st64 y) {j : Nat} (hj : j < 6) : bitb (x ||| y) j = true ↔ bitb x j = true ∨ bitb y j = true := by
  obtain ⟨n, hn, rfl⟩ := hx
  obtain ⟨m, hm, rfl⟩ := hy
  rw [bits_lor ⟨n, hn⟩ ⟨m, hm⟩ ⟨j, hj⟩, Bool.or_eq_true]
theorem anI_up {s t : Sg} (hS : Stat s t) (hN : Nb t) {P : Nat → Prop} (hP : ∀ i j, i < 6 → j < 6 → P i → En t i j → P j) : ∀ (n k : Nat) (f : Int32), n + k ≤ 6 → st64 f → (∀ j, j < 6 → bitb f j = true → P j) → st64 (fl_anI s n k f) ∧ sbs f (fl_anI s n k f) ∧ (∀ j, j < 6 → bitb (fl_anI s n k f) j = true → P j) ∧ ∀ i, k ≤ i → i < k + n → bitb f i = true → ∀ j, j < 6 → En t i j → bitb (fl_anI s n k f) j = true
  | 0, k, f, _, hf, hp => ⟨hf, fun _ _ h => h, hp, fun i h1 h2 => by omega⟩
  | n + 1, k, f, hk, hf, hp => by
    have hk6 : k < 6 := by omega
    have e8 : s (31 + k) 8 = t 53 k := (hS.2.2.1 k hk6).1.2.2.2.2.1
    have e9 := (hN.1 k hk6).2.2.1.1
    unfold fl_anI
    rw [e8]
    by_cases c : bitb f k = true
    · rw [if_pos (bit_is.mpr c)]
      have hb : ∀ j, j < 6 → (bitb (f ||| t 53 k) j = true ↔ bitb f j = true ∨ bitb (t 53 k) j = true) := fun j hj => bit_lor hf e9 hj
      obtain ⟨i1, i2, i3, i4⟩ := anI_up hS hN hP n (k + 1) (f ||| t 53 k) (by omega) (hf.lor e9) (fun j hj h => ((hb j hj).mp h).elim (hp j hj) (fun w => hP k j hk6 hj (hp k hk6 c) w))
      refine ⟨i1, fun j hj h => i2 j hj ((hb j hj).mpr (Or.inl h)), i3, fun i h1 h2 h3 j hj he => ?_⟩
      rcases Nat.lt_or_ge k i with z | z
      · exact i4 i (by omega) (by omega) ((hb i (by omega)).mpr (Or.inl h3)) j hj he
      · have : i = k := by omega
        rw [this] at he
        exact i2 j hj ((hb j hj).mpr (Or.inr he))
    · rw [if_neg (fun z => c (bit_is.mp z))]
      obtain ⟨i1, i2, i3, i4⟩ := anI_up hS hN hP n (k + 1) f (by omega) hf hp
      refine ⟨i1, i2, i3, fun i h1 h2 h3 j hj he => ?_⟩
      rcases Nat.lt_or_ge k i with z | z
      · exact i4 i (by omega) (by omega) h3 j hj he
      · have : i = k := by omega
        rw [this] at h3
        exact absurd h3 c
def clsd (t : Sg) (f : Int32) : Prop := ∀ i j, i < 6 → j < 6 → bitb f i = true → En t i j → bitb f j = true
theorem anO_up {s t : Sg} (hS : Stat s t) (hN : Nb t) {N : Nat} (hN6 : N ≤ 6) (hNc : N = ix (t 41 3)) {P : Nat → Prop} (hP : ∀ i j, i < 6 → j < 6 → P i → En t i j → P j) (hPn : ∀ j, P j → j < N) : ∀ (n k : Nat) (f : Int32), st64 f → (∀ j, j < 6 → bitb f j = true → P j) → (clsd t f ∨ N < n + crd f) → st64 (fl_anO s N n k f) ∧ sbs f (fl_anO s N n k f) ∧ (∀ j, j < 6 → bitb (fl_anO s N n k f) j = true → P j) ∧ clsd t (fl_anO s N n k f)
  | 0, _, f, hf, hp, hc => by
    refine ⟨hf, fun _ _ h => h, hp, hc.resolve_right (fun z => ?_)⟩
    have := crd_nc hf hN6 (fun j hj h => hPn j (hp j hj h))
    omega
  | n + 1, k, f, hf, hp, hc => by
    obtain ⟨i1, i2, i3, i4⟩ := anI_up hS hN hP N 0 f (by omega) hf hp
    have hn : clsd t (fl_anI s N 0 f) ∨ N < n + crd (fl_anI s N 0 f) := by
      rcases crd_lt hf i1 i2 with e | e
      · left
        intro i j hi hj h1 h2
        rw [← e] at h1
        exact i4 i (Nat.zero_le _) (by have := hPn i (hp i hi h1); omega) h1 j hj h2
      · rcases hc with hc | hc
        · left
          have e2 : sbs (fl_anI s N 0 f) f := by
            obtain ⟨-, -, j3, -⟩ := anI_up hS hN (P := fun j => bitb f j = true) (fun i j hi hj h1 h2 => hc i j hi hj h1 h2) N 0 f (by omega) hf (fun _ _ h => h)
            exact j3
          intro i j hi hj h1 h2
          exact i2 j hj (hc i j hi hj (e2 i hi h1) h2)
        · right; omega
    obtain ⟨j1, j2, j3, j4⟩ := anO_up hS hN hN6 hNc hP hPn n (k + 1) (fl_anI s N 0 f) i1 i3 hn
    exact ⟨j1, fun j hj h => j2 j hj (i2 j hj h), j3, j4⟩
theorem clsd_rch {t : Sg} {f : Int32} (hc : clsd t f) {q : Nat} (hq : q < 6) : ∀ (d p : Nat), p < 6 → bitb f p = true → Rch t d p q → bitb f q = true
  | 0, _, _, _, h => h.elim
  | d + 1, p, hp, hb, ⟨k, h1, h2, h3⟩ => by
    have := hc p k hp h1 hb h2
    rcases h3 with h3 | h3
    · rw [← h3]; exact this
    · exact clsd_rch hc hq d k h1 this h3
/-- the desk's set of all needs of a piece -/
theorem s_needs {s t : Sg} (hS : Stat s t) (hM : MS t) (hN : Nb t) {a p : Nat} (ha : a < 6) (hp : p < 6) : bitb (fl_anO s (ix (t 41 3)) (ix (t 41 3)) 0 (t 53 a)) p = true ↔ Rc t a p := by
  have e9 := (hN.1 a ha).2.2.1
  have hP : ∀ i j, i < 6 → j < 6 → (Rc t a i ∧ i < ix (t 41 3)) → En t i j → (Rc t a j ∧ j < ix (t 41 3)) := fun i j hi hj ⟨⟨d, h⟩, _⟩ he => ⟨⟨d + 1, rch_snoc hj he d a hi h⟩, (hN.1 i hi).2.2.1.2 j hj he⟩
  have h0 : clsd t (t 53 a) ∨ ix (t 41 3) < ix (t 41 3) + crd (t 53 a) := by
    by_cases z : t 53 a = 0
    · left
      intro i j hi hj h1
      rw [z, bits_zero ⟨i, hi⟩] at h1
      exact absurd h1 (by decide)
    · right
      rcases crd_lt (x := 0) ⟨0, by decide, rfl⟩ e9.1 (fun j hj h => by rw [bits_zero ⟨j, hj⟩] at h; exact absurd h (by decide)) with e | e
      · exact absurd e.symm z
      · omega
  obtain ⟨i1, i2, i3, i4⟩ := anO_up hS hN hM.nc rfl hP (fun j h => h.2) (ix (t 41 3)) 0 (t 53 a) e9.1 (fun j hj h => ⟨⟨1, j, hj, h, Or.inl rfl⟩, e9.2 j hj h⟩) h0
  constructor
  · intro h
    exact (i3 p hp h).1
  · rintro ⟨d, h⟩
    cases d with
    | zero => exact h.elim
    | succ d =>
      obtain ⟨k, h1, h2, h3⟩ := h
      have hk := i2 k h1 h2
      rcases h3 with h3 | h3
      · rw [← h3]; exact hk
      · exact clsd_rch i4 hp d k h1 hk h3
