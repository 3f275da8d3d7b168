theorem why45a {t : Sg} {p : Nat} {L : Rg} (h : aWhy t p L = 45) : ¬ t 41 23 < 0 ∧ ¬ aHas L p = true ∧ ¬ t 48 p = 0 ∧ ¬ aLk t p L = true ∧ ¬ t 56 (ix (t 41 23)) < t 45 p ∧ ¬ aOv t p L ∧ ¬ t 58 (ix (t 41 23)) < aBeg t p L + t 45 p := by
  unfold aWhy at h
  by_cases c1 : t 41 23 < 0
  · rw [if_pos c1] at h; exact absurd h (by decide)
  rw [if_neg c1] at h
  by_cases c2 : aHas L p = true
  · rw [if_pos c2] at h; exact absurd h (by decide)
  rw [if_neg c2] at h
  by_cases c3 : t 48 p = 0
  · rw [if_pos c3] at h; exact absurd h (by decide)
  rw [if_neg c3] at h
  by_cases c4 : aLk t p L = true
  · rw [if_pos c4] at h; exact absurd h (by decide)
  rw [if_neg c4] at h
  by_cases c5 : t 56 (ix (t 41 23)) < t 45 p
  · rw [if_pos c5] at h; exact absurd h (by decide)
  rw [if_neg c5] at h
  by_cases c6 : aOv t p L
  · rw [if_pos c6] at h; exact absurd h (by decide)
  rw [if_neg c6] at h
  by_cases c7 : t 58 (ix (t 41 23)) < aBeg t p L + t 45 p
  · rw [if_pos c7] at h; exact absurd h (by decide)
  exact ⟨c1, c2, c3, c4, c5, c6, c7⟩
/-- a rig that was hung piece by piece, each with no reason against it -/
def Ok (t : Sg) : Rg → Prop
  | [] => True
  | x :: L => (x.1 < ix (t 41 3) ∧ x = (x.1, aBeg t x.1 L, aWk t x.1 L) ∧ aWhy t x.1 L = 45) ∧ Ok t L
theorem Ok.put {t : Sg} {L : Rg} (h : Ok t L) {p : Nat} (hp : p < ix (t 41 3)) (hw : aWhy t p L = 45) : Ok t (aPut t p L) := ⟨⟨hp, rfl, hw⟩, h⟩
theorem Ok.lt {t : Sg} (hM : MS t) : ∀ {L : Rg}, Ok t L → ∀ x, x ∈ L → x.1 < ix (t 41 3) ∧ x.1 < 6
  | [], _, x, hx => nomatch hx
  | y :: L, h, x, hx => by
    rcases List.mem_cons.mp hx with rfl | hx
    · have := hM.nc
      exact ⟨h.1.1, by have := h.1.1; omega⟩
    · exact Ok.lt hM h.2 x hx
theorem nodup6 : ∀ (n : Nat) (l : List Nat), l.Nodup → (∀ x, x ∈ l → x < n) → l.length ≤ n
  | 0, [], _, _ => Nat.le_refl 0
  | 0, a :: l, _, h => absurd (h a List.mem_cons_self) (Nat.not_lt_zero _)
  | n + 1, l, hn, h => by
    have h1 := nodup6 n (l.erase n) (hn.erase n) (fun x hx => by
      have h1 := (List.Nodup.mem_erase_iff hn).mp hx
      have h2 := h x h1.2
      omega)
    rw [List.length_erase] at h1
    split at h1 <;> omega
theorem has_map {L : Rg} {p : Nat} : p ∈ L.map Prod.fst ↔ has L p := by
  rw [List.mem_map]
  exact ⟨fun ⟨x, h1, h2⟩ => ⟨x, h1, h2⟩, fun ⟨x, h1, h2⟩ => ⟨x, h1, h2⟩⟩
theorem Ok.nodup {t : Sg} : ∀ {L : Rg}, Ok t L → (L.map Prod.fst).Nodup
  | [], _ => List.nodup_nil
  | x :: L, h => by
    rw [List.map_cons, List.nodup_cons]
    exact ⟨fun z => (why45a h.1.2.2).2.1 (aHas_iff.mpr (has_map.mp z)), h.2.nodup⟩
theorem Ok.len {t : Sg} (hM : MS t) {L : Rg} (h : Ok t L) : L.length ≤ 6 := by
  have := nodup6 6 _ h.nodup (fun p hp => by
    obtain ⟨x, h1, h2⟩ := has_map.mp hp
    rw [← h2]; exact (Ok.lt hM h x h1).2)
  rwa [List.length_map] at this
theorem Ok.room {t : Sg} (hM : MS t) {L : Rg} (h : Ok t L) {p : Nat} (hp : p < 6) (hn : ¬ has L p) : L.length < 6 := by
  have := nodup6 6 (p :: L.map Prod.fst) (List.nodup_cons.mpr ⟨fun z => hn (has_map.mp z), h.nodup⟩) (fun q hq => by
    rcases List.mem_cons.mp hq with rfl | hq
    · exact hp
    · obtain ⟨x, h1, h2⟩ := has_map.mp hq
      rw [← h2]; exact (Ok.lt hM h x h1).2)
  rw [List.length_cons, List.length_map] at this
  omega
theorem beg_b {a e z : Int32} {c : Prop} [Decidable c] (ha : bnd a 0 1440) (he : bnd e 0 1440) (hz : bnd z 5 120) :
    e.toInt ≤ (if a - e < z then (if e < a then (if c then a + z else a + 0) else (if c then e + z else e + 0)) else a).toInt ∧ a.toInt ≤ (if a - e < z then (if e < a then (if c then a + z else a + 0) else (if c then e + z else e + 0)) else a).toInt ∧ (if a - e < z then (if e < a then (if c then a + z else a + 0) else (if c then e + z else e + 0)) else a).toInt ≤ 1560 := by
  obtain ⟨ha1, ha2⟩ := ha
  obtain ⟨he1, he2⟩ := he
  obtain ⟨hz1, hz2⟩ := hz
  have s1 : (a - e).toInt = a.toInt - e.toInt := sub_toInt (by omega) (by omega) (by omega) (by omega)
  have s2 : (a + z).toInt = a.toInt + z.toInt := add_toInt (by omega) (by omega) (by omega) (by omega)
  have s3 : (e + z).toInt = e.toInt + z.toInt := add_toInt (by omega) (by omega) (by omega) (by omega)
  by_cases h1 : a - e < z
  · rw [if_pos h1]
    by_cases h2 : e < a
    · rw [if_pos h2]
      rw [Int32.lt_iff_toInt_lt] at h2
      by_cases h3 : c
      · rw [if_pos h3, s2]; omega
      · rw [if_neg h3, Int32.add_zero]; omega
    · rw [if_neg h2]
      rw [Int32.lt_iff_toInt_lt] at h2
      by_cases h3 : c
      · rw [if_pos h3, s3]; omega
      · rw [if_neg h3, Int32.add_zero]; omega
  · rw [if_neg h1]
    rw [Int32.lt_iff_toInt_lt, s1] at h1
    omega
theorem aBeg_b {t : Sg} {L : Rg} (hM : MS t) (hN : Nb t) (ht : ¬ t 41 23 < 0) (he : bnd (aEnd t L) 0 1440) {p : Nat} (hp : p < 6) : (aEnd t L).toInt ≤ (aBeg t p L).toInt ∧ (t 54 (ix (t 47 p))).toInt ≤ (aBeg t p L).toInt ∧ (aBeg t p L).toInt ≤ 1560 := by
  have hti := hM.tn ht
  have hz5 := (hN.2.2.1 _ hti).2.2 (hN.2.2.2.2 ht)
  have hz := (hN.2.2.1 _ hti).1.2.2.1
  unfold aBeg
  exact beg_b (hN.2.1 _ (ix_lt (hM.2.2.2 p hp))) he ⟨hz5, hz.2⟩
/-- of what was hung last: when it ends -/
theorem end_b1 {t : Sg} {L : Rg} (hM : MS t) (hN : Nb t) (he : bnd (aEnd t L) 0 1440) {p : Nat} (hp : p < 6) (hw : aWhy t p L = 45) : (aBeg t p L + t 45 p).toInt = (aBeg t p L).toInt + (t 45 p).toInt ∧ (aBeg t p L).toInt + (t 45 p).toInt ≤ (t 58 (ix (t 41 23))).toInt := by
  obtain ⟨h1, -, -, -, -, -, h7⟩ := why45a hw
  have hb := aBeg_b hM hN h1 he hp
  have hm := (hN.1 p hp).1.1
  have he0 := he.1
  have hm1 := hm.1
  have hm2 := hm.2
  have e : (aBeg t p L + t 45 p).toInt = (aBeg t p L).toInt + (t 45 p).toInt := add_toInt (by omega) (by omega) (by omega) (by omega)
  rw [Int32.lt_iff_toInt_lt, e] at h7
  exact ⟨e, by omega⟩
theorem Ok.endb {t : Sg} (hM : MS t) (hN : Nb t) : ∀ {L : Rg}, Ok t L → bnd (aEnd t L) 0 1440
  | [], _ => show bnd 0 0 1440 from ⟨by decide, by decide⟩
  | x :: L, h => by
    have ih := Ok.endb hM hN h.2
    have hp := (Ok.lt hM h x List.mem_cons_self).2
    have e := end_b1 hM hN ih hp h.1.2.2
    have hb := aBeg_b hM hN (why45a h.1.2.2).1 ih hp
    have hc := (hN.2.2.1 _ (hM.tn (why45a h.1.2.2).1)).1.2.2.2.2
    have hx : aEnd t (x :: L) = aBeg t x.1 L + t 45 x.1 := by
      show x.2.1 + t 45 x.1 = _
      rw [show x.2.1 = aBeg t x.1 L from congrArg (fun z => z.2.1) h.1.2.1]
    have hm := (hN.1 x.1 hp).1.1.1
    have he0 := ih.1
    rw [hx]
    exact ⟨by rw [e.1]; omega, by rw [e.1]; omega⟩
theorem load_b {t : Sg} (hN : Nb t) {p : Nat} (hp : p < 6) (q : Int32) : bnd (fr_X5_load t (nI p) q) 0 4000 := by
  have h := (hN.1 p hp).2.2.2
  have ei : ix (nI p) = p := nI_ix (by omega)
  by_cases c1 : t 48 p = 0
  · have : fr_X5_load t (nI p) q = 0 := by unfold fr_X5_load; rw [ei, if_pos c1]
    rw [this]; exact ⟨by decide, by decide⟩
  · have h := h c1
    by_cases c2 : q = t 49 p
    · rw [c2]; exact h.2.1
    · by_cases c3 : q = t 50 p
      · rw [c3]; exact h.2.2
      · have : fr_X5_load t (nI p) q = 0 := by unfold fr_X5_load; rw [ei, if_neg c1, if_neg c2, if_neg c3]
        rw [this]; exact ⟨by decide, by decide⟩
theorem borne_b {t : Sg} (hN : Nb t) (q : Int32) : ∀ (L : Rg), (∀ x, x ∈ L → x.1 < 6) → L.length ≤ 6 → 0 ≤ (aBorne t q L).toInt ∧ (aBorne t q L).toInt ≤ 4000 * L.length ∧ ∀ x, x ∈ L → True
  | [], _, _ => ⟨show 0 ≤ (0 : Int32).toInt by decide, show (0 : Int32).toInt ≤ 4000 * ((0 : Nat) : Int) by decide, fun _ _ => trivial⟩
  | x :: L, h, hl => by
    have hl1 : L.length + 1 ≤ 6 := hl
    have ih := borne_b hN q L (fun y hy => h y (List.mem_cons_of_mem _ hy)) (by omega)
    have hb := load_b hN (h x List.mem_cons_self) q
    have hb1 := hb.1
    have hb2 := hb.2
    have e : (aBorne t q L + fr_X5_load t (nI x.1) q).toInt = (aBorne t q L).toInt + (fr_X5_load t (nI x.1) q).toInt := add_toInt (by omega) (by omega) (by omega) (by omega)
    have hc : ((x :: L).length : Int) = (L.length : Int) + 1 := by rw [List.length_cons]; omega
    show 0 ≤ (aBorne t q L + fr_X5_load t (nI x.1) q).toInt ∧ (aBorne t q L + fr_X5_load t (nI x.1) q).toInt ≤ _ ∧ _
    rw [e, hc]
    exact ⟨by omega, by omega, fun _ _ => trivial⟩
theorem borne_cons {t : Sg} (hN : Nb t) (q : Int32) {x : Nat × Int32 × Int32} {L : Rg} (h : ∀ y, y ∈ x :: L → y.1 < 6) (hl : (x :: L).length ≤ 6) : (aBorne t q (x :: L)).toInt = (aBorne t q L).toInt + (fr_X5_load t (nI x.1) q).toInt := by
  have hl1 : L.length + 1 ≤ 6 := hl
  have ih := borne_b hN q L (fun y hy => h y (List.mem_cons_of_mem _ hy)) (by omega)
  have hb := load_b hN (h x List.mem_cons_self) q
  have hb1 := hb.1
  have hb2 := hb.2
  exact add_toInt (by omega) (by omega) (by omega) (by omega)
theorem worth_b {t : Sg} (hN : Nb t) : ∀ (L : Rg), (∀ x, x ∈ L → x.1 < 6) → L.length ≤ 6 → 0 ≤ (aWorth t L).toInt ∧ (aWorth t L).toInt ≤ 99 * L.length
  | [], _, _ => ⟨show 0 ≤ (0 : Int32).toInt by decide, show (0 : Int32).toInt ≤ 99 * ((0 : Nat) : Int) by decide⟩
  | x :: L, h, hl => by
    have hl1 : L.length + 1 ≤ 6 := hl
    have ih := worth_b hN L (fun y hy => h y (List.mem_cons_of_mem _ hy)) (by omega)
    have hb := (hN.1 _ (h x List.mem_cons_self)).1.2.1
    have hb1 := hb.1
    have hb2 := hb.2
    have e : (aWorth t L + t 46 x.1).toInt = (aWorth t L).toInt + (t 46 x.1).toInt := add_toInt (by omega) (by omega) (by omega) (by omega)
    have hc : ((x :: L).length : Int) = (L.length : Int) + 1 := by rw [List.length_cons]; omega
    show 0 ≤ (aWorth t L + t 46 x.1).toInt ∧ (aWorth t L + t 46 x.1).toInt ≤ _
    rw [e, hc]
    exact ⟨by omega, by omega⟩
theorem worth_cons {t : Sg} (hN : Nb t) {x : Nat × Int32 × Int32} {L : Rg} (h : ∀ y, y ∈ x :: L → y.1 < 6) (hl : (x :: L).length ≤ 6) : (aWorth t (x :: L)).toInt = (aWorth t L).toInt + (t 46 x.1).toInt := by
  have hl1 : L.length + 1 ≤ 6 := hl
  have ih := worth_b hN L (fun y hy => h y (List.mem_cons_of_mem _ hy)) (by omega)
  have hb := (hN.1 _ (h x List.mem_cons_self)).1.2.1
  have hb1 := hb.1
  have hb2 := hb.2
  exact add_toInt (by omega) (by omega) (by omega) (by omega)
