section VR3
variable {X : Cx} {cc : ByteArray} {own : String} {a b nL rk mc ms : Nat} {sg : Sg} {o : Ot} {lo : List (Nat × Value)} {pc pc1 : Nat} {st : List Value}
theorem v_ldcw (C : CF X cc own nL rk mc ms) {idx : Nat} {v : Int32} (h : (Jvm.Cond.constant own idx v).before (xa X) (xs_ X) = true) (d : decode cc pc = .ok (.ldc_w idx, 3)) (hp : pc + 3 = pc1) (k : V X a b nL sg o lo pc1 (.int v :: st)) : V X a b nL sg o lo pc st := by
  subst hp; exact fun H locs ls hP hS hl => lv_ldcw C.1 C.2.1 C.2.2.2.1 h d (k H locs ls hP hS hl)
theorem v_lcmp (C : CF X cc own nL rk mc ms) {x y : Int64} {v : Int32} (d : decode cc pc = .ok (.lcmp, 1)) (hv : lg_cmp x y = v) (hp : pc + 1 = pc1) (k : V X a b nL sg o lo pc1 (.int v :: st)) : V X a b nL sg o lo pc (.long y :: .long x :: st) := by
  subst hp; subst hv; exact fun H locs ls hP hS hl => W.lcmp C.1 C.2.1 d (k H locs ls hP hS hl)
end VR3
abbrev lcm (x y : Int64) : Int32 := lg_cmp x y
def ushr (x y : Int32) : Int32 := (x.toUInt32 >>> (y.toUInt32 &&& Int32.toUInt32 31)).toInt32
/-! copies of rigs: what they hold -/
theorem cp1_at {r q : Nat} (hr : isR r) (hq : isR q) (hne : r ≠ q) : ∀ (n k : Nat) (s : Sg) (c j : Nat), fl_cp1 r q n k s c j = if (r + 1 ≤ c ∧ c ≤ r + 4) ∧ k ≤ j ∧ j < k + n then s (c - r + q) j else s c j
  | 0, k, s, c, j => by rw [if_neg (by omega)]; rfl
  | n + 1, k, s, c, j => by
    unfold isR at hr hq
    show fl_cp1 r q n (k + 1) _ c j = _
    rw [cp1_at hr hq hne n (k + 1)]
    by_cases h1 : r + 1 ≤ c ∧ c ≤ r + 4
    · by_cases h2 : k + 1 ≤ j ∧ j < k + 1 + n
      · rw [if_pos ⟨h1, h2⟩, if_pos ⟨h1, by omega⟩]
        rw [up_ne _ _ (by omega), up_ne _ _ (by omega), up_ne _ _ (by omega), up_ne _ _ (by omega)]
      · rw [if_neg (fun z => h2 z.2)]
        by_cases h3 : j = k
        · rw [if_pos ⟨h1, by omega⟩, h3]
          rcases (show c = r + 1 ∨ c = r + 2 ∨ c = r + 3 ∨ c = r + 4 by omega) with rfl | rfl | rfl | rfl
          · rw [up_ne _ _ (by omega), up_ne _ _ (by omega), up_ne _ _ (by omega), up_at, show r + 1 - r + q = q + 1 by omega]
          · rw [up_ne _ _ (by omega), up_ne _ _ (by omega), up_at, show r + 2 - r + q = q + 2 by omega]
          · rw [up_ne _ _ (by omega), up_at, show r + 3 - r + q = q + 3 by omega]
          · rw [up_at, show r + 4 - r + q = q + 4 by omega]
        · rw [if_neg (by omega), up_ne _ _ (by omega), up_ne _ _ (by omega), up_ne _ _ (by omega), up_ne _ _ (by omega)]
    · rw [if_neg (fun z => h1 z.1), if_neg (fun z => h1 z.1), up_ne _ _ (by omega), up_ne _ _ (by omega), up_ne _ _ (by omega), up_ne _ _ (by omega)]
theorem cp2_at {r q : Nat} (hr : isR r) (hq : isR q) (hne : r ≠ q) : ∀ (n k : Nat) (s : Sg) (c j : Nat), fl_cp2 r q n k s c j = if c = r + 5 ∧ k ≤ j ∧ j < k + n then s (q + 5) j else s c j
  | 0, k, s, c, j => by rw [if_neg (by omega)]; rfl
  | n + 1, k, s, c, j => by
    unfold isR at hr hq
    show fl_cp2 r q n (k + 1) _ c j = _
    rw [cp2_at hr hq hne n (k + 1)]
    by_cases h1 : c = r + 5
    · by_cases h2 : k + 1 ≤ j ∧ j < k + 1 + n
      · rw [if_pos ⟨h1, h2⟩, if_pos ⟨h1, by omega⟩, up_ne _ _ (by omega)]
      · rw [if_neg (fun z => h2 z.2)]
        by_cases h3 : j = k
        · rw [if_pos ⟨h1, by omega⟩, h3, h1, up_at]
        · rw [if_neg (by omega), up_ne _ _ (by omega)]
    · rw [if_neg (fun z => h1 z.1), if_neg (fun z => h1 z.1), up_ne _ _ (by omega)]
theorem copy_at {r q : Nat} (hr : isR r) (hq : isR q) (hne : r ≠ q) (s : Sg) (c j : Nat) : fs_copy s r q c j = if c = r + 5 ∧ j < 8 then s (q + 5) j else if (r + 1 ≤ c ∧ c ≤ r + 4) ∧ j < 6 then s (c - r + q) j else if c = r ∧ 5 ≤ j ∧ j ≤ 7 then s q j else s c j := by
  have hr0 := hr; have hq0 := hq
  unfold isR at hr hq
  unfold fs_copy
  rw [cp2_at hr0 hq0 hne]
  by_cases h1 : c = r + 5 ∧ j < 8
  · rw [if_pos ⟨h1.1, by omega⟩, if_pos h1, cp1_at hr0 hq0 hne, if_neg (by omega), up_ne _ _ (by omega), up_ne _ _ (by omega), up_ne _ _ (by omega)]
  · rw [if_neg (by omega), if_neg h1, cp1_at hr0 hq0 hne]
    by_cases h2 : (r + 1 ≤ c ∧ c ≤ r + 4) ∧ j < 6
    · rw [if_pos (by omega), if_pos h2, up_ne _ _ (by omega), up_ne _ _ (by omega), up_ne _ _ (by omega)]
    · rw [if_neg (by omega), if_neg h2]
      by_cases h3 : c = r ∧ 5 ≤ j ∧ j ≤ 7
      · obtain ⟨rfl, h4, h5⟩ := h3
        rw [if_pos ⟨rfl, h4, h5⟩]
        rcases (show j = 5 ∨ j = 6 ∨ j = 7 by omega) with rfl | rfl | rfl
        · rw [up_ne _ _ (by omega), up_ne _ _ (by omega), up_at]
        · rw [up_ne _ _ (by omega), up_at]
        · rw [up_at]
      · rw [if_neg h3, up_ne _ _ (by omega), up_ne _ _ (by omega), up_ne _ _ (by omega)]
theorem DI.copy {s : Sg} (h : DI s) {r q : Nat} (hr : isR r) (hq : isR q) (hne : r ≠ q) : DI (fs_copy s r q) := by
  have hr0 := hr; have hq0 := hq
  unfold isR at hr hq
  have e : ∀ c j, c ≠ r ∧ c ≠ r + 1 ∧ c ≠ r + 2 ∧ c ≠ r + 3 ∧ c ≠ r + 4 ∧ c ≠ r + 5 → fs_copy s r q c j = s c j := by
    intro c j hc
    rw [copy_at hr0 hq0 hne, if_neg (by omega), if_neg (by omega), if_neg (by omega)]
  have e5 : fs_copy s r q r 5 = s q 5 := by rw [copy_at hr0 hq0 hne, if_neg (by omega), if_neg (by omega), if_pos ⟨rfl, by decide, by decide⟩]
  refine ⟨⟨?_, ?_, ?_⟩, ?_, fun r1 hr1 => ⟨?_, fun k hk hl => ?_⟩, fun p hp => ?_⟩
  · rw [e _ _ (by omega)]; exact h.np
  · rw [e _ _ (by omega)]; exact h.nc
  · rw [e _ _ (by omega)]; exact h.nt
  · rw [e _ _ (by omega)]; exact h.2.1
  · by_cases hc : r1 = r
    · rw [hc, e5]; exact h.sz hq0
    · rw [e _ _ (by unfold isR at hr1; omega)]; exact h.sz hr1
  · by_cases hc : r1 = r
    · rw [hc, e5] at hl
      rw [hc, copy_at hr0 hq0 hne, if_neg (by omega), if_pos (by omega), show r + 1 - r + q = q + 1 by omega]
      exact h.od hq0 hk hl
    · rw [e _ _ (by unfold isR at hr1; omega)] at hl
      rw [e _ _ (by unfold isR at hr1; omega)]
      exact h.od hr1 hk hl
  · rw [e _ _ (by omega), e _ _ (by omega), e _ _ (by omega)]; exact h.2.2.2 p hp
/-! two states of the desk that differ in what the searches write alone: the trial, the best, the counts of the tries -/
def Ad (s t : Sg) : Prop := ∀ c k, ¬ (11 ≤ c ∧ c < 23) → ¬ (c = 0 ∧ 11 ≤ k) → t c k = s c k
theorem Ad.rf (s : Sg) : Ad s s := fun _ _ _ _ => rfl
theorem Ad.tr {s t u : Sg} (a : Ad s t) (b : Ad t u) : Ad s u := fun c k h1 h2 => (b c k h1 h2).trans (a c k h1 h2)
theorem Ad.up {s t : Sg} (a : Ad s t) {c k : Nat} {v : Int32} (h : (11 ≤ c ∧ c < 23) ∨ (c = 0 ∧ 11 ≤ k)) : Ad s (up t c k v) := fun c1 k1 h1 h2 => by
  rw [up_ne _ _ (by omega)]; exact a c1 k1 h1 h2
theorem ad_copy {s : Sg} {r q : Nat} (hr : r = 11 ∨ r = 17) (hq : isR q) (hne : r ≠ q) : Ad s (fs_copy s r q) := fun c k h1 h2 => by
  rw [copy_at (Or.inr hr) hq hne, if_neg (by omega), if_neg (by omega), if_neg (by omega)]
theorem ad_putOn (s : Sg) (p : Int32) (t : Nat) : Ad s (fs_X4_putOn s 11 p t) := by
  unfold fs_X4_putOn
  split
  · split
    · exact Ad.rf s
    · split
      · exact Ad.rf s
      · repeat' first | exact Ad.rf s | refine Ad.up ?_ (by omega)
  · exact Ad.rf s
theorem ad_take (s : Sg) : Ad s (fs_X4_takeLastOff s 11) := by
  unfold fs_X4_takeLastOff
  split
  · exact Ad.rf s
  · split
    · exact Ad.rf s
    · split
      · exact Ad.rf s
      · repeat' first | exact Ad.rf s | refine Ad.up ?_ (by omega)
/-! the searches -/
def fKl (F : Sg → Sg) (t : Nat) : Nat → Nat → Sg → Sg
  | 0, _, s => s
  | n + 1, k, s => fKl F t n (k + 1) (if fr_X4_reasonAgainst s 11 (nI k) = 45 then fs_X4_takeLastOff (F (fs_X4_putOn s 11 (nI k) t)) 11 else s)
def fs_kb (s : Sg) : Sg := if fb_X4_isBetter s 11 17 = true then fs_copy s 17 11 else s
def fb_kc (s : Sg) (t : Nat) : Bool := fl_mlb s t (ix (s 0 8)) 0 (s 11 7) (fr_X2_lastMinute s 11)
def fK (t : Nat) : Nat → Sg → Sg
  | 0, s => fs_kb s
  | d + 1, s => if fb_kc (fs_kb s) t = true then fKl (fK t d) t (ix (s 0 8)) 0 (fs_kb s) else fs_kb s
def fs_ta (s : Sg) : Sg := up (up s 0 11 (s 0 11 + 1)) 0 12 (if s 0 12 < s 11 7 then s 11 7 else s 0 12)
def fA : Nat → Sg → Sg
  | 0, s => fs_ta s
  | d + 1, s => if s 0 10 < 0 then fs_ta s else fKl (fA d) (ix (s 0 10)) (ix (s 0 8)) 0 (fs_ta s)
theorem kb_DI {s : Sg} (h : DI s) : DI (fs_kb s) := by
  unfold fs_kb; split
  · exact h.copy (Or.inr (Or.inr rfl)) isR11 (by decide)
  · exact h
theorem ad_kb (s : Sg) : Ad s (fs_kb s) := by
  unfold fs_kb; split
  · exact ad_copy (Or.inr rfl) isR11 (by decide)
  · exact Ad.rf s
theorem ta_DI {s : Sg} (h : DI s) : DI (fs_ta s) := (h.upn (by unfold relD; omega)).upn (by unfold relD; omega)
theorem ad_ta (s : Sg) : Ad s (fs_ta s) := ((Ad.rf s).up (Or.inr ⟨rfl, by decide⟩)).up (Or.inr ⟨rfl, by decide⟩)
theorem kl_DI {F : Sg → Sg} (hF : ∀ s, DI s → DI (F s)) {t : Nat} : ∀ (n k : Nat) (s : Sg), n + k ≤ 6 → DI s → DI (fKl F t n k s)
  | 0, _, _, _, h => h
  | n + 1, k, s, hk, h => by
    unfold fKl
    refine kl_DI hF n (k + 1) _ (by omega) ?_
    split
    · exact (hF _ (h.putOn isR11 (in_nI (by omega) (by decide)))).take isR11
    · exact h
theorem ad_kl {F : Sg → Sg} (hF : ∀ s, DI s → DI (F s)) (aF : ∀ s, DI s → Ad s (F s)) {t : Nat} : ∀ (n k : Nat) (s : Sg), n + k ≤ 6 → DI s → Ad s (fKl F t n k s)
  | 0, _, s, _, _ => Ad.rf s
  | n + 1, k, s, hk, h => by
    unfold fKl
    split
    · have h1 := h.putOn (t := t) isR11 (in_nI (k := k) (n := 6) (by omega) (by decide))
      exact (((ad_putOn s _ t).tr (aF _ h1)).tr (ad_take _)).tr (ad_kl hF aF n (k + 1) _ (by omega) ((hF _ h1).take isR11))
    · exact ad_kl hF aF n (k + 1) _ (by omega) h
theorem K_DI {t : Nat} : ∀ (d : Nat) (s : Sg), DI s → DI (fK t d s)
  | 0, _, h => kb_DI h
  | d + 1, s, h => by
    unfold fK; split
    · exact kl_DI (K_DI d) _ _ _ (by have := h.nc.ixl; omega) (kb_DI h)
    · exact kb_DI h
theorem ad_K {t : Nat} : ∀ (d : Nat) (s : Sg), DI s → Ad s (fK t d s)
  | 0, s, _ => ad_kb s
  | d + 1, s, h => by
    unfold fK; split
    · exact (ad_kb s).tr (ad_kl (K_DI d) (ad_K d) _ _ _ (by have := h.nc.ixl; omega) (kb_DI h))
    · exact ad_kb s
theorem A_DI : ∀ (d : Nat) (s : Sg), DI s → DI (fA d s)
  | 0, _, h => ta_DI h
  | d + 1, s, h => by
    unfold fA; split
    · exact ta_DI h
    · exact kl_DI (A_DI d) _ _ _ (by have := h.nc.ixl; omega) (ta_DI h)
theorem ad_A : ∀ (d : Nat) (s : Sg), DI s → Ad s (fA d s)
  | 0, s, _ => ad_ta s
  | d + 1, s, h => by
    unfold fA; split
    · exact ad_ta s
    · exact (ad_ta s).tr (ad_kl (A_DI d) (ad_A d) _ _ _ (by have := h.nc.ixl; omega) (ta_DI h))
def fr_J6_bitCount_0f7a4 (sg : Sg) (p : Int32) : Int32 := ((((((((p - ((ushr p 1) &&& 1431655765)) &&& 858993459) + ((ushr (p - ((ushr p 1) &&& 1431655765)) 2) &&& 858993459)) + (ushr (((p - ((ushr p 1) &&& 1431655765)) &&& 858993459) + ((ushr (p - ((ushr p 1) &&& 1431655765)) 2) &&& 858993459)) 4)) &&& 252645135) + (ushr (((((p - ((ushr p 1) &&& 1431655765)) &&& 858993459) + ((ushr (p - ((ushr p 1) &&& 1431655765)) 2) &&& 858993459)) + (ushr (((p - ((ushr p 1) &&& 1431655765)) &&& 858993459) + ((ushr (p - ((ushr p 1) &&& 1431655765)) 2) &&& 858993459)) 4)) &&& 252645135) 8)) + (ushr ((((((p - ((ushr p 1) &&& 1431655765)) &&& 858993459) + ((ushr (p - ((ushr p 1) &&& 1431655765)) 2) &&& 858993459)) + (ushr (((p - ((ushr p 1) &&& 1431655765)) &&& 858993459) + ((ushr (p - ((ushr p 1) &&& 1431655765)) 2) &&& 858993459)) 4)) &&& 252645135) + (ushr (((((p - ((ushr p 1) &&& 1431655765)) &&& 858993459) + ((ushr (p - ((ushr p 1) &&& 1431655765)) 2) &&& 858993459)) + (ushr (((p - ((ushr p 1) &&& 1431655765)) &&& 858993459) + ((ushr (p - ((ushr p 1) &&& 1431655765)) 2) &&& 858993459)) 4)) &&& 252645135) 8)) 16)) &&& 63)
set_option maxHeartbeats 4000000 in
set_option maxRecDepth 20000 in
theorem k_J6_bitCount_0f7a4 {l : Launch} {D : va_G} {K : Nat → ClassId} {g : Nat → Nat} (sg : Sg) (o : Ot) (p : Int32) : CN l yJ6_bitCount_0f7a4 cJ6_bitCount_0f7a4 1 (some .int) 1 D K g [.int p] sg o (some (.int (fr_J6_bitCount_0f7a4 sg p))) sg o :=
  mk_i (own := RJ6) (av := fun g => [.int p]) (lo := fun g => [(0, .int p)]) (by decide) rfl rfl (fun _ => Nat.le_of_ble_eq_true rfl) (fun _ => rfl) fun X C E => by
    refine v_iload_n (j := 0) C dJ6_bitCount_0f7a4_0 rfl rfl rfl ?_
    refine v_iload_n (j := 0) C dJ6_bitCount_0f7a4_1 rfl rfl rfl ?_
    refine v_iconst (v := 1) C dJ6_bitCount_0f7a4_2 (by decide) rfl ?_
    refine v_iushr C dJ6_bitCount_0f7a4_3 rfl rfl ?_
    refine v_ldcw (v := 1431655765) C (C.2.2.2.2.1 _ (all_in3 107 (by decide +kernel) rfl)) dJ6_bitCount_0f7a4_4 rfl ?_
    refine v_iand C dJ6_bitCount_0f7a4_7 rfl ?_
    refine v_isub C dJ6_bitCount_0f7a4_8 rfl ?_
    refine v_istore_n C [(0, .int (p - ((ushr p 1) &&& 1431655765)))] dJ6_bitCount_0f7a4_9 rfl (by decide) rfl rfl ?_
    refine v_iload_n (j := 0) C dJ6_bitCount_0f7a4_10 rfl rfl rfl ?_
    refine v_ldcw (v := 858993459) C (C.2.2.2.2.1 _ (all_in3 108 (by decide +kernel) rfl)) dJ6_bitCount_0f7a4_11 rfl ?_
    refine v_iand C dJ6_bitCount_0f7a4_14 rfl ?_
    refine v_iload_n (j := 0) C dJ6_bitCount_0f7a4_15 rfl rfl rfl ?_
    refine v_iconst (v := 2) C dJ6_bitCount_0f7a4_16 (by decide) rfl ?_
    refine v_iushr C dJ6_bitCount_0f7a4_17 rfl rfl ?_
    refine v_ldcw (v := 858993459) C (C.2.2.2.2.1 _ (all_in3 108 (by decide +kernel) rfl)) dJ6_bitCount_0f7a4_18 rfl ?_
    refine v_iand C dJ6_bitCount_0f7a4_21 rfl ?_
    refine v_iadd C dJ6_bitCount_0f7a4_22 rfl ?_
    refine v_istore_n C [(0, .int (((p - ((ushr p 1) &&& 1431655765)) &&& 858993459) + ((ushr (p - ((ushr p 1) &&& 1431655765)) 2) &&& 858993459)))] dJ6_bitCount_0f7a4_23 rfl (by decide) rfl rfl ?_
    refine v_iload_n (j := 0) C dJ6_bitCount_0f7a4_24 rfl rfl rfl ?_
    refine v_iload_n (j := 0) C dJ6_bitCount_0f7a4_25 rfl rfl rfl ?_
    refine v_iconst (v := 4) C dJ6_bitCount_0f7a4_26 (by decide) rfl ?_
    refine v_iushr C dJ6_bitCount_0f7a4_27 rfl rfl ?_
    refine v_iadd C dJ6_bitCount_0f7a4_28 rfl ?_
    refine v_ldcw (v := 252645135) C (C.2.2.2.2.1 _ (all_in3 109 (by decide +kernel) rfl)) dJ6_bitCount_0f7a4_29 rfl ?_
    refine v_iand C dJ6_bitCount_0f7a4_32 rfl ?_
    refine v_istore_n C [(0, .int (((((p - ((ushr p 1) &&& 1431655765)) &&& 858993459) + ((ushr (p - ((ushr p 1) &&& 1431655765)) 2) &&& 858993459)) + (ushr (((p - ((ushr p 1) &&& 1431655765)) &&& 858993459) + ((ushr (p - ((ushr p 1) &&& 1431655765)) 2) &&& 858993459)) 4)) &&& 252645135))] dJ6_bitCount_0f7a4_33 rfl (by decide) rfl rfl ?_
    refine v_iload_n (j := 0) C dJ6_bitCount_0f7a4_34 rfl rfl rfl ?_
    refine v_iload_n (j := 0) C dJ6_bitCount_0f7a4_35 rfl rfl rfl ?_
    refine v_bipush (v := 8) C dJ6_bitCount_0f7a4_36 (by decide) rfl ?_
    refine v_iushr C dJ6_bitCount_0f7a4_38 rfl rfl ?_
    refine v_iadd C dJ6_bitCount_0f7a4_39 rfl ?_
    refine v_istore_n C [(0, .int ((((((p - ((ushr p 1) &&& 1431655765)) &&& 858993459) + ((ushr (p - ((ushr p 1) &&& 1431655765)) 2) &&& 858993459)) + (ushr (((p - ((ushr p 1) &&& 1431655765)) &&& 858993459) + ((ushr (p - ((ushr p 1) &&& 1431655765)) 2) &&& 858993459)) 4)) &&& 252645135) + (ushr (((((p - ((ushr p 1) &&& 1431655765)) &&& 858993459) + ((ushr (p - ((ushr p 1) &&& 1431655765)) 2) &&& 858993459)) + (ushr (((p - ((ushr p 1) &&& 1431655765)) &&& 858993459) + ((ushr (p - ((ushr p 1) &&& 1431655765)) 2) &&& 858993459)) 4)) &&& 252645135) 8)))] dJ6_bitCount_0f7a4_40 rfl (by decide) rfl rfl ?_
    refine v_iload_n (j := 0) C dJ6_bitCount_0f7a4_41 rfl rfl rfl ?_
    refine v_iload_n (j := 0) C dJ6_bitCount_0f7a4_42 rfl rfl rfl ?_
    refine v_bipush (v := 16) C dJ6_bitCount_0f7a4_43 (by decide) rfl ?_
    refine v_iushr C dJ6_bitCount_0f7a4_45 rfl rfl ?_
    refine v_iadd C dJ6_bitCount_0f7a4_46 rfl ?_
    refine v_istore_n C [(0, .int (((((((p - ((ushr p 1) &&& 1431655765)) &&& 858993459) + ((ushr (p - ((ushr p 1) &&& 1431655765)) 2) &&& 858993459)) + (ushr (((p - ((ushr p 1) &&& 1431655765)) &&& 858993459) + ((ushr (p - ((ushr p 1) &&& 1431655765)) 2) &&& 858993459)) 4)) &&& 252645135) + (ushr (((((p - ((ushr p 1) &&& 1431655765)) &&& 858993459) + ((ushr (p - ((ushr p 1) &&& 1431655765)) 2) &&& 858993459)) + (ushr (((p - ((ushr p 1) &&& 1431655765)) &&& 858993459) + ((ushr (p - ((ushr p 1) &&& 1431655765)) 2) &&& 858993459)) 4)) &&& 252645135) 8)) + (ushr ((((((p - ((ushr p 1) &&& 1431655765)) &&& 858993459) + ((ushr (p - ((ushr p 1) &&& 1431655765)) 2) &&& 858993459)) + (ushr (((p - ((ushr p 1) &&& 1431655765)) &&& 858993459) + ((ushr (p - ((ushr p 1) &&& 1431655765)) 2) &&& 858993459)) 4)) &&& 252645135) + (ushr (((((p - ((ushr p 1) &&& 1431655765)) &&& 858993459) + ((ushr (p - ((ushr p 1) &&& 1431655765)) 2) &&& 858993459)) + (ushr (((p - ((ushr p 1) &&& 1431655765)) &&& 858993459) + ((ushr (p - ((ushr p 1) &&& 1431655765)) 2) &&& 858993459)) 4)) &&& 252645135) 8)) 16)))] dJ6_bitCount_0f7a4_47 rfl (by decide) rfl rfl ?_
    refine v_iload_n (j := 0) C dJ6_bitCount_0f7a4_48 rfl rfl rfl ?_
    refine v_bipush (v := 63) C dJ6_bitCount_0f7a4_49 (by decide) rfl ?_
    refine v_iand C dJ6_bitCount_0f7a4_51 rfl ?_
    exact v_ret E dJ6_bitCount_0f7a4_52 (by decide) (by decide) ((by rfl)) (rfl) rfl
set_option maxHeartbeats 4000000 in
set_option maxRecDepth 20000 in
theorem lp_X4_seekBest {X : Cx} (o : Ot) (t : Nat) (h_t : t < 4) (d j : Nat) (C : CF X cX4_seekBest RX4 4 (12 + (d + 1)) 0 0) (N : Nat) (h6 : N ≤ 6) (IH : ∀ s1 : Sg, DI s1 → CN (xl X) yX4_seekBest cX4_seekBest 4 none (12 + d) (xD X) (xK X) (xg X) [.ref (xg X 0), .ref (xg X (37 + t)), .int (nI j + 1)] s1 o none (fK t d s1) o) {sF : Sg} (E : Ev X cX4_seekBest 0 0 sF o) : ∀ (n k : Nat) (sg : Sg), n + k = N → DI sg → sg 0 8 = nI N → sF = fKl (fK t d) t n k sg → V X 0 0 4 sg o [(3, .int (nI k)), (0, .ref (xg X 0)), (1, .ref (xg X (37 + t))), (2, .int (nI j))] 43 [] := by
  refine loop_ind fun n ih => ?_
  intro k sg hnk hD hN hr
  refine v_iload_n (j := 0) C dX4_seekBest_43 rfl rfl rfl ?_
  refine v_aload_n (j := 1) C dX4_seekBest_44 rfl rfl rfl ?_
  refine v_geti (c := 0) C flX4_48 (by decide) rfl rfl dX4_seekBest_45 rfl ?_
  refine v_icmp_ge (tgt := 97) C dX4_seekBest_48 (by decide) rfl (fun h48_1 => ?_) (fun h48_1 => ?_)
  · skip
    rw [hN, nI_lt_iff (by omega) (by omega)] at h48_1; obtain rfl : n = 0 := by omega
    exact v_vret E dX4_seekBest_97 (by decide) (by decide) (by rw [hr]; simp only [fKl]) rfl
  · skip
    rw [hN, nI_lt_iff (by omega) (by omega)] at h48_1; obtain ⟨m, rfl⟩ : ∃ m, n = m + 1 := ⟨n - 1, by omega⟩; have hp : vp_in (nI k) 6 := in_nI (by omega) (by decide)
    refine v_aload_n (j := 1) C dX4_seekBest_51 rfl rfl rfl ?_
    refine v_aload_n (j := 1) C dX4_seekBest_52 rfl rfl rfl ?_
    refine v_getr (c := 0) C 11 flX4_38 (by decide) rfl rfl dX4_seekBest_53 rfl ?_
    refine v_iload_n (j := 0) C dX4_seekBest_56 rfl rfl rfl ?_
    refine v_callV (rest := []) (q := (RX4, TX4, 13)) C kvX4_224 (k_X4_reasonAgainst sg o 11 (nI k) isR11 hD hp) (by omega) (by decide) rfl rfl rfl rfl rfl (Nat.le_of_ble_eq_true rfl) (by decide) (by decide) dX4_seekBest_57 rfl ?_
    refine v_bipush (v := 45) C dX4_seekBest_60 (by decide) rfl ?_
    refine v_icmp_ne (tgt := 91) C dX4_seekBest_62 (by decide) rfl (fun h62_2 => ?_) (fun h62_2 => ?_)
    · skip
      skip
      refine v_iinc (j := 0) (v := (nI (k + 1))) C [(3, .int (nI (k + 1))), (0, .ref (xg X 0)), (1, .ref (xg X (37 + t))), (2, .int (nI j))] dX4_seekBest_91 rfl (nI_add1 _) (by decide) rfl rfl ?_
      refine v_goto (pc1 := 43) C dX4_seekBest_94 (by decide) ?_
      exact ih m (by omega) (k + 1) _ (by omega) hD hN (by rw [hr]; simp only [fKl, if_neg h62_2])
    · skip
      have D1 := hD.putOn (t := t) isR11 hp; have D2 := K_DI (t := t) d _ D1
      refine v_aload_n (j := 1) C dX4_seekBest_65 rfl rfl rfl ?_
      refine v_aload_n (j := 1) C dX4_seekBest_66 rfl rfl rfl ?_
      refine v_getr (c := 0) C 11 flX4_38 (by decide) rfl rfl dX4_seekBest_67 rfl ?_
      refine v_iload_n (j := 0) C dX4_seekBest_70 rfl rfl rfl ?_
      refine v_aload_n (j := 2) C dX4_seekBest_71 rfl rfl rfl ?_
      refine v_callV (rest := []) (q := (RX4, TX4, 13)) C kvX4_230 (k_X4_putOn sg o 11 (nI k) t isR11 h_t hD hp) (by omega) (by decide) rfl rfl rfl rfl rfl (Nat.le_of_ble_eq_true rfl) (by decide) (by decide) dX4_seekBest_72 rfl ?_
      refine v_aload_n (j := 1) C dX4_seekBest_75 rfl rfl rfl ?_
      refine v_aload_n (j := 2) C dX4_seekBest_76 rfl rfl rfl ?_
      refine v_iload_n (j := 3) C dX4_seekBest_77 rfl rfl rfl ?_
      refine v_iconst (v := 1) C dX4_seekBest_78 (by decide) rfl ?_
      refine v_iadd C dX4_seekBest_79 rfl ?_
      refine v_callS (rest := []) C ksX4_346 (IH _ D1) (by omega) rfl rfl (Nat.le_of_ble_eq_true rfl) (by decide) (by decide) dX4_seekBest_80 rfl ?_
      refine v_aload_n (j := 1) C dX4_seekBest_83 rfl rfl rfl ?_
      refine v_aload_n (j := 1) C dX4_seekBest_84 rfl rfl rfl ?_
      refine v_getr (c := 0) C 11 flX4_38 (by decide) rfl rfl dX4_seekBest_85 rfl ?_
      refine v_callV (rest := []) (q := (RX4, TX4, 13)) C kvX4_243 (k_X4_takeLastOff (fK t d (fs_X4_putOn sg 11 (nI k) t)) o 11 isR11 D2) (by omega) (by decide) rfl rfl rfl rfl rfl (Nat.le_of_ble_eq_true rfl) (by decide) (by decide) dX4_seekBest_88 rfl ?_
      refine v_iinc (j := 0) (v := (nI (k + 1))) C [(3, .int (nI (k + 1))), (0, .ref (xg X 0)), (1, .ref (xg X (37 + t))), (2, .int (nI j))] dX4_seekBest_91 rfl (nI_add1 _) (by decide) rfl rfl ?_
      refine v_goto (pc1 := 43) C dX4_seekBest_94 (by decide) ?_
      exact ih m (by omega) (k + 1) _ (by omega) (D2.take isR11) ((((ad_putOn _ _ _).tr (ad_K d _ D1)).tr (ad_take _) 0 8 (by omega) (by omega)).trans hN) (by rw [hr]; simp only [fKl, if_pos h62_2])
set_option maxHeartbeats 4000000 in
set_option maxRecDepth 20000 in
theorem lp_X4_tryAllFrom {X : Cx} (o : Ot) (t : Nat) (h_t : t < 4) (d j : Nat) (C : CF X cX4_tryAllFrom RX4 4 (12 + (d + 1)) 0 0) (N : Nat) (h6 : N ≤ 6) (IH : ∀ s1 : Sg, DI s1 → CN (xl X) yX4_tryAllFrom cX4_tryAllFrom 4 none (12 + d) (xD X) (xK X) (xg X) [.ref (xg X 0), .int (nI j + 1)] s1 o none (fA d s1) o) {sF : Sg} (E : Ev X cX4_tryAllFrom 0 0 sF o) : ∀ (n k : Nat) (sg : Sg), n + k = N → DI sg → sg 0 8 = nI N → sF = fKl (fA d) t n k sg → V X 0 0 4 sg o [(3, .int (nI k)), (2, .ref (xg X (37 + t))), (0, .ref (xg X 0)), (1, .int (nI j))] 46 [] := by
  refine loop_ind fun n ih => ?_
  intro k sg hnk hD hN hr
  refine v_iload_n (j := 0) C dX4_tryAllFrom_46 rfl rfl rfl ?_
  refine v_aload_n (j := 2) C dX4_tryAllFrom_47 rfl rfl rfl ?_
  refine v_geti (c := 0) C flX4_48 (by decide) rfl rfl dX4_tryAllFrom_48 rfl ?_
  refine v_icmp_ge (tgt := 99) C dX4_tryAllFrom_51 (by decide) rfl (fun h51_1 => ?_) (fun h51_1 => ?_)
  · skip
    rw [hN, nI_lt_iff (by omega) (by omega)] at h51_1; obtain rfl : n = 0 := by omega
    exact v_vret E dX4_tryAllFrom_99 (by decide) (by decide) (by rw [hr]; simp only [fKl]) rfl
  · skip
    rw [hN, nI_lt_iff (by omega) (by omega)] at h51_1; obtain ⟨m, rfl⟩ : ∃ m, n = m + 1 := ⟨n - 1, by omega⟩; have hp : vp_in (nI k) 6 := in_nI (by omega) (by decide)
    refine v_aload_n (j := 2) C dX4_tryAllFrom_54 rfl rfl rfl ?_
    refine v_aload_n (j := 2) C dX4_tryAllFrom_55 rfl rfl rfl ?_
    refine v_getr (c := 0) C 11 flX4_38 (by decide) rfl rfl dX4_tryAllFrom_56 rfl ?_
    refine v_iload_n (j := 0) C dX4_tryAllFrom_59 rfl rfl rfl ?_
    refine v_callV (rest := []) (q := (RX4, TX4, 13)) C kvX4_224 (k_X4_reasonAgainst sg o 11 (nI k) isR11 hD hp) (by omega) (by decide) rfl rfl rfl rfl rfl (Nat.le_of_ble_eq_true rfl) (by decide) (by decide) dX4_tryAllFrom_60 rfl ?_
    refine v_bipush (v := 45) C dX4_tryAllFrom_63 (by decide) rfl ?_
    refine v_icmp_ne (tgt := 93) C dX4_tryAllFrom_65 (by decide) rfl (fun h65_2 => ?_) (fun h65_2 => ?_)
    · skip
      skip
      refine v_iinc (j := 0) (v := (nI (k + 1))) C [(3, .int (nI (k + 1))), (2, .ref (xg X (37 + t))), (0, .ref (xg X 0)), (1, .int (nI j))] dX4_tryAllFrom_93 rfl (nI_add1 _) (by decide) rfl rfl ?_
      refine v_goto (pc1 := 46) C dX4_tryAllFrom_96 (by decide) ?_
      exact ih m (by omega) (k + 1) _ (by omega) hD hN (by rw [hr]; simp only [fKl, if_neg h65_2])
    · skip
      have D1 := hD.putOn (t := t) isR11 hp; have D2 := A_DI d _ D1
      refine v_aload_n (j := 2) C dX4_tryAllFrom_68 rfl rfl rfl ?_
      refine v_aload_n (j := 2) C dX4_tryAllFrom_69 rfl rfl rfl ?_
      refine v_getr (c := 0) C 11 flX4_38 (by decide) rfl rfl dX4_tryAllFrom_70 rfl ?_
      refine v_iload_n (j := 0) C dX4_tryAllFrom_73 rfl rfl rfl ?_
      refine v_aload_n (j := 1) C dX4_tryAllFrom_74 rfl rfl rfl ?_
      refine v_callV (rest := []) (q := (RX4, TX4, 13)) C kvX4_230 (k_X4_putOn sg o 11 (nI k) t isR11 h_t hD hp) (by omega) (by decide) rfl rfl rfl rfl rfl (Nat.le_of_ble_eq_true rfl) (by decide) (by decide) dX4_tryAllFrom_75 rfl ?_
      refine v_aload_n (j := 2) C dX4_tryAllFrom_78 rfl rfl rfl ?_
      refine v_iload_n (j := 3) C dX4_tryAllFrom_79 rfl rfl rfl ?_
      refine v_iconst (v := 1) C dX4_tryAllFrom_80 (by decide) rfl ?_
      refine v_iadd C dX4_tryAllFrom_81 rfl ?_
      refine v_callS (rest := []) C ksX4_361 (IH _ D1) (by omega) rfl rfl (Nat.le_of_ble_eq_true rfl) (by decide) (by decide) dX4_tryAllFrom_82 rfl ?_
      refine v_aload_n (j := 2) C dX4_tryAllFrom_85 rfl rfl rfl ?_
      refine v_aload_n (j := 2) C dX4_tryAllFrom_86 rfl rfl rfl ?_
      refine v_getr (c := 0) C 11 flX4_38 (by decide) rfl rfl dX4_tryAllFrom_87 rfl ?_
      refine v_callV (rest := []) (q := (RX4, TX4, 13)) C kvX4_243 (k_X4_takeLastOff (fA d (fs_X4_putOn sg 11 (nI k) t)) o 11 isR11 D2) (by omega) (by decide) rfl rfl rfl rfl rfl (Nat.le_of_ble_eq_true rfl) (by decide) (by decide) dX4_tryAllFrom_90 rfl ?_
      refine v_iinc (j := 0) (v := (nI (k + 1))) C [(3, .int (nI (k + 1))), (2, .ref (xg X (37 + t))), (0, .ref (xg X 0)), (1, .int (nI j))] dX4_tryAllFrom_93 rfl (nI_add1 _) (by decide) rfl rfl ?_
      refine v_goto (pc1 := 46) C dX4_tryAllFrom_96 (by decide) ?_
      exact ih m (by omega) (k + 1) _ (by omega) (D2.take isR11) ((((ad_putOn _ _ _).tr (ad_A d _ D1)).tr (ad_take _) 0 8 (by omega) (by omega)).trans hN) (by rw [hr]; simp only [fKl, if_pos h65_2])
set_option maxHeartbeats 4000000 in
set_option maxRecDepth 20000 in
theorem k_X4_seekBest : ∀ (d j : Nat) (_ : j + d = 6) {l : Launch} {D : va_G} {K : Nat → ClassId} {g : Nat → Nat} (sg : Sg) (o : Ot) (_ : DI sg) (t : Nat) (_ : t < 4), CN l yX4_seekBest cX4_seekBest 4 none (12 + d) D K g [.ref (g 0), .ref (g (37 + t)), .int (nI j)] sg o none (fK t d sg) o
  | 0, j, hj, l, D, K, g, sg, o, hD, t, h_t => mk_v (own := RX4) (av := fun g => [.ref (g 0), .ref (g (37 + t)), .int (nI j)]) (lo := fun g => [(0, .ref (g 0)), (1, .ref (g (37 + t))), (2, .int (nI j))]) (by decide) rfl (fun _ => Nat.le_of_ble_eq_true rfl) (fun _ => rfl) fun X C E => by
    have DK := kb_DI hD
    have B : V X 0 0 4 (fs_kb sg) o [(0, .ref (xg X 0)), (1, .ref (xg X (37 + t))), (2, .int (nI j))] 26 [] := by
      refine v_iload_n (j := 2) C dX4_seekBest_26 rfl rfl rfl ?_
      refine v_bipush (v := 6) C dX4_seekBest_27 (by decide) rfl ?_
      refine v_icmp_ge (tgt := 40) C dX4_seekBest_29 (by decide) rfl (fun h29_1 => ?_) (fun h29_1 => ?_)
      · skip
        skip
        exact v_vret E dX4_seekBest_40 (by decide) (by decide) (rfl) rfl
      · exact absurd h29_1 (by rw [show j = 6 by omega]; decide)
    refine v_aload_n (j := 0) C dX4_seekBest_0 rfl rfl rfl ?_
    refine v_aload_n (j := 0) C dX4_seekBest_1 rfl rfl rfl ?_
    refine v_getr (c := 0) C 11 flX4_38 (by decide) rfl rfl dX4_seekBest_2 rfl ?_
    refine v_aload_n (j := 0) C dX4_seekBest_5 rfl rfl rfl ?_
    refine v_getr (c := 0) C 17 flX4_41 (by decide) rfl rfl dX4_seekBest_6 rfl ?_
    refine v_callV (rest := []) (q := (RX4, TX4, 13)) C kvX4_350 (k_X4_isBetter sg o 11 17 isR11 isR17 hD) (by omega) (by decide) rfl rfl rfl rfl rfl (Nat.le_of_ble_eq_true rfl) (by decide) (by decide) dX4_seekBest_9 rfl ?_
    refine v_if_eqB (tgt := 26) C dX4_seekBest_12 (by decide) rfl (fun h12_1 => ?_) (fun h12_1 => ?_)
    · skip
      exact v_eq (sg1 := fs_kb sg) (by unfold fs_kb; rw [if_neg h12_1]) rfl rfl B
    · skip
      refine v_aload_n (j := 0) C dX4_seekBest_15 rfl rfl rfl ?_
      refine v_getr (c := 0) C 17 flX4_41 (by decide) rfl rfl dX4_seekBest_16 rfl ?_
      refine v_aload_n (j := 0) C dX4_seekBest_19 rfl rfl rfl ?_
      refine v_getr (c := 0) C 11 flX4_38 (by decide) rfl rfl dX4_seekBest_20 rfl ?_
      refine v_callV (rest := []) (q := (RX2, TX2, 8)) C kvX4_277 (k_X2_copyFrom sg o 17 11 isR17 isR11 (by decide)) (by omega) (by decide) rfl rfl rfl rfl rfl (Nat.le_of_ble_eq_true rfl) (by decide) (by decide) dX4_seekBest_23 rfl ?_
      exact v_eq (sg1 := fs_kb sg) (by unfold fs_kb; rw [if_pos h12_1]) rfl rfl B
  | d + 1, j, hj, l, D, K, g, sg, o, hD, t, h_t => mk_v (own := RX4) (av := fun g => [.ref (g 0), .ref (g (37 + t)), .int (nI j)]) (lo := fun g => [(0, .ref (g 0)), (1, .ref (g (37 + t))), (2, .int (nI j))]) (by decide) rfl (fun _ => Nat.le_of_ble_eq_true rfl) (fun _ => rfl) fun X C E => by
    have DK := kb_DI hD
    have B : V X 0 0 4 (fs_kb sg) o [(0, .ref (xg X 0)), (1, .ref (xg X (37 + t))), (2, .int (nI j))] 26 [] := by
      refine v_iload_n (j := 2) C dX4_seekBest_26 rfl rfl rfl ?_
      refine v_bipush (v := 6) C dX4_seekBest_27 (by decide) rfl ?_
      refine v_icmp_ge (tgt := 40) C dX4_seekBest_29 (by decide) rfl (fun h29_1 => ?_) (fun h29_1 => ?_)
      · exact absurd (show nI j < 6 from by rw [show (6 : Int32) = nI 6 from rfl, nI_lt_iff (by omega) (by omega)]; omega) h29_1
      · skip
        skip
        refine v_aload_n (j := 0) C dX4_seekBest_32 rfl rfl rfl ?_
        refine v_aload_n (j := 1) C dX4_seekBest_33 rfl rfl rfl ?_
        refine v_callV (rest := []) (q := (RX4, TX4, 13)) C kvX4_354 (k_X4_mayLeadToBetter (fs_kb sg) o t h_t DK) (by omega) (by decide) rfl rfl rfl rfl rfl (Nat.le_of_ble_eq_true rfl) (by decide) (by decide) dX4_seekBest_34 rfl ?_
        refine v_if_neB (tgt := 41) C dX4_seekBest_37 (by decide) rfl (fun h37_2 => ?_) (fun h37_2 => ?_)
        · skip
          refine v_iconst (v := nI 0) C dX4_seekBest_41 (by decide) rfl ?_
          refine v_istore_n C [(3, .int (nI 0)), (0, .ref (xg X 0)), (1, .ref (xg X (37 + t))), (2, .int (nI j))] dX4_seekBest_42 rfl (by decide) rfl rfl ?_
          exact lp_X4_seekBest o t h_t d j C (ix (sg 0 8)) hD.nc.ixl (fun s1 q => by rw [show nI j + 1 = nI (j + 1) from nI_add1 j]; exact k_X4_seekBest d (j + 1) (by omega) s1 o q t h_t) (by have E1 := E; unfold fK at E1; rw [if_pos (show fb_kc (fs_kb sg) t = true from h37_2)] at E1; exact E1) _ 0 (fs_kb sg) (Nat.add_zero _) DK (((ad_kb sg) 0 8 (by omega) (by omega)).trans hD.nc.ixe) rfl
        · skip
          exact v_vret E dX4_seekBest_40 (by decide) (by decide) ((by unfold fK; rw [if_neg (show ¬ fb_kc (fs_kb sg) t = true from h37_2)])) rfl
    refine v_aload_n (j := 0) C dX4_seekBest_0 rfl rfl rfl ?_
    refine v_aload_n (j := 0) C dX4_seekBest_1 rfl rfl rfl ?_
    refine v_getr (c := 0) C 11 flX4_38 (by decide) rfl rfl dX4_seekBest_2 rfl ?_
    refine v_aload_n (j := 0) C dX4_seekBest_5 rfl rfl rfl ?_
    refine v_getr (c := 0) C 17 flX4_41 (by decide) rfl rfl dX4_seekBest_6 rfl ?_
    refine v_callV (rest := []) (q := (RX4, TX4, 13)) C kvX4_350 (k_X4_isBetter sg o 11 17 isR11 isR17 hD) (by omega) (by decide) rfl rfl rfl rfl rfl (Nat.le_of_ble_eq_true rfl) (by decide) (by decide) dX4_seekBest_9 rfl ?_
    refine v_if_eqB (tgt := 26) C dX4_seekBest_12 (by decide) rfl (fun h12_1 => ?_) (fun h12_1 => ?_)
    · skip
      exact v_eq (sg1 := fs_kb sg) (by unfold fs_kb; rw [if_neg h12_1]) rfl rfl B
    · skip
      refine v_aload_n (j := 0) C dX4_seekBest_15 rfl rfl rfl ?_
      refine v_getr (c := 0) C 17 flX4_41 (by decide) rfl rfl dX4_seekBest_16 rfl ?_
      refine v_aload_n (j := 0) C dX4_seekBest_19 rfl rfl rfl ?_
      refine v_getr (c := 0) C 11 flX4_38 (by decide) rfl rfl dX4_seekBest_20 rfl ?_
      refine v_callV (rest := []) (q := (RX2, TX2, 8)) C kvX4_277 (k_X2_copyFrom sg o 17 11 isR17 isR11 (by decide)) (by omega) (by decide) rfl rfl rfl rfl rfl (Nat.le_of_ble_eq_true rfl) (by decide) (by decide) dX4_seekBest_23 rfl ?_
      exact v_eq (sg1 := fs_kb sg) (by unfold fs_kb; rw [if_pos h12_1]) rfl rfl B
set_option maxHeartbeats 4000000 in
set_option maxRecDepth 20000 in
theorem k_X4_tryAllFrom : ∀ (d j : Nat) (_ : j + d = 6) {l : Launch} {D : va_G} {K : Nat → ClassId} {g : Nat → Nat} (sg : Sg) (o : Ot) (_ : DI sg), CN l yX4_tryAllFrom cX4_tryAllFrom 4 none (12 + d) D K g [.ref (g 0), .int (nI j)] sg o none (fA d sg) o
  | 0, j, hj, l, D, K, g, sg, o, hD => mk_v (own := RX4) (av := fun g => [.ref (g 0), .int (nI j)]) (lo := fun g => [(0, .ref (g 0)), (1, .int (nI j))]) (by decide) rfl (fun _ => Nat.le_of_ble_eq_true rfl) (fun _ => rfl) fun X C E => by
    refine v_aload_n (j := 0) C dX4_tryAllFrom_0 rfl rfl rfl ?_
    refine v_dup C dX4_tryAllFrom_1 rfl rfl ?_
    refine v_geti (c := 0) C flX4_58 (by decide) rfl rfl dX4_tryAllFrom_2 rfl ?_
    refine v_iconst (v := 1) C dX4_tryAllFrom_5 (by decide) rfl ?_
    refine v_iadd C dX4_tryAllFrom_6 rfl ?_
    refine v_puti (c := 0) C fpX4_58 (by decide) rfl rfl dX4_tryAllFrom_7 rfl ?_
    refine v_aload_n (j := 0) C dX4_tryAllFrom_10 rfl rfl rfl ?_
    refine v_aload_n (j := 0) C dX4_tryAllFrom_11 rfl rfl rfl ?_
    refine v_geti (c := 0) C flX4_61 (by decide) rfl rfl dX4_tryAllFrom_12 rfl ?_
    refine v_rwi (y := sg 0 12) ((up_ne _ _ (Or.inr (by decide))).trans rfl) ?_
    refine v_aload_n (j := 0) C dX4_tryAllFrom_15 rfl rfl rfl ?_
    refine v_getr (c := 0) C 11 flX4_38 (by decide) rfl rfl dX4_tryAllFrom_16 rfl ?_
    refine v_geti (c := 11) C flX4_273 (by decide) rfl rfl dX4_tryAllFrom_19 rfl ?_
    refine v_rwi (y := sg 11 7) ((up_ne _ _ (Or.inl (by decide))).trans rfl) ?_
    refine v_mmax C ksX4_323 (by omega) (Nat.le_of_ble_eq_true rfl) (by decide) (by decide) dX4_tryAllFrom_22 rfl ?_
    refine v_puti (c := 0) C fpX4_61 (by decide) rfl rfl dX4_tryAllFrom_25 rfl ?_
    refine v_aload_n (j := 0) C dX4_tryAllFrom_28 rfl rfl rfl ?_
    refine v_getp (c := 0) C flX4_54 (by decide) rfl rfl dX4_tryAllFrom_29 rfl (fun h29_1 => ?_) (fun h29_1 => ?_)
    · skip
      refine v_astore_nN C [(2, .null), (0, .ref (xg X 0)), (1, .int (nI j))] dX4_tryAllFrom_32 rfl (by decide) rfl rfl ?_
      refine v_iload_n (j := 2) C dX4_tryAllFrom_33 rfl rfl rfl ?_
      refine v_bipush (v := 6) C dX4_tryAllFrom_34 (by decide) rfl ?_
      refine v_icmp_ge (tgt := 43) C dX4_tryAllFrom_36 (by decide) rfl (fun h36_2 => ?_) (fun h36_2 => ?_)
      · skip
        skip
        exact v_vret E dX4_tryAllFrom_43 (by decide) (by decide) (rfl) rfl
      · exact absurd h36_2 (by rw [show j = 6 by omega]; decide)
    · skip
      refine v_astore_n C [(2, .ref (xg X (37 + ix ((up (up sg 0 11 ((sg 0 11) + 1)) 0 12 ((if (sg 0 12) < (sg 11 7) then (sg 11 7) else (sg 0 12)))) 0 10)))), (0, .ref (xg X 0)), (1, .int (nI j))] dX4_tryAllFrom_32 rfl (by decide) rfl rfl ?_
      refine v_iload_n (j := 2) C dX4_tryAllFrom_33 rfl rfl rfl ?_
      refine v_bipush (v := 6) C dX4_tryAllFrom_34 (by decide) rfl ?_
      refine v_icmp_ge (tgt := 43) C dX4_tryAllFrom_36 (by decide) rfl (fun h36_3 => ?_) (fun h36_3 => ?_)
      · skip
        skip
        exact v_vret E dX4_tryAllFrom_43 (by decide) (by decide) (rfl) rfl
      · exact absurd h36_3 (by rw [show j = 6 by omega]; decide)
  | d + 1, j, hj, l, D, K, g, sg, o, hD => mk_v (own := RX4) (av := fun g => [.ref (g 0), .int (nI j)]) (lo := fun g => [(0, .ref (g 0)), (1, .int (nI j))]) (by decide) rfl (fun _ => Nat.le_of_ble_eq_true rfl) (fun _ => rfl) fun X C E => by
    refine v_aload_n (j := 0) C dX4_tryAllFrom_0 rfl rfl rfl ?_
    refine v_dup C dX4_tryAllFrom_1 rfl rfl ?_
    refine v_geti (c := 0) C flX4_58 (by decide) rfl rfl dX4_tryAllFrom_2 rfl ?_
    refine v_iconst (v := 1) C dX4_tryAllFrom_5 (by decide) rfl ?_
    refine v_iadd C dX4_tryAllFrom_6 rfl ?_
    refine v_puti (c := 0) C fpX4_58 (by decide) rfl rfl dX4_tryAllFrom_7 rfl ?_
    refine v_aload_n (j := 0) C dX4_tryAllFrom_10 rfl rfl rfl ?_
    refine v_aload_n (j := 0) C dX4_tryAllFrom_11 rfl rfl rfl ?_
    refine v_geti (c := 0) C flX4_61 (by decide) rfl rfl dX4_tryAllFrom_12 rfl ?_
    refine v_rwi (y := sg 0 12) ((up_ne _ _ (Or.inr (by decide))).trans rfl) ?_
    refine v_aload_n (j := 0) C dX4_tryAllFrom_15 rfl rfl rfl ?_
    refine v_getr (c := 0) C 11 flX4_38 (by decide) rfl rfl dX4_tryAllFrom_16 rfl ?_
    refine v_geti (c := 11) C flX4_273 (by decide) rfl rfl dX4_tryAllFrom_19 rfl ?_
    refine v_rwi (y := sg 11 7) ((up_ne _ _ (Or.inl (by decide))).trans rfl) ?_
    refine v_mmax C ksX4_323 (by omega) (Nat.le_of_ble_eq_true rfl) (by decide) (by decide) dX4_tryAllFrom_22 rfl ?_
    refine v_puti (c := 0) C fpX4_61 (by decide) rfl rfl dX4_tryAllFrom_25 rfl ?_
    refine v_aload_n (j := 0) C dX4_tryAllFrom_28 rfl rfl rfl ?_
    refine v_getp (c := 0) C flX4_54 (by decide) rfl rfl dX4_tryAllFrom_29 rfl (fun h29_1 => ?_) (fun h29_1 => ?_)
    · skip
      refine v_astore_nN C [(2, .null), (0, .ref (xg X 0)), (1, .int (nI j))] dX4_tryAllFrom_32 rfl (by decide) rfl rfl ?_
      refine v_iload_n (j := 2) C dX4_tryAllFrom_33 rfl rfl rfl ?_
      refine v_bipush (v := 6) C dX4_tryAllFrom_34 (by decide) rfl ?_
      refine v_icmp_ge (tgt := 43) C dX4_tryAllFrom_36 (by decide) rfl (fun h36_2 => ?_) (fun h36_2 => ?_)
      · exact absurd (show nI j < 6 from by rw [show (6 : Int32) = nI 6 from rfl, nI_lt_iff (by omega) (by omega)]; omega) h36_2
      · skip
        skip
        refine v_aload_nN (j := 0) C dX4_tryAllFrom_39 rfl rfl rfl ?_
        refine v_ifnonnullN C dX4_tryAllFrom_40 rfl ?_
        exact v_vret E dX4_tryAllFrom_43 (by decide) (by decide) ((by unfold fA; rw [if_pos (show sg 0 10 < 0 from h29_1)]; rfl)) rfl
    · skip
      refine v_astore_n C [(2, .ref (xg X (37 + ix ((up (up sg 0 11 ((sg 0 11) + 1)) 0 12 ((if (sg 0 12) < (sg 11 7) then (sg 11 7) else (sg 0 12)))) 0 10)))), (0, .ref (xg X 0)), (1, .int (nI j))] dX4_tryAllFrom_32 rfl (by decide) rfl rfl ?_
      refine v_iload_n (j := 2) C dX4_tryAllFrom_33 rfl rfl rfl ?_
      refine v_bipush (v := 6) C dX4_tryAllFrom_34 (by decide) rfl ?_
      refine v_icmp_ge (tgt := 43) C dX4_tryAllFrom_36 (by decide) rfl (fun h36_3 => ?_) (fun h36_3 => ?_)
      · exact absurd (show nI j < 6 from by rw [show (6 : Int32) = nI 6 from rfl, nI_lt_iff (by omega) (by omega)]; omega) h36_3
      · skip
        skip
        refine v_aload_n (j := 0) C dX4_tryAllFrom_39 rfl rfl rfl ?_
        refine v_ifnonnull (tgt := 44) C dX4_tryAllFrom_40 (by decide) ?_
        refine v_iconst (v := nI 0) C dX4_tryAllFrom_44 (by decide) rfl ?_
        refine v_istore_n C [(3, .int (nI 0)), (2, .ref (xg X (37 + ix ((up (up sg 0 11 ((sg 0 11) + 1)) 0 12 ((if (sg 0 12) < (sg 11 7) then (sg 11 7) else (sg 0 12)))) 0 10)))), (0, .ref (xg X 0)), (1, .int (nI j))] dX4_tryAllFrom_45 rfl (by decide) rfl rfl ?_
        exact v_eq (sg1 := fs_ta sg) rfl rfl rfl (lp_X4_tryAllFrom o (ix (sg 0 10)) (ix_lt (hD.tn (show ¬ sg 0 10 < 0 from h29_1))) d j C (ix (sg 0 8)) hD.nc.ixl (fun s1 q => by rw [show nI j + 1 = nI (j + 1) from nI_add1 j]; exact k_X4_tryAllFrom d (j + 1) (by omega) s1 o q) (by have E1 := E; unfold fA at E1; rw [if_neg (show ¬ sg 0 10 < 0 from h29_1)] at E1; exact E1) _ 0 (fs_ta sg) (Nat.add_zero _) (ta_DI hD) (((ad_ta sg) 0 8 (by omega) (by omega)).trans hD.nc.ixe) rfl)
