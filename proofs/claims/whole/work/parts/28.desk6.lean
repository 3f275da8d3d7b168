def fl_tig (sg : Sg) (t : Nat) : Nat → Nat → Int32 → Int32
  | 0, _, z => z
  | n + 1, k, z => if fr_X4_leftAt sg (nI k) t < fr_X4_leftAt sg z t then fl_tig sg t n (k + 1) (nI k) else fl_tig sg t n (k + 1) z
def fl_ml (sg : Sg) : Nat → Nat → Int32 → Int32
  | 0, _, s => s
  | n + 1, k, s => fl_ml sg n (k + 1) (s + sg 10 k)
set_option maxHeartbeats 4000000 in
set_option maxRecDepth 20000 in
theorem lp_X4_tightest {X : Cx} {rk : Nat} (hrk : 9 ≤ rk) (C : CF X cX4_tightest RX4 4 rk 1 6) (sg : Sg) (o : Ot) (hD : DI sg) (t : Nat) (h_t : t < 4) (N : Nat) (h6 : N ≤ 8) (hN : sg 0 7 = nI N) {r : Int32} (E : Ei X cX4_tightest 1 6 sg o r) : ∀ (n k : Nat) (z : Int32), n + k = N → vp_in z 8 → r = fl_tig sg t n k z → V X 0 0 4 sg o [(3, .int (nI k)), (2, .int z), (1, .ref (xg X (37 + t))), (0, .ref (xg X 0))] 41 [] := by
  refine loop_ind fun n ih => ?_
  intro k z hnk hz hr
  refine v_iload_n (j := 0) C dX4_tightest_41 rfl rfl rfl ?_
  refine v_aload_n (j := 3) C dX4_tightest_42 rfl rfl rfl ?_
  refine v_geti (c := 0) C flX4_44 (by decide) rfl rfl dX4_tightest_43 rfl ?_
  refine v_icmp_ge (tgt := 72) C dX4_tightest_46 (by decide) rfl (fun h46_1 => ?_) (fun h46_1 => ?_)
  · skip
    rw [hN, nI_lt_iff (by omega) (by omega)] at h46_1; obtain rfl : n = 0 := by omega
    refine v_iload_n (j := 1) C dX4_tightest_72 rfl rfl rfl ?_
    exact v_ret E dX4_tightest_73 (by decide) (by decide) (by rw [hr]; simp only [fl_tig]) (rfl) rfl
  · skip
    rw [hN, nI_lt_iff (by omega) (by omega)] at h46_1; obtain ⟨m, rfl⟩ : ∃ m, n = m + 1 := ⟨n - 1, by omega⟩
    refine v_aload_n (j := 3) C dX4_tightest_49 rfl rfl rfl ?_
    refine v_iload_n (j := 0) C dX4_tightest_50 rfl rfl rfl ?_
    refine v_aload_n (j := 2) C dX4_tightest_51 rfl rfl rfl ?_
    refine v_callV (rest := []) (q := (RX4, TX4, 13)) C kvX4_282 (k_X4_leftAt sg o (nI k) t h_t (in_nI (by omega) (by decide))) (by omega) (by decide) rfl rfl rfl rfl rfl (Nat.le_of_ble_eq_true rfl) (by decide) (by decide) dX4_tightest_52 rfl ?_
    refine v_aload_n (j := 3) C dX4_tightest_55 rfl rfl rfl ?_
    refine v_iload_n (j := 1) C dX4_tightest_56 rfl rfl rfl ?_
    refine v_aload_n (j := 2) C dX4_tightest_57 rfl rfl rfl ?_
    refine v_callV (rest := [.int (fr_X4_leftAt sg (nI k) t)]) (q := (RX4, TX4, 13)) C kvX4_282 (k_X4_leftAt sg o z t h_t hz) (by omega) (by decide) rfl rfl rfl rfl rfl (Nat.le_of_ble_eq_true rfl) (by decide) (by decide) dX4_tightest_58 rfl ?_
    refine v_icmp_ge (tgt := 66) C dX4_tightest_61 (by decide) rfl (fun h61_2 => ?_) (fun h61_2 => ?_)
    · skip
      refine v_iinc (j := 0) (v := (nI (k + 1))) C [(3, .int (nI (k + 1))), (2, .int z), (1, .ref (xg X (37 + t))), (0, .ref (xg X 0))] dX4_tightest_66 rfl (nI_add1 _) (by decide) rfl rfl ?_
      refine v_goto (pc1 := 41) C dX4_tightest_69 (by decide) ?_
      exact ih m (by omega) (k + 1) z (by omega) hz (by rw [hr]; simp only [fl_tig, if_neg h61_2])
    · skip
      refine v_iload_n (j := 0) C dX4_tightest_64 rfl rfl rfl ?_
      refine v_istore_n C [(2, .int (nI k)), (3, .int (nI k)), (1, .ref (xg X (37 + t))), (0, .ref (xg X 0))] dX4_tightest_65 rfl (by decide) rfl rfl ?_
      refine v_iinc (j := 1) (v := (nI (k + 1))) C [(3, .int (nI (k + 1))), (2, .int (nI k)), (1, .ref (xg X (37 + t))), (0, .ref (xg X 0))] dX4_tightest_66 rfl (nI_add1 _) (by decide) rfl rfl ?_
      refine v_goto (pc1 := 41) C dX4_tightest_69 (by decide) ?_
      exact ih m (by omega) (k + 1) (nI k) (by omega) (in_nI (by omega) (by decide)) (by rw [hr]; simp only [fl_tig, if_pos h61_2])
def fr_X4_tightest (sg : Sg) : Int32 := (fl_tig sg (ix (sg 0 10)) (ix (sg 0 7) - 1) 1 0)
def fe_X4_tightest (sg : Sg) : Option String := (if sg 0 10 < 0 then (some eISE) else (if (sg 0 7) = 0 then (some eNSE) else none))
set_option maxHeartbeats 4000000 in
set_option maxRecDepth 20000 in
theorem k_X4_tightest {l : Launch} {D : va_G} {K : Nat → ClassId} {g : Nat → Nat} (hl : l.stackTraces = false) (sg : Sg) (o : Ot)  (hD : DI sg) : CX l yX4_tightest cX4_tightest 4 (some .int) 9 1 6 D K g [.ref (g 0)] sg o (fe_X4_tightest sg) (some (.int (fr_X4_tightest sg))) sg o :=
  mk_xi (own := RX4) (av := fun g => [.ref (g 0)]) (lo := fun g => [(0, .ref (g 0))]) (by decide) rfl rfl (fun _ => Nat.le_of_ble_eq_true rfl) (fun _ => rfl) hl fun X C E T => by
    refine v_aload_n (j := 0) C dX4_tightest_0 rfl rfl rfl ?_
    refine v_getp (c := 0) C flX4_54 (by decide) rfl rfl dX4_tightest_1 rfl (fun h1_1 => ?_) (fun h1_1 => ?_)
    · skip
      refine v_astore_nN C [(1, .null), (0, .ref (xg X 0))] dX4_tightest_4 rfl (by decide) rfl rfl ?_
      refine v_aload_nN (j := 0) C dX4_tightest_5 rfl rfl rfl ?_
      refine v_ifnonnullN C dX4_tightest_6 rfl ?_
      exact T.2.2.1 _ _ _ _ _ _ _ _ _ _ ts_80_208_84 dX4_tightest_9 dX4_tightest_12 dX4_tightest_13 dX4_tightest_15 dX4_tightest_18 (by decide) (Nat.le_of_ble_eq_true rfl) (by decide) (by decide) ((by simp only [fe_X4_tightest, if_pos h1_1]))
    · skip
      refine v_astore_n C [(1, .ref (xg X (37 + ix (sg 0 10)))), (0, .ref (xg X 0))] dX4_tightest_4 rfl (by decide) rfl rfl ?_
      refine v_aload_n (j := 0) C dX4_tightest_5 rfl rfl rfl ?_
      refine v_ifnonnull (tgt := 19) C dX4_tightest_6 (by decide) ?_
      refine v_aload_n (j := 1) C dX4_tightest_19 rfl rfl rfl ?_
      refine v_geti (c := 0) C flX4_44 (by decide) rfl rfl dX4_tightest_20 rfl ?_
      refine v_if_ne (tgt := 37) C dX4_tightest_23 (by decide) rfl (fun h23_2 => ?_) (fun h23_2 => ?_)
      · skip
        refine v_iconst (v := 0) C dX4_tightest_37 (by decide) rfl ?_
        refine v_istore_n C [(2, .int 0), (1, .ref (xg X (37 + ix (sg 0 10)))), (0, .ref (xg X 0))] dX4_tightest_38 rfl (by decide) rfl rfl ?_
        refine v_iconst (v := 1) C dX4_tightest_39 (by decide) rfl ?_
        refine v_istore_n C [(3, .int 1), (2, .int 0), (1, .ref (xg X (37 + ix (sg 0 10)))), (0, .ref (xg X 0))] dX4_tightest_40 rfl (by decide) rfl rfl ?_
        have E1 : Ei X cX4_tightest 1 6 sg o (fl_tig sg (ix (sg 0 10)) (ix (sg 0 7) - 1) 1 0) := by have h := E (by simp only [fe_X4_tightest, if_neg h1_1, if_neg h23_2]); simp only [fr_X4_tightest, if_neg h1_1, if_neg h23_2] at h; exact h
        exact v_sub [0, 1, 2, 3] rfl (v_eq (lo1 := [(3, .int (nI 1)), (2, .int 0), (1, .ref (xg X (37 + ix (sg 0 10)))), (0, .ref (xg X 0))]) rfl rfl rfl (lp_X4_tightest (by decide) C sg o hD (ix (sg 0 10)) (ix_lt (hD.tn (by assumption))) (ix (sg 0 7)) hD.np.ixl hD.np.ixe E1 (ix (sg 0 7) - 1) 1 0 (by have := cnt_pos hD.np (by assumption); omega) (in_nI (k := 0) (by decide) (by decide)) rfl))
      · skip
        exact T.2.2.2.2.2.1 _ _ _ _ _ _ _ _ _ _ ts_206_280_210 dX4_tightest_26 dX4_tightest_29 dX4_tightest_30 dX4_tightest_33 dX4_tightest_36 (by decide) (Nat.le_of_ble_eq_true rfl) (by decide) (by decide) ((by simp only [fe_X4_tightest, if_neg h1_1, if_pos h23_2]))
set_option maxHeartbeats 4000000 in
set_option maxRecDepth 20000 in
theorem lp_X4_meanLoad {X : Cx} {rk : Nat} (hrk : 9 ≤ rk) (C : CF X cX4_meanLoad RX4 3 rk 1 6) (sg : Sg) (o : Ot) (N : Nat) (h6 : N ≤ 8) (hN : sg 0 7 = nI N) {z : Int32} (hf : vf_n64 (FP.ddiv (FP.i2d z) (FP.i2d (sg 0 7)))) (E : Ed X cX4_meanLoad 1 6 sg o (FP.ddiv (FP.i2d z) (FP.i2d (sg 0 7)))) : ∀ (n k : Nat) (s : Int32), n + k = N → z = fl_ml sg n k s → V X 0 0 3 sg o [(2, .int (nI k)), (1, .int s), (0, .ref (xg X 0))] 22 [] := by
  refine loop_ind fun n ih => ?_
  intro k s hnk hr
  refine v_iload_n (j := 0) C dX4_meanLoad_22 rfl rfl rfl ?_
  refine v_aload_n (j := 2) C dX4_meanLoad_23 rfl rfl rfl ?_
  refine v_geti (c := 0) C flX4_44 (by decide) rfl rfl dX4_meanLoad_24 rfl ?_
  refine v_icmp_ge (tgt := 48) C dX4_meanLoad_27 (by decide) rfl (fun h27_1 => ?_) (fun h27_1 => ?_)
  · skip
    rw [hN, nI_lt_iff (by omega) (by omega)] at h27_1; obtain rfl : n = 0 := by omega
    refine v_iload_n (j := 1) C dX4_meanLoad_48 rfl rfl rfl ?_
    refine v_i2d C dX4_meanLoad_49 rfl ?_
    refine v_aload_n (j := 2) C dX4_meanLoad_50 rfl rfl rfl ?_
    refine v_geti (c := 0) C flX4_44 (by decide) rfl rfl dX4_meanLoad_51 rfl ?_
    refine v_i2d C dX4_meanLoad_54 rfl ?_
    refine v_ddiv C dX4_meanLoad_55 (by simp only [fl_ml] at hr; rw [← hr]; exact hf) rfl ?_
    exact v_dret E dX4_meanLoad_56 (by decide) (by decide) (by rw [hr]; rfl) (rfl) rfl
  · skip
    rw [hN, nI_lt_iff (by omega) (by omega)] at h27_1; obtain ⟨m, rfl⟩ : ∃ m, n = m + 1 := ⟨n - 1, by omega⟩
    refine v_iload_n (j := 1) C dX4_meanLoad_30 rfl rfl rfl ?_
    refine v_aload_n (j := 2) C dX4_meanLoad_31 rfl rfl rfl ?_
    refine v_getr (c := 0) C 5 flX4_34 (by decide) rfl rfl dX4_meanLoad_32 rfl ?_
    refine v_getr (c := 5) C 10 flX4_221 (by decide) rfl rfl dX4_meanLoad_35 rfl ?_
    refine v_iload_n (j := 0) C dX4_meanLoad_38 rfl rfl rfl ?_
    refine v_ialdN (c := 10) C (by omega) (by decide) (by decide) rfl dX4_meanLoad_39 rfl ?_
    refine v_iadd C dX4_meanLoad_40 rfl ?_
    refine v_istore_n C [(1, .int (s + (sg 10 k))), (2, .int (nI k)), (0, .ref (xg X 0))] dX4_meanLoad_41 rfl (by decide) rfl rfl ?_
    refine v_iinc (j := 1) (v := (nI (k + 1))) C [(2, .int (nI (k + 1))), (1, .int (s + (sg 10 k))), (0, .ref (xg X 0))] dX4_meanLoad_42 rfl (nI_add1 _) (by decide) rfl rfl ?_
    refine v_goto (pc1 := 22) C dX4_meanLoad_45 (by decide) ?_
    exact ih m (by omega) (k + 1) (s + (sg 10 k)) (by omega) (by rw [hr]; simp only [fl_ml])
def fr_X4_meanLoad (sg : Sg) : UInt64 := FP.ddiv (FP.i2d (fl_ml sg (ix (sg 0 7)) 0 0)) (FP.i2d (sg 0 7))
def fe_X4_meanLoad (sg : Sg) : Option String := (if (sg 0 7) = 0 then (some eAE) else none)
set_option maxHeartbeats 4000000 in
set_option maxRecDepth 20000 in
theorem k_X4_meanLoad {l : Launch} {D : va_G} {K : Nat → ClassId} {g : Nat → Nat} (hl : l.stackTraces = false) (sg : Sg) (o : Ot)  (hD : DI sg) (hf : ¬ sg 0 7 = 0 → vf_n64 (FP.ddiv (FP.i2d (fl_ml sg (ix (sg 0 7)) 0 0)) (FP.i2d (sg 0 7)))) : CX l yX4_meanLoad cX4_meanLoad 3 (some .double) 9 1 6 D K g [.ref (g 0)] sg o (fe_X4_meanLoad sg) (some (.double (fr_X4_meanLoad sg))) sg o :=
  mk_xd (own := RX4) (av := fun g => [.ref (g 0)]) (lo := fun g => [(0, .ref (g 0))]) (by decide) rfl (fun _ => Nat.le_of_ble_eq_true rfl) (fun _ => rfl) hl fun X C E T => by
    refine v_aload_n (j := 0) C dX4_meanLoad_0 rfl rfl rfl ?_
    refine v_geti (c := 0) C flX4_44 (by decide) rfl rfl dX4_meanLoad_1 rfl ?_
    refine v_if_ne (tgt := 18) C dX4_meanLoad_4 (by decide) rfl (fun h4_1 => ?_) (fun h4_1 => ?_)
    · skip
      refine v_iconst (v := 0) C dX4_meanLoad_18 (by decide) rfl ?_
      refine v_istore_n C [(1, .int 0), (0, .ref (xg X 0))] dX4_meanLoad_19 rfl (by decide) rfl rfl ?_
      refine v_iconst (v := nI 0) C dX4_meanLoad_20 (by decide) rfl ?_
      refine v_istore_n C [(2, .int (nI 0)), (1, .int 0), (0, .ref (xg X 0))] dX4_meanLoad_21 rfl (by decide) rfl rfl ?_
      have E1 : Ed X cX4_meanLoad 1 6 sg o (FP.ddiv (FP.i2d (fl_ml sg (ix (sg 0 7)) 0 0)) (FP.i2d (sg 0 7))) := by have h := E (by simp only [fe_X4_meanLoad, if_neg h4_1]); simp only [fr_X4_meanLoad, if_neg h4_1] at h; exact h
      exact v_sub [0, 1, 2] rfl (lp_X4_meanLoad (by decide) C sg o (ix (sg 0 7)) hD.np.ixl hD.np.ixe (hf (by assumption)) E1 _ 0 0 (Nat.add_zero _) rfl)
    · skip
      exact T.2.2.2.1 _ _ _ _ _ _ _ _ _ _ ts_286_291_290 dX4_meanLoad_7 dX4_meanLoad_10 dX4_meanLoad_11 dX4_meanLoad_14 dX4_meanLoad_17 (by decide) (Nat.le_of_ble_eq_true rfl) (by decide) (by decide) ((by simp only [fe_X4_meanLoad, if_pos h4_1]))
def fr_X4_hungShare (sg : Sg) : UInt32 := FP.fdiv (FP.i2f (sg 5 5)) (FP.i2f (sg 0 8))
def fe_X4_hungShare (sg : Sg) : Option String := (if (sg 0 8) = 0 then (some eAE) else none)
set_option maxHeartbeats 4000000 in
set_option maxRecDepth 20000 in
theorem k_X4_hungShare {l : Launch} {D : va_G} {K : Nat → ClassId} {g : Nat → Nat} (hl : l.stackTraces = false) (sg : Sg) (o : Ot)  (hD : DI sg) (hf : ¬ sg 0 8 = 0 → vf_n32 (FP.fdiv (FP.i2f (sg 5 5)) (FP.i2f (sg 0 8)))) : CX l yX4_hungShare cX4_hungShare 1 (some .float) 9 1 6 D K g [.ref (g 0)] sg o (fe_X4_hungShare sg) (some (.float (fr_X4_hungShare sg))) sg o :=
  mk_xf (own := RX4) (av := fun g => [.ref (g 0)]) (lo := fun g => [(0, .ref (g 0))]) (by decide) rfl (fun _ => Nat.le_of_ble_eq_true rfl) (fun _ => rfl) hl fun X C E T => by
    refine v_aload_n (j := 0) C dX4_hungShare_0 rfl rfl rfl ?_
    refine v_geti (c := 0) C flX4_48 (by decide) rfl rfl dX4_hungShare_1 rfl ?_
    refine v_if_ne (tgt := 18) C dX4_hungShare_4 (by decide) rfl (fun h4_1 => ?_) (fun h4_1 => ?_)
    · skip
      refine v_aload_n (j := 0) C dX4_hungShare_18 rfl rfl rfl ?_
      refine v_getr (c := 0) C 5 flX4_34 (by decide) rfl rfl dX4_hungShare_19 rfl ?_
      refine v_geti (c := 5) C flX4_200 (by decide) rfl rfl dX4_hungShare_22 rfl ?_
      refine v_i2f C dX4_hungShare_25 rfl ?_
      refine v_aload_n (j := 0) C dX4_hungShare_26 rfl rfl rfl ?_
      refine v_geti (c := 0) C flX4_48 (by decide) rfl rfl dX4_hungShare_27 rfl ?_
      refine v_i2f C dX4_hungShare_30 rfl ?_
      refine v_fdiv C dX4_hungShare_31 (hf (by assumption)) rfl ?_
      exact v_fret (E ((by simp only [fe_X4_hungShare, if_neg h4_1]))) dX4_hungShare_32 (by decide) (by decide) ((by simp only [fr_X4_hungShare, if_neg h4_1])) (rfl) rfl
    · skip
      exact T.2.2.2.1 _ _ _ _ _ _ _ _ _ _ ts_286_288_290 dX4_hungShare_7 dX4_hungShare_10 dX4_hungShare_11 dX4_hungShare_14 dX4_hungShare_17 (by decide) (Nat.le_of_ble_eq_true rfl) (by decide) (by decide) ((by simp only [fe_X4_hungShare, if_pos h4_1]))
theorem b2i_orn {A B : Prop} [Decidable A] [Decidable B] (h : ¬ A) : b2i (A ∨ B) = b2i B := by simp [b2i, h]
def fb_sdAt (sg : Sg) (t : Nat) : Bool := (if fl_npo sg t (ix (sg 0 7)) 0 = true then (if fl_nhb sg (ix (sg 5 5)) 0 0 = true then (if (lcm (Int32.toInt64 (fv_cbp sg 5)) (fv_cmm sg)) = 0 then (if (sg 17 7) = (sg 0 12) then true else false) else false) else false) else false)
set_option maxHeartbeats 4000000 in
set_option maxRecDepth 20000 in
theorem lp_X4_isSound {X : Cx} {rk : Nat} (hrk : 20 ≤ rk) (C : CF X cX4_isSound RX4 2 rk 0 0) (sg : Sg) (o : Ot) (hD : DI sg) (t : Nat) (h_t : t < 4) {z : Int32} (hr : z = b2i (fb_sdAt sg t = true)) (E : Ei X cX4_isSound 0 0 sg o z) : V X 0 0 2 sg o [(1, .ref (xg X (37 + t))), (0, .ref (xg X 0))] 19 [] := by
  refine v_aload_n (j := 1) C dX4_isSound_19 rfl rfl rfl ?_
  refine v_aload_n (j := 0) C dX4_isSound_20 rfl rfl rfl ?_
  refine v_callV (rest := []) (q := (RX4, TX4, 13)) C kvX4_293 (k_X4_noPointOverloaded sg o t h_t hD) (by omega) (by decide) rfl rfl rfl rfl rfl (Nat.le_of_ble_eq_true rfl) (by decide) (by decide) dX4_isSound_21 rfl ?_
  refine v_if_eqB (tgt := 69) C dX4_isSound_24 (by decide) rfl (fun h24_1 => ?_) (fun h24_1 => ?_)
  · skip
    refine v_iconst (v := 0) C dX4_isSound_69 (by decide) rfl ?_
    exact v_ret E dX4_isSound_70 (by decide) (by decide) (hr.symm ▸ b2i_f (ne_true_of_eq_false (by simp only [fb_sdAt, if_neg h24_1]))) (rfl) rfl
  · skip
    refine v_aload_n (j := 1) C dX4_isSound_27 rfl rfl rfl ?_
    refine v_callV (rest := []) (q := (RX4, TX4, 13)) C kvX4_297 (k_X4_needsHungBefore sg o hD) (by omega) (by decide) rfl rfl rfl rfl rfl (Nat.le_of_ble_eq_true rfl) (by decide) (by decide) dX4_isSound_28 rfl ?_
    refine v_if_eqB (tgt := 69) C dX4_isSound_31 (by decide) rfl (fun h31_2 => ?_) (fun h31_2 => ?_)
    · skip
      refine v_iconst (v := 0) C dX4_isSound_69 (by decide) rfl ?_
      exact v_ret E dX4_isSound_70 (by decide) (by decide) (hr.symm ▸ b2i_f (ne_true_of_eq_false (by simp only [fb_sdAt, if_pos h24_1, if_neg h31_2]))) (rfl) rfl
    · skip
      refine v_aload_n (j := 1) C dX4_isSound_34 rfl rfl rfl ?_
      refine v_aload_n (j := 1) C dX4_isSound_35 rfl rfl rfl ?_
      refine v_getr (c := 0) C 5 flX4_34 (by decide) rfl rfl dX4_isSound_36 rfl ?_
      refine v_callV (rest := []) (q := (RX4, TX4, 13)) C kvX4_262 (k_X4_costByPieces sg o 5 isR5 hD) (by omega) (by decide) rfl rfl rfl rfl rfl (Nat.le_of_ble_eq_true rfl) (by decide) (by decide) dX4_isSound_39 rfl ?_
      refine v_i2l C dX4_isSound_42 rfl ?_
      refine v_aload_n (j := 1) C dX4_isSound_43 rfl rfl rfl ?_
      refine v_callV (rest := [.long (Int32.toInt64 (fv_cbp sg 5))]) (q := (RX4, TX4, 13)) C kvX4_266 (k_X4_costMinuteByMinute sg o hD) (by omega) (by decide) rfl rfl rfl rfl rfl (Nat.le_of_ble_eq_true rfl) (by decide) (by decide) dX4_isSound_44 rfl ?_
      refine v_lcmp C dX4_isSound_47 rfl rfl ?_
      refine v_if_ne (tgt := 69) C dX4_isSound_48 (by decide) rfl (fun h48_3 => ?_) (fun h48_3 => ?_)
      · skip
        refine v_iconst (v := 0) C dX4_isSound_69 (by decide) rfl ?_
        exact v_ret E dX4_isSound_70 (by decide) (by decide) (hr.symm ▸ b2i_f (ne_true_of_eq_false (by simp only [fb_sdAt, if_pos h24_1, if_pos h31_2, if_neg h48_3]))) (rfl) rfl
      · skip
        refine v_aload_n (j := 1) C dX4_isSound_51 rfl rfl rfl ?_
        refine v_getr (c := 0) C 17 flX4_41 (by decide) rfl rfl dX4_isSound_52 rfl ?_
        refine v_geti (c := 17) C flX4_273 (by decide) rfl rfl dX4_isSound_55 rfl ?_
        refine v_aload_n (j := 1) C dX4_isSound_58 rfl rfl rfl ?_
        refine v_geti (c := 0) C flX4_61 (by decide) rfl rfl dX4_isSound_59 rfl ?_
        refine v_icmp_ne (tgt := 69) C dX4_isSound_62 (by decide) rfl (fun h62_4 => ?_) (fun h62_4 => ?_)
        · skip
          refine v_iconst (v := 0) C dX4_isSound_69 (by decide) rfl ?_
          exact v_ret E dX4_isSound_70 (by decide) (by decide) (hr.symm ▸ b2i_f (ne_true_of_eq_false (by simp only [fb_sdAt, if_pos h24_1, if_pos h31_2, if_pos h48_3, if_neg h62_4]))) (rfl) rfl
        · skip
          refine v_iconst (v := 1) C dX4_isSound_65 (by decide) rfl ?_
          refine v_goto (pc1 := 70) C dX4_isSound_66 (by decide) ?_
          exact v_ret E dX4_isSound_70 (by decide) (by decide) (hr.symm ▸ b2i_t (by simp only [fb_sdAt, if_pos h24_1, if_pos h31_2, if_pos h48_3, if_pos h62_4])) (rfl) rfl
def fs_sound (sg : Sg) : Sg := if sg 0 10 < 0 then sg else fs_X4_tryAllCompletions (fs_X4_findBest sg)
set_option maxHeartbeats 4000000 in
set_option maxRecDepth 20000 in
theorem k_X4_isSound {l : Launch} {D : va_G} {K : Nat → ClassId} {g : Nat → Nat} (sg : Sg) (o : Ot)  (hD : DI sg) : CN l yX4_isSound cX4_isSound 2 (some .boolean) 21 D K g [.ref (g 0)] sg o (some (.int (b2i (sg 0 10 < 0 ∨ fb_sdAt (fs_X4_tryAllCompletions (fs_X4_findBest sg)) (ix (sg 0 10)) = true)))) (fs_sound sg) o :=
  mk_i (own := RX4) (av := fun g => [.ref (g 0)]) (lo := fun g => [(0, .ref (g 0))]) (by decide) rfl b2i_nar (fun _ => Nat.le_of_ble_eq_true rfl) (fun _ => rfl) fun X C E => by
    refine v_aload_n (j := 0) C dX4_isSound_0 rfl rfl rfl ?_
    refine v_getp (c := 0) C flX4_54 (by decide) rfl rfl dX4_isSound_1 rfl (fun h1_1 => ?_) (fun h1_1 => ?_)
    · skip
      refine v_astore_nN C [(1, .null), (0, .ref (xg X 0))] dX4_isSound_4 rfl (by decide) rfl rfl ?_
      refine v_aload_nN (j := 0) C dX4_isSound_5 rfl rfl rfl ?_
      refine v_ifnonnullN C dX4_isSound_6 rfl ?_
      refine v_iconst (v := 1) C dX4_isSound_9 (by decide) rfl ?_
      exact v_ret E dX4_isSound_10 (by decide) (by decide) (b2i_t (by first | assumption | (simp [h1_1]; done) | grind)) ((by simp only [fs_sound, if_pos h1_1])) rfl
    · skip
      refine v_astore_n C [(1, .ref (xg X (37 + ix (sg 0 10)))), (0, .ref (xg X 0))] dX4_isSound_4 rfl (by decide) rfl rfl ?_
      refine v_aload_n (j := 0) C dX4_isSound_5 rfl rfl rfl ?_
      refine v_ifnonnull (tgt := 11) C dX4_isSound_6 (by decide) ?_
      refine v_aload_n (j := 1) C dX4_isSound_11 rfl rfl rfl ?_
      refine v_callV (rest := []) (q := (RX4, TX4, 13)) C kvX4_270 (k_X4_findBest sg o hD) (by decide) (by decide) rfl rfl rfl rfl rfl (Nat.le_of_ble_eq_true rfl) (by decide) (by decide) dX4_isSound_12 rfl ?_
      refine v_aload_n (j := 1) C dX4_isSound_15 rfl rfl rfl ?_
      refine v_callV (rest := []) (q := (RX4, TX4, 13)) C kvX4_274 (k_X4_tryAllCompletions (fs_X4_findBest sg) o (find_DI hD)) (by decide) (by decide) rfl rfl rfl rfl rfl (Nat.le_of_ble_eq_true rfl) (by decide) (by decide) dX4_isSound_16 rfl ?_
      exact lp_X4_isSound (by decide) C _ o (try_DI (find_DI hD)) _ (ix_lt (hD.tn h1_1)) (b2i_orn h1_1) (by have E1 := E; unfold fs_sound at E1; rw [if_neg h1_1] at E1; exact E1)
