def s0_ (sg : Sg) : Sg := up (up sg 41 34 0) 41 28 0
def fs_X5_searches (sg : Sg) : Sg := fT 7 (s0_ sg)
theorem ag_s0 {h : Nat} (sg : Sg) : Ag h sg (s0_ sg) := ((Ag.rf sg).upf (by decide)).upf (by decide)
theorem ung_le {sg : Sg} (hR : RI sg) : ung sg < 7 := by have := hR.1; omega
theorem ag_searches {sg : Sg} (hM : MI sg) (hR : RI sg) : Ag (ix (sg 41 24)) sg (fs_X5_searches sg) :=
  (ag_s0 sg).tr (ag_fT 7 (s0_ sg) (ag_MI hM (ag_s0 sg)) (ag_RI hR (ag_s0 sg)))
set_option maxHeartbeats 4000000 in
set_option maxRecDepth 20000 in
theorem k_X5_searches {l : Launch} {D : va_G} {K : Nat → ClassId} {g : Nat → Nat} (sg : Sg) (o : Ot)  (hM : MI sg) (hR : RI sg) : CN l yX5_searches cX5_searches 1 none 15 D K g [.ref (g 41)] sg o none (fs_X5_searches sg) o :=
  mk_v (own := RX5) (av := fun g => [.ref (g 41)]) (lo := fun g => [(0, .ref (g 41))]) (by decide) rfl (fun _ => Nat.le_of_ble_eq_true rfl) (fun _ => rfl) fun X C E => by
    refine v_aload_n (j := 0) C dX5_searches_0 rfl rfl rfl ?_
    refine v_iconst (v := 0) C dX5_searches_1 (by decide) rfl ?_
    refine v_puti (c := 41) C fpX5_87 (by decide) rfl rfl dX5_searches_2 rfl ?_
    refine v_aload_n (j := 0) C dX5_searches_5 rfl rfl rfl ?_
    refine v_iconst (v := 0) C dX5_searches_6 (by decide) rfl ?_
    refine v_puti (c := 41) C fpX5_187 (by decide) rfl rfl dX5_searches_7 rfl ?_
    refine v_aload_n (j := 0) C dX5_searches_10 rfl rfl rfl ?_
    refine v_callV (rest := []) (q := (RX5, TX5, 35)) C kvX5_209 (k_X5_tries 7 (up (up sg 41 34 0) 41 28 0) o (ag_MI hM (ag_s0 sg)) (ag_RI hR (ag_s0 sg)) (ung_le (ag_RI hR (ag_s0 sg)))) (by decide) (by decide) rfl rfl rfl rfl rfl (Nat.le_of_ble_eq_true rfl) (by decide) (by decide) dX5_searches_11 rfl ?_
    exact v_vret E dX5_searches_14 (by decide) (by decide) (rfl) rfl
def fr_X5_bestOf (sg : Sg) (p : Int32) : Int32 := (if p = 0 then ((fs_X5_searches sg) 41 29) else (if p = 1 then ((fs_X5_searches sg) 41 30) else (if p = 2 then ((fs_X5_searches sg) 41 31) else (if p = 3 then ((fs_X5_searches sg) 41 32) else ((fs_X5_searches sg) 41 28)))))
def fs_X5_bestOf (sg : Sg) (p : Int32) : Sg := (fs_X5_searches sg)
set_option maxHeartbeats 4000000 in
set_option maxRecDepth 20000 in
theorem k_X5_bestOf {l : Launch} {D : va_G} {K : Nat → ClassId} {g : Nat → Nat} (sg : Sg) (o : Ot) (p : Int32) (hM : MI sg) (hR : RI sg) : CN l yX5_bestOf cX5_bestOf 2 (some .int) 16 D K g [.ref (g 41), .int p] sg o (some (.int (fr_X5_bestOf sg p))) (fs_X5_bestOf sg p) o :=
  mk_i (own := RX5) (av := fun g => [.ref (g 41), .int p]) (lo := fun g => [(0, .ref (g 41)), (1, .int p)]) (by decide) rfl rfl (fun _ => Nat.le_of_ble_eq_true rfl) (fun _ => rfl) fun X C E => by
    refine v_aload_n (j := 0) C dX5_bestOf_0 rfl rfl rfl ?_
    refine v_callV (rest := []) (q := (RX5, TX5, 35)) C kvX5_212 (k_X5_searches sg o hM hR) (by decide) (by decide) rfl rfl rfl rfl rfl (Nat.le_of_ble_eq_true rfl) (by decide) (by decide) dX5_bestOf_1 rfl ?_
    refine v_iload_n (j := 1) C dX5_bestOf_4 rfl rfl rfl ?_
    refine v_if_ne (tgt := 15) C dX5_bestOf_5 (by decide) rfl (fun h5_1 => ?_) (fun h5_1 => ?_)
    · skip
      refine v_iload_n (j := 1) C dX5_bestOf_15 rfl rfl rfl ?_
      refine v_iconst (v := 1) C dX5_bestOf_16 (by decide) rfl ?_
      refine v_icmp_ne (tgt := 27) C dX5_bestOf_17 (by decide) rfl (fun h17_2 => ?_) (fun h17_2 => ?_)
      · skip
        refine v_iload_n (j := 1) C dX5_bestOf_27 rfl rfl rfl ?_
        refine v_iconst (v := 2) C dX5_bestOf_28 (by decide) rfl ?_
        refine v_icmp_ne (tgt := 39) C dX5_bestOf_29 (by decide) rfl (fun h29_3 => ?_) (fun h29_3 => ?_)
        · skip
          refine v_iload_n (j := 1) C dX5_bestOf_39 rfl rfl rfl ?_
          refine v_iconst (v := 3) C dX5_bestOf_40 (by decide) rfl ?_
          refine v_icmp_ne (tgt := 51) C dX5_bestOf_41 (by decide) rfl (fun h41_4 => ?_) (fun h41_4 => ?_)
          · skip
            refine v_aload_n (j := 0) C dX5_bestOf_51 rfl rfl rfl ?_
            refine v_geti (c := 41) C flX5_187 (by decide) rfl rfl dX5_bestOf_52 rfl ?_
            exact v_ret E dX5_bestOf_55 (by decide) (by decide) ((by first | contradiction | simp only [fr_X5_bestOf, if_neg h5_1, if_neg h17_2, if_neg h29_3, if_neg h41_4])) ((by first | contradiction | simp only [fs_X5_bestOf, if_neg h5_1, if_neg h17_2, if_neg h29_3, if_neg h41_4])) rfl
          · skip
            refine v_aload_n (j := 0) C dX5_bestOf_44 rfl rfl rfl ?_
            refine v_geti (c := 41) C flX5_206 (by decide) rfl rfl dX5_bestOf_45 rfl ?_
            refine v_goto (pc1 := 55) C dX5_bestOf_48 (by decide) ?_
            exact v_ret E dX5_bestOf_55 (by decide) (by decide) ((by first | contradiction | simp only [fr_X5_bestOf, if_neg h5_1, if_neg h17_2, if_neg h29_3, if_pos h41_4])) ((by first | contradiction | simp only [fs_X5_bestOf, if_neg h5_1, if_neg h17_2, if_neg h29_3, if_pos h41_4])) rfl
        · skip
          refine v_aload_n (j := 0) C dX5_bestOf_32 rfl rfl rfl ?_
          refine v_geti (c := 41) C flX5_199 (by decide) rfl rfl dX5_bestOf_33 rfl ?_
          refine v_goto (pc1 := 55) C dX5_bestOf_36 (by decide) ?_
          exact v_ret E dX5_bestOf_55 (by decide) (by decide) ((by first | contradiction | simp only [fr_X5_bestOf, if_neg h5_1, if_neg h17_2, if_pos h29_3])) ((by first | contradiction | simp only [fs_X5_bestOf, if_neg h5_1, if_neg h17_2, if_pos h29_3])) rfl
      · skip
        refine v_aload_n (j := 0) C dX5_bestOf_20 rfl rfl rfl ?_
        refine v_geti (c := 41) C flX5_196 (by decide) rfl rfl dX5_bestOf_21 rfl ?_
        refine v_goto (pc1 := 55) C dX5_bestOf_24 (by decide) ?_
        exact v_ret E dX5_bestOf_55 (by decide) (by decide) ((by simp only [fr_X5_bestOf, if_neg h5_1, if_pos h17_2])) ((by simp only [fs_X5_bestOf, if_neg h5_1, if_pos h17_2])) rfl
    · skip
      refine v_aload_n (j := 0) C dX5_bestOf_8 rfl rfl rfl ?_
      refine v_geti (c := 41) C flX5_193 (by decide) rfl rfl dX5_bestOf_9 rfl ?_
      refine v_goto (pc1 := 55) C dX5_bestOf_12 (by decide) ?_
      exact v_ret E dX5_bestOf_55 (by decide) (by decide) ((by simp only [fr_X5_bestOf, if_pos h5_1])) ((by simp only [fs_X5_bestOf, if_pos h5_1])) rfl
def fr_X5_bestWorth (sg : Sg) : Int32 := (fr_X5_bestOf sg 0)
def fs_X5_bestWorth (sg : Sg) : Sg := (fs_X5_bestOf sg 0)
set_option maxHeartbeats 4000000 in
set_option maxRecDepth 20000 in
theorem k_X5_bestWorth {l : Launch} {D : va_G} {K : Nat → ClassId} {g : Nat → Nat} (sg : Sg) (o : Ot)  (hM : MI sg) (hR : RI sg) : CN l yX5_bestWorth cX5_bestWorth 1 (some .int) 17 D K g [.ref (g 41)] sg o (some (.int (fr_X5_bestWorth sg))) (fs_X5_bestWorth sg) o :=
  mk_i (own := RX5) (av := fun g => [.ref (g 41)]) (lo := fun g => [(0, .ref (g 41))]) (by decide) rfl rfl (fun _ => Nat.le_of_ble_eq_true rfl) (fun _ => rfl) fun X C E => by
    refine v_aload_n (j := 0) C dX5_bestWorth_0 rfl rfl rfl ?_
    refine v_iconst (v := 0) C dX5_bestWorth_1 (by decide) rfl ?_
    refine v_callV (rest := []) (q := (RX5, TX5, 35)) C kvX5_215 (k_X5_bestOf sg o 0 hM hR) (by decide) (by decide) rfl rfl rfl rfl rfl (Nat.le_of_ble_eq_true rfl) (by decide) (by decide) dX5_bestWorth_2 rfl ?_
    exact v_ret E dX5_bestWorth_5 (by decide) (by decide) ((by rfl)) (rfl) rfl
def fr_X5_bestByAll (sg : Sg) : Int32 := (fr_X5_bestOf sg 0)
def fs_X5_bestByAll (sg : Sg) : Sg := (fs_X5_bestOf sg 0)
set_option maxHeartbeats 4000000 in
set_option maxRecDepth 20000 in
theorem k_X5_bestByAll {l : Launch} {D : va_G} {K : Nat → ClassId} {g : Nat → Nat} (sg : Sg) (o : Ot)  (hM : MI sg) (hR : RI sg) : CN l yX5_bestByAll cX5_bestByAll 1 (some .int) 17 D K g [.ref (g 41)] sg o (some (.int (fr_X5_bestByAll sg))) (fs_X5_bestByAll sg) o :=
  mk_i (own := RX5) (av := fun g => [.ref (g 41)]) (lo := fun g => [(0, .ref (g 41))]) (by decide) rfl rfl (fun _ => Nat.le_of_ble_eq_true rfl) (fun _ => rfl) fun X C E => by
    refine v_aload_n (j := 0) C dX5_bestByAll_0 rfl rfl rfl ?_
    refine v_iconst (v := 0) C dX5_bestByAll_1 (by decide) rfl ?_
    refine v_callV (rest := []) (q := (RX5, TX5, 35)) C kvX5_215 (k_X5_bestOf sg o 0 hM hR) (by decide) (by decide) rfl rfl rfl rfl rfl (Nat.le_of_ble_eq_true rfl) (by decide) (by decide) dX5_bestByAll_2 rfl ?_
    exact v_ret E dX5_bestByAll_5 (by decide) (by decide) ((by rfl)) (rfl) rfl
def fr_X5_bestEnd (sg : Sg) : Int32 := (fr_X5_bestOf sg 1)
def fs_X5_bestEnd (sg : Sg) : Sg := (fs_X5_bestOf sg 1)
set_option maxHeartbeats 4000000 in
set_option maxRecDepth 20000 in
theorem k_X5_bestEnd {l : Launch} {D : va_G} {K : Nat → ClassId} {g : Nat → Nat} (sg : Sg) (o : Ot)  (hM : MI sg) (hR : RI sg) : CN l yX5_bestEnd cX5_bestEnd 1 (some .int) 17 D K g [.ref (g 41)] sg o (some (.int (fr_X5_bestEnd sg))) (fs_X5_bestEnd sg) o :=
  mk_i (own := RX5) (av := fun g => [.ref (g 41)]) (lo := fun g => [(0, .ref (g 41))]) (by decide) rfl rfl (fun _ => Nat.le_of_ble_eq_true rfl) (fun _ => rfl) fun X C E => by
    refine v_aload_n (j := 0) C dX5_bestEnd_0 rfl rfl rfl ?_
    refine v_iconst (v := 1) C dX5_bestEnd_1 (by decide) rfl ?_
    refine v_callV (rest := []) (q := (RX5, TX5, 35)) C kvX5_215 (k_X5_bestOf sg o 1 hM hR) (by decide) (by decide) rfl rfl rfl rfl rfl (Nat.le_of_ble_eq_true rfl) (by decide) (by decide) dX5_bestEnd_2 rfl ?_
    exact v_ret E dX5_bestEnd_5 (by decide) (by decide) ((by rfl)) (rfl) rfl
def fr_X5_bestCost (sg : Sg) : Int32 := (fr_X5_bestOf sg 2)
def fs_X5_bestCost (sg : Sg) : Sg := (fs_X5_bestOf sg 2)
set_option maxHeartbeats 4000000 in
set_option maxRecDepth 20000 in
theorem k_X5_bestCost {l : Launch} {D : va_G} {K : Nat → ClassId} {g : Nat → Nat} (sg : Sg) (o : Ot)  (hM : MI sg) (hR : RI sg) : CN l yX5_bestCost cX5_bestCost 1 (some .int) 17 D K g [.ref (g 41)] sg o (some (.int (fr_X5_bestCost sg))) (fs_X5_bestCost sg) o :=
  mk_i (own := RX5) (av := fun g => [.ref (g 41)]) (lo := fun g => [(0, .ref (g 41))]) (by decide) rfl rfl (fun _ => Nat.le_of_ble_eq_true rfl) (fun _ => rfl) fun X C E => by
    refine v_aload_n (j := 0) C dX5_bestCost_0 rfl rfl rfl ?_
    refine v_iconst (v := 2) C dX5_bestCost_1 (by decide) rfl ?_
    refine v_callV (rest := []) (q := (RX5, TX5, 35)) C kvX5_215 (k_X5_bestOf sg o 2 hM hR) (by decide) (by decide) rfl rfl rfl rfl rfl (Nat.le_of_ble_eq_true rfl) (by decide) (by decide) dX5_bestCost_2 rfl ?_
    exact v_ret E dX5_bestCost_5 (by decide) (by decide) ((by rfl)) (rfl) rfl
def fr_X5_bestSize (sg : Sg) : Int32 := (fr_X5_bestOf sg 3)
def fs_X5_bestSize (sg : Sg) : Sg := (fs_X5_bestOf sg 3)
set_option maxHeartbeats 4000000 in
set_option maxRecDepth 20000 in
theorem k_X5_bestSize {l : Launch} {D : va_G} {K : Nat → ClassId} {g : Nat → Nat} (sg : Sg) (o : Ot)  (hM : MI sg) (hR : RI sg) : CN l yX5_bestSize cX5_bestSize 1 (some .int) 17 D K g [.ref (g 41)] sg o (some (.int (fr_X5_bestSize sg))) (fs_X5_bestSize sg) o :=
  mk_i (own := RX5) (av := fun g => [.ref (g 41)]) (lo := fun g => [(0, .ref (g 41))]) (by decide) rfl rfl (fun _ => Nat.le_of_ble_eq_true rfl) (fun _ => rfl) fun X C E => by
    refine v_aload_n (j := 0) C dX5_bestSize_0 rfl rfl rfl ?_
    refine v_iconst (v := 3) C dX5_bestSize_1 (by decide) rfl ?_
    refine v_callV (rest := []) (q := (RX5, TX5, 35)) C kvX5_215 (k_X5_bestOf sg o 3 hM hR) (by decide) (by decide) rfl rfl rfl rfl rfl (Nat.le_of_ble_eq_true rfl) (by decide) (by decide) dX5_bestSize_2 rfl ?_
    exact v_ret E dX5_bestSize_5 (by decide) (by decide) ((by rfl)) (rfl) rfl
def fr_X5_completions (sg : Sg) : Int32 := (fr_X5_bestOf sg 4)
def fs_X5_completions (sg : Sg) : Sg := (fs_X5_bestOf sg 4)
set_option maxHeartbeats 4000000 in
set_option maxRecDepth 20000 in
theorem k_X5_completions {l : Launch} {D : va_G} {K : Nat → ClassId} {g : Nat → Nat} (sg : Sg) (o : Ot)  (hM : MI sg) (hR : RI sg) : CN l yX5_completions cX5_completions 1 (some .int) 17 D K g [.ref (g 41)] sg o (some (.int (fr_X5_completions sg))) (fs_X5_completions sg) o :=
  mk_i (own := RX5) (av := fun g => [.ref (g 41)]) (lo := fun g => [(0, .ref (g 41))]) (by decide) rfl rfl (fun _ => Nat.le_of_ble_eq_true rfl) (fun _ => rfl) fun X C E => by
    refine v_aload_n (j := 0) C dX5_completions_0 rfl rfl rfl ?_
    refine v_iconst (v := 4) C dX5_completions_1 (by decide) rfl ?_
    refine v_callV (rest := []) (q := (RX5, TX5, 35)) C kvX5_215 (k_X5_bestOf sg o 4 hM hR) (by decide) (by decide) rfl rfl rfl rfl rfl (Nat.le_of_ble_eq_true rfl) (by decide) (by decide) dX5_completions_2 rfl ?_
    exact v_ret E dX5_completions_5 (by decide) (by decide) ((by rfl)) (rfl) rfl
def fr_X5_bestAt (sg : Sg) (p : Int32) : Int32 := (if ¬ p < 0 ∧ ¬ (((fs_X5_searches sg) 41 32) - 1) < p then ((fs_X5_searches sg) 65 (ix p)) else 0)
def fs_X5_bestAt (sg : Sg) (p : Int32) : Sg := (if ¬ p < 0 ∧ ¬ (((fs_X5_searches sg) 41 32) - 1) < p then (up (fs_X5_searches sg) 41 34 0) else (up (fs_X5_searches sg) 41 34 1))
set_option maxHeartbeats 4000000 in
set_option maxRecDepth 20000 in
theorem k_X5_bestAt {l : Launch} {D : va_G} {K : Nat → ClassId} {g : Nat → Nat} (sg : Sg) (o : Ot) (p : Int32) (hM : MI sg) (hR : RI sg) (hb : cnt (fs_X5_searches sg 41 32) 6) : CN l yX5_bestAt cX5_bestAt 2 (some .int) 17 D K g [.ref (g 41), .int p] sg o (some (.int (fr_X5_bestAt sg p))) (fs_X5_bestAt sg p) o :=
  mk_i (own := RX5) (av := fun g => [.ref (g 41), .int p]) (lo := fun g => [(0, .ref (g 41)), (1, .int p)]) (by decide) rfl rfl (fun _ => Nat.le_of_ble_eq_true rfl) (fun _ => rfl) fun X C E => by
    refine v_aload_n (j := 0) C dX5_bestAt_0 rfl rfl rfl ?_
    refine v_callV (rest := []) (q := (RX5, TX5, 35)) C kvX5_212 (k_X5_searches sg o hM hR) (by decide) (by decide) rfl rfl rfl rfl rfl (Nat.le_of_ble_eq_true rfl) (by decide) (by decide) dX5_bestAt_1 rfl ?_
    refine v_aload_n (j := 0) C dX5_bestAt_4 rfl rfl rfl ?_
    refine v_iload_n (j := 1) C dX5_bestAt_5 rfl rfl rfl ?_
    refine v_iconst (v := 0) C dX5_bestAt_6 (by decide) rfl ?_
    refine v_aload_n (j := 0) C dX5_bestAt_7 rfl rfl rfl ?_
    refine v_geti (c := 41) C flX5_206 (by decide) rfl rfl dX5_bestAt_8 rfl ?_
    refine v_iconst (v := 1) C dX5_bestAt_11 (by decide) rfl ?_
    refine v_isub C dX5_bestAt_12 rfl ?_
    refine v_callS (rest := [.ref (xg X 41)]) C ksX5_93 (k_X5_in (fs_X5_searches sg) o p 0 (((fs_X5_searches sg) 41 32) - 1)) (by decide) rfl rfl (Nat.le_of_ble_eq_true rfl) (by decide) (by decide) dX5_bestAt_13 rfl ?_
    refine v_if_eqB (tgt := 23) C dX5_bestAt_16 (by decide) rfl (fun h16_1 => ?_) (fun h16_1 => ?_)
    · skip
      refine v_iconst (v := 1) C dX5_bestAt_23 (by decide) rfl ?_
      refine v_callV (rest := []) (q := (RX5, TX5, 35)) C kvX5_103 (k_X5_fails (fs_X5_searches sg) o 1) (by decide) (by decide) rfl rfl rfl rfl rfl (Nat.le_of_ble_eq_true rfl) (by decide) (by decide) dX5_bestAt_24 rfl ?_
      refine v_if_eqB (tgt := 34) C dX5_bestAt_27 (by decide) rfl (fun h => absurd (by decide) h) (fun _ => ?_)
      refine v_iconst (v := 0) C dX5_bestAt_30 (by decide) rfl ?_
      refine v_goto (pc1 := 40) C dX5_bestAt_31 (by decide) ?_
      exact v_ret E dX5_bestAt_40 (by decide) (by decide) ((by simp only [fr_X5_bestAt, if_neg h16_1])) ((by simp only [fs_X5_bestAt, if_neg h16_1])) rfl
    · skip
      refine v_iconst (v := 0) C dX5_bestAt_19 (by decide) rfl ?_
      refine v_goto (pc1 := 24) C dX5_bestAt_20 (by decide) ?_
      refine v_callV (rest := []) (q := (RX5, TX5, 35)) C kvX5_103 (k_X5_fails (fs_X5_searches sg) o 0) (by decide) (by decide) rfl rfl rfl rfl rfl (Nat.le_of_ble_eq_true rfl) (by decide) (by decide) dX5_bestAt_24 rfl ?_
      refine v_if_eqB (tgt := 34) C dX5_bestAt_27 (by decide) rfl (fun _ => ?_) (fun h => absurd h (by decide))
      refine v_aload_n (j := 0) C dX5_bestAt_34 rfl rfl rfl ?_
      refine v_getr (c := 41) C 65 flX5_84 (by decide) rfl rfl dX5_bestAt_35 rfl ?_
      refine v_iload_n (j := 1) C dX5_bestAt_38 rfl rfl rfl ?_
      refine v_iald (c := 65) C (hb.inr (by assumption)) (by decide) rfl dX5_bestAt_39 rfl ?_
      refine v_rwi (y := (fs_X5_searches sg) 65 (ix p)) ((up_ne _ _ (Or.inl (by decide))).trans rfl) ?_
      exact v_ret E dX5_bestAt_40 (by decide) (by decide) ((by simp only [fr_X5_bestAt, if_pos h16_1])) ((by simp only [fs_X5_bestAt, if_pos h16_1])) rfl
def fr_X5_told (sg : Sg) : Int64 := Int32.toInt64 (fl_X5_costs (up sg 41 34 0) (ix ((up sg 41 34 0) 41 24)) 0 0)
def fs_X5_told (sg : Sg) : Sg := (up sg 41 34 0)
set_option maxHeartbeats 4000000 in
set_option maxRecDepth 20000 in
theorem k_X5_told {l : Launch} {D : va_G} {K : Nat → ClassId} {g : Nat → Nat} (sg : Sg) (o : Ot)  (hM : MI sg) (hR : RI sg) : CN l yX5_told cX5_told 1 (some .long) 2 D K g [.ref (g 41)] sg o (some (.long (fr_X5_told sg))) (fs_X5_told sg) o :=
  mk_l (own := RX5) (av := fun g => [.ref (g 41)]) (lo := fun g => [(0, .ref (g 41))]) (by decide) rfl (fun _ => Nat.le_of_ble_eq_true rfl) (fun _ => rfl) fun X C E => by
    refine v_aload_n (j := 0) C dX5_told_0 rfl rfl rfl ?_
    refine v_iconst (v := 0) C dX5_told_1 (by decide) rfl ?_
    refine v_puti (c := 41) C fpX5_87 (by decide) rfl rfl dX5_told_2 rfl ?_
    refine v_aload_n (j := 0) C dX5_told_5 rfl rfl rfl ?_
    refine v_callV (rest := []) (q := (RX5, TX5, 35)) C kvX5_180 (k_X5_costs (up sg 41 34 0) o hM hR.tn) (by decide) (by decide) rfl rfl rfl rfl rfl (Nat.le_of_ble_eq_true rfl) (by decide) (by decide) dX5_told_6 rfl ?_
    refine v_i2l C dX5_told_9 rfl ?_
    exact v_lret E dX5_told_10 (by decide) (by decide) ((by rfl)) (rfl) rfl
def fr_X5_cost (sg : Sg) : Int64 := fr_X5_told sg
def fs_X5_cost (sg : Sg) : Sg := (fs_X5_told sg)
set_option maxHeartbeats 4000000 in
set_option maxRecDepth 20000 in
theorem k_X5_cost {l : Launch} {D : va_G} {K : Nat → ClassId} {g : Nat → Nat} (sg : Sg) (o : Ot)  (hM : MI sg) (hR : RI sg) : CN l yX5_cost cX5_cost 1 (some .long) 3 D K g [.ref (g 41)] sg o (some (.long (fr_X5_cost sg))) (fs_X5_cost sg) o :=
  mk_l (own := RX5) (av := fun g => [.ref (g 41)]) (lo := fun g => [(0, .ref (g 41))]) (by decide) rfl (fun _ => Nat.le_of_ble_eq_true rfl) (fun _ => rfl) fun X C E => by
    refine v_aload_n (j := 0) C dX5_cost_0 rfl rfl rfl ?_
    refine v_callV (rest := []) (q := (RX5, TX5, 35)) C kvX5_183 (k_X5_told sg o hM hR) (by decide) (by decide) rfl rfl rfl rfl rfl (Nat.le_of_ble_eq_true rfl) (by decide) (by decide) dX5_cost_1 rfl ?_
    exact v_lret E dX5_cost_4 (by decide) (by decide) ((by rfl)) (rfl) rfl
def fr_X5_costByMinutes (sg : Sg) : Int64 := fr_X5_told sg
def fs_X5_costByMinutes (sg : Sg) : Sg := (fs_X5_told sg)
set_option maxHeartbeats 4000000 in
set_option maxRecDepth 20000 in
theorem k_X5_costByMinutes {l : Launch} {D : va_G} {K : Nat → ClassId} {g : Nat → Nat} (sg : Sg) (o : Ot)  (hM : MI sg) (hR : RI sg) : CN l yX5_costByMinutes cX5_costByMinutes 1 (some .long) 3 D K g [.ref (g 41)] sg o (some (.long (fr_X5_costByMinutes sg))) (fs_X5_costByMinutes sg) o :=
  mk_l (own := RX5) (av := fun g => [.ref (g 41)]) (lo := fun g => [(0, .ref (g 41))]) (by decide) rfl (fun _ => Nat.le_of_ble_eq_true rfl) (fun _ => rfl) fun X C E => by
    refine v_aload_n (j := 0) C dX5_costByMinutes_0 rfl rfl rfl ?_
    refine v_callV (rest := []) (q := (RX5, TX5, 35)) C kvX5_183 (k_X5_told sg o hM hR) (by decide) (by decide) rfl rfl rfl rfl rfl (Nat.le_of_ble_eq_true rfl) (by decide) (by decide) dX5_costByMinutes_1 rfl ?_
    exact v_lret E dX5_costByMinutes_4 (by decide) (by decide) ((by rfl)) (rfl) rfl
def fr_X5_hang (sg : Sg) (p : Int32) : Int32 := (if ¬ (¬ p < 0 ∧ ¬ sg 41 3 - 1 < p) then 0 else (if (fr_X5_why sg p) = 45 then (fr_X5_lastEnd (fs_X5_hangs (up sg 41 34 0) p)) else 0))
def fs_X5_hang (sg : Sg) (p : Int32) : Sg := (if ¬ (¬ p < 0 ∧ ¬ sg 41 3 - 1 < p) then (up sg 41 34 1) else (if (fr_X5_why sg p) = 45 then (fs_X5_hangs (up sg 41 34 0) p) else (up sg 41 34 2)))
set_option maxHeartbeats 4000000 in
set_option maxRecDepth 20000 in
theorem k_X5_hang {l : Launch} {D : va_G} {K : Nat → ClassId} {g : Nat → Nat} (sg : Sg) (o : Ot) (p : Int32) (hM : MI sg) (hR : RI sg) : CN l yX5_hang cX5_hang 2 (some .int) 7 D K g [.ref (g 41), .int p] sg o (some (.int (fr_X5_hang sg p))) (fs_X5_hang sg p) o :=
  mk_i (own := RX5) (av := fun g => [.ref (g 41), .int p]) (lo := fun g => [(0, .ref (g 41)), (1, .int p)]) (by decide) rfl rfl (fun _ => Nat.le_of_ble_eq_true rfl) (fun _ => rfl) fun X C E => by
    refine v_aload_n (j := 0) C dX5_hang_0 rfl rfl rfl ?_
    refine v_aload_n (j := 0) C dX5_hang_1 rfl rfl rfl ?_
    refine v_iload_n (j := 1) C dX5_hang_2 rfl rfl rfl ?_
    refine v_callV (rest := [.ref (xg X 41)]) (q := (RX5, TX5, 35)) C kvX5_107 (k_X5_isNoPiece sg o p) (by decide) (by decide) rfl rfl rfl rfl rfl (Nat.le_of_ble_eq_true rfl) (by decide) (by decide) dX5_hang_3 rfl ?_
    refine v_if_eqB (tgt := 13) C dX5_hang_6 (by decide) rfl (fun h6_1 => ?_) (fun h6_1 => ?_)
    · skip
      refine v_aload_n (j := 0) C dX5_hang_13 rfl rfl rfl ?_
      refine v_iload_n (j := 1) C dX5_hang_14 rfl rfl rfl ?_
      refine v_callV (rest := [.ref (xg X 41)]) (q := (RX5, TX5, 35)) C kvX5_169 (k_X5_why sg o p hM (hM.nc.inn (by assumption))) (by decide) (by decide) rfl rfl rfl rfl rfl (Nat.le_of_ble_eq_true rfl) (by decide) (by decide) dX5_hang_15 rfl ?_
      refine v_bipush (v := 45) C dX5_hang_18 (by decide) rfl ?_
      refine v_icmp_eq (tgt := 27) C dX5_hang_20 (by decide) rfl (fun h20_2 => ?_) (fun h20_2 => ?_)
      · skip
        have hw := why45 h20_2
        refine v_iconst (v := 0) C dX5_hang_27 (by decide) rfl ?_
        refine v_callV (rest := []) (q := (RX5, TX5, 35)) C kvX5_103 (k_X5_fails sg o 0) (by decide) (by decide) rfl rfl rfl rfl rfl (Nat.le_of_ble_eq_true rfl) (by decide) (by decide) dX5_hang_28 rfl ?_
        refine v_if_eqB (tgt := 36) C dX5_hang_31 (by decide) rfl (fun _ => ?_) (fun h => absurd h (by decide))
        refine v_aload_n (j := 0) C dX5_hang_36 rfl rfl rfl ?_
        refine v_iload_n (j := 1) C dX5_hang_37 rfl rfl rfl ?_
        refine v_callV (rest := []) (q := (RX5, TX5, 35)) C kvX5_173 (k_X5_hangs (up sg 41 34 0) o p hM (hM.nc.inn (by assumption)) hw.1 (hR.room hM (hM.nc.inn (by assumption)) hw.2.1)) (by decide) (by decide) rfl rfl rfl rfl rfl (Nat.le_of_ble_eq_true rfl) (by decide) (by decide) dX5_hang_38 rfl ?_
        refine v_aload_n (j := 0) C dX5_hang_41 rfl rfl rfl ?_
        refine v_callV (rest := []) (q := (RX5, TX5, 35)) C kvX5_150 (k_X5_lastEnd (fs_X5_hangs (up sg 41 34 0) p) o (by rw [hangs_eq]; exact hput_MI (sg := up sg 41 34 0) hM (hM.nc.inn (by assumption)) (hR.room hM (hM.nc.inn (by assumption)) hw.2.1))) (by decide) (by decide) rfl rfl rfl rfl rfl (Nat.le_of_ble_eq_true rfl) (by decide) (by decide) dX5_hang_42 rfl ?_
        exact v_ret E dX5_hang_45 (by decide) (by decide) ((by simp only [fr_X5_hang, if_neg h6_1, if_pos h20_2])) ((by simp only [fs_X5_hang, if_neg h6_1, if_pos h20_2])) rfl
      · skip
        skip
        refine v_iconst (v := 2) C dX5_hang_23 (by decide) rfl ?_
        refine v_goto (pc1 := 28) C dX5_hang_24 (by decide) ?_
        refine v_callV (rest := []) (q := (RX5, TX5, 35)) C kvX5_103 (k_X5_fails sg o 2) (by decide) (by decide) rfl rfl rfl rfl rfl (Nat.le_of_ble_eq_true rfl) (by decide) (by decide) dX5_hang_28 rfl ?_
        refine v_if_eqB (tgt := 36) C dX5_hang_31 (by decide) rfl (fun h => absurd (by decide) h) (fun _ => ?_)
        refine v_iconst (v := 0) C dX5_hang_34 (by decide) rfl ?_
        exact v_ret E dX5_hang_35 (by decide) (by decide) ((by simp only [fr_X5_hang, if_neg h6_1, if_neg h20_2])) ((by simp only [fs_X5_hang, if_neg h6_1, if_neg h20_2])) rfl
    · skip
      refine v_iconst (v := 1) C dX5_hang_9 (by decide) rfl ?_
      refine v_goto (pc1 := 28) C dX5_hang_10 (by decide) ?_
      refine v_callV (rest := []) (q := (RX5, TX5, 35)) C kvX5_103 (k_X5_fails sg o 1) (by decide) (by decide) rfl rfl rfl rfl rfl (Nat.le_of_ble_eq_true rfl) (by decide) (by decide) dX5_hang_28 rfl ?_
      refine v_if_eqB (tgt := 36) C dX5_hang_31 (by decide) rfl (fun h => absurd (by decide) h) (fun _ => ?_)
      refine v_iconst (v := 0) C dX5_hang_34 (by decide) rfl ?_
      exact v_ret E dX5_hang_35 (by decide) (by decide) ((by simp only [fr_X5_hang, if_pos h6_1])) ((by simp only [fs_X5_hang, if_pos h6_1])) rfl
def fl_X5_tightest (sg : Sg) : Nat → Nat → Int32 → Int32
  | 0, _, z => z
  | n + 1, k, z => if (fr_X5_may sg (nI k)) - (fl_X5_borne sg (nI k) (ix (sg 41 24)) 0 0) < (fr_X5_may sg z) - (fl_X5_borne sg z (ix (sg 41 24)) 0 0) then fl_X5_tightest sg n (k + 1) (nI k) else fl_X5_tightest sg n (k + 1) z
set_option maxHeartbeats 4000000 in
set_option maxRecDepth 20000 in
theorem lp_X5_tightest {X : Cx} {rk : Nat} (hrk : 4 ≤ rk) (C : CF X cX5_tightest RX5 3 rk 0 0) (sg : Sg) (o : Ot) (hM : MI sg) (ht : ¬ sg 41 23 < 0) (N : Nat) (h6 : N ≤ 8) (hN : sg 41 0 = nI N) {r : Int32} (E : Ei X cX5_tightest 0 0 sg o r) : ∀ (n k : Nat) (z : Int32), n + k = N → vp_in z 8 → r = fl_X5_tightest sg n k z → V X 0 0 3 sg o [(2, .int (nI k)), (1, .int z), (0, .ref (xg X 41))] 36 [] := by
  refine loop_ind fun n ih => ?_
  intro k z hnk hz hr
  refine v_iload_n (j := 0) C dX5_tightest_36 rfl rfl rfl ?_
  refine v_aload_n (j := 2) C dX5_tightest_37 rfl rfl rfl ?_
  refine v_geti (c := 41) C flX5_90 (by decide) rfl rfl dX5_tightest_38 rfl ?_
  refine v_icmp_ge (tgt := 77) C dX5_tightest_41 (by decide) rfl (fun h41_1 => ?_) (fun h41_1 => ?_)
  · skip
    rw [hN, nI_lt_iff (by omega) (by omega)] at h41_1; obtain rfl : n = 0 := by omega
    refine v_iload_n (j := 1) C dX5_tightest_77 rfl rfl rfl ?_
    exact v_ret E dX5_tightest_78 (by decide) (by decide) (by rw [hr]; simp only [fl_X5_tightest]) (rfl) rfl
  · skip
    rw [hN, nI_lt_iff (by omega) (by omega)] at h41_1; obtain ⟨m, rfl⟩ : ∃ m, n = m + 1 := ⟨n - 1, by omega⟩
    refine v_aload_n (j := 2) C dX5_tightest_44 rfl rfl rfl ?_
    refine v_iload_n (j := 0) C dX5_tightest_45 rfl rfl rfl ?_
    refine v_callV (rest := []) (q := (RX5, TX5, 35)) C kvX5_141 (k_X5_may sg o (nI k) hM (in_nI (by omega) (by decide)) ht) (by omega) (by decide) rfl rfl rfl rfl rfl (Nat.le_of_ble_eq_true rfl) (by decide) (by decide) dX5_tightest_46 rfl ?_
    refine v_aload_n (j := 2) C dX5_tightest_49 rfl rfl rfl ?_
    refine v_iload_n (j := 0) C dX5_tightest_50 rfl rfl rfl ?_
    refine v_callV (rest := [.int (fr_X5_may sg (nI k))]) (q := (RX5, TX5, 35)) C kvX5_144 (k_X5_borne sg o (nI k) hM) (by omega) (by decide) rfl rfl rfl rfl rfl (Nat.le_of_ble_eq_true rfl) (by decide) (by decide) dX5_tightest_51 rfl ?_
    refine v_isub C dX5_tightest_54 rfl ?_
    refine v_aload_n (j := 2) C dX5_tightest_55 rfl rfl rfl ?_
    refine v_iload_n (j := 1) C dX5_tightest_56 rfl rfl rfl ?_
    refine v_callV (rest := [.int ((fr_X5_may sg (nI k)) - (fl_X5_borne sg (nI k) (ix (sg 41 24)) 0 0))]) (q := (RX5, TX5, 35)) C kvX5_141 (k_X5_may sg o z hM hz ht) (by omega) (by decide) rfl rfl rfl rfl rfl (Nat.le_of_ble_eq_true rfl) (by decide) (by decide) dX5_tightest_57 rfl ?_
    refine v_aload_n (j := 2) C dX5_tightest_60 rfl rfl rfl ?_
    refine v_iload_n (j := 1) C dX5_tightest_61 rfl rfl rfl ?_
    refine v_callV (rest := [.int (fr_X5_may sg z), .int ((fr_X5_may sg (nI k)) - (fl_X5_borne sg (nI k) (ix (sg 41 24)) 0 0))]) (q := (RX5, TX5, 35)) C kvX5_144 (k_X5_borne sg o z hM) (by omega) (by decide) rfl rfl rfl rfl rfl (Nat.le_of_ble_eq_true rfl) (by decide) (by decide) dX5_tightest_62 rfl ?_
    refine v_isub C dX5_tightest_65 rfl ?_
    refine v_icmp_ge (tgt := 71) C dX5_tightest_66 (by decide) rfl (fun h66_2 => ?_) (fun h66_2 => ?_)
    · skip
      refine v_iinc (j := 0) (v := (nI (k + 1))) C [(2, .int (nI (k + 1))), (1, .int z), (0, .ref (xg X 41))] dX5_tightest_71 rfl (nI_add1 _) (by decide) rfl rfl ?_
      refine v_goto (pc1 := 36) C dX5_tightest_74 (by decide) ?_
      exact ih m (by omega) (k + 1) z (by omega) hz (by rw [hr]; simp only [fl_X5_tightest, if_neg h66_2])
    · skip
      refine v_iload_n (j := 0) C dX5_tightest_69 rfl rfl rfl ?_
      refine v_istore_n C [(1, .int (nI k)), (2, .int (nI k)), (0, .ref (xg X 41))] dX5_tightest_70 rfl (by decide) rfl rfl ?_
      refine v_iinc (j := 1) (v := (nI (k + 1))) C [(2, .int (nI (k + 1))), (1, .int (nI k)), (0, .ref (xg X 41))] dX5_tightest_71 rfl (nI_add1 _) (by decide) rfl rfl ?_
      refine v_goto (pc1 := 36) C dX5_tightest_74 (by decide) ?_
      exact ih m (by omega) (k + 1) (nI k) (by omega) (in_nI (by omega) (by decide)) (by rw [hr]; simp only [fl_X5_tightest, if_pos h66_2])
def fr_X5_tightest (sg : Sg) : Int32 := (if (sg 41 23) < 0 then 0 else (if (sg 41 0) = 0 then 0 else (fl_X5_tightest (up sg 41 34 0) (ix (sg 41 0) - 1) 1 0)))
def fs_X5_tightest (sg : Sg) : Sg := (if (sg 41 23) < 0 then (up sg 41 34 1) else (if (sg 41 0) = 0 then (up sg 41 34 2) else (up sg 41 34 0)))
set_option maxHeartbeats 4000000 in
set_option maxRecDepth 20000 in
theorem k_X5_tightest {l : Launch} {D : va_G} {K : Nat → ClassId} {g : Nat → Nat} (sg : Sg) (o : Ot)  (hM : MI sg) : CN l yX5_tightest cX5_tightest 3 (some .int) 4 D K g [.ref (g 41)] sg o (some (.int (fr_X5_tightest sg))) (fs_X5_tightest sg) o :=
  mk_i (own := RX5) (av := fun g => [.ref (g 41)]) (lo := fun g => [(0, .ref (g 41))]) (by decide) rfl rfl (fun _ => Nat.le_of_ble_eq_true rfl) (fun _ => rfl) fun X C E => by
    refine v_aload_n (j := 0) C dX5_tightest_0 rfl rfl rfl ?_
    refine v_aload_n (j := 0) C dX5_tightest_1 rfl rfl rfl ?_
    refine v_geti (c := 41) C flX5_71 (by decide) rfl rfl dX5_tightest_2 rfl ?_
    refine v_if_ge (tgt := 12) C dX5_tightest_5 (by decide) rfl (fun h5_1 => ?_) (fun h5_1 => ?_)
    · skip
      refine v_aload_n (j := 0) C dX5_tightest_12 rfl rfl rfl ?_
      refine v_geti (c := 41) C flX5_90 (by decide) rfl rfl dX5_tightest_13 rfl ?_
      refine v_if_ne (tgt := 23) C dX5_tightest_16 (by decide) rfl (fun h16_2 => ?_) (fun h16_2 => ?_)
      · skip
        refine v_iconst (v := 0) C dX5_tightest_23 (by decide) rfl ?_
        refine v_callV (rest := []) (q := (RX5, TX5, 35)) C kvX5_103 (k_X5_fails sg o 0) (by decide) (by decide) rfl rfl rfl rfl rfl (Nat.le_of_ble_eq_true rfl) (by decide) (by decide) dX5_tightest_24 rfl ?_
        refine v_if_eqB (tgt := 32) C dX5_tightest_27 (by decide) rfl (fun _ => ?_) (fun h => absurd h (by decide))
        refine v_iconst (v := 0) C dX5_tightest_32 (by decide) rfl ?_
        refine v_istore_n C [(1, .int 0), (0, .ref (xg X 41))] dX5_tightest_33 rfl (by decide) rfl rfl ?_
        refine v_iconst (v := 1) C dX5_tightest_34 (by decide) rfl ?_
        refine v_istore_n C [(2, .int 1), (1, .int 0), (0, .ref (xg X 41))] dX5_tightest_35 rfl (by decide) rfl rfl ?_
        have E1 : Ei X cX5_tightest 0 0 (up sg 41 34 0) o (fl_X5_tightest (up sg 41 34 0) (ix (sg 41 0) - 1) 1 0) := by have h := E; simp only [fr_X5_tightest, fs_X5_tightest, if_neg h5_1, if_neg h16_2] at h; exact h
        exact v_eq (lo1 := [(2, .int (nI 1)), (1, .int 0), (0, .ref (xg X 41))]) rfl rfl rfl (lp_X5_tightest (by decide) C (up sg 41 34 0) o hM (by assumption) (ix (sg 41 0)) hM.np.ixl hM.np.ixe E1 (ix (sg 41 0) - 1) 1 0 (by have := cnt_pos hM.np (by assumption); omega) (in_nI (k := 0) (by decide) (by decide)) rfl)
      · skip
        refine v_iconst (v := 2) C dX5_tightest_19 (by decide) rfl ?_
        refine v_goto (pc1 := 24) C dX5_tightest_20 (by decide) ?_
        refine v_callV (rest := []) (q := (RX5, TX5, 35)) C kvX5_103 (k_X5_fails sg o 2) (by decide) (by decide) rfl rfl rfl rfl rfl (Nat.le_of_ble_eq_true rfl) (by decide) (by decide) dX5_tightest_24 rfl ?_
        refine v_if_eqB (tgt := 32) C dX5_tightest_27 (by decide) rfl (fun h => absurd (by decide) h) (fun _ => ?_)
        refine v_iconst (v := 0) C dX5_tightest_30 (by decide) rfl ?_
        exact v_ret E dX5_tightest_31 (by decide) (by decide) ((by simp only [fr_X5_tightest, if_neg h5_1, if_pos h16_2])) ((by simp only [fs_X5_tightest, if_neg h5_1, if_pos h16_2])) rfl
    · skip
      refine v_iconst (v := 1) C dX5_tightest_8 (by decide) rfl ?_
      refine v_goto (pc1 := 24) C dX5_tightest_9 (by decide) ?_
      refine v_callV (rest := []) (q := (RX5, TX5, 35)) C kvX5_103 (k_X5_fails sg o 1) (by decide) (by decide) rfl rfl rfl rfl rfl (Nat.le_of_ble_eq_true rfl) (by decide) (by decide) dX5_tightest_24 rfl ?_
      refine v_if_eqB (tgt := 32) C dX5_tightest_27 (by decide) rfl (fun h => absurd (by decide) h) (fun _ => ?_)
      refine v_iconst (v := 0) C dX5_tightest_30 (by decide) rfl ?_
      exact v_ret E dX5_tightest_31 (by decide) (by decide) ((by simp only [fr_X5_tightest, if_pos h5_1])) ((by simp only [fs_X5_tightest, if_pos h5_1])) rfl
def fl_X5_sum (sg : Sg) : Nat → Nat → Int32 → Int32
  | 0, _, s => s
  | n + 1, k, s => fl_X5_sum sg n (k + 1) (s + fl_X5_borne sg (nI k) (ix (sg 41 24)) 0 0)
set_option maxHeartbeats 4000000 in
set_option maxRecDepth 20000 in
theorem lp_X5_meanLoad {X : Cx} {rk : Nat} (hrk : 4 ≤ rk) (C : CF X cX5_meanLoad RX5 3 rk 0 0) (sg : Sg) (o : Ot) (hM : MI sg) (N : Nat) (h6 : N ≤ 8) (hN : sg 41 0 = nI N) {z : Int32} (hf : vf_n64 (FP.ddiv (FP.i2d z) (FP.i2d (sg 41 0)))) (E : Ed X cX5_meanLoad 0 0 sg o (FP.ddiv (FP.i2d z) (FP.i2d (sg 41 0)))) : ∀ (n k : Nat) (s : Int32), n + k = N → z = fl_X5_sum sg n k s → V X 0 0 3 sg o [(2, .int (nI k)), (1, .int s), (0, .ref (xg X 41))] 25 [] := by
  refine loop_ind fun n ih => ?_
  intro k s hnk hr
  refine v_iload_n (j := 0) C dX5_meanLoad_25 rfl rfl rfl ?_
  refine v_aload_n (j := 2) C dX5_meanLoad_26 rfl rfl rfl ?_
  refine v_geti (c := 41) C flX5_90 (by decide) rfl rfl dX5_meanLoad_27 rfl ?_
  refine v_icmp_ge (tgt := 47) C dX5_meanLoad_30 (by decide) rfl (fun h30_1 => ?_) (fun h30_1 => ?_)
  · skip
    rw [hN, nI_lt_iff (by omega) (by omega)] at h30_1; obtain rfl : n = 0 := by omega
    refine v_iload_n (j := 1) C dX5_meanLoad_47 rfl rfl rfl ?_
    refine v_i2d C dX5_meanLoad_48 rfl ?_
    refine v_aload_n (j := 2) C dX5_meanLoad_49 rfl rfl rfl ?_
    refine v_geti (c := 41) C flX5_90 (by decide) rfl rfl dX5_meanLoad_50 rfl ?_
    refine v_i2d C dX5_meanLoad_53 rfl ?_
    refine v_ddiv C dX5_meanLoad_54 (by simp only [fl_X5_sum] at hr; rw [← hr]; exact hf) rfl ?_
    exact v_dret E dX5_meanLoad_55 (by decide) (by decide) (by rw [hr]; rfl) (rfl) rfl
  · skip
    rw [hN, nI_lt_iff (by omega) (by omega)] at h30_1; obtain ⟨m, rfl⟩ : ∃ m, n = m + 1 := ⟨n - 1, by omega⟩
    refine v_iload_n (j := 1) C dX5_meanLoad_33 rfl rfl rfl ?_
    refine v_aload_n (j := 2) C dX5_meanLoad_34 rfl rfl rfl ?_
    refine v_iload_n (j := 0) C dX5_meanLoad_35 rfl rfl rfl ?_
    refine v_callV (rest := [.int s]) (q := (RX5, TX5, 35)) C kvX5_144 (k_X5_borne sg o (nI k) hM) (by omega) (by decide) rfl rfl rfl rfl rfl (Nat.le_of_ble_eq_true rfl) (by decide) (by decide) dX5_meanLoad_36 rfl ?_
    refine v_iadd C dX5_meanLoad_39 rfl ?_
    refine v_istore_n C [(1, .int (s + (fl_X5_borne sg (nI k) (ix (sg 41 24)) 0 0))), (2, .int (nI k)), (0, .ref (xg X 41))] dX5_meanLoad_40 rfl (by decide) rfl rfl ?_
    refine v_iinc (j := 1) (v := (nI (k + 1))) C [(2, .int (nI (k + 1))), (1, .int (s + (fl_X5_borne sg (nI k) (ix (sg 41 24)) 0 0))), (0, .ref (xg X 41))] dX5_meanLoad_41 rfl (nI_add1 _) (by decide) rfl rfl ?_
    refine v_goto (pc1 := 25) C dX5_meanLoad_44 (by decide) ?_
    exact ih m (by omega) (k + 1) (s + (fl_X5_borne sg (nI k) (ix (sg 41 24)) 0 0)) (by omega) (by rw [hr]; simp only [fl_X5_sum])
def fr_X5_meanLoad (sg : Sg) : UInt64 := (if (sg 41 0) = 0 then 0 else FP.ddiv (FP.i2d (fl_X5_sum (up sg 41 34 0) (ix (sg 41 0)) 0 0)) (FP.i2d (sg 41 0)))
def fs_X5_meanLoad (sg : Sg) : Sg := (if (sg 41 0) = 0 then (up sg 41 34 1) else (up sg 41 34 0))
set_option maxHeartbeats 4000000 in
set_option maxRecDepth 20000 in
theorem k_X5_meanLoad {l : Launch} {D : va_G} {K : Nat → ClassId} {g : Nat → Nat} (sg : Sg) (o : Ot)  (hM : MI sg) (hf : ¬ sg 41 0 = 0 → vf_n64 (FP.ddiv (FP.i2d (fl_X5_sum (up sg 41 34 0) (ix (sg 41 0)) 0 0)) (FP.i2d (sg 41 0)))) : CN l yX5_meanLoad cX5_meanLoad 3 (some .double) 4 D K g [.ref (g 41)] sg o (some (.double (fr_X5_meanLoad sg))) (fs_X5_meanLoad sg) o :=
  mk_d (own := RX5) (av := fun g => [.ref (g 41)]) (lo := fun g => [(0, .ref (g 41))]) (by decide) rfl (fun _ => Nat.le_of_ble_eq_true rfl) (fun _ => rfl) fun X C E => by
    refine v_aload_n (j := 0) C dX5_meanLoad_0 rfl rfl rfl ?_
    refine v_aload_n (j := 0) C dX5_meanLoad_1 rfl rfl rfl ?_
    refine v_geti (c := 41) C flX5_90 (by decide) rfl rfl dX5_meanLoad_2 rfl ?_
    refine v_if_ne (tgt := 12) C dX5_meanLoad_5 (by decide) rfl (fun h5_1 => ?_) (fun h5_1 => ?_)
    · skip
      refine v_iconst (v := 0) C dX5_meanLoad_12 (by decide) rfl ?_
      refine v_callV (rest := []) (q := (RX5, TX5, 35)) C kvX5_103 (k_X5_fails sg o 0) (by decide) (by decide) rfl rfl rfl rfl rfl (Nat.le_of_ble_eq_true rfl) (by decide) (by decide) dX5_meanLoad_13 rfl ?_
      refine v_if_eqB (tgt := 21) C dX5_meanLoad_16 (by decide) rfl (fun _ => ?_) (fun h => absurd h (by decide))
      refine v_iconst (v := 0) C dX5_meanLoad_21 (by decide) rfl ?_
      refine v_istore_n C [(1, .int 0), (0, .ref (xg X 41))] dX5_meanLoad_22 rfl (by decide) rfl rfl ?_
      refine v_iconst (v := nI 0) C dX5_meanLoad_23 (by decide) rfl ?_
      refine v_istore_n C [(2, .int (nI 0)), (1, .int 0), (0, .ref (xg X 41))] dX5_meanLoad_24 rfl (by decide) rfl rfl ?_
      have E1 : Ed X cX5_meanLoad 0 0 (up sg 41 34 0) o (FP.ddiv (FP.i2d (fl_X5_sum (up sg 41 34 0) (ix (sg 41 0)) 0 0)) (FP.i2d (sg 41 0))) := by have h := E; simp only [fr_X5_meanLoad, fs_X5_meanLoad, if_neg h5_1] at h; exact h
      exact lp_X5_meanLoad (by decide) C (up sg 41 34 0) o hM (ix (sg 41 0)) hM.np.ixl hM.np.ixe (hf (by assumption)) E1 _ 0 0 (Nat.add_zero _) rfl
    · skip
      refine v_iconst (v := 1) C dX5_meanLoad_8 (by decide) rfl ?_
      refine v_goto (pc1 := 13) C dX5_meanLoad_9 (by decide) ?_
      refine v_callV (rest := []) (q := (RX5, TX5, 35)) C kvX5_103 (k_X5_fails sg o 1) (by decide) (by decide) rfl rfl rfl rfl rfl (Nat.le_of_ble_eq_true rfl) (by decide) (by decide) dX5_meanLoad_13 rfl ?_
      refine v_if_eqB (tgt := 21) C dX5_meanLoad_16 (by decide) rfl (fun h => absurd (by decide) h) (fun _ => ?_)
      refine v_dconst0 C dX5_meanLoad_19 rfl ?_
      exact v_dret E dX5_meanLoad_20 (by decide) (by decide) ((by simp only [fr_X5_meanLoad, if_pos h5_1])) ((by simp only [fs_X5_meanLoad, if_pos h5_1])) rfl
def fr_X5_hungShare (sg : Sg) : UInt32 := (if (sg 41 3) = 0 then 0 else FP.fdiv (FP.i2f (sg 41 24)) (FP.i2f (sg 41 3)))
def fs_X5_hungShare (sg : Sg) : Sg := (if (sg 41 3) = 0 then (up sg 41 34 1) else (up sg 41 34 0))
set_option maxHeartbeats 4000000 in
set_option maxRecDepth 20000 in
theorem k_X5_hungShare {l : Launch} {D : va_G} {K : Nat → ClassId} {g : Nat → Nat} (sg : Sg) (o : Ot)  (hM : MI sg) (hf : ¬ sg 41 3 = 0 → vf_n32 (FP.fdiv (FP.i2f (sg 41 24)) (FP.i2f (sg 41 3)))) : CN l yX5_hungShare cX5_hungShare 1 (some .float) 3 D K g [.ref (g 41)] sg o (some (.float (fr_X5_hungShare sg))) (fs_X5_hungShare sg) o :=
  mk_f (own := RX5) (av := fun g => [.ref (g 41)]) (lo := fun g => [(0, .ref (g 41))]) (by decide) rfl (fun _ => Nat.le_of_ble_eq_true rfl) (fun _ => rfl) fun X C E => by
    refine v_aload_n (j := 0) C dX5_hungShare_0 rfl rfl rfl ?_
    refine v_aload_n (j := 0) C dX5_hungShare_1 rfl rfl rfl ?_
    refine v_geti (c := 41) C flX5_97 (by decide) rfl rfl dX5_hungShare_2 rfl ?_
    refine v_if_ne (tgt := 12) C dX5_hungShare_5 (by decide) rfl (fun h5_1 => ?_) (fun h5_1 => ?_)
    · skip
      refine v_iconst (v := 0) C dX5_hungShare_12 (by decide) rfl ?_
      refine v_callV (rest := []) (q := (RX5, TX5, 35)) C kvX5_103 (k_X5_fails sg o 0) (by decide) (by decide) rfl rfl rfl rfl rfl (Nat.le_of_ble_eq_true rfl) (by decide) (by decide) dX5_hungShare_13 rfl ?_
      refine v_if_eqB (tgt := 23) C dX5_hungShare_16 (by decide) rfl (fun _ => ?_) (fun h => absurd h (by decide))
      refine v_aload_n (j := 0) C dX5_hungShare_23 rfl rfl rfl ?_
      refine v_geti (c := 41) C flX5_100 (by decide) rfl rfl dX5_hungShare_24 rfl ?_
      refine v_rwi (y := sg 41 24) ((up_ne _ _ (Or.inr (by decide))).trans rfl) ?_
      refine v_i2f C dX5_hungShare_27 rfl ?_
      refine v_aload_n (j := 0) C dX5_hungShare_28 rfl rfl rfl ?_
      refine v_geti (c := 41) C flX5_97 (by decide) rfl rfl dX5_hungShare_29 rfl ?_
      refine v_rwi (y := sg 41 3) ((up_ne _ _ (Or.inr (by decide))).trans rfl) ?_
      refine v_i2f C dX5_hungShare_32 rfl ?_
      refine v_fdiv C dX5_hungShare_33 (hf (by assumption)) rfl ?_
      exact v_fret E dX5_hungShare_34 (by decide) (by decide) ((by simp only [fr_X5_hungShare, if_neg h5_1])) ((by simp only [fs_X5_hungShare, if_neg h5_1])) rfl
    · skip
      refine v_iconst (v := 1) C dX5_hungShare_8 (by decide) rfl ?_
      refine v_goto (pc1 := 13) C dX5_hungShare_9 (by decide) ?_
      refine v_callV (rest := []) (q := (RX5, TX5, 35)) C kvX5_103 (k_X5_fails sg o 1) (by decide) (by decide) rfl rfl rfl rfl rfl (Nat.le_of_ble_eq_true rfl) (by decide) (by decide) dX5_hungShare_13 rfl ?_
      refine v_if_eqB (tgt := 23) C dX5_hungShare_16 (by decide) rfl (fun h => absurd (by decide) h) (fun _ => ?_)
      refine v_fconst0 C dX5_hungShare_19 rfl ?_
      refine v_goto (pc1 := 34) C dX5_hungShare_20 (by decide) ?_
      exact v_fret E dX5_hungShare_34 (by decide) (by decide) ((by simp only [fr_X5_hungShare, if_pos h5_1])) ((by simp only [fs_X5_hungShare, if_pos h5_1])) rfl
def fl_X5_isSound (sg : Sg) : Nat → Nat → Bool
  | 0, _ => true
  | n + 1, k => if (fr_X5_may sg (nI k)) < (fl_X5_borne sg (nI k) (ix (sg 41 24)) 0 0) then false else fl_X5_isSound sg n (k + 1)
set_option maxHeartbeats 4000000 in
set_option maxRecDepth 20000 in
theorem lp_X5_isSound {X : Cx} {rk : Nat} (hrk : 4 ≤ rk) (C : CF X cX5_isSound RX5 2 rk 0 0) (sg : Sg) (o : Ot) (hM : MI sg) (ht : ¬ sg 41 23 < 0) (N : Nat) (h6 : N ≤ 8) (hN : sg 41 0 = nI N) {r : Int32} (E : Ei X cX5_isSound 0 0 sg o r) : ∀ (n k : Nat) , n + k = N → r = b2i (fl_X5_isSound sg n k = true) → V X 0 0 2 sg o [(1, .int (nI k)), (0, .ref (xg X 41))] 7 [] := by
  refine loop_ind fun n ih => ?_
  intro k hnk hr
  refine v_aload_n (j := 1) C dX5_isSound_7 rfl rfl rfl ?_
  refine v_geti (c := 41) C flX5_71 (by decide) rfl rfl dX5_isSound_8 rfl ?_
  refine v_if_lt (tgt := 43) C dX5_isSound_11 (by decide) rfl (fun h11_1 => ?_) (fun h11_1 => ?_)
  · exact absurd h11_1 ht
  · skip
    skip
    refine v_iload_n (j := 0) C dX5_isSound_14 rfl rfl rfl ?_
    refine v_aload_n (j := 1) C dX5_isSound_15 rfl rfl rfl ?_
    refine v_geti (c := 41) C flX5_90 (by decide) rfl rfl dX5_isSound_16 rfl ?_
    refine v_icmp_ge (tgt := 43) C dX5_isSound_19 (by decide) rfl (fun h19_2 => ?_) (fun h19_2 => ?_)
    · skip
      rw [hN, nI_lt_iff (by omega) (by omega)] at h19_2; obtain rfl : n = 0 := by omega
      refine v_iconst (v := 1) C dX5_isSound_43 (by decide) rfl ?_
      exact v_ret E dX5_isSound_44 (by decide) (by decide) (by rw [hr]; exact b2i_t (by simp only [fl_X5_isSound])) (rfl) rfl
    · skip
      rw [hN, nI_lt_iff (by omega) (by omega)] at h19_2; obtain ⟨m, rfl⟩ : ∃ m, n = m + 1 := ⟨n - 1, by omega⟩
      refine v_aload_n (j := 1) C dX5_isSound_22 rfl rfl rfl ?_
      refine v_iload_n (j := 0) C dX5_isSound_23 rfl rfl rfl ?_
      refine v_callV (rest := []) (q := (RX5, TX5, 35)) C kvX5_144 (k_X5_borne sg o (nI k) hM) (by omega) (by decide) rfl rfl rfl rfl rfl (Nat.le_of_ble_eq_true rfl) (by decide) (by decide) dX5_isSound_24 rfl ?_
      refine v_aload_n (j := 1) C dX5_isSound_27 rfl rfl rfl ?_
      refine v_iload_n (j := 0) C dX5_isSound_28 rfl rfl rfl ?_
      refine v_callV (rest := [.int (fl_X5_borne sg (nI k) (ix (sg 41 24)) 0 0)]) (q := (RX5, TX5, 35)) C kvX5_141 (k_X5_may sg o (nI k) hM (in_nI (by omega) (by decide)) ht) (by omega) (by decide) rfl rfl rfl rfl rfl (Nat.le_of_ble_eq_true rfl) (by decide) (by decide) dX5_isSound_29 rfl ?_
      refine v_icmp_le (tgt := 37) C dX5_isSound_32 (by decide) rfl (fun h32_3 => ?_) (fun h32_3 => ?_)
      · skip
        refine v_iinc (j := 0) (v := (nI (k + 1))) C [(1, .int (nI (k + 1))), (0, .ref (xg X 41))] dX5_isSound_37 rfl (nI_add1 _) (by decide) rfl rfl ?_
        refine v_goto (pc1 := 7) C dX5_isSound_40 (by decide) ?_
        exact ih m (by omega) (k + 1)  (by omega) (by rw [hr]; simp only [fl_X5_isSound, if_neg h32_3])
      · skip
        refine v_iconst (v := 0) C dX5_isSound_35 (by decide) rfl ?_
        exact v_ret E dX5_isSound_36 (by decide) (by decide) (by rw [hr]; exact b2i_f (ne_true_of_eq_false (by simp only [fl_X5_isSound, if_pos h32_3]))) (rfl) rfl
set_option maxHeartbeats 4000000 in
set_option maxRecDepth 20000 in
theorem k_X5_isSound {l : Launch} {D : va_G} {K : Nat → ClassId} {g : Nat → Nat} (sg : Sg) (o : Ot)  (hM : MI sg) : CN l yX5_isSound cX5_isSound 2 (some .boolean) 4 D K g [.ref (g 41)] sg o (some (.int (b2i (sg 41 23 < 0 ∨ fl_X5_isSound (up sg 41 34 0) (ix (sg 41 0)) 0 = true)))) (up sg 41 34 0) o :=
  mk_i (own := RX5) (av := fun g => [.ref (g 41)]) (lo := fun g => [(0, .ref (g 41))]) (by decide) rfl b2i_nar (fun _ => Nat.le_of_ble_eq_true rfl) (fun _ => rfl) fun X C E => by
    refine v_aload_n (j := 0) C dX5_isSound_0 rfl rfl rfl ?_
    refine v_iconst (v := 0) C dX5_isSound_1 (by decide) rfl ?_
    refine v_puti (c := 41) C fpX5_87 (by decide) rfl rfl dX5_isSound_2 rfl ?_
    refine v_iconst (v := nI 0) C dX5_isSound_5 (by decide) rfl ?_
    refine v_istore_n C [(1, .int (nI 0)), (0, .ref (xg X 41))] dX5_isSound_6 rfl (by decide) rfl rfl ?_
    by_cases ht : sg 41 23 < 0
    · skip
      refine v_aload_n (j := 1) C dX5_isSound_7 rfl rfl rfl ?_
      refine v_geti (c := 41) C flX5_71 (by decide) rfl rfl dX5_isSound_8 rfl ?_
      refine v_rwi (y := sg 41 23) ((up_ne _ _ (Or.inr (by decide))).trans rfl) ?_
      refine v_if_lt (tgt := 43) C dX5_isSound_11 (by decide) rfl (fun h11_1 => ?_) (fun h11_1 => ?_)
      · skip
        skip
        refine v_iconst (v := 1) C dX5_isSound_43 (by decide) rfl ?_
        exact v_ret E dX5_isSound_44 (by decide) (by decide) (b2i_t (by first | assumption | (simp [h11_1]; done) | grind)) (rfl) rfl
      · exact absurd ht h11_1
    · exact lp_X5_isSound (by decide) C (up sg 41 34 0) o hM ht (ix (sg 41 0)) hM.np.ixl hM.np.ixe E _ 0 (Nat.add_zero _) (by simp [b2i, ht])
