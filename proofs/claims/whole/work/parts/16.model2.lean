theorem inRig_in {sg : Sg} {p : Int32} : ∀ {n k : Nat}, ¬ fl_X5_inRig sg p n k < 0 → n + k ≤ 6 → vp_in (fl_X5_inRig sg p n k) 6
  | 0, _, h, _ => absurd (show ((-1 : Int32) < 0) by decide) h
  | n + 1, k, h, hk => by
    unfold fl_X5_inRig at h ⊢
    split
    · exact in_nI (by omega) (by decide)
    · rename_i hne
      rw [if_neg hne] at h
      exact inRig_in h (by omega)
def fr_X5_hung (sg : Sg) : Int32 := (fr_X5_tells sg (sg 41 24))
def fs_X5_hung (sg : Sg) : Sg := (up sg 41 34 0)
set_option maxHeartbeats 4000000 in
set_option maxRecDepth 20000 in
theorem k_X5_hung {l : Launch} {D : va_G} {K : Nat → ClassId} {g : Nat → Nat} (sg : Sg) (o : Ot)  (hM : MI sg) : CN l yX5_hung cX5_hung 1 (some .int) 3 D K g [.ref (g 41)] sg o (some (.int (fr_X5_hung sg))) (fs_X5_hung sg) o :=
  mk_i (own := RX5) (av := fun g => [.ref (g 41)]) (lo := fun g => [(0, .ref (g 41))]) (by decide) rfl rfl (fun _ => Nat.le_of_ble_eq_true rfl) (fun _ => rfl) fun X C E => by
    refine v_aload_n (j := 0) C dX5_hung_0 rfl rfl rfl ?_
    refine v_aload_n (j := 0) C dX5_hung_1 rfl rfl rfl ?_
    refine v_geti (c := 41) C flX5_100 (by decide) rfl rfl dX5_hung_2 rfl ?_
    refine v_callV (rest := []) (q := (RX5, TX5, 35)) C kvX5_177 (k_X5_tells sg o (sg 41 24)) (by decide) (by decide) rfl rfl rfl rfl rfl (Nat.le_of_ble_eq_true rfl) (by decide) (by decide) dX5_hung_5 rfl ?_
    exact v_ret E dX5_hung_8 (by decide) (by decide) ((by rfl)) (rfl) rfl
def fr_X5_end (sg : Sg) : Int32 := (fr_X5_tells sg (fr_X5_lastEnd sg))
def fs_X5_end (sg : Sg) : Sg := (up sg 41 34 0)
set_option maxHeartbeats 4000000 in
set_option maxRecDepth 20000 in
theorem k_X5_end {l : Launch} {D : va_G} {K : Nat → ClassId} {g : Nat → Nat} (sg : Sg) (o : Ot)  (hM : MI sg) : CN l yX5_end cX5_end 1 (some .int) 3 D K g [.ref (g 41)] sg o (some (.int (fr_X5_end sg))) (fs_X5_end sg) o :=
  mk_i (own := RX5) (av := fun g => [.ref (g 41)]) (lo := fun g => [(0, .ref (g 41))]) (by decide) rfl rfl (fun _ => Nat.le_of_ble_eq_true rfl) (fun _ => rfl) fun X C E => by
    refine v_aload_n (j := 0) C dX5_end_0 rfl rfl rfl ?_
    refine v_aload_n (j := 0) C dX5_end_1 rfl rfl rfl ?_
    refine v_callV (rest := [.ref (xg X 41)]) (q := (RX5, TX5, 35)) C kvX5_150 (k_X5_lastEnd sg o (by first | exact hM | exact hM.up34)) (by decide) (by decide) rfl rfl rfl rfl rfl (Nat.le_of_ble_eq_true rfl) (by decide) (by decide) dX5_end_2 rfl ?_
    refine v_callV (rest := []) (q := (RX5, TX5, 35)) C kvX5_177 (k_X5_tells sg o (fr_X5_lastEnd sg)) (by decide) (by decide) rfl rfl rfl rfl rfl (Nat.le_of_ble_eq_true rfl) (by decide) (by decide) dX5_end_5 rfl ?_
    exact v_ret E dX5_end_8 (by decide) (by decide) ((by rfl)) (rfl) rfl
def fr_X5_work (sg : Sg) : Int32 := (fr_X5_tells sg (fr_X5_lastWork sg))
def fs_X5_work (sg : Sg) : Sg := (up sg 41 34 0)
set_option maxHeartbeats 4000000 in
set_option maxRecDepth 20000 in
theorem k_X5_work {l : Launch} {D : va_G} {K : Nat → ClassId} {g : Nat → Nat} (sg : Sg) (o : Ot)  (hM : MI sg) : CN l yX5_work cX5_work 1 (some .int) 3 D K g [.ref (g 41)] sg o (some (.int (fr_X5_work sg))) (fs_X5_work sg) o :=
  mk_i (own := RX5) (av := fun g => [.ref (g 41)]) (lo := fun g => [(0, .ref (g 41))]) (by decide) rfl rfl (fun _ => Nat.le_of_ble_eq_true rfl) (fun _ => rfl) fun X C E => by
    refine v_aload_n (j := 0) C dX5_work_0 rfl rfl rfl ?_
    refine v_aload_n (j := 0) C dX5_work_1 rfl rfl rfl ?_
    refine v_callV (rest := [.ref (xg X 41)]) (q := (RX5, TX5, 35)) C kvX5_154 (k_X5_lastWork sg o (by first | exact hM | exact hM.up34)) (by decide) (by decide) rfl rfl rfl rfl rfl (Nat.le_of_ble_eq_true rfl) (by decide) (by decide) dX5_work_2 rfl ?_
    refine v_callV (rest := []) (q := (RX5, TX5, 35)) C kvX5_177 (k_X5_tells sg o (fr_X5_lastWork sg)) (by decide) (by decide) rfl rfl rfl rfl rfl (Nat.le_of_ble_eq_true rfl) (by decide) (by decide) dX5_work_5 rfl ?_
    exact v_ret E dX5_work_8 (by decide) (by decide) ((by rfl)) (rfl) rfl
def fr_X5_addPoint (sg : Sg) (p : Int32) (q : Int32) : Int32 := (if ¬ p < 0 ∧ ¬ 60 < p then (if ¬ q < 100 ∧ ¬ 5000 < q then (if (sg 41 0) = 8 then 0 else ((((sg 41 0) + 1)) - 1)) else 0) else 0)
def fs_X5_addPoint (sg : Sg) (p : Int32) (q : Int32) : Sg := (if ¬ p < 0 ∧ ¬ 60 < p then (if ¬ q < 100 ∧ ¬ 5000 < q then (if (sg 41 0) = 8 then (up sg 41 34 2) else (up (up (up (up sg 41 34 0) 42 (ix (sg 41 0)) p) 43 (ix (sg 41 0)) q) 41 0 ((sg 41 0) + 1))) else (up sg 41 34 1)) else (up sg 41 34 1))
set_option maxHeartbeats 4000000 in
set_option maxRecDepth 20000 in
theorem k_X5_addPoint {l : Launch} {D : va_G} {K : Nat → ClassId} {g : Nat → Nat} (sg : Sg) (o : Ot) (p : Int32) (q : Int32) (hM : MI sg) : CN l yX5_addPoint cX5_addPoint 3 (some .int) 3 D K g [.ref (g 41), .int p, .int q] sg o (some (.int (fr_X5_addPoint sg p q))) (fs_X5_addPoint sg p q) o :=
  mk_i (own := RX5) (av := fun g => [.ref (g 41), .int p, .int q]) (lo := fun g => [(0, .ref (g 41)), (1, .int p), (2, .int q)]) (by decide) rfl rfl (fun _ => Nat.le_of_ble_eq_true rfl) (fun _ => rfl) fun X C E => by
    refine v_aload_n (j := 0) C dX5_addPoint_0 rfl rfl rfl ?_
    refine v_iload_n (j := 1) C dX5_addPoint_1 rfl rfl rfl ?_
    refine v_iconst (v := 0) C dX5_addPoint_2 (by decide) rfl ?_
    refine v_bipush (v := 60) C dX5_addPoint_3 (by decide) rfl ?_
    refine v_callS (rest := [.ref (xg X 41)]) C ksX5_93 (k_X5_in sg o p 0 60) (by decide) rfl rfl (Nat.le_of_ble_eq_true rfl) (by decide) (by decide) dX5_addPoint_5 rfl ?_
    refine v_if_eqB (tgt := 23) C dX5_addPoint_8 (by decide) rfl (fun h8_1 => ?_) (fun h8_1 => ?_)
    · skip
      refine v_iconst (v := 1) C dX5_addPoint_23 (by decide) rfl ?_
      refine v_goto (pc1 := 41) C dX5_addPoint_24 (by decide) ?_
      refine v_callV (rest := []) (q := (RX5, TX5, 35)) C kvX5_103 (k_X5_fails sg o 1) (by decide) (by decide) rfl rfl rfl rfl rfl (Nat.le_of_ble_eq_true rfl) (by decide) (by decide) dX5_addPoint_41 rfl ?_
      refine v_if_eqB (tgt := 49) C dX5_addPoint_44 (by decide) rfl (fun h => absurd (by decide) h) (fun _ => ?_)
      refine v_iconst (v := 0) C dX5_addPoint_47 (by decide) rfl ?_
      exact v_ret E dX5_addPoint_48 (by decide) (by decide) ((by simp only [fr_X5_addPoint, if_neg h8_1])) ((by simp only [fs_X5_addPoint, if_neg h8_1])) rfl
    · skip
      refine v_iload_n (j := 2) C dX5_addPoint_11 rfl rfl rfl ?_
      refine v_bipush (v := 100) C dX5_addPoint_12 (by decide) rfl ?_
      refine v_sipush (v := 5000) C dX5_addPoint_14 (by decide) rfl ?_
      refine v_callS (rest := [.ref (xg X 41)]) C ksX5_93 (k_X5_in sg o q 100 5000) (by decide) rfl rfl (Nat.le_of_ble_eq_true rfl) (by decide) (by decide) dX5_addPoint_17 rfl ?_
      refine v_if_neB (tgt := 27) C dX5_addPoint_20 (by decide) rfl (fun h20_3 => ?_) (fun h20_3 => ?_)
      · skip
        refine v_aload_n (j := 0) C dX5_addPoint_27 rfl rfl rfl ?_
        refine v_geti (c := 41) C flX5_90 (by decide) rfl rfl dX5_addPoint_28 rfl ?_
        refine v_bipush (v := 8) C dX5_addPoint_31 (by decide) rfl ?_
        refine v_icmp_ne (tgt := 40) C dX5_addPoint_33 (by decide) rfl (fun h33_4 => ?_) (fun h33_4 => ?_)
        · skip
          refine v_iconst (v := 0) C dX5_addPoint_40 (by decide) rfl ?_
          refine v_callV (rest := []) (q := (RX5, TX5, 35)) C kvX5_103 (k_X5_fails sg o 0) (by decide) (by decide) rfl rfl rfl rfl rfl (Nat.le_of_ble_eq_true rfl) (by decide) (by decide) dX5_addPoint_41 rfl ?_
          refine v_if_eqB (tgt := 49) C dX5_addPoint_44 (by decide) rfl (fun _ => ?_) (fun h => absurd h (by decide))
          refine v_aload_n (j := 0) C dX5_addPoint_49 rfl rfl rfl ?_
          refine v_getr (c := 41) C 42 flX5_7 (by decide) rfl rfl dX5_addPoint_50 rfl ?_
          refine v_aload_n (j := 0) C dX5_addPoint_53 rfl rfl rfl ?_
          refine v_geti (c := 41) C flX5_90 (by decide) rfl rfl dX5_addPoint_54 rfl ?_
          refine v_rwi (y := sg 41 0) ((up_ne _ _ (Or.inr (by decide))).trans rfl) ?_
          refine v_iload_n (j := 1) C dX5_addPoint_57 rfl rfl rfl ?_
          refine v_iast (c := 42) C (hM.np.lt (by decide) (by assumption)) (by decide) rfl dX5_addPoint_58 rfl ?_
          refine v_aload_n (j := 0) C dX5_addPoint_59 rfl rfl rfl ?_
          refine v_getr (c := 41) C 43 flX5_13 (by decide) rfl rfl dX5_addPoint_60 rfl ?_
          refine v_aload_n (j := 0) C dX5_addPoint_63 rfl rfl rfl ?_
          refine v_geti (c := 41) C flX5_90 (by decide) rfl rfl dX5_addPoint_64 rfl ?_
          refine v_rwi (y := sg 41 0) ((up_ne _ _ (Or.inl (by decide))).trans ((up_ne _ _ (Or.inr (by decide))).trans rfl)) ?_
          refine v_iload_n (j := 2) C dX5_addPoint_67 rfl rfl rfl ?_
          refine v_iast (c := 43) C (hM.np.lt (by decide) (by assumption)) (by decide) rfl dX5_addPoint_68 rfl ?_
          refine v_aload_n (j := 0) C dX5_addPoint_69 rfl rfl rfl ?_
          refine v_dup C dX5_addPoint_70 rfl rfl ?_
          refine v_geti (c := 41) C flX5_90 (by decide) rfl rfl dX5_addPoint_71 rfl ?_
          refine v_rwi (y := sg 41 0) ((up_ne _ _ (Or.inl (by decide))).trans ((up_ne _ _ (Or.inl (by decide))).trans ((up_ne _ _ (Or.inr (by decide))).trans rfl))) ?_
          refine v_iconst (v := 1) C dX5_addPoint_74 (by decide) rfl ?_
          refine v_iadd C dX5_addPoint_75 rfl ?_
          refine v_puti (c := 41) C fpX5_90 (by decide) rfl rfl dX5_addPoint_76 rfl ?_
          refine v_aload_n (j := 0) C dX5_addPoint_79 rfl rfl rfl ?_
          refine v_geti (c := 41) C flX5_90 (by decide) rfl rfl dX5_addPoint_80 rfl ?_
          refine v_rwi (y := ((sg 41 0) + 1)) up_at ?_
          refine v_iconst (v := 1) C dX5_addPoint_83 (by decide) rfl ?_
          refine v_isub C dX5_addPoint_84 rfl ?_
          exact v_ret E dX5_addPoint_85 (by decide) (by decide) ((by first | contradiction | simp only [fr_X5_addPoint, if_pos h8_1, if_pos h20_3, if_neg h33_4])) ((by first | contradiction | simp only [fs_X5_addPoint, if_pos h8_1, if_pos h20_3, if_neg h33_4])) rfl
        · skip
          refine v_iconst (v := 2) C dX5_addPoint_36 (by decide) rfl ?_
          refine v_goto (pc1 := 41) C dX5_addPoint_37 (by decide) ?_
          refine v_callV (rest := []) (q := (RX5, TX5, 35)) C kvX5_103 (k_X5_fails sg o 2) (by decide) (by decide) rfl rfl rfl rfl rfl (Nat.le_of_ble_eq_true rfl) (by decide) (by decide) dX5_addPoint_41 rfl ?_
          refine v_if_eqB (tgt := 49) C dX5_addPoint_44 (by decide) rfl (fun h => absurd (by decide) h) (fun _ => ?_)
          refine v_iconst (v := 0) C dX5_addPoint_47 (by decide) rfl ?_
          exact v_ret E dX5_addPoint_48 (by decide) (by decide) ((by first | contradiction | simp only [fr_X5_addPoint, if_pos h8_1, if_pos h20_3, if_pos h33_4])) ((by first | contradiction | simp only [fs_X5_addPoint, if_pos h8_1, if_pos h20_3, if_pos h33_4])) rfl
      · skip
        refine v_iconst (v := 1) C dX5_addPoint_23 (by decide) rfl ?_
        refine v_goto (pc1 := 41) C dX5_addPoint_24 (by decide) ?_
        refine v_callV (rest := []) (q := (RX5, TX5, 35)) C kvX5_103 (k_X5_fails sg o 1) (by decide) (by decide) rfl rfl rfl rfl rfl (Nat.le_of_ble_eq_true rfl) (by decide) (by decide) dX5_addPoint_41 rfl ?_
        refine v_if_eqB (tgt := 49) C dX5_addPoint_44 (by decide) rfl (fun h => absurd (by decide) h) (fun _ => ?_)
        refine v_iconst (v := 0) C dX5_addPoint_47 (by decide) rfl ?_
        exact v_ret E dX5_addPoint_48 (by decide) (by decide) ((by simp only [fr_X5_addPoint, if_pos h8_1, if_neg h20_3])) ((by simp only [fs_X5_addPoint, if_pos h8_1, if_neg h20_3])) rfl
def fr_X5_addPiece (sg : Sg) (p : Int32) (q : Int32) (u : Int32) (v : Int32) : Int32 := (if ¬ p < 10 ∧ ¬ 2000 < p then (if ¬ q < 5 ∧ ¬ 240 < q then (if ¬ u < 1 ∧ ¬ 99 < u then (if ¬ v < 0 ∧ ¬ 2 < v then (if (sg 41 3) = 6 then 0 else ((((sg 41 3) + 1)) - 1)) else 0) else 0) else 0) else 0)
def fs_X5_addPiece (sg : Sg) (p : Int32) (q : Int32) (u : Int32) (v : Int32) : Sg := (if ¬ p < 10 ∧ ¬ 2000 < p then (if ¬ q < 5 ∧ ¬ 240 < q then (if ¬ u < 1 ∧ ¬ 99 < u then (if ¬ v < 0 ∧ ¬ 2 < v then (if (sg 41 3) = 6 then (up sg 41 34 2) else (up (up (up (up (up (up sg 41 34 0) 44 (ix (sg 41 3)) p) 45 (ix (sg 41 3)) q) 46 (ix (sg 41 3)) u) 47 (ix (sg 41 3)) v) 41 3 ((sg 41 3) + 1))) else (up sg 41 34 1)) else (up sg 41 34 1)) else (up sg 41 34 1)) else (up sg 41 34 1))
set_option maxHeartbeats 4000000 in
set_option maxRecDepth 20000 in
theorem k_X5_addPiece {l : Launch} {D : va_G} {K : Nat → ClassId} {g : Nat → Nat} (sg : Sg) (o : Ot) (p : Int32) (q : Int32) (u : Int32) (v : Int32) (hM : MI sg) : CN l yX5_addPiece cX5_addPiece 6 (some .int) 3 D K g [.ref (g 41), .int p, .int q, .int u, .int v] sg o (some (.int (fr_X5_addPiece sg p q u v))) (fs_X5_addPiece sg p q u v) o :=
  mk_i (own := RX5) (av := fun g => [.ref (g 41), .int p, .int q, .int u, .int v]) (lo := fun g => [(0, .ref (g 41)), (1, .int p), (2, .int q), (3, .int u), (4, .int v)]) (by decide) rfl rfl (fun _ => Nat.le_of_ble_eq_true rfl) (fun _ => rfl) fun X C E => by
    refine v_iload_n (j := 1) C dX5_addPiece_0 rfl rfl rfl ?_
    refine v_bipush (v := 10) C dX5_addPiece_1 (by decide) rfl ?_
    refine v_sipush (v := 2000) C dX5_addPiece_3 (by decide) rfl ?_
    refine v_callS (rest := []) C ksX5_93 (k_X5_in sg o p 10 2000) (by decide) rfl rfl (Nat.le_of_ble_eq_true rfl) (by decide) (by decide) dX5_addPiece_6 rfl ?_
    refine v_if_eqB (tgt := 47) C dX5_addPiece_9 (by decide) rfl (fun h9_1 => ?_) (fun h9_1 => ?_)
    · skip
      refine v_iconst (v := 0) C dX5_addPiece_47 (by decide) rfl ?_
      refine v_istore C [(5, .int 0), (0, .ref (xg X 41)), (1, .int p), (2, .int q), (3, .int u), (4, .int v)] dX5_addPiece_48 (by decide) rfl rfl ?_
      refine v_aload_n (j := 1) C dX5_addPiece_50 rfl rfl rfl ?_
      refine v_iload (j := 0) C dX5_addPiece_51 rfl rfl ?_
      refine v_if_ne (tgt := 60) C dX5_addPiece_53 (by decide) rfl (fun h => absurd h (by decide)) (fun _ => ?_)
      refine v_iconst (v := 1) C dX5_addPiece_56 (by decide) rfl ?_
      refine v_goto (pc1 := 74) C dX5_addPiece_57 (by decide) ?_
      refine v_callV (rest := []) (q := (RX5, TX5, 35)) C kvX5_103 (k_X5_fails sg o 1) (by decide) (by decide) rfl rfl rfl rfl rfl (Nat.le_of_ble_eq_true rfl) (by decide) (by decide) dX5_addPiece_74 rfl ?_
      refine v_if_eqB (tgt := 82) C dX5_addPiece_77 (by decide) rfl (fun h => absurd (by decide) h) (fun _ => ?_)
      refine v_iconst (v := 0) C dX5_addPiece_80 (by decide) rfl ?_
      exact v_ret E dX5_addPiece_81 (by decide) (by decide) ((by simp only [fr_X5_addPiece, if_neg h9_1])) ((by simp only [fs_X5_addPiece, if_neg h9_1])) rfl
    · skip
      refine v_iload_n (j := 2) C dX5_addPiece_12 rfl rfl rfl ?_
      refine v_iconst (v := 5) C dX5_addPiece_13 (by decide) rfl ?_
      refine v_sipush (v := 240) C dX5_addPiece_14 (by decide) rfl ?_
      refine v_callS (rest := []) C ksX5_93 (k_X5_in sg o q 5 240) (by decide) rfl rfl (Nat.le_of_ble_eq_true rfl) (by decide) (by decide) dX5_addPiece_17 rfl ?_
      refine v_if_eqB (tgt := 47) C dX5_addPiece_20 (by decide) rfl (fun h20_4 => ?_) (fun h20_4 => ?_)
      · skip
        refine v_iconst (v := 0) C dX5_addPiece_47 (by decide) rfl ?_
        refine v_istore C [(5, .int 0), (0, .ref (xg X 41)), (1, .int p), (2, .int q), (3, .int u), (4, .int v)] dX5_addPiece_48 (by decide) rfl rfl ?_
        refine v_aload_n (j := 1) C dX5_addPiece_50 rfl rfl rfl ?_
        refine v_iload (j := 0) C dX5_addPiece_51 rfl rfl ?_
        refine v_if_ne (tgt := 60) C dX5_addPiece_53 (by decide) rfl (fun h => absurd h (by decide)) (fun _ => ?_)
        refine v_iconst (v := 1) C dX5_addPiece_56 (by decide) rfl ?_
        refine v_goto (pc1 := 74) C dX5_addPiece_57 (by decide) ?_
        refine v_callV (rest := []) (q := (RX5, TX5, 35)) C kvX5_103 (k_X5_fails sg o 1) (by decide) (by decide) rfl rfl rfl rfl rfl (Nat.le_of_ble_eq_true rfl) (by decide) (by decide) dX5_addPiece_74 rfl ?_
        refine v_if_eqB (tgt := 82) C dX5_addPiece_77 (by decide) rfl (fun h => absurd (by decide) h) (fun _ => ?_)
        refine v_iconst (v := 0) C dX5_addPiece_80 (by decide) rfl ?_
        exact v_ret E dX5_addPiece_81 (by decide) (by decide) ((by simp only [fr_X5_addPiece, if_pos h9_1, if_neg h20_4])) ((by simp only [fs_X5_addPiece, if_pos h9_1, if_neg h20_4])) rfl
      · skip
        refine v_iload_n (j := 3) C dX5_addPiece_23 rfl rfl rfl ?_
        refine v_iconst (v := 1) C dX5_addPiece_24 (by decide) rfl ?_
        refine v_bipush (v := 99) C dX5_addPiece_25 (by decide) rfl ?_
        refine v_callS (rest := []) C ksX5_93 (k_X5_in sg o u 1 99) (by decide) rfl rfl (Nat.le_of_ble_eq_true rfl) (by decide) (by decide) dX5_addPiece_27 rfl ?_
        refine v_if_eqB (tgt := 47) C dX5_addPiece_30 (by decide) rfl (fun h30_7 => ?_) (fun h30_7 => ?_)
        · skip
          refine v_iconst (v := 0) C dX5_addPiece_47 (by decide) rfl ?_
          refine v_istore C [(5, .int 0), (0, .ref (xg X 41)), (1, .int p), (2, .int q), (3, .int u), (4, .int v)] dX5_addPiece_48 (by decide) rfl rfl ?_
          refine v_aload_n (j := 1) C dX5_addPiece_50 rfl rfl rfl ?_
          refine v_iload (j := 0) C dX5_addPiece_51 rfl rfl ?_
          refine v_if_ne (tgt := 60) C dX5_addPiece_53 (by decide) rfl (fun h => absurd h (by decide)) (fun _ => ?_)
          refine v_iconst (v := 1) C dX5_addPiece_56 (by decide) rfl ?_
          refine v_goto (pc1 := 74) C dX5_addPiece_57 (by decide) ?_
          refine v_callV (rest := []) (q := (RX5, TX5, 35)) C kvX5_103 (k_X5_fails sg o 1) (by decide) (by decide) rfl rfl rfl rfl rfl (Nat.le_of_ble_eq_true rfl) (by decide) (by decide) dX5_addPiece_74 rfl ?_
          refine v_if_eqB (tgt := 82) C dX5_addPiece_77 (by decide) rfl (fun h => absurd (by decide) h) (fun _ => ?_)
          refine v_iconst (v := 0) C dX5_addPiece_80 (by decide) rfl ?_
          exact v_ret E dX5_addPiece_81 (by decide) (by decide) ((by first | contradiction | simp only [fr_X5_addPiece, if_pos h9_1, if_pos h20_4, if_neg h30_7])) ((by first | contradiction | simp only [fs_X5_addPiece, if_pos h9_1, if_pos h20_4, if_neg h30_7])) rfl
        · skip
          refine v_iload (j := 4) C dX5_addPiece_33 rfl rfl ?_
          refine v_iconst (v := 0) C dX5_addPiece_35 (by decide) rfl ?_
          refine v_iconst (v := 2) C dX5_addPiece_36 (by decide) rfl ?_
          refine v_callS (rest := []) C ksX5_93 (k_X5_in sg o v 0 2) (by decide) rfl rfl (Nat.le_of_ble_eq_true rfl) (by decide) (by decide) dX5_addPiece_37 rfl ?_
          refine v_if_eqB (tgt := 47) C dX5_addPiece_40 (by decide) rfl (fun h40_10 => ?_) (fun h40_10 => ?_)
          · skip
            refine v_iconst (v := 0) C dX5_addPiece_47 (by decide) rfl ?_
            refine v_istore C [(5, .int 0), (0, .ref (xg X 41)), (1, .int p), (2, .int q), (3, .int u), (4, .int v)] dX5_addPiece_48 (by decide) rfl rfl ?_
            refine v_aload_n (j := 1) C dX5_addPiece_50 rfl rfl rfl ?_
            refine v_iload (j := 0) C dX5_addPiece_51 rfl rfl ?_
            refine v_if_ne (tgt := 60) C dX5_addPiece_53 (by decide) rfl (fun h => absurd h (by decide)) (fun _ => ?_)
            refine v_iconst (v := 1) C dX5_addPiece_56 (by decide) rfl ?_
            refine v_goto (pc1 := 74) C dX5_addPiece_57 (by decide) ?_
            refine v_callV (rest := []) (q := (RX5, TX5, 35)) C kvX5_103 (k_X5_fails sg o 1) (by decide) (by decide) rfl rfl rfl rfl rfl (Nat.le_of_ble_eq_true rfl) (by decide) (by decide) dX5_addPiece_74 rfl ?_
            refine v_if_eqB (tgt := 82) C dX5_addPiece_77 (by decide) rfl (fun h => absurd (by decide) h) (fun _ => ?_)
            refine v_iconst (v := 0) C dX5_addPiece_80 (by decide) rfl ?_
            exact v_ret E dX5_addPiece_81 (by decide) (by decide) ((by first | contradiction | simp only [fr_X5_addPiece, if_pos h9_1, if_pos h20_4, if_pos h30_7, if_neg h40_10])) ((by first | contradiction | simp only [fs_X5_addPiece, if_pos h9_1, if_pos h20_4, if_pos h30_7, if_neg h40_10])) rfl
          · skip
            refine v_iconst (v := 1) C dX5_addPiece_43 (by decide) rfl ?_
            refine v_goto (pc1 := 48) C dX5_addPiece_44 (by decide) ?_
            refine v_istore C [(5, .int 1), (0, .ref (xg X 41)), (1, .int p), (2, .int q), (3, .int u), (4, .int v)] dX5_addPiece_48 (by decide) rfl rfl ?_
            refine v_aload_n (j := 1) C dX5_addPiece_50 rfl rfl rfl ?_
            refine v_iload (j := 0) C dX5_addPiece_51 rfl rfl ?_
            refine v_if_ne (tgt := 60) C dX5_addPiece_53 (by decide) rfl (fun _ => ?_) (fun h => absurd h (by decide))
            refine v_aload_n (j := 1) C dX5_addPiece_60 rfl rfl rfl ?_
            refine v_geti (c := 41) C flX5_97 (by decide) rfl rfl dX5_addPiece_61 rfl ?_
            refine v_bipush (v := 6) C dX5_addPiece_64 (by decide) rfl ?_
            refine v_icmp_ne (tgt := 73) C dX5_addPiece_66 (by decide) rfl (fun h66_14 => ?_) (fun h66_14 => ?_)
            · skip
              refine v_iconst (v := 0) C dX5_addPiece_73 (by decide) rfl ?_
              refine v_callV (rest := []) (q := (RX5, TX5, 35)) C kvX5_103 (k_X5_fails sg o 0) (by decide) (by decide) rfl rfl rfl rfl rfl (Nat.le_of_ble_eq_true rfl) (by decide) (by decide) dX5_addPiece_74 rfl ?_
              refine v_if_eqB (tgt := 82) C dX5_addPiece_77 (by decide) rfl (fun _ => ?_) (fun h => absurd h (by decide))
              refine v_aload_n (j := 1) C dX5_addPiece_82 rfl rfl rfl ?_
              refine v_getr (c := 41) C 44 flX5_16 (by decide) rfl rfl dX5_addPiece_83 rfl ?_
              refine v_aload_n (j := 1) C dX5_addPiece_86 rfl rfl rfl ?_
              refine v_geti (c := 41) C flX5_97 (by decide) rfl rfl dX5_addPiece_87 rfl ?_
              refine v_rwi (y := sg 41 3) ((up_ne _ _ (Or.inr (by decide))).trans rfl) ?_
              refine v_iload_n (j := 2) C dX5_addPiece_90 rfl rfl rfl ?_
              refine v_iast (c := 44) C (hM.nc.lt (by decide) (by assumption)) (by decide) rfl dX5_addPiece_91 rfl ?_
              refine v_aload_n (j := 1) C dX5_addPiece_92 rfl rfl rfl ?_
              refine v_getr (c := 41) C 45 flX5_19 (by decide) rfl rfl dX5_addPiece_93 rfl ?_
              refine v_aload_n (j := 1) C dX5_addPiece_96 rfl rfl rfl ?_
              refine v_geti (c := 41) C flX5_97 (by decide) rfl rfl dX5_addPiece_97 rfl ?_
              refine v_rwi (y := sg 41 3) ((up_ne _ _ (Or.inl (by decide))).trans ((up_ne _ _ (Or.inr (by decide))).trans rfl)) ?_
              refine v_iload_n (j := 3) C dX5_addPiece_100 rfl rfl rfl ?_
              refine v_iast (c := 45) C (hM.nc.lt (by decide) (by assumption)) (by decide) rfl dX5_addPiece_101 rfl ?_
              refine v_aload_n (j := 1) C dX5_addPiece_102 rfl rfl rfl ?_
              refine v_getr (c := 41) C 46 flX5_22 (by decide) rfl rfl dX5_addPiece_103 rfl ?_
              refine v_aload_n (j := 1) C dX5_addPiece_106 rfl rfl rfl ?_
              refine v_geti (c := 41) C flX5_97 (by decide) rfl rfl dX5_addPiece_107 rfl ?_
              refine v_rwi (y := sg 41 3) ((up_ne _ _ (Or.inl (by decide))).trans ((up_ne _ _ (Or.inl (by decide))).trans ((up_ne _ _ (Or.inr (by decide))).trans rfl))) ?_
              refine v_iload_n (j := 4) C dX5_addPiece_110 rfl rfl rfl ?_
              refine v_iast (c := 46) C (hM.nc.lt (by decide) (by assumption)) (by decide) rfl dX5_addPiece_111 rfl ?_
              refine v_aload_n (j := 1) C dX5_addPiece_112 rfl rfl rfl ?_
              refine v_getr (c := 41) C 47 flX5_25 (by decide) rfl rfl dX5_addPiece_113 rfl ?_
              refine v_aload_n (j := 1) C dX5_addPiece_116 rfl rfl rfl ?_
              refine v_geti (c := 41) C flX5_97 (by decide) rfl rfl dX5_addPiece_117 rfl ?_
              refine v_rwi (y := sg 41 3) ((up_ne _ _ (Or.inl (by decide))).trans ((up_ne _ _ (Or.inl (by decide))).trans ((up_ne _ _ (Or.inl (by decide))).trans ((up_ne _ _ (Or.inr (by decide))).trans rfl)))) ?_
              refine v_iload (j := 5) C dX5_addPiece_120 rfl rfl ?_
              refine v_iast (c := 47) C (hM.nc.lt (by decide) (by assumption)) (by decide) rfl dX5_addPiece_122 rfl ?_
              refine v_aload_n (j := 1) C dX5_addPiece_123 rfl rfl rfl ?_
              refine v_dup C dX5_addPiece_124 rfl rfl ?_
              refine v_geti (c := 41) C flX5_97 (by decide) rfl rfl dX5_addPiece_125 rfl ?_
              refine v_rwi (y := sg 41 3) ((up_ne _ _ (Or.inl (by decide))).trans ((up_ne _ _ (Or.inl (by decide))).trans ((up_ne _ _ (Or.inl (by decide))).trans ((up_ne _ _ (Or.inl (by decide))).trans ((up_ne _ _ (Or.inr (by decide))).trans rfl))))) ?_
              refine v_iconst (v := 1) C dX5_addPiece_128 (by decide) rfl ?_
              refine v_iadd C dX5_addPiece_129 rfl ?_
              refine v_puti (c := 41) C fpX5_97 (by decide) rfl rfl dX5_addPiece_130 rfl ?_
              refine v_aload_n (j := 1) C dX5_addPiece_133 rfl rfl rfl ?_
              refine v_geti (c := 41) C flX5_97 (by decide) rfl rfl dX5_addPiece_134 rfl ?_
              refine v_rwi (y := ((sg 41 3) + 1)) up_at ?_
              refine v_iconst (v := 1) C dX5_addPiece_137 (by decide) rfl ?_
              refine v_isub C dX5_addPiece_138 rfl ?_
              exact v_ret E dX5_addPiece_139 (by decide) (by decide) ((by first | contradiction | simp only [fr_X5_addPiece, if_pos h9_1, if_pos h20_4, if_pos h30_7, if_pos h40_10, if_neg h66_14])) ((by first | contradiction | simp only [fs_X5_addPiece, if_pos h9_1, if_pos h20_4, if_pos h30_7, if_pos h40_10, if_neg h66_14])) rfl
            · skip
              refine v_iconst (v := 2) C dX5_addPiece_69 (by decide) rfl ?_
              refine v_goto (pc1 := 74) C dX5_addPiece_70 (by decide) ?_
              refine v_callV (rest := []) (q := (RX5, TX5, 35)) C kvX5_103 (k_X5_fails sg o 2) (by decide) (by decide) rfl rfl rfl rfl rfl (Nat.le_of_ble_eq_true rfl) (by decide) (by decide) dX5_addPiece_74 rfl ?_
              refine v_if_eqB (tgt := 82) C dX5_addPiece_77 (by decide) rfl (fun h => absurd (by decide) h) (fun _ => ?_)
              refine v_iconst (v := 0) C dX5_addPiece_80 (by decide) rfl ?_
              exact v_ret E dX5_addPiece_81 (by decide) (by decide) ((by first | contradiction | simp only [fr_X5_addPiece, if_pos h9_1, if_pos h20_4, if_pos h30_7, if_pos h40_10, if_pos h66_14])) ((by first | contradiction | simp only [fs_X5_addPiece, if_pos h9_1, if_pos h20_4, if_pos h30_7, if_pos h40_10, if_pos h66_14])) rfl
def fr_X5_addTown (sg : Sg) (p : Int32) (q : Int32) (u : Int32) (v : Int32) : Int32 := (if ¬ p < 10 ∧ ¬ 100 < p then (if ¬ q < 30 ∧ ¬ 480 < q then (if ¬ u < 5 ∧ ¬ 120 < u then (if ¬ v < 60 ∧ ¬ 1440 < v then (if (sg 41 15) = 4 then 0 else ((((sg 41 15) + 1)) - 1)) else 0) else 0) else 0) else 0)
def fs_X5_addTown (sg : Sg) (p : Int32) (q : Int32) (u : Int32) (v : Int32) : Sg := (if ¬ p < 10 ∧ ¬ 100 < p then (if ¬ q < 30 ∧ ¬ 480 < q then (if ¬ u < 5 ∧ ¬ 120 < u then (if ¬ v < 60 ∧ ¬ 1440 < v then (if (sg 41 15) = 4 then (up sg 41 34 2) else (up (up (up (up (up (up sg 41 34 0) 55 (ix (sg 41 15)) p) 56 (ix (sg 41 15)) q) 57 (ix (sg 41 15)) u) 58 (ix (sg 41 15)) v) 41 15 ((sg 41 15) + 1))) else (up sg 41 34 1)) else (up sg 41 34 1)) else (up sg 41 34 1)) else (up sg 41 34 1))
set_option maxHeartbeats 4000000 in
set_option maxRecDepth 20000 in
theorem k_X5_addTown {l : Launch} {D : va_G} {K : Nat → ClassId} {g : Nat → Nat} (sg : Sg) (o : Ot) (p : Int32) (q : Int32) (u : Int32) (v : Int32) (hM : MI sg) : CN l yX5_addTown cX5_addTown 6 (some .int) 3 D K g [.ref (g 41), .int p, .int q, .int u, .int v] sg o (some (.int (fr_X5_addTown sg p q u v))) (fs_X5_addTown sg p q u v) o :=
  mk_i (own := RX5) (av := fun g => [.ref (g 41), .int p, .int q, .int u, .int v]) (lo := fun g => [(0, .ref (g 41)), (1, .int p), (2, .int q), (3, .int u), (4, .int v)]) (by decide) rfl rfl (fun _ => Nat.le_of_ble_eq_true rfl) (fun _ => rfl) fun X C E => by
    refine v_iload_n (j := 1) C dX5_addTown_0 rfl rfl rfl ?_
    refine v_bipush (v := 10) C dX5_addTown_1 (by decide) rfl ?_
    refine v_bipush (v := 100) C dX5_addTown_3 (by decide) rfl ?_
    refine v_callS (rest := []) C ksX5_93 (k_X5_in sg o p 10 100) (by decide) rfl rfl (Nat.le_of_ble_eq_true rfl) (by decide) (by decide) dX5_addTown_5 rfl ?_
    refine v_if_eqB (tgt := 50) C dX5_addTown_8 (by decide) rfl (fun h8_1 => ?_) (fun h8_1 => ?_)
    · skip
      refine v_iconst (v := 0) C dX5_addTown_50 (by decide) rfl ?_
      refine v_istore C [(5, .int 0), (0, .ref (xg X 41)), (1, .int p), (2, .int q), (3, .int u), (4, .int v)] dX5_addTown_51 (by decide) rfl rfl ?_
      refine v_aload_n (j := 1) C dX5_addTown_53 rfl rfl rfl ?_
      refine v_iload (j := 0) C dX5_addTown_54 rfl rfl ?_
      refine v_if_ne (tgt := 63) C dX5_addTown_56 (by decide) rfl (fun h => absurd h (by decide)) (fun _ => ?_)
      refine v_iconst (v := 1) C dX5_addTown_59 (by decide) rfl ?_
      refine v_goto (pc1 := 76) C dX5_addTown_60 (by decide) ?_
      refine v_callV (rest := []) (q := (RX5, TX5, 35)) C kvX5_103 (k_X5_fails sg o 1) (by decide) (by decide) rfl rfl rfl rfl rfl (Nat.le_of_ble_eq_true rfl) (by decide) (by decide) dX5_addTown_76 rfl ?_
      refine v_if_eqB (tgt := 84) C dX5_addTown_79 (by decide) rfl (fun h => absurd (by decide) h) (fun _ => ?_)
      refine v_iconst (v := 0) C dX5_addTown_82 (by decide) rfl ?_
      exact v_ret E dX5_addTown_83 (by decide) (by decide) ((by simp only [fr_X5_addTown, if_neg h8_1])) ((by simp only [fs_X5_addTown, if_neg h8_1])) rfl
    · skip
      refine v_iload_n (j := 2) C dX5_addTown_11 rfl rfl rfl ?_
      refine v_bipush (v := 30) C dX5_addTown_12 (by decide) rfl ?_
      refine v_sipush (v := 480) C dX5_addTown_14 (by decide) rfl ?_
      refine v_callS (rest := []) C ksX5_93 (k_X5_in sg o q 30 480) (by decide) rfl rfl (Nat.le_of_ble_eq_true rfl) (by decide) (by decide) dX5_addTown_17 rfl ?_
      refine v_if_eqB (tgt := 50) C dX5_addTown_20 (by decide) rfl (fun h20_4 => ?_) (fun h20_4 => ?_)
      · skip
        refine v_iconst (v := 0) C dX5_addTown_50 (by decide) rfl ?_
        refine v_istore C [(5, .int 0), (0, .ref (xg X 41)), (1, .int p), (2, .int q), (3, .int u), (4, .int v)] dX5_addTown_51 (by decide) rfl rfl ?_
        refine v_aload_n (j := 1) C dX5_addTown_53 rfl rfl rfl ?_
        refine v_iload (j := 0) C dX5_addTown_54 rfl rfl ?_
        refine v_if_ne (tgt := 63) C dX5_addTown_56 (by decide) rfl (fun h => absurd h (by decide)) (fun _ => ?_)
        refine v_iconst (v := 1) C dX5_addTown_59 (by decide) rfl ?_
        refine v_goto (pc1 := 76) C dX5_addTown_60 (by decide) ?_
        refine v_callV (rest := []) (q := (RX5, TX5, 35)) C kvX5_103 (k_X5_fails sg o 1) (by decide) (by decide) rfl rfl rfl rfl rfl (Nat.le_of_ble_eq_true rfl) (by decide) (by decide) dX5_addTown_76 rfl ?_
        refine v_if_eqB (tgt := 84) C dX5_addTown_79 (by decide) rfl (fun h => absurd (by decide) h) (fun _ => ?_)
        refine v_iconst (v := 0) C dX5_addTown_82 (by decide) rfl ?_
        exact v_ret E dX5_addTown_83 (by decide) (by decide) ((by simp only [fr_X5_addTown, if_pos h8_1, if_neg h20_4])) ((by simp only [fs_X5_addTown, if_pos h8_1, if_neg h20_4])) rfl
      · skip
        refine v_iload_n (j := 3) C dX5_addTown_23 rfl rfl rfl ?_
        refine v_iconst (v := 5) C dX5_addTown_24 (by decide) rfl ?_
        refine v_bipush (v := 120) C dX5_addTown_25 (by decide) rfl ?_
        refine v_callS (rest := []) C ksX5_93 (k_X5_in sg o u 5 120) (by decide) rfl rfl (Nat.le_of_ble_eq_true rfl) (by decide) (by decide) dX5_addTown_27 rfl ?_
        refine v_if_eqB (tgt := 50) C dX5_addTown_30 (by decide) rfl (fun h30_7 => ?_) (fun h30_7 => ?_)
        · skip
          refine v_iconst (v := 0) C dX5_addTown_50 (by decide) rfl ?_
          refine v_istore C [(5, .int 0), (0, .ref (xg X 41)), (1, .int p), (2, .int q), (3, .int u), (4, .int v)] dX5_addTown_51 (by decide) rfl rfl ?_
          refine v_aload_n (j := 1) C dX5_addTown_53 rfl rfl rfl ?_
          refine v_iload (j := 0) C dX5_addTown_54 rfl rfl ?_
          refine v_if_ne (tgt := 63) C dX5_addTown_56 (by decide) rfl (fun h => absurd h (by decide)) (fun _ => ?_)
          refine v_iconst (v := 1) C dX5_addTown_59 (by decide) rfl ?_
          refine v_goto (pc1 := 76) C dX5_addTown_60 (by decide) ?_
          refine v_callV (rest := []) (q := (RX5, TX5, 35)) C kvX5_103 (k_X5_fails sg o 1) (by decide) (by decide) rfl rfl rfl rfl rfl (Nat.le_of_ble_eq_true rfl) (by decide) (by decide) dX5_addTown_76 rfl ?_
          refine v_if_eqB (tgt := 84) C dX5_addTown_79 (by decide) rfl (fun h => absurd (by decide) h) (fun _ => ?_)
          refine v_iconst (v := 0) C dX5_addTown_82 (by decide) rfl ?_
          exact v_ret E dX5_addTown_83 (by decide) (by decide) ((by first | contradiction | simp only [fr_X5_addTown, if_pos h8_1, if_pos h20_4, if_neg h30_7])) ((by first | contradiction | simp only [fs_X5_addTown, if_pos h8_1, if_pos h20_4, if_neg h30_7])) rfl
        · skip
          refine v_iload (j := 4) C dX5_addTown_33 rfl rfl ?_
          refine v_bipush (v := 60) C dX5_addTown_35 (by decide) rfl ?_
          refine v_sipush (v := 1440) C dX5_addTown_37 (by decide) rfl ?_
          refine v_callS (rest := []) C ksX5_93 (k_X5_in sg o v 60 1440) (by decide) rfl rfl (Nat.le_of_ble_eq_true rfl) (by decide) (by decide) dX5_addTown_40 rfl ?_
          refine v_if_eqB (tgt := 50) C dX5_addTown_43 (by decide) rfl (fun h43_10 => ?_) (fun h43_10 => ?_)
          · skip
            refine v_iconst (v := 0) C dX5_addTown_50 (by decide) rfl ?_
            refine v_istore C [(5, .int 0), (0, .ref (xg X 41)), (1, .int p), (2, .int q), (3, .int u), (4, .int v)] dX5_addTown_51 (by decide) rfl rfl ?_
            refine v_aload_n (j := 1) C dX5_addTown_53 rfl rfl rfl ?_
            refine v_iload (j := 0) C dX5_addTown_54 rfl rfl ?_
            refine v_if_ne (tgt := 63) C dX5_addTown_56 (by decide) rfl (fun h => absurd h (by decide)) (fun _ => ?_)
            refine v_iconst (v := 1) C dX5_addTown_59 (by decide) rfl ?_
            refine v_goto (pc1 := 76) C dX5_addTown_60 (by decide) ?_
            refine v_callV (rest := []) (q := (RX5, TX5, 35)) C kvX5_103 (k_X5_fails sg o 1) (by decide) (by decide) rfl rfl rfl rfl rfl (Nat.le_of_ble_eq_true rfl) (by decide) (by decide) dX5_addTown_76 rfl ?_
            refine v_if_eqB (tgt := 84) C dX5_addTown_79 (by decide) rfl (fun h => absurd (by decide) h) (fun _ => ?_)
            refine v_iconst (v := 0) C dX5_addTown_82 (by decide) rfl ?_
            exact v_ret E dX5_addTown_83 (by decide) (by decide) ((by first | contradiction | simp only [fr_X5_addTown, if_pos h8_1, if_pos h20_4, if_pos h30_7, if_neg h43_10])) ((by first | contradiction | simp only [fs_X5_addTown, if_pos h8_1, if_pos h20_4, if_pos h30_7, if_neg h43_10])) rfl
          · skip
            refine v_iconst (v := 1) C dX5_addTown_46 (by decide) rfl ?_
            refine v_goto (pc1 := 51) C dX5_addTown_47 (by decide) ?_
            refine v_istore C [(5, .int 1), (0, .ref (xg X 41)), (1, .int p), (2, .int q), (3, .int u), (4, .int v)] dX5_addTown_51 (by decide) rfl rfl ?_
            refine v_aload_n (j := 1) C dX5_addTown_53 rfl rfl rfl ?_
            refine v_iload (j := 0) C dX5_addTown_54 rfl rfl ?_
            refine v_if_ne (tgt := 63) C dX5_addTown_56 (by decide) rfl (fun _ => ?_) (fun h => absurd h (by decide))
            refine v_aload_n (j := 1) C dX5_addTown_63 rfl rfl rfl ?_
            refine v_geti (c := 41) C flX5_131 (by decide) rfl rfl dX5_addTown_64 rfl ?_
            refine v_iconst (v := 4) C dX5_addTown_67 (by decide) rfl ?_
            refine v_icmp_ne (tgt := 75) C dX5_addTown_68 (by decide) rfl (fun h68_14 => ?_) (fun h68_14 => ?_)
            · skip
              refine v_iconst (v := 0) C dX5_addTown_75 (by decide) rfl ?_
              refine v_callV (rest := []) (q := (RX5, TX5, 35)) C kvX5_103 (k_X5_fails sg o 0) (by decide) (by decide) rfl rfl rfl rfl rfl (Nat.le_of_ble_eq_true rfl) (by decide) (by decide) dX5_addTown_76 rfl ?_
              refine v_if_eqB (tgt := 84) C dX5_addTown_79 (by decide) rfl (fun _ => ?_) (fun h => absurd h (by decide))
              refine v_aload_n (j := 1) C dX5_addTown_84 rfl rfl rfl ?_
              refine v_getr (c := 41) C 55 flX5_50 (by decide) rfl rfl dX5_addTown_85 rfl ?_
              refine v_aload_n (j := 1) C dX5_addTown_88 rfl rfl rfl ?_
              refine v_geti (c := 41) C flX5_131 (by decide) rfl rfl dX5_addTown_89 rfl ?_
              refine v_rwi (y := sg 41 15) ((up_ne _ _ (Or.inr (by decide))).trans rfl) ?_
              refine v_iload_n (j := 2) C dX5_addTown_92 rfl rfl rfl ?_
              refine v_iast (c := 55) C (hM.nt.lt (by decide) (by assumption)) (by decide) rfl dX5_addTown_93 rfl ?_
              refine v_aload_n (j := 1) C dX5_addTown_94 rfl rfl rfl ?_
              refine v_getr (c := 41) C 56 flX5_53 (by decide) rfl rfl dX5_addTown_95 rfl ?_
              refine v_aload_n (j := 1) C dX5_addTown_98 rfl rfl rfl ?_
              refine v_geti (c := 41) C flX5_131 (by decide) rfl rfl dX5_addTown_99 rfl ?_
              refine v_rwi (y := sg 41 15) ((up_ne _ _ (Or.inl (by decide))).trans ((up_ne _ _ (Or.inr (by decide))).trans rfl)) ?_
              refine v_iload_n (j := 3) C dX5_addTown_102 rfl rfl rfl ?_
              refine v_iast (c := 56) C (hM.nt.lt (by decide) (by assumption)) (by decide) rfl dX5_addTown_103 rfl ?_
              refine v_aload_n (j := 1) C dX5_addTown_104 rfl rfl rfl ?_
              refine v_getr (c := 41) C 57 flX5_56 (by decide) rfl rfl dX5_addTown_105 rfl ?_
              refine v_aload_n (j := 1) C dX5_addTown_108 rfl rfl rfl ?_
              refine v_geti (c := 41) C flX5_131 (by decide) rfl rfl dX5_addTown_109 rfl ?_
              refine v_rwi (y := sg 41 15) ((up_ne _ _ (Or.inl (by decide))).trans ((up_ne _ _ (Or.inl (by decide))).trans ((up_ne _ _ (Or.inr (by decide))).trans rfl))) ?_
              refine v_iload_n (j := 4) C dX5_addTown_112 rfl rfl rfl ?_
              refine v_iast (c := 57) C (hM.nt.lt (by decide) (by assumption)) (by decide) rfl dX5_addTown_113 rfl ?_
              refine v_aload_n (j := 1) C dX5_addTown_114 rfl rfl rfl ?_
              refine v_getr (c := 41) C 58 flX5_59 (by decide) rfl rfl dX5_addTown_115 rfl ?_
              refine v_aload_n (j := 1) C dX5_addTown_118 rfl rfl rfl ?_
              refine v_geti (c := 41) C flX5_131 (by decide) rfl rfl dX5_addTown_119 rfl ?_
              refine v_rwi (y := sg 41 15) ((up_ne _ _ (Or.inl (by decide))).trans ((up_ne _ _ (Or.inl (by decide))).trans ((up_ne _ _ (Or.inl (by decide))).trans ((up_ne _ _ (Or.inr (by decide))).trans rfl)))) ?_
              refine v_iload (j := 5) C dX5_addTown_122 rfl rfl ?_
              refine v_iast (c := 58) C (hM.nt.lt (by decide) (by assumption)) (by decide) rfl dX5_addTown_124 rfl ?_
              refine v_aload_n (j := 1) C dX5_addTown_125 rfl rfl rfl ?_
              refine v_dup C dX5_addTown_126 rfl rfl ?_
              refine v_geti (c := 41) C flX5_131 (by decide) rfl rfl dX5_addTown_127 rfl ?_
              refine v_rwi (y := sg 41 15) ((up_ne _ _ (Or.inl (by decide))).trans ((up_ne _ _ (Or.inl (by decide))).trans ((up_ne _ _ (Or.inl (by decide))).trans ((up_ne _ _ (Or.inl (by decide))).trans ((up_ne _ _ (Or.inr (by decide))).trans rfl))))) ?_
              refine v_iconst (v := 1) C dX5_addTown_130 (by decide) rfl ?_
              refine v_iadd C dX5_addTown_131 rfl ?_
              refine v_puti (c := 41) C fpX5_131 (by decide) rfl rfl dX5_addTown_132 rfl ?_
              refine v_aload_n (j := 1) C dX5_addTown_135 rfl rfl rfl ?_
              refine v_geti (c := 41) C flX5_131 (by decide) rfl rfl dX5_addTown_136 rfl ?_
              refine v_rwi (y := ((sg 41 15) + 1)) up_at ?_
              refine v_iconst (v := 1) C dX5_addTown_139 (by decide) rfl ?_
              refine v_isub C dX5_addTown_140 rfl ?_
              exact v_ret E dX5_addTown_141 (by decide) (by decide) ((by first | contradiction | simp only [fr_X5_addTown, if_pos h8_1, if_pos h20_4, if_pos h30_7, if_pos h43_10, if_neg h68_14])) ((by first | contradiction | simp only [fs_X5_addTown, if_pos h8_1, if_pos h20_4, if_pos h30_7, if_pos h43_10, if_neg h68_14])) rfl
            · skip
              refine v_iconst (v := 2) C dX5_addTown_71 (by decide) rfl ?_
              refine v_goto (pc1 := 76) C dX5_addTown_72 (by decide) ?_
              refine v_callV (rest := []) (q := (RX5, TX5, 35)) C kvX5_103 (k_X5_fails sg o 2) (by decide) (by decide) rfl rfl rfl rfl rfl (Nat.le_of_ble_eq_true rfl) (by decide) (by decide) dX5_addTown_76 rfl ?_
              refine v_if_eqB (tgt := 84) C dX5_addTown_79 (by decide) rfl (fun h => absurd (by decide) h) (fun _ => ?_)
              refine v_iconst (v := 0) C dX5_addTown_82 (by decide) rfl ?_
              exact v_ret E dX5_addTown_83 (by decide) (by decide) ((by first | contradiction | simp only [fr_X5_addTown, if_pos h8_1, if_pos h20_4, if_pos h30_7, if_pos h43_10, if_pos h68_14])) ((by first | contradiction | simp only [fs_X5_addTown, if_pos h8_1, if_pos h20_4, if_pos h30_7, if_pos h43_10, if_pos h68_14])) rfl
def fr_X5_setRates (sg : Sg) (p : Int32) (q : Int32) (u : Int32) (v : Int32) : Int32 := (if ¬ (¬ p < 0 ∧ ¬ sg 41 15 - 1 < p) then 0 else (if ¬ q < 0 ∧ ¬ 99 < q then (if ¬ u < 0 ∧ ¬ 1440 < u then (if ¬ v < 0 ∧ ¬ 99 < v then (sg 59 (ix p)) else 0) else 0) else 0))
def fs_X5_setRates (sg : Sg) (p : Int32) (q : Int32) (u : Int32) (v : Int32) : Sg := (if ¬ (¬ p < 0 ∧ ¬ sg 41 15 - 1 < p) then (up sg 41 34 1) else (if ¬ q < 0 ∧ ¬ 99 < q then (if ¬ u < 0 ∧ ¬ 1440 < u then (if ¬ v < 0 ∧ ¬ 99 < v then (up (up (up (up sg 41 34 0) 59 (ix p) q) 60 (ix p) u) 61 (ix p) v) else (up sg 41 34 2)) else (up sg 41 34 2)) else (up sg 41 34 2)))
set_option maxHeartbeats 4000000 in
set_option maxRecDepth 20000 in
theorem k_X5_setRates {l : Launch} {D : va_G} {K : Nat → ClassId} {g : Nat → Nat} (sg : Sg) (o : Ot) (p : Int32) (q : Int32) (u : Int32) (v : Int32) (hM : MI sg) : CN l yX5_setRates cX5_setRates 6 (some .int) 3 D K g [.ref (g 41), .int p, .int q, .int u, .int v] sg o (some (.int (fr_X5_setRates sg p q u v))) (fs_X5_setRates sg p q u v) o :=
  mk_i (own := RX5) (av := fun g => [.ref (g 41), .int p, .int q, .int u, .int v]) (lo := fun g => [(0, .ref (g 41)), (1, .int p), (2, .int q), (3, .int u), (4, .int v)]) (by decide) rfl rfl (fun _ => Nat.le_of_ble_eq_true rfl) (fun _ => rfl) fun X C E => by
    refine v_aload_n (j := 0) C dX5_setRates_0 rfl rfl rfl ?_
    refine v_aload_n (j := 0) C dX5_setRates_1 rfl rfl rfl ?_
    refine v_iload_n (j := 1) C dX5_setRates_2 rfl rfl rfl ?_
    refine v_callV (rest := [.ref (xg X 41)]) (q := (RX5, TX5, 35)) C kvX5_134 (k_X5_isNoTown sg o p) (by decide) (by decide) rfl rfl rfl rfl rfl (Nat.le_of_ble_eq_true rfl) (by decide) (by decide) dX5_setRates_3 rfl ?_
    refine v_if_eqB (tgt := 13) C dX5_setRates_6 (by decide) rfl (fun h6_1 => ?_) (fun h6_1 => ?_)
    · skip
      refine v_iload_n (j := 2) C dX5_setRates_13 rfl rfl rfl ?_
      refine v_iconst (v := 0) C dX5_setRates_14 (by decide) rfl ?_
      refine v_bipush (v := 99) C dX5_setRates_15 (by decide) rfl ?_
      refine v_callS (rest := [.ref (xg X 41)]) C ksX5_93 (k_X5_in sg o q 0 99) (by decide) rfl rfl (Nat.le_of_ble_eq_true rfl) (by decide) (by decide) dX5_setRates_17 rfl ?_
      refine v_if_eqB (tgt := 49) C dX5_setRates_20 (by decide) rfl (fun h20_2 => ?_) (fun h20_2 => ?_)
      · skip
        refine v_iconst (v := 2) C dX5_setRates_49 (by decide) rfl ?_
        refine v_callV (rest := []) (q := (RX5, TX5, 35)) C kvX5_103 (k_X5_fails sg o 2) (by decide) (by decide) rfl rfl rfl rfl rfl (Nat.le_of_ble_eq_true rfl) (by decide) (by decide) dX5_setRates_50 rfl ?_
        refine v_if_eqB (tgt := 58) C dX5_setRates_53 (by decide) rfl (fun h => absurd (by decide) h) (fun _ => ?_)
        refine v_iconst (v := 0) C dX5_setRates_56 (by decide) rfl ?_
        exact v_ret E dX5_setRates_57 (by decide) (by decide) ((by simp only [fr_X5_setRates, if_neg h6_1, if_neg h20_2])) ((by simp only [fs_X5_setRates, if_neg h6_1, if_neg h20_2])) rfl
      · skip
        refine v_iload_n (j := 3) C dX5_setRates_23 rfl rfl rfl ?_
        refine v_iconst (v := 0) C dX5_setRates_24 (by decide) rfl ?_
        refine v_sipush (v := 1440) C dX5_setRates_25 (by decide) rfl ?_
        refine v_callS (rest := [.ref (xg X 41)]) C ksX5_93 (k_X5_in sg o u 0 1440) (by decide) rfl rfl (Nat.le_of_ble_eq_true rfl) (by decide) (by decide) dX5_setRates_28 rfl ?_
        refine v_if_eqB (tgt := 49) C dX5_setRates_31 (by decide) rfl (fun h31_4 => ?_) (fun h31_4 => ?_)
        · skip
          refine v_iconst (v := 2) C dX5_setRates_49 (by decide) rfl ?_
          refine v_callV (rest := []) (q := (RX5, TX5, 35)) C kvX5_103 (k_X5_fails sg o 2) (by decide) (by decide) rfl rfl rfl rfl rfl (Nat.le_of_ble_eq_true rfl) (by decide) (by decide) dX5_setRates_50 rfl ?_
          refine v_if_eqB (tgt := 58) C dX5_setRates_53 (by decide) rfl (fun h => absurd (by decide) h) (fun _ => ?_)
          refine v_iconst (v := 0) C dX5_setRates_56 (by decide) rfl ?_
          exact v_ret E dX5_setRates_57 (by decide) (by decide) ((by first | contradiction | simp only [fr_X5_setRates, if_neg h6_1, if_pos h20_2, if_neg h31_4])) ((by first | contradiction | simp only [fs_X5_setRates, if_neg h6_1, if_pos h20_2, if_neg h31_4])) rfl
        · skip
          refine v_iload (j := 4) C dX5_setRates_34 rfl rfl ?_
          refine v_iconst (v := 0) C dX5_setRates_36 (by decide) rfl ?_
          refine v_bipush (v := 99) C dX5_setRates_37 (by decide) rfl ?_
          refine v_callS (rest := [.ref (xg X 41)]) C ksX5_93 (k_X5_in sg o v 0 99) (by decide) rfl rfl (Nat.le_of_ble_eq_true rfl) (by decide) (by decide) dX5_setRates_39 rfl ?_
          refine v_if_eqB (tgt := 49) C dX5_setRates_42 (by decide) rfl (fun h42_6 => ?_) (fun h42_6 => ?_)
          · skip
            refine v_iconst (v := 2) C dX5_setRates_49 (by decide) rfl ?_
            refine v_callV (rest := []) (q := (RX5, TX5, 35)) C kvX5_103 (k_X5_fails sg o 2) (by decide) (by decide) rfl rfl rfl rfl rfl (Nat.le_of_ble_eq_true rfl) (by decide) (by decide) dX5_setRates_50 rfl ?_
            refine v_if_eqB (tgt := 58) C dX5_setRates_53 (by decide) rfl (fun h => absurd (by decide) h) (fun _ => ?_)
            refine v_iconst (v := 0) C dX5_setRates_56 (by decide) rfl ?_
            exact v_ret E dX5_setRates_57 (by decide) (by decide) ((by first | contradiction | simp only [fr_X5_setRates, if_neg h6_1, if_pos h20_2, if_pos h31_4, if_neg h42_6])) ((by first | contradiction | simp only [fs_X5_setRates, if_neg h6_1, if_pos h20_2, if_pos h31_4, if_neg h42_6])) rfl
          · skip
            refine v_iconst (v := 0) C dX5_setRates_45 (by decide) rfl ?_
            refine v_goto (pc1 := 50) C dX5_setRates_46 (by decide) ?_
            refine v_callV (rest := []) (q := (RX5, TX5, 35)) C kvX5_103 (k_X5_fails sg o 0) (by decide) (by decide) rfl rfl rfl rfl rfl (Nat.le_of_ble_eq_true rfl) (by decide) (by decide) dX5_setRates_50 rfl ?_
            refine v_if_eqB (tgt := 58) C dX5_setRates_53 (by decide) rfl (fun _ => ?_) (fun h => absurd h (by decide))
            refine v_aload_n (j := 0) C dX5_setRates_58 rfl rfl rfl ?_
            refine v_getr (c := 41) C 59 flX5_62 (by decide) rfl rfl dX5_setRates_59 rfl ?_
            refine v_iload_n (j := 1) C dX5_setRates_62 rfl rfl rfl ?_
            refine v_iald (c := 59) C (hM.nt.inn (by assumption)) (by decide) rfl dX5_setRates_63 rfl ?_
            refine v_rwi (y := sg 59 (ix p)) ((up_ne _ _ (Or.inl (by decide))).trans rfl) ?_
            refine v_istore C [(5, .int (sg 59 (ix p))), (0, .ref (xg X 41)), (1, .int p), (2, .int q), (3, .int u), (4, .int v)] dX5_setRates_64 (by decide) rfl rfl ?_
            refine v_aload_n (j := 1) C dX5_setRates_66 rfl rfl rfl ?_
            refine v_getr (c := 41) C 59 flX5_62 (by decide) rfl rfl dX5_setRates_67 rfl ?_
            refine v_iload_n (j := 2) C dX5_setRates_70 rfl rfl rfl ?_
            refine v_iload_n (j := 3) C dX5_setRates_71 rfl rfl rfl ?_
            refine v_iast (c := 59) C (hM.nt.inn (by assumption)) (by decide) rfl dX5_setRates_72 rfl ?_
            refine v_aload_n (j := 1) C dX5_setRates_73 rfl rfl rfl ?_
            refine v_getr (c := 41) C 60 flX5_65 (by decide) rfl rfl dX5_setRates_74 rfl ?_
            refine v_iload_n (j := 2) C dX5_setRates_77 rfl rfl rfl ?_
            refine v_iload_n (j := 4) C dX5_setRates_78 rfl rfl rfl ?_
            refine v_iast (c := 60) C (hM.nt.inn (by assumption)) (by decide) rfl dX5_setRates_79 rfl ?_
            refine v_aload_n (j := 1) C dX5_setRates_80 rfl rfl rfl ?_
            refine v_getr (c := 41) C 61 flX5_68 (by decide) rfl rfl dX5_setRates_81 rfl ?_
            refine v_iload_n (j := 2) C dX5_setRates_84 rfl rfl rfl ?_
            refine v_iload (j := 5) C dX5_setRates_85 rfl rfl ?_
            refine v_iast (c := 61) C (hM.nt.inn (by assumption)) (by decide) rfl dX5_setRates_87 rfl ?_
            refine v_iload (j := 0) C dX5_setRates_88 rfl rfl ?_
            exact v_ret E dX5_setRates_90 (by decide) (by decide) ((by first | contradiction | simp only [fr_X5_setRates, if_neg h6_1, if_pos h20_2, if_pos h31_4, if_pos h42_6])) ((by first | contradiction | simp only [fs_X5_setRates, if_neg h6_1, if_pos h20_2, if_pos h31_4, if_pos h42_6])) rfl
    · skip
      refine v_iconst (v := 1) C dX5_setRates_9 (by decide) rfl ?_
      refine v_goto (pc1 := 50) C dX5_setRates_10 (by decide) ?_
      refine v_callV (rest := []) (q := (RX5, TX5, 35)) C kvX5_103 (k_X5_fails sg o 1) (by decide) (by decide) rfl rfl rfl rfl rfl (Nat.le_of_ble_eq_true rfl) (by decide) (by decide) dX5_setRates_50 rfl ?_
      refine v_if_eqB (tgt := 58) C dX5_setRates_53 (by decide) rfl (fun h => absurd (by decide) h) (fun _ => ?_)
      refine v_iconst (v := 0) C dX5_setRates_56 (by decide) rfl ?_
      exact v_ret E dX5_setRates_57 (by decide) (by decide) ((by simp only [fr_X5_setRates, if_pos h6_1])) ((by simp only [fs_X5_setRates, if_pos h6_1])) rfl
def fr_X5_come (sg : Sg) (p : Int32) : Int32 := (if ¬ (¬ p < 0 ∧ ¬ sg 41 15 - 1 < p) then 0 else (sg 41 24))
def fs_X5_come (sg : Sg) (p : Int32) : Sg := (if ¬ (¬ p < 0 ∧ ¬ sg 41 15 - 1 < p) then (up sg 41 34 1) else (up (up (up sg 41 34 0) 41 23 p) 41 24 0))
set_option maxHeartbeats 4000000 in
set_option maxRecDepth 20000 in
theorem k_X5_come {l : Launch} {D : va_G} {K : Nat → ClassId} {g : Nat → Nat} (sg : Sg) (o : Ot) (p : Int32) (hM : MI sg) : CN l yX5_come cX5_come 3 (some .int) 3 D K g [.ref (g 41), .int p] sg o (some (.int (fr_X5_come sg p))) (fs_X5_come sg p) o :=
  mk_i (own := RX5) (av := fun g => [.ref (g 41), .int p]) (lo := fun g => [(0, .ref (g 41)), (1, .int p)]) (by decide) rfl rfl (fun _ => Nat.le_of_ble_eq_true rfl) (fun _ => rfl) fun X C E => by
    refine v_aload_n (j := 0) C dX5_come_0 rfl rfl rfl ?_
    refine v_aload_n (j := 0) C dX5_come_1 rfl rfl rfl ?_
    refine v_iload_n (j := 1) C dX5_come_2 rfl rfl rfl ?_
    refine v_callV (rest := [.ref (xg X 41)]) (q := (RX5, TX5, 35)) C kvX5_134 (k_X5_isNoTown sg o p) (by decide) (by decide) rfl rfl rfl rfl rfl (Nat.le_of_ble_eq_true rfl) (by decide) (by decide) dX5_come_3 rfl ?_
    refine v_if_eqB (tgt := 13) C dX5_come_6 (by decide) rfl (fun h6_1 => ?_) (fun h6_1 => ?_)
    · skip
      refine v_iconst (v := 0) C dX5_come_13 (by decide) rfl ?_
      refine v_callV (rest := []) (q := (RX5, TX5, 35)) C kvX5_103 (k_X5_fails sg o 0) (by decide) (by decide) rfl rfl rfl rfl rfl (Nat.le_of_ble_eq_true rfl) (by decide) (by decide) dX5_come_14 rfl ?_
      refine v_if_eqB (tgt := 22) C dX5_come_17 (by decide) rfl (fun _ => ?_) (fun h => absurd h (by decide))
      refine v_aload_n (j := 0) C dX5_come_22 rfl rfl rfl ?_
      refine v_geti (c := 41) C flX5_100 (by decide) rfl rfl dX5_come_23 rfl ?_
      refine v_rwi (y := sg 41 24) ((up_ne _ _ (Or.inr (by decide))).trans rfl) ?_
      refine v_istore_n C [(2, .int (sg 41 24)), (0, .ref (xg X 41)), (1, .int p)] dX5_come_26 rfl (by decide) rfl rfl ?_
      refine v_aload_n (j := 1) C dX5_come_27 rfl rfl rfl ?_
      refine v_iload_n (j := 2) C dX5_come_28 rfl rfl rfl ?_
      refine v_puti (c := 41) C fpX5_71 (by decide) rfl rfl dX5_come_29 rfl ?_
      refine v_aload_n (j := 1) C dX5_come_32 rfl rfl rfl ?_
      refine v_iconst (v := 0) C dX5_come_33 (by decide) rfl ?_
      refine v_puti (c := 41) C fpX5_100 (by decide) rfl rfl dX5_come_34 rfl ?_
      refine v_iload_n (j := 0) C dX5_come_37 rfl rfl rfl ?_
      exact v_ret E dX5_come_38 (by decide) (by decide) ((by simp only [fr_X5_come, if_neg h6_1])) ((by simp only [fs_X5_come, if_neg h6_1])) rfl
    · skip
      refine v_iconst (v := 1) C dX5_come_9 (by decide) rfl ?_
      refine v_goto (pc1 := 14) C dX5_come_10 (by decide) ?_
      refine v_callV (rest := []) (q := (RX5, TX5, 35)) C kvX5_103 (k_X5_fails sg o 1) (by decide) (by decide) rfl rfl rfl rfl rfl (Nat.le_of_ble_eq_true rfl) (by decide) (by decide) dX5_come_14 rfl ?_
      refine v_if_eqB (tgt := 22) C dX5_come_17 (by decide) rfl (fun h => absurd (by decide) h) (fun _ => ?_)
      refine v_iconst (v := 0) C dX5_come_20 (by decide) rfl ?_
      exact v_ret E dX5_come_21 (by decide) (by decide) ((by simp only [fr_X5_come, if_pos h6_1])) ((by simp only [fs_X5_come, if_pos h6_1])) rfl
def fr_X5_town (sg : Sg) : Int32 := (if (sg 41 23) < 0 then 0 else (sg 41 23))
def fs_X5_town (sg : Sg) : Sg := (if (sg 41 23) < 0 then (up sg 41 34 1) else (up sg 41 34 0))
set_option maxHeartbeats 4000000 in
set_option maxRecDepth 20000 in
theorem k_X5_town {l : Launch} {D : va_G} {K : Nat → ClassId} {g : Nat → Nat} (sg : Sg) (o : Ot)  (hM : MI sg) : CN l yX5_town cX5_town 1 (some .int) 3 D K g [.ref (g 41)] sg o (some (.int (fr_X5_town sg))) (fs_X5_town sg) o :=
  mk_i (own := RX5) (av := fun g => [.ref (g 41)]) (lo := fun g => [(0, .ref (g 41))]) (by decide) rfl rfl (fun _ => Nat.le_of_ble_eq_true rfl) (fun _ => rfl) fun X C E => by
    refine v_aload_n (j := 0) C dX5_town_0 rfl rfl rfl ?_
    refine v_aload_n (j := 0) C dX5_town_1 rfl rfl rfl ?_
    refine v_geti (c := 41) C flX5_71 (by decide) rfl rfl dX5_town_2 rfl ?_
    refine v_if_ge (tgt := 12) C dX5_town_5 (by decide) rfl (fun h5_1 => ?_) (fun h5_1 => ?_)
    · skip
      refine v_iconst (v := 0) C dX5_town_12 (by decide) rfl ?_
      refine v_callV (rest := []) (q := (RX5, TX5, 35)) C kvX5_103 (k_X5_fails sg o 0) (by decide) (by decide) rfl rfl rfl rfl rfl (Nat.le_of_ble_eq_true rfl) (by decide) (by decide) dX5_town_13 rfl ?_
      refine v_if_eqB (tgt := 23) C dX5_town_16 (by decide) rfl (fun _ => ?_) (fun h => absurd h (by decide))
      refine v_aload_n (j := 0) C dX5_town_23 rfl rfl rfl ?_
      refine v_geti (c := 41) C flX5_71 (by decide) rfl rfl dX5_town_24 rfl ?_
      refine v_rwi (y := sg 41 23) ((up_ne _ _ (Or.inr (by decide))).trans rfl) ?_
      exact v_ret E dX5_town_27 (by decide) (by decide) ((by simp only [fr_X5_town, if_neg h5_1])) ((by simp only [fs_X5_town, if_neg h5_1])) rfl
    · skip
      refine v_iconst (v := 1) C dX5_town_8 (by decide) rfl ?_
      refine v_goto (pc1 := 13) C dX5_town_9 (by decide) ?_
      refine v_callV (rest := []) (q := (RX5, TX5, 35)) C kvX5_103 (k_X5_fails sg o 1) (by decide) (by decide) rfl rfl rfl rfl rfl (Nat.le_of_ble_eq_true rfl) (by decide) (by decide) dX5_town_13 rfl ?_
      refine v_if_eqB (tgt := 23) C dX5_town_16 (by decide) rfl (fun h => absurd (by decide) h) (fun _ => ?_)
      refine v_iconst (v := 0) C dX5_town_19 (by decide) rfl ?_
      refine v_goto (pc1 := 27) C dX5_town_20 (by decide) ?_
      exact v_ret E dX5_town_27 (by decide) (by decide) ((by simp only [fr_X5_town, if_pos h5_1])) ((by simp only [fs_X5_town, if_pos h5_1])) rfl
def fr_X5_setArrival (sg : Sg) (p : Int32) (q : Int32) : Int32 := (if ¬ p < 0 ∧ ¬ 2 < p then (if ¬ q < 0 ∧ ¬ 1440 < q then (if fl_X5_isBusy sg p (ix (sg 41 24)) 0 = true then 0 else (sg 54 (ix p))) else 0) else 0)
def fs_X5_setArrival (sg : Sg) (p : Int32) (q : Int32) : Sg := (if ¬ p < 0 ∧ ¬ 2 < p then (if ¬ q < 0 ∧ ¬ 1440 < q then (if fl_X5_isBusy sg p (ix (sg 41 24)) 0 = true then (up sg 41 34 3) else (up (up sg 41 34 0) 54 (ix p) q)) else (up sg 41 34 2)) else (up sg 41 34 1))
set_option maxHeartbeats 4000000 in
set_option maxRecDepth 20000 in
theorem k_X5_setArrival {l : Launch} {D : va_G} {K : Nat → ClassId} {g : Nat → Nat} (sg : Sg) (o : Ot) (p : Int32) (q : Int32) (hM : MI sg) : CN l yX5_setArrival cX5_setArrival 4 (some .int) 3 D K g [.ref (g 41), .int p, .int q] sg o (some (.int (fr_X5_setArrival sg p q))) (fs_X5_setArrival sg p q) o :=
  mk_i (own := RX5) (av := fun g => [.ref (g 41), .int p, .int q]) (lo := fun g => [(0, .ref (g 41)), (1, .int p), (2, .int q)]) (by decide) rfl rfl (fun _ => Nat.le_of_ble_eq_true rfl) (fun _ => rfl) fun X C E => by
    refine v_aload_n (j := 0) C dX5_setArrival_0 rfl rfl rfl ?_
    refine v_iload_n (j := 1) C dX5_setArrival_1 rfl rfl rfl ?_
    refine v_iconst (v := 0) C dX5_setArrival_2 (by decide) rfl ?_
    refine v_iconst (v := 2) C dX5_setArrival_3 (by decide) rfl ?_
    refine v_callS (rest := [.ref (xg X 41)]) C ksX5_93 (k_X5_in sg o p 0 2) (by decide) rfl rfl (Nat.le_of_ble_eq_true rfl) (by decide) (by decide) dX5_setArrival_4 rfl ?_
    refine v_if_neB (tgt := 14) C dX5_setArrival_7 (by decide) rfl (fun h7_1 => ?_) (fun h7_1 => ?_)
    · skip
      refine v_iload_n (j := 2) C dX5_setArrival_14 rfl rfl rfl ?_
      refine v_iconst (v := 0) C dX5_setArrival_15 (by decide) rfl ?_
      refine v_sipush (v := 1440) C dX5_setArrival_16 (by decide) rfl ?_
      refine v_callS (rest := [.ref (xg X 41)]) C ksX5_93 (k_X5_in sg o q 0 1440) (by decide) rfl rfl (Nat.le_of_ble_eq_true rfl) (by decide) (by decide) dX5_setArrival_19 rfl ?_
      refine v_if_neB (tgt := 29) C dX5_setArrival_22 (by decide) rfl (fun h22_2 => ?_) (fun h22_2 => ?_)
      · skip
        refine v_aload_n (j := 0) C dX5_setArrival_29 rfl rfl rfl ?_
        refine v_iload_n (j := 1) C dX5_setArrival_30 rfl rfl rfl ?_
        refine v_callV (rest := [.ref (xg X 41)]) (q := (RX5, TX5, 35)) C kvX5_128 (k_X5_isBusy sg o p (by first | exact hM | exact hM.up34)) (by decide) (by decide) rfl rfl rfl rfl rfl (Nat.le_of_ble_eq_true rfl) (by decide) (by decide) dX5_setArrival_31 rfl ?_
        refine v_if_eqB (tgt := 41) C dX5_setArrival_34 (by decide) rfl (fun h34_3 => ?_) (fun h34_3 => ?_)
        · skip
          refine v_iconst (v := 0) C dX5_setArrival_41 (by decide) rfl ?_
          refine v_callV (rest := []) (q := (RX5, TX5, 35)) C kvX5_103 (k_X5_fails sg o 0) (by decide) (by decide) rfl rfl rfl rfl rfl (Nat.le_of_ble_eq_true rfl) (by decide) (by decide) dX5_setArrival_42 rfl ?_
          refine v_if_eqB (tgt := 50) C dX5_setArrival_45 (by decide) rfl (fun _ => ?_) (fun h => absurd h (by decide))
          refine v_aload_n (j := 0) C dX5_setArrival_50 rfl rfl rfl ?_
          refine v_getr (c := 41) C 54 flX5_47 (by decide) rfl rfl dX5_setArrival_51 rfl ?_
          refine v_iload_n (j := 1) C dX5_setArrival_54 rfl rfl rfl ?_
          refine v_iald (c := 54) C (in_lit (n := 2) (y := 2) rfl (by assumption)) (by decide) rfl dX5_setArrival_55 rfl ?_
          refine v_rwi (y := sg 54 (ix p)) ((up_ne _ _ (Or.inl (by decide))).trans rfl) ?_
          refine v_istore_n C [(3, .int (sg 54 (ix p))), (0, .ref (xg X 41)), (1, .int p), (2, .int q)] dX5_setArrival_56 rfl (by decide) rfl rfl ?_
          refine v_aload_n (j := 1) C dX5_setArrival_57 rfl rfl rfl ?_
          refine v_getr (c := 41) C 54 flX5_47 (by decide) rfl rfl dX5_setArrival_58 rfl ?_
          refine v_iload_n (j := 2) C dX5_setArrival_61 rfl rfl rfl ?_
          refine v_iload_n (j := 3) C dX5_setArrival_62 rfl rfl rfl ?_
          refine v_iast (c := 54) C (in_lit (n := 2) (y := 2) rfl (by assumption)) (by decide) rfl dX5_setArrival_63 rfl ?_
          refine v_iload_n (j := 0) C dX5_setArrival_64 rfl rfl rfl ?_
          exact v_ret E dX5_setArrival_65 (by decide) (by decide) ((by first | contradiction | simp only [fr_X5_setArrival, if_pos h7_1, if_pos h22_2, if_neg h34_3])) ((by first | contradiction | simp only [fs_X5_setArrival, if_pos h7_1, if_pos h22_2, if_neg h34_3])) rfl
        · skip
          refine v_iconst (v := 3) C dX5_setArrival_37 (by decide) rfl ?_
          refine v_goto (pc1 := 42) C dX5_setArrival_38 (by decide) ?_
          refine v_callV (rest := []) (q := (RX5, TX5, 35)) C kvX5_103 (k_X5_fails sg o 3) (by decide) (by decide) rfl rfl rfl rfl rfl (Nat.le_of_ble_eq_true rfl) (by decide) (by decide) dX5_setArrival_42 rfl ?_
          refine v_if_eqB (tgt := 50) C dX5_setArrival_45 (by decide) rfl (fun h => absurd (by decide) h) (fun _ => ?_)
          refine v_iconst (v := 0) C dX5_setArrival_48 (by decide) rfl ?_
          exact v_ret E dX5_setArrival_49 (by decide) (by decide) ((by first | contradiction | simp only [fr_X5_setArrival, if_pos h7_1, if_pos h22_2, if_pos h34_3])) ((by first | contradiction | simp only [fs_X5_setArrival, if_pos h7_1, if_pos h22_2, if_pos h34_3])) rfl
      · skip
        refine v_iconst (v := 2) C dX5_setArrival_25 (by decide) rfl ?_
        refine v_goto (pc1 := 42) C dX5_setArrival_26 (by decide) ?_
        refine v_callV (rest := []) (q := (RX5, TX5, 35)) C kvX5_103 (k_X5_fails sg o 2) (by decide) (by decide) rfl rfl rfl rfl rfl (Nat.le_of_ble_eq_true rfl) (by decide) (by decide) dX5_setArrival_42 rfl ?_
        refine v_if_eqB (tgt := 50) C dX5_setArrival_45 (by decide) rfl (fun h => absurd (by decide) h) (fun _ => ?_)
        refine v_iconst (v := 0) C dX5_setArrival_48 (by decide) rfl ?_
        exact v_ret E dX5_setArrival_49 (by decide) (by decide) ((by simp only [fr_X5_setArrival, if_pos h7_1, if_neg h22_2])) ((by simp only [fs_X5_setArrival, if_pos h7_1, if_neg h22_2])) rfl
    · skip
      refine v_iconst (v := 1) C dX5_setArrival_10 (by decide) rfl ?_
      refine v_goto (pc1 := 42) C dX5_setArrival_11 (by decide) ?_
      refine v_callV (rest := []) (q := (RX5, TX5, 35)) C kvX5_103 (k_X5_fails sg o 1) (by decide) (by decide) rfl rfl rfl rfl rfl (Nat.le_of_ble_eq_true rfl) (by decide) (by decide) dX5_setArrival_42 rfl ?_
      refine v_if_eqB (tgt := 50) C dX5_setArrival_45 (by decide) rfl (fun h => absurd (by decide) h) (fun _ => ?_)
      refine v_iconst (v := 0) C dX5_setArrival_48 (by decide) rfl ?_
      exact v_ret E dX5_setArrival_49 (by decide) (by decide) ((by simp only [fr_X5_setArrival, if_neg h7_1])) ((by simp only [fs_X5_setArrival, if_neg h7_1])) rfl
def fr_X5_loadOn (sg : Sg) (p : Int32) (q : Int32) : Int32 := (if ¬ (¬ p < 0 ∧ ¬ sg 41 3 - 1 < p) then 0 else (if ¬ (¬ q < 0 ∧ ¬ sg 41 0 - 1 < q) then 0 else (fr_X5_load sg p q)))
def fs_X5_loadOn (sg : Sg) (p : Int32) (q : Int32) : Sg := (if ¬ (¬ p < 0 ∧ ¬ sg 41 3 - 1 < p) then (up sg 41 34 1) else (if ¬ (¬ q < 0 ∧ ¬ sg 41 0 - 1 < q) then (up sg 41 34 2) else (up sg 41 34 0)))
set_option maxHeartbeats 4000000 in
set_option maxRecDepth 20000 in
theorem k_X5_loadOn {l : Launch} {D : va_G} {K : Nat → ClassId} {g : Nat → Nat} (sg : Sg) (o : Ot) (p : Int32) (q : Int32) (hM : MI sg) : CN l yX5_loadOn cX5_loadOn 3 (some .int) 3 D K g [.ref (g 41), .int p, .int q] sg o (some (.int (fr_X5_loadOn sg p q))) (fs_X5_loadOn sg p q) o :=
  mk_i (own := RX5) (av := fun g => [.ref (g 41), .int p, .int q]) (lo := fun g => [(0, .ref (g 41)), (1, .int p), (2, .int q)]) (by decide) rfl rfl (fun _ => Nat.le_of_ble_eq_true rfl) (fun _ => rfl) fun X C E => by
    refine v_aload_n (j := 0) C dX5_loadOn_0 rfl rfl rfl ?_
    refine v_aload_n (j := 0) C dX5_loadOn_1 rfl rfl rfl ?_
    refine v_iload_n (j := 1) C dX5_loadOn_2 rfl rfl rfl ?_
    refine v_callV (rest := [.ref (xg X 41)]) (q := (RX5, TX5, 35)) C kvX5_107 (k_X5_isNoPiece sg o p) (by decide) (by decide) rfl rfl rfl rfl rfl (Nat.le_of_ble_eq_true rfl) (by decide) (by decide) dX5_loadOn_3 rfl ?_
    refine v_if_eqB (tgt := 13) C dX5_loadOn_6 (by decide) rfl (fun h6_1 => ?_) (fun h6_1 => ?_)
    · skip
      refine v_aload_n (j := 0) C dX5_loadOn_13 rfl rfl rfl ?_
      refine v_iload_n (j := 2) C dX5_loadOn_14 rfl rfl rfl ?_
      refine v_callV (rest := [.ref (xg X 41)]) (q := (RX5, TX5, 35)) C kvX5_110 (k_X5_isNoPoint sg o q) (by decide) (by decide) rfl rfl rfl rfl rfl (Nat.le_of_ble_eq_true rfl) (by decide) (by decide) dX5_loadOn_15 rfl ?_
      refine v_if_eqB (tgt := 25) C dX5_loadOn_18 (by decide) rfl (fun h18_2 => ?_) (fun h18_2 => ?_)
      · skip
        refine v_iconst (v := 0) C dX5_loadOn_25 (by decide) rfl ?_
        refine v_callV (rest := []) (q := (RX5, TX5, 35)) C kvX5_103 (k_X5_fails sg o 0) (by decide) (by decide) rfl rfl rfl rfl rfl (Nat.le_of_ble_eq_true rfl) (by decide) (by decide) dX5_loadOn_26 rfl ?_
        refine v_if_eqB (tgt := 36) C dX5_loadOn_29 (by decide) rfl (fun _ => ?_) (fun h => absurd h (by decide))
        refine v_aload_n (j := 0) C dX5_loadOn_36 rfl rfl rfl ?_
        refine v_iload_n (j := 1) C dX5_loadOn_37 rfl rfl rfl ?_
        refine v_iload_n (j := 2) C dX5_loadOn_38 rfl rfl rfl ?_
        refine v_callV (rest := []) (q := (RX5, TX5, 35)) C kvX5_137 (k34_X5_load sg 0 o p q (by first | exact hM | exact hM.up34) (hM.nc.inn (by assumption))) (by decide) (by decide) rfl rfl rfl rfl rfl (Nat.le_of_ble_eq_true rfl) (by decide) (by decide) dX5_loadOn_39 rfl ?_
        exact v_ret E dX5_loadOn_42 (by decide) (by decide) ((by simp only [fr_X5_loadOn, if_neg h6_1, if_neg h18_2])) ((by simp only [fs_X5_loadOn, if_neg h6_1, if_neg h18_2])) rfl
      · skip
        refine v_iconst (v := 2) C dX5_loadOn_21 (by decide) rfl ?_
        refine v_goto (pc1 := 26) C dX5_loadOn_22 (by decide) ?_
        refine v_callV (rest := []) (q := (RX5, TX5, 35)) C kvX5_103 (k_X5_fails sg o 2) (by decide) (by decide) rfl rfl rfl rfl rfl (Nat.le_of_ble_eq_true rfl) (by decide) (by decide) dX5_loadOn_26 rfl ?_
        refine v_if_eqB (tgt := 36) C dX5_loadOn_29 (by decide) rfl (fun h => absurd (by decide) h) (fun _ => ?_)
        refine v_iconst (v := 0) C dX5_loadOn_32 (by decide) rfl ?_
        refine v_goto (pc1 := 42) C dX5_loadOn_33 (by decide) ?_
        exact v_ret E dX5_loadOn_42 (by decide) (by decide) ((by simp only [fr_X5_loadOn, if_neg h6_1, if_pos h18_2])) ((by simp only [fs_X5_loadOn, if_neg h6_1, if_pos h18_2])) rfl
    · skip
      refine v_iconst (v := 1) C dX5_loadOn_9 (by decide) rfl ?_
      refine v_goto (pc1 := 26) C dX5_loadOn_10 (by decide) ?_
      refine v_callV (rest := []) (q := (RX5, TX5, 35)) C kvX5_103 (k_X5_fails sg o 1) (by decide) (by decide) rfl rfl rfl rfl rfl (Nat.le_of_ble_eq_true rfl) (by decide) (by decide) dX5_loadOn_26 rfl ?_
      refine v_if_eqB (tgt := 36) C dX5_loadOn_29 (by decide) rfl (fun h => absurd (by decide) h) (fun _ => ?_)
      refine v_iconst (v := 0) C dX5_loadOn_32 (by decide) rfl ?_
      refine v_goto (pc1 := 42) C dX5_loadOn_33 (by decide) ?_
      exact v_ret E dX5_loadOn_42 (by decide) (by decide) ((by simp only [fr_X5_loadOn, if_pos h6_1])) ((by simp only [fs_X5_loadOn, if_pos h6_1])) rfl
def fr_X5_mayBear (sg : Sg) (p : Int32) : Int32 := (if ¬ (¬ p < 0 ∧ ¬ sg 41 0 - 1 < p) then 0 else (if (sg 41 23) < 0 then 0 else (fr_X5_may sg p)))
def fs_X5_mayBear (sg : Sg) (p : Int32) : Sg := (if ¬ (¬ p < 0 ∧ ¬ sg 41 0 - 1 < p) then (up sg 41 34 1) else (if (sg 41 23) < 0 then (up sg 41 34 2) else (up sg 41 34 0)))
set_option maxHeartbeats 4000000 in
set_option maxRecDepth 20000 in
theorem k_X5_mayBear {l : Launch} {D : va_G} {K : Nat → ClassId} {g : Nat → Nat} (sg : Sg) (o : Ot) (p : Int32) (hM : MI sg) : CN l yX5_mayBear cX5_mayBear 2 (some .int) 3 D K g [.ref (g 41), .int p] sg o (some (.int (fr_X5_mayBear sg p))) (fs_X5_mayBear sg p) o :=
  mk_i (own := RX5) (av := fun g => [.ref (g 41), .int p]) (lo := fun g => [(0, .ref (g 41)), (1, .int p)]) (by decide) rfl rfl (fun _ => Nat.le_of_ble_eq_true rfl) (fun _ => rfl) fun X C E => by
    refine v_aload_n (j := 0) C dX5_mayBear_0 rfl rfl rfl ?_
    refine v_aload_n (j := 0) C dX5_mayBear_1 rfl rfl rfl ?_
    refine v_iload_n (j := 1) C dX5_mayBear_2 rfl rfl rfl ?_
    refine v_callV (rest := [.ref (xg X 41)]) (q := (RX5, TX5, 35)) C kvX5_110 (k_X5_isNoPoint sg o p) (by decide) (by decide) rfl rfl rfl rfl rfl (Nat.le_of_ble_eq_true rfl) (by decide) (by decide) dX5_mayBear_3 rfl ?_
    refine v_if_eqB (tgt := 13) C dX5_mayBear_6 (by decide) rfl (fun h6_1 => ?_) (fun h6_1 => ?_)
    · skip
      refine v_aload_n (j := 0) C dX5_mayBear_13 rfl rfl rfl ?_
      refine v_geti (c := 41) C flX5_71 (by decide) rfl rfl dX5_mayBear_14 rfl ?_
      refine v_if_ge (tgt := 24) C dX5_mayBear_17 (by decide) rfl (fun h17_2 => ?_) (fun h17_2 => ?_)
      · skip
        refine v_iconst (v := 0) C dX5_mayBear_24 (by decide) rfl ?_
        refine v_callV (rest := []) (q := (RX5, TX5, 35)) C kvX5_103 (k_X5_fails sg o 0) (by decide) (by decide) rfl rfl rfl rfl rfl (Nat.le_of_ble_eq_true rfl) (by decide) (by decide) dX5_mayBear_25 rfl ?_
        refine v_if_eqB (tgt := 35) C dX5_mayBear_28 (by decide) rfl (fun _ => ?_) (fun h => absurd h (by decide))
        refine v_aload_n (j := 0) C dX5_mayBear_35 rfl rfl rfl ?_
        refine v_iload_n (j := 1) C dX5_mayBear_36 rfl rfl rfl ?_
        refine v_callV (rest := []) (q := (RX5, TX5, 35)) C kvX5_141 (k34_X5_may sg 0 o p (by first | exact hM | exact hM.up34) (hM.np.inn (by assumption)) (by assumption)) (by decide) (by decide) rfl rfl rfl rfl rfl (Nat.le_of_ble_eq_true rfl) (by decide) (by decide) dX5_mayBear_37 rfl ?_
        exact v_ret E dX5_mayBear_40 (by decide) (by decide) ((by simp only [fr_X5_mayBear, if_neg h6_1, if_neg h17_2])) ((by simp only [fs_X5_mayBear, if_neg h6_1, if_neg h17_2])) rfl
      · skip
        refine v_iconst (v := 2) C dX5_mayBear_20 (by decide) rfl ?_
        refine v_goto (pc1 := 25) C dX5_mayBear_21 (by decide) ?_
        refine v_callV (rest := []) (q := (RX5, TX5, 35)) C kvX5_103 (k_X5_fails sg o 2) (by decide) (by decide) rfl rfl rfl rfl rfl (Nat.le_of_ble_eq_true rfl) (by decide) (by decide) dX5_mayBear_25 rfl ?_
        refine v_if_eqB (tgt := 35) C dX5_mayBear_28 (by decide) rfl (fun h => absurd (by decide) h) (fun _ => ?_)
        refine v_iconst (v := 0) C dX5_mayBear_31 (by decide) rfl ?_
        refine v_goto (pc1 := 40) C dX5_mayBear_32 (by decide) ?_
        exact v_ret E dX5_mayBear_40 (by decide) (by decide) ((by simp only [fr_X5_mayBear, if_neg h6_1, if_pos h17_2])) ((by simp only [fs_X5_mayBear, if_neg h6_1, if_pos h17_2])) rfl
    · skip
      refine v_iconst (v := 1) C dX5_mayBear_9 (by decide) rfl ?_
      refine v_goto (pc1 := 25) C dX5_mayBear_10 (by decide) ?_
      refine v_callV (rest := []) (q := (RX5, TX5, 35)) C kvX5_103 (k_X5_fails sg o 1) (by decide) (by decide) rfl rfl rfl rfl rfl (Nat.le_of_ble_eq_true rfl) (by decide) (by decide) dX5_mayBear_25 rfl ?_
      refine v_if_eqB (tgt := 35) C dX5_mayBear_28 (by decide) rfl (fun h => absurd (by decide) h) (fun _ => ?_)
      refine v_iconst (v := 0) C dX5_mayBear_31 (by decide) rfl ?_
      refine v_goto (pc1 := 40) C dX5_mayBear_32 (by decide) ?_
      exact v_ret E dX5_mayBear_40 (by decide) (by decide) ((by simp only [fr_X5_mayBear, if_pos h6_1])) ((by simp only [fs_X5_mayBear, if_pos h6_1])) rfl
def fr_X5_bears (sg : Sg) (p : Int32) : Int32 := (if ¬ (¬ p < 0 ∧ ¬ sg 41 0 - 1 < p) then 0 else (fl_X5_borne sg p (ix (sg 41 24)) 0 0))
def fs_X5_bears (sg : Sg) (p : Int32) : Sg := (if ¬ (¬ p < 0 ∧ ¬ sg 41 0 - 1 < p) then (up sg 41 34 1) else (up sg 41 34 0))
set_option maxHeartbeats 4000000 in
set_option maxRecDepth 20000 in
theorem k_X5_bears {l : Launch} {D : va_G} {K : Nat → ClassId} {g : Nat → Nat} (sg : Sg) (o : Ot) (p : Int32) (hM : MI sg) : CN l yX5_bears cX5_bears 2 (some .int) 4 D K g [.ref (g 41), .int p] sg o (some (.int (fr_X5_bears sg p))) (fs_X5_bears sg p) o :=
  mk_i (own := RX5) (av := fun g => [.ref (g 41), .int p]) (lo := fun g => [(0, .ref (g 41)), (1, .int p)]) (by decide) rfl rfl (fun _ => Nat.le_of_ble_eq_true rfl) (fun _ => rfl) fun X C E => by
    refine v_aload_n (j := 0) C dX5_bears_0 rfl rfl rfl ?_
    refine v_aload_n (j := 0) C dX5_bears_1 rfl rfl rfl ?_
    refine v_iload_n (j := 1) C dX5_bears_2 rfl rfl rfl ?_
    refine v_callV (rest := [.ref (xg X 41)]) (q := (RX5, TX5, 35)) C kvX5_110 (k_X5_isNoPoint sg o p) (by decide) (by decide) rfl rfl rfl rfl rfl (Nat.le_of_ble_eq_true rfl) (by decide) (by decide) dX5_bears_3 rfl ?_
    refine v_if_eqB (tgt := 13) C dX5_bears_6 (by decide) rfl (fun h6_1 => ?_) (fun h6_1 => ?_)
    · skip
      refine v_iconst (v := 0) C dX5_bears_13 (by decide) rfl ?_
      refine v_callV (rest := []) (q := (RX5, TX5, 35)) C kvX5_103 (k_X5_fails sg o 0) (by decide) (by decide) rfl rfl rfl rfl rfl (Nat.le_of_ble_eq_true rfl) (by decide) (by decide) dX5_bears_14 rfl ?_
      refine v_if_eqB (tgt := 24) C dX5_bears_17 (by decide) rfl (fun _ => ?_) (fun h => absurd h (by decide))
      refine v_aload_n (j := 0) C dX5_bears_24 rfl rfl rfl ?_
      refine v_iload_n (j := 1) C dX5_bears_25 rfl rfl rfl ?_
      refine v_callV (rest := []) (q := (RX5, TX5, 35)) C kvX5_144 (k34_X5_borne sg 0 o p (by first | exact hM | exact hM.up34)) (by decide) (by decide) rfl rfl rfl rfl rfl (Nat.le_of_ble_eq_true rfl) (by decide) (by decide) dX5_bears_26 rfl ?_
      exact v_ret E dX5_bears_29 (by decide) (by decide) ((by simp only [fr_X5_bears, if_neg h6_1])) ((by simp only [fs_X5_bears, if_neg h6_1])) rfl
    · skip
      refine v_iconst (v := 1) C dX5_bears_9 (by decide) rfl ?_
      refine v_goto (pc1 := 14) C dX5_bears_10 (by decide) ?_
      refine v_callV (rest := []) (q := (RX5, TX5, 35)) C kvX5_103 (k_X5_fails sg o 1) (by decide) (by decide) rfl rfl rfl rfl rfl (Nat.le_of_ble_eq_true rfl) (by decide) (by decide) dX5_bears_14 rfl ?_
      refine v_if_eqB (tgt := 24) C dX5_bears_17 (by decide) rfl (fun h => absurd (by decide) h) (fun _ => ?_)
      refine v_iconst (v := 0) C dX5_bears_20 (by decide) rfl ?_
      refine v_goto (pc1 := 29) C dX5_bears_21 (by decide) ?_
      exact v_ret E dX5_bears_29 (by decide) (by decide) ((by simp only [fr_X5_bears, if_pos h6_1])) ((by simp only [fs_X5_bears, if_pos h6_1])) rfl
def fr_X5_reason (sg : Sg) (p : Int32) : Int32 := (if ¬ (¬ p < 0 ∧ ¬ sg 41 3 - 1 < p) then 97 else (fr_X5_why sg p))
def fs_X5_reason (sg : Sg) (p : Int32) : Sg := (if ¬ (¬ p < 0 ∧ ¬ sg 41 3 - 1 < p) then (up sg 41 34 1) else (up sg 41 34 0))
theorem chr_X5_reason (sg : Sg) (p : Int32) : narrow .char (.int (fr_X5_reason sg p)) = .int (fr_X5_reason sg p) := (chr_if rfl (chr_X5_why _ _))
set_option maxHeartbeats 4000000 in
set_option maxRecDepth 20000 in
theorem k_X5_reason {l : Launch} {D : va_G} {K : Nat → ClassId} {g : Nat → Nat} (sg : Sg) (o : Ot) (p : Int32) (hM : MI sg) : CN l yX5_reason cX5_reason 2 (some .char) 6 D K g [.ref (g 41), .int p] sg o (some (.int (fr_X5_reason sg p))) (fs_X5_reason sg p) o :=
  mk_i (own := RX5) (av := fun g => [.ref (g 41), .int p]) (lo := fun g => [(0, .ref (g 41)), (1, .int p)]) (by decide) rfl (chr_X5_reason sg p) (fun _ => Nat.le_of_ble_eq_true rfl) (fun _ => rfl) fun X C E => by
    refine v_aload_n (j := 0) C dX5_reason_0 rfl rfl rfl ?_
    refine v_aload_n (j := 0) C dX5_reason_1 rfl rfl rfl ?_
    refine v_iload_n (j := 1) C dX5_reason_2 rfl rfl rfl ?_
    refine v_callV (rest := [.ref (xg X 41)]) (q := (RX5, TX5, 35)) C kvX5_107 (k_X5_isNoPiece sg o p) (by decide) (by decide) rfl rfl rfl rfl rfl (Nat.le_of_ble_eq_true rfl) (by decide) (by decide) dX5_reason_3 rfl ?_
    refine v_if_eqB (tgt := 13) C dX5_reason_6 (by decide) rfl (fun h6_1 => ?_) (fun h6_1 => ?_)
    · skip
      refine v_iconst (v := 0) C dX5_reason_13 (by decide) rfl ?_
      refine v_callV (rest := []) (q := (RX5, TX5, 35)) C kvX5_103 (k_X5_fails sg o 0) (by decide) (by decide) rfl rfl rfl rfl rfl (Nat.le_of_ble_eq_true rfl) (by decide) (by decide) dX5_reason_14 rfl ?_
      refine v_if_eqB (tgt := 25) C dX5_reason_17 (by decide) rfl (fun _ => ?_) (fun h => absurd h (by decide))
      refine v_aload_n (j := 0) C dX5_reason_25 rfl rfl rfl ?_
      refine v_iload_n (j := 1) C dX5_reason_26 rfl rfl rfl ?_
      refine v_callV (rest := []) (q := (RX5, TX5, 35)) C kvX5_169 (k34_X5_why sg 0 o p (by first | exact hM | exact hM.up34) (hM.nc.inn (by assumption))) (by decide) (by decide) rfl rfl rfl rfl rfl (Nat.le_of_ble_eq_true rfl) (by decide) (by decide) dX5_reason_27 rfl ?_
      exact v_ret E dX5_reason_30 (by decide) (by decide) ((by simp only [fr_X5_reason, if_neg h6_1])) ((by simp only [fs_X5_reason, if_neg h6_1])) rfl
    · skip
      refine v_iconst (v := 1) C dX5_reason_9 (by decide) rfl ?_
      refine v_goto (pc1 := 14) C dX5_reason_10 (by decide) ?_
      refine v_callV (rest := []) (q := (RX5, TX5, 35)) C kvX5_103 (k_X5_fails sg o 1) (by decide) (by decide) rfl rfl rfl rfl rfl (Nat.le_of_ble_eq_true rfl) (by decide) (by decide) dX5_reason_14 rfl ?_
      refine v_if_eqB (tgt := 25) C dX5_reason_17 (by decide) rfl (fun h => absurd (by decide) h) (fun _ => ?_)
      refine v_bipush (v := 97) C dX5_reason_20 (by decide) rfl ?_
      refine v_goto (pc1 := 30) C dX5_reason_22 (by decide) ?_
      exact v_ret E dX5_reason_30 (by decide) (by decide) ((by simp only [fr_X5_reason, if_pos h6_1])) ((by simp only [fs_X5_reason, if_pos h6_1])) rfl
def fr_X5_hungAt (sg : Sg) (p : Int32) : Int32 := (if ¬ p < 0 ∧ ¬ ((sg 41 24) - 1) < p then (sg 62 (ix p)) else 0)
def fs_X5_hungAt (sg : Sg) (p : Int32) : Sg := (if ¬ p < 0 ∧ ¬ ((sg 41 24) - 1) < p then (up sg 41 34 0) else (up sg 41 34 1))
set_option maxHeartbeats 4000000 in
set_option maxRecDepth 20000 in
theorem k_X5_hungAt {l : Launch} {D : va_G} {K : Nat → ClassId} {g : Nat → Nat} (sg : Sg) (o : Ot) (p : Int32) (hM : MI sg) : CN l yX5_hungAt cX5_hungAt 2 (some .int) 3 D K g [.ref (g 41), .int p] sg o (some (.int (fr_X5_hungAt sg p))) (fs_X5_hungAt sg p) o :=
  mk_i (own := RX5) (av := fun g => [.ref (g 41), .int p]) (lo := fun g => [(0, .ref (g 41)), (1, .int p)]) (by decide) rfl rfl (fun _ => Nat.le_of_ble_eq_true rfl) (fun _ => rfl) fun X C E => by
    refine v_aload_n (j := 0) C dX5_hungAt_0 rfl rfl rfl ?_
    refine v_iload_n (j := 1) C dX5_hungAt_1 rfl rfl rfl ?_
    refine v_iconst (v := 0) C dX5_hungAt_2 (by decide) rfl ?_
    refine v_aload_n (j := 0) C dX5_hungAt_3 rfl rfl rfl ?_
    refine v_geti (c := 41) C flX5_100 (by decide) rfl rfl dX5_hungAt_4 rfl ?_
    refine v_iconst (v := 1) C dX5_hungAt_7 (by decide) rfl ?_
    refine v_isub C dX5_hungAt_8 rfl ?_
    refine v_callS (rest := [.ref (xg X 41)]) C ksX5_93 (k_X5_in sg o p 0 ((sg 41 24) - 1)) (by decide) rfl rfl (Nat.le_of_ble_eq_true rfl) (by decide) (by decide) dX5_hungAt_9 rfl ?_
    refine v_if_eqB (tgt := 19) C dX5_hungAt_12 (by decide) rfl (fun h12_1 => ?_) (fun h12_1 => ?_)
    · skip
      refine v_iconst (v := 1) C dX5_hungAt_19 (by decide) rfl ?_
      refine v_callV (rest := []) (q := (RX5, TX5, 35)) C kvX5_103 (k_X5_fails sg o 1) (by decide) (by decide) rfl rfl rfl rfl rfl (Nat.le_of_ble_eq_true rfl) (by decide) (by decide) dX5_hungAt_20 rfl ?_
      refine v_if_eqB (tgt := 30) C dX5_hungAt_23 (by decide) rfl (fun h => absurd (by decide) h) (fun _ => ?_)
      refine v_iconst (v := 0) C dX5_hungAt_26 (by decide) rfl ?_
      refine v_goto (pc1 := 36) C dX5_hungAt_27 (by decide) ?_
      exact v_ret E dX5_hungAt_36 (by decide) (by decide) ((by simp only [fr_X5_hungAt, if_neg h12_1])) ((by simp only [fs_X5_hungAt, if_neg h12_1])) rfl
    · skip
      refine v_iconst (v := 0) C dX5_hungAt_15 (by decide) rfl ?_
      refine v_goto (pc1 := 20) C dX5_hungAt_16 (by decide) ?_
      refine v_callV (rest := []) (q := (RX5, TX5, 35)) C kvX5_103 (k_X5_fails sg o 0) (by decide) (by decide) rfl rfl rfl rfl rfl (Nat.le_of_ble_eq_true rfl) (by decide) (by decide) dX5_hungAt_20 rfl ?_
      refine v_if_eqB (tgt := 30) C dX5_hungAt_23 (by decide) rfl (fun _ => ?_) (fun h => absurd h (by decide))
      refine v_aload_n (j := 0) C dX5_hungAt_30 rfl rfl rfl ?_
      refine v_getr (c := 41) C 62 flX5_75 (by decide) rfl rfl dX5_hungAt_31 rfl ?_
      refine v_iload_n (j := 1) C dX5_hungAt_34 rfl rfl rfl ?_
      refine v_iald (c := 62) C (hM.nh.inr (by assumption)) (by decide) rfl dX5_hungAt_35 rfl ?_
      refine v_rwi (y := sg 62 (ix p)) ((up_ne _ _ (Or.inl (by decide))).trans rfl) ?_
      exact v_ret E dX5_hungAt_36 (by decide) (by decide) ((by simp only [fr_X5_hungAt, if_pos h12_1])) ((by simp only [fs_X5_hungAt, if_pos h12_1])) rfl
def fr_X5_beginOf (sg : Sg) (p : Int32) : Int32 := (if ¬ (¬ p < 0 ∧ ¬ sg 41 3 - 1 < p) then 0 else (if (fl_X5_inRig sg p (ix (sg 41 24)) 0) < 0 then 0 else (sg 63 (ix (fl_X5_inRig sg p (ix (sg 41 24)) 0)))))
def fs_X5_beginOf (sg : Sg) (p : Int32) : Sg := (if ¬ (¬ p < 0 ∧ ¬ sg 41 3 - 1 < p) then (up sg 41 34 1) else (if (fl_X5_inRig sg p (ix (sg 41 24)) 0) < 0 then (up sg 41 34 1) else (up sg 41 34 0)))
set_option maxHeartbeats 4000000 in
set_option maxRecDepth 20000 in
theorem k_X5_beginOf {l : Launch} {D : va_G} {K : Nat → ClassId} {g : Nat → Nat} (sg : Sg) (o : Ot) (p : Int32) (hM : MI sg) : CN l yX5_beginOf cX5_beginOf 2 (some .int) 3 D K g [.ref (g 41), .int p] sg o (some (.int (fr_X5_beginOf sg p))) (fs_X5_beginOf sg p) o :=
  mk_i (own := RX5) (av := fun g => [.ref (g 41), .int p]) (lo := fun g => [(0, .ref (g 41)), (1, .int p)]) (by decide) rfl rfl (fun _ => Nat.le_of_ble_eq_true rfl) (fun _ => rfl) fun X C E => by
    refine v_aload_n (j := 0) C dX5_beginOf_0 rfl rfl rfl ?_
    refine v_aload_n (j := 0) C dX5_beginOf_1 rfl rfl rfl ?_
    refine v_iload_n (j := 1) C dX5_beginOf_2 rfl rfl rfl ?_
    refine v_callV (rest := [.ref (xg X 41)]) (q := (RX5, TX5, 35)) C kvX5_107 (k_X5_isNoPiece sg o p) (by decide) (by decide) rfl rfl rfl rfl rfl (Nat.le_of_ble_eq_true rfl) (by decide) (by decide) dX5_beginOf_3 rfl ?_
    refine v_if_neB (tgt := 17) C dX5_beginOf_6 (by decide) rfl (fun h6_1 => ?_) (fun h6_1 => ?_)
    · skip
      refine v_iconst (v := 1) C dX5_beginOf_17 (by decide) rfl ?_
      refine v_goto (pc1 := 22) C dX5_beginOf_18 (by decide) ?_
      refine v_callV (rest := []) (q := (RX5, TX5, 35)) C kvX5_103 (k_X5_fails sg o 1) (by decide) (by decide) rfl rfl rfl rfl rfl (Nat.le_of_ble_eq_true rfl) (by decide) (by decide) dX5_beginOf_22 rfl ?_
      refine v_if_eqB (tgt := 32) C dX5_beginOf_25 (by decide) rfl (fun h => absurd (by decide) h) (fun _ => ?_)
      refine v_iconst (v := 0) C dX5_beginOf_28 (by decide) rfl ?_
      refine v_goto (pc1 := 42) C dX5_beginOf_29 (by decide) ?_
      exact v_ret E dX5_beginOf_42 (by decide) (by decide) ((by simp only [fr_X5_beginOf, if_pos h6_1])) ((by simp only [fs_X5_beginOf, if_pos h6_1])) rfl
    · skip
      refine v_aload_n (j := 0) C dX5_beginOf_9 rfl rfl rfl ?_
      refine v_iload_n (j := 1) C dX5_beginOf_10 rfl rfl rfl ?_
      refine v_callV (rest := [.ref (xg X 41)]) (q := (RX5, TX5, 35)) C kvX5_117 (k_X5_inRig sg o p (by first | exact hM | exact hM.up34)) (by decide) (by decide) rfl rfl rfl rfl rfl (Nat.le_of_ble_eq_true rfl) (by decide) (by decide) dX5_beginOf_11 rfl ?_
      refine v_if_ge (tgt := 21) C dX5_beginOf_14 (by decide) rfl (fun h14_3 => ?_) (fun h14_3 => ?_)
      · skip
        refine v_iconst (v := 0) C dX5_beginOf_21 (by decide) rfl ?_
        refine v_callV (rest := []) (q := (RX5, TX5, 35)) C kvX5_103 (k_X5_fails sg o 0) (by decide) (by decide) rfl rfl rfl rfl rfl (Nat.le_of_ble_eq_true rfl) (by decide) (by decide) dX5_beginOf_22 rfl ?_
        refine v_if_eqB (tgt := 32) C dX5_beginOf_25 (by decide) rfl (fun _ => ?_) (fun h => absurd h (by decide))
        refine v_aload_n (j := 0) C dX5_beginOf_32 rfl rfl rfl ?_
        refine v_getr (c := 41) C 63 flX5_78 (by decide) rfl rfl dX5_beginOf_33 rfl ?_
        refine v_aload_n (j := 0) C dX5_beginOf_36 rfl rfl rfl ?_
        refine v_iload_n (j := 1) C dX5_beginOf_37 rfl rfl rfl ?_
        refine v_callV (rest := [.ref (xg X 63)]) (q := (RX5, TX5, 35)) C kvX5_117 (k34_X5_inRig sg 0 o p (by first | exact hM | exact hM.up34)) (by decide) (by decide) rfl rfl rfl rfl rfl (Nat.le_of_ble_eq_true rfl) (by decide) (by decide) dX5_beginOf_38 rfl ?_
        refine v_iald (c := 63) C (inRig_in (by assumption) hM.nh.ixl) (by decide) rfl dX5_beginOf_41 rfl ?_
        refine v_rwi (y := sg 63 (ix (fl_X5_inRig sg p (ix (sg 41 24)) 0))) ((up_ne _ _ (Or.inl (by decide))).trans rfl) ?_
        exact v_ret E dX5_beginOf_42 (by decide) (by decide) ((by simp only [fr_X5_beginOf, if_neg h6_1, if_neg h14_3])) ((by simp only [fs_X5_beginOf, if_neg h6_1, if_neg h14_3])) rfl
      · skip
        refine v_iconst (v := 1) C dX5_beginOf_17 (by decide) rfl ?_
        refine v_goto (pc1 := 22) C dX5_beginOf_18 (by decide) ?_
        refine v_callV (rest := []) (q := (RX5, TX5, 35)) C kvX5_103 (k_X5_fails sg o 1) (by decide) (by decide) rfl rfl rfl rfl rfl (Nat.le_of_ble_eq_true rfl) (by decide) (by decide) dX5_beginOf_22 rfl ?_
        refine v_if_eqB (tgt := 32) C dX5_beginOf_25 (by decide) rfl (fun h => absurd (by decide) h) (fun _ => ?_)
        refine v_iconst (v := 0) C dX5_beginOf_28 (by decide) rfl ?_
        refine v_goto (pc1 := 42) C dX5_beginOf_29 (by decide) ?_
        exact v_ret E dX5_beginOf_42 (by decide) (by decide) ((by simp only [fr_X5_beginOf, if_neg h6_1, if_pos h14_3])) ((by simp only [fs_X5_beginOf, if_neg h6_1, if_pos h14_3])) rfl
def fr_X5_takeDown (sg : Sg) : Int32 := (if (sg 41 24) = 0 then 0 else (sg 62 (ix (((sg 41 24) - 1)))))
def fs_X5_takeDown (sg : Sg) : Sg := (if (sg 41 24) = 0 then (up sg 41 34 1) else (up (up sg 41 34 0) 41 24 ((sg 41 24) - 1)))
set_option maxHeartbeats 4000000 in
set_option maxRecDepth 20000 in
theorem k_X5_takeDown {l : Launch} {D : va_G} {K : Nat → ClassId} {g : Nat → Nat} (sg : Sg) (o : Ot)  (hM : MI sg) : CN l yX5_takeDown cX5_takeDown 1 (some .int) 3 D K g [.ref (g 41)] sg o (some (.int (fr_X5_takeDown sg))) (fs_X5_takeDown sg) o :=
  mk_i (own := RX5) (av := fun g => [.ref (g 41)]) (lo := fun g => [(0, .ref (g 41))]) (by decide) rfl rfl (fun _ => Nat.le_of_ble_eq_true rfl) (fun _ => rfl) fun X C E => by
    refine v_aload_n (j := 0) C dX5_takeDown_0 rfl rfl rfl ?_
    refine v_aload_n (j := 0) C dX5_takeDown_1 rfl rfl rfl ?_
    refine v_geti (c := 41) C flX5_100 (by decide) rfl rfl dX5_takeDown_2 rfl ?_
    refine v_if_ne (tgt := 12) C dX5_takeDown_5 (by decide) rfl (fun h5_1 => ?_) (fun h5_1 => ?_)
    · skip
      refine v_iconst (v := 0) C dX5_takeDown_12 (by decide) rfl ?_
      refine v_callV (rest := []) (q := (RX5, TX5, 35)) C kvX5_103 (k_X5_fails sg o 0) (by decide) (by decide) rfl rfl rfl rfl rfl (Nat.le_of_ble_eq_true rfl) (by decide) (by decide) dX5_takeDown_13 rfl ?_
      refine v_if_eqB (tgt := 21) C dX5_takeDown_16 (by decide) rfl (fun _ => ?_) (fun h => absurd h (by decide))
      refine v_aload_n (j := 0) C dX5_takeDown_21 rfl rfl rfl ?_
      refine v_dup C dX5_takeDown_22 rfl rfl ?_
      refine v_geti (c := 41) C flX5_100 (by decide) rfl rfl dX5_takeDown_23 rfl ?_
      refine v_rwi (y := sg 41 24) ((up_ne _ _ (Or.inr (by decide))).trans rfl) ?_
      refine v_iconst (v := 1) C dX5_takeDown_26 (by decide) rfl ?_
      refine v_isub C dX5_takeDown_27 rfl ?_
      refine v_puti (c := 41) C fpX5_100 (by decide) rfl rfl dX5_takeDown_28 rfl ?_
      refine v_aload_n (j := 0) C dX5_takeDown_31 rfl rfl rfl ?_
      refine v_getr (c := 41) C 62 flX5_75 (by decide) rfl rfl dX5_takeDown_32 rfl ?_
      refine v_aload_n (j := 0) C dX5_takeDown_35 rfl rfl rfl ?_
      refine v_geti (c := 41) C flX5_100 (by decide) rfl rfl dX5_takeDown_36 rfl ?_
      refine v_rwi (y := ((sg 41 24) - 1)) up_at ?_
      refine v_iald (c := 62) C (hM.last (by assumption)) (by decide) rfl dX5_takeDown_39 rfl ?_
      refine v_rwi (y := sg 62 (ix (((sg 41 24) - 1)))) ((up_ne _ _ (Or.inl (by decide))).trans ((up_ne _ _ (Or.inl (by decide))).trans rfl)) ?_
      exact v_ret E dX5_takeDown_40 (by decide) (by decide) ((by simp only [fr_X5_takeDown, if_neg h5_1])) ((by simp only [fs_X5_takeDown, if_neg h5_1])) rfl
    · skip
      refine v_iconst (v := 1) C dX5_takeDown_8 (by decide) rfl ?_
      refine v_goto (pc1 := 13) C dX5_takeDown_9 (by decide) ?_
      refine v_callV (rest := []) (q := (RX5, TX5, 35)) C kvX5_103 (k_X5_fails sg o 1) (by decide) (by decide) rfl rfl rfl rfl rfl (Nat.le_of_ble_eq_true rfl) (by decide) (by decide) dX5_takeDown_13 rfl ?_
      refine v_if_eqB (tgt := 21) C dX5_takeDown_16 (by decide) rfl (fun h => absurd (by decide) h) (fun _ => ?_)
      refine v_iconst (v := 0) C dX5_takeDown_19 (by decide) rfl ?_
      exact v_ret E dX5_takeDown_20 (by decide) (by decide) ((by simp only [fr_X5_takeDown, if_pos h5_1])) ((by simp only [fs_X5_takeDown, if_pos h5_1])) rfl
set_option maxHeartbeats 4000000 in
set_option maxRecDepth 20000 in
theorem k_X5_isFixing {l : Launch} {D : va_G} {K : Nat → ClassId} {g : Nat → Nat} (sg : Sg) (o : Ot) (p : Int32) (q : Int32) (u : Int32) (v : Int32) (hM : MI sg) (hp : vp_in p 8) (hq : vp_in q 8) : CN l yX5_isFixing cX5_isFixing 5 (some .boolean) 2 D K g [.ref (g 41), .int p, .int q, .int u, .int v] sg o (some (.int (b2i (sg 42 (ix p) < sg 42 (ix q) ∧ (¬ u < sg 42 (ix p) ∧ ¬ sg 42 (ix q) < u) ∧ (¬ v < 0 ∧ ¬ 60 < v))))) sg o :=
  mk_i (own := RX5) (av := fun g => [.ref (g 41), .int p, .int q, .int u, .int v]) (lo := fun g => [(0, .ref (g 41)), (1, .int p), (2, .int q), (3, .int u), (4, .int v)]) (by decide) rfl b2i_nar (fun _ => Nat.le_of_ble_eq_true rfl) (fun _ => rfl) fun X C E => by
    have hb_p := ix_lt hp
    have hb_q := ix_lt hq
    refine v_aload_n (j := 0) C dX5_isFixing_0 rfl rfl rfl ?_
    refine v_getr (c := 41) C 42 flX5_7 (by decide) rfl rfl dX5_isFixing_1 rfl ?_
    refine v_iload_n (j := 2) C dX5_isFixing_4 rfl rfl rfl ?_
    refine v_iald (c := 42) C hq (by decide) rfl dX5_isFixing_5 rfl ?_
    refine v_aload_n (j := 0) C dX5_isFixing_6 rfl rfl rfl ?_
    refine v_getr (c := 41) C 42 flX5_7 (by decide) rfl rfl dX5_isFixing_7 rfl ?_
    refine v_iload_n (j := 1) C dX5_isFixing_10 rfl rfl rfl ?_
    refine v_iald (c := 42) C hp (by decide) rfl dX5_isFixing_11 rfl ?_
    refine v_icmp_le (tgt := 49) C dX5_isFixing_12 (by decide) rfl (fun h12_1 => ?_) (fun h12_1 => ?_)
    · skip
      refine v_iconst (v := 0) C dX5_isFixing_49 (by decide) rfl ?_
      exact v_ret E dX5_isFixing_50 (by decide) (by decide) (b2i_f (by first | assumption | (simp [h12_1]; done) | grind)) (rfl) rfl
    · skip
      refine v_iload_n (j := 3) C dX5_isFixing_15 rfl rfl rfl ?_
      refine v_aload_n (j := 0) C dX5_isFixing_16 rfl rfl rfl ?_
      refine v_getr (c := 41) C 42 flX5_7 (by decide) rfl rfl dX5_isFixing_17 rfl ?_
      refine v_iload_n (j := 1) C dX5_isFixing_20 rfl rfl rfl ?_
      refine v_iald (c := 42) C hp (by decide) rfl dX5_isFixing_21 rfl ?_
      refine v_aload_n (j := 0) C dX5_isFixing_22 rfl rfl rfl ?_
      refine v_getr (c := 41) C 42 flX5_7 (by decide) rfl rfl dX5_isFixing_23 rfl ?_
      refine v_iload_n (j := 2) C dX5_isFixing_26 rfl rfl rfl ?_
      refine v_iald (c := 42) C hq (by decide) rfl dX5_isFixing_27 rfl ?_
      refine v_callS (rest := []) C ksX5_93 (k_X5_in sg o u (sg 42 (ix p)) (sg 42 (ix q))) (by decide) rfl rfl (Nat.le_of_ble_eq_true rfl) (by decide) (by decide) dX5_isFixing_28 rfl ?_
      refine v_if_eqB (tgt := 49) C dX5_isFixing_31 (by decide) rfl (fun h31_2 => ?_) (fun h31_2 => ?_)
      · skip
        refine v_iconst (v := 0) C dX5_isFixing_49 (by decide) rfl ?_
        exact v_ret E dX5_isFixing_50 (by decide) (by decide) (b2i_f (by first | assumption | (simp [h12_1, h31_2]; done) | grind)) (rfl) rfl
      · skip
        refine v_iload (j := 4) C dX5_isFixing_34 rfl rfl ?_
        refine v_iconst (v := 0) C dX5_isFixing_36 (by decide) rfl ?_
        refine v_bipush (v := 60) C dX5_isFixing_37 (by decide) rfl ?_
        refine v_callS (rest := []) C ksX5_93 (k_X5_in sg o v 0 60) (by decide) rfl rfl (Nat.le_of_ble_eq_true rfl) (by decide) (by decide) dX5_isFixing_39 rfl ?_
        refine v_if_eqB (tgt := 49) C dX5_isFixing_42 (by decide) rfl (fun h42_3 => ?_) (fun h42_3 => ?_)
        · skip
          refine v_iconst (v := 0) C dX5_isFixing_49 (by decide) rfl ?_
          exact v_ret E dX5_isFixing_50 (by decide) (by decide) (b2i_f (by first | assumption | (simp [h12_1, h31_2, h42_3]; done) | grind)) (rfl) rfl
        · skip
          refine v_iconst (v := 1) C dX5_isFixing_45 (by decide) rfl ?_
          refine v_goto (pc1 := 50) C dX5_isFixing_46 (by decide) ?_
          exact v_ret E dX5_isFixing_50 (by decide) (by decide) (b2i_t (by first | assumption | (simp [h12_1, h31_2, h42_3]; done) | grind)) (rfl) rfl
