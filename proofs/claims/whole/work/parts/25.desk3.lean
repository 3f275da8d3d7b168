def fl_X4_isInUse (sg : Sg) (p : Int32) : Nat → Nat → Bool
  | 0, _ => false
  | n + 1, k => if sg (31 + k) 3 = p then (if ¬ sg 5 6 >>> (nI k &&& 31) &&& 1 = 0 then true else fl_X4_isInUse sg p n (k + 1)) else fl_X4_isInUse sg p n (k + 1)
def fl_anI (sg : Sg) : Nat → Nat → Int32 → Int32
  | 0, _, f => f
  | n + 1, k, f => fl_anI sg n (k + 1) (if ¬ f >>> (nI k &&& 31) &&& 1 = 0 then f ||| sg (31 + k) 8 else f)
def fl_anO (sg : Sg) (N : Nat) : Nat → Nat → Int32 → Int32
  | 0, _, f => f
  | n + 1, k, f => fl_anO sg N n (k + 1) (fl_anI sg N 0 f)
set_option maxHeartbeats 4000000 in
set_option maxRecDepth 20000 in
theorem lp_X4_isInUse {X : Cx} {rk : Nat} (hrk : 10 ≤ rk) (C : CF X cX4_isInUse RX4 3 rk 0 0) (sg : Sg) (o : Ot) (hD : DI sg) (N : Nat) (h6 : N ≤ 6) (hN : sg 0 8 = nI N) (p : Int32) {z : Int32} (E : Ei X cX4_isInUse 0 0 sg o z) : ∀ (n k : Nat) , n + k = N → z = b2i (fl_X4_isInUse sg p n k = true) → V X 0 0 3 sg o [(2, .int (nI k)), (0, .ref (xg X 0)), (1, .int p)] 2 [] := by
  refine loop_ind fun n ih => ?_
  intro k hnk hr
  refine v_iload_n (j := 0) C dX4_isInUse_2 rfl rfl rfl ?_
  refine v_aload_n (j := 1) C dX4_isInUse_3 rfl rfl rfl ?_
  refine v_geti (c := 0) C flX4_48 (by decide) rfl rfl dX4_isInUse_4 rfl ?_
  refine v_icmp_ge (tgt := 45) C dX4_isInUse_7 (by decide) rfl (fun h7_1 => ?_) (fun h7_1 => ?_)
  · skip
    rw [hN, nI_lt_iff (by omega) (by omega)] at h7_1; obtain rfl : n = 0 := by omega
    refine v_iconst (v := 0) C dX4_isInUse_45 (by decide) rfl ?_
    exact v_ret E dX4_isInUse_46 (by decide) (by decide) (by rw [hr]; exact b2i_f (ne_true_of_eq_false (by simp only [fl_X4_isInUse]))) (rfl) rfl
  · skip
    rw [hN, nI_lt_iff (by omega) (by omega)] at h7_1; obtain ⟨m, rfl⟩ : ∃ m, n = m + 1 := ⟨n - 1, by omega⟩
    refine v_aload_n (j := 1) C dX4_isInUse_10 rfl rfl rfl ?_
    refine v_getr (c := 0) C 2 flX4_17 (by decide) rfl rfl dX4_isInUse_11 rfl ?_
    refine v_iload_n (j := 0) C dX4_isInUse_14 rfl rfl rfl ?_
    refine v_aaldN (c := 2) C (Or.inr (Or.inl rfl)) (by omega) (by decide) (by decide) rfl dX4_isInUse_15 rfl ?_
    refine v_geti (c := (31 + k)) C flX4_104 (lt_pc (by omega)) (lay_pc (by omega)) rfl dX4_isInUse_16 rfl ?_
    refine v_iload_n (j := 2) C dX4_isInUse_19 rfl rfl rfl ?_
    refine v_icmp_ne (tgt := 39) C dX4_isInUse_20 (by decide) rfl (fun h20_2 => ?_) (fun h20_2 => ?_)
    · skip
      refine v_iinc (j := 0) (v := (nI (k + 1))) C [(2, .int (nI (k + 1))), (0, .ref (xg X 0)), (1, .int p)] dX4_isInUse_39 rfl (nI_add1 _) (by decide) rfl rfl ?_
      refine v_goto (pc1 := 2) C dX4_isInUse_42 (by decide) ?_
      exact ih m (by omega) (k + 1)  (by omega) (by rw [hr]; simp only [fl_X4_isInUse, if_neg h20_2])
    · skip
      refine v_iload_n (j := 0) C dX4_isInUse_23 rfl rfl rfl ?_
      refine v_aload_n (j := 1) C dX4_isInUse_24 rfl rfl rfl ?_
      refine v_getr (c := 0) C 5 flX4_34 (by decide) rfl rfl dX4_isInUse_25 rfl ?_
      refine v_geti (c := 5) C flX4_307 (by decide) rfl rfl dX4_isInUse_28 rfl ?_
      refine v_callS (rest := []) C ksX4_140 (k_X4_isIn sg o (nI k) (sg 5 6)) (by omega) rfl rfl (Nat.le_of_ble_eq_true rfl) (by decide) (by decide) dX4_isInUse_31 rfl ?_
      refine v_if_eqB (tgt := 39) C dX4_isInUse_34 (by decide) rfl (fun h34_3 => ?_) (fun h34_3 => ?_)
      · skip
        refine v_iinc (j := 0) (v := (nI (k + 1))) C [(2, .int (nI (k + 1))), (0, .ref (xg X 0)), (1, .int p)] dX4_isInUse_39 rfl (nI_add1 _) (by decide) rfl rfl ?_
        refine v_goto (pc1 := 2) C dX4_isInUse_42 (by decide) ?_
        exact ih m (by omega) (k + 1)  (by omega) (by rw [hr]; simp only [fl_X4_isInUse, if_pos h20_2, if_neg h34_3])
      · skip
        refine v_iconst (v := 1) C dX4_isInUse_37 (by decide) rfl ?_
        exact v_ret E dX4_isInUse_38 (by decide) (by decide) (by rw [hr]; exact b2i_t (by simp only [fl_X4_isInUse, if_pos h20_2, if_pos h34_3])) (rfl) rfl
set_option maxHeartbeats 4000000 in
set_option maxRecDepth 20000 in
theorem k_X4_isInUse {l : Launch} {D : va_G} {K : Nat → ClassId} {g : Nat → Nat} (sg : Sg) (o : Ot) (p : Int32) (hD : DI sg) : CN l yX4_isInUse cX4_isInUse 3 (some .boolean) 10 D K g [.ref (g 0), .int p] sg o (some (.int (b2i (fl_X4_isInUse sg p (ix (sg 0 8)) 0 = true)))) sg o :=
  mk_i (own := RX4) (av := fun g => [.ref (g 0), .int p]) (lo := fun g => [(0, .ref (g 0)), (1, .int p)]) (by decide) rfl b2i_nar (fun _ => Nat.le_of_ble_eq_true rfl) (fun _ => rfl) fun X C E => by
    refine v_iconst (v := nI 0) C dX4_isInUse_0 (by decide) rfl ?_
    refine v_istore_n C [(2, .int (nI 0)), (0, .ref (xg X 0)), (1, .int p)] dX4_isInUse_1 rfl (by decide) rfl rfl ?_
    exact lp_X4_isInUse (by decide) C sg o hD _ hD.nc.ixl hD.nc.ixe p E _ 0 (Nat.add_zero _) rfl
set_option maxHeartbeats 4000000 in
set_option maxRecDepth 20000 in
theorem lp_X4_anI {X : Cx} {rk : Nat} (hrk : 10 ≤ rk) (C : CF X cX4_allNeedsOf RX4 5 rk 0 0) (sg : Sg) (o : Ot) (hD : DI sg) (N : Nat) (h6 : N ≤ 6) (hN : sg 0 8 = nI N) (p rnd : Int32) {fF : Int32} (kk : V X 0 0 5 sg o [(4, .int (nI N)), (3, .int rnd), (2, .int fF), (0, .ref (xg X 0)), (1, .int p)] 60 []) : ∀ (n k : Nat) (f : Int32), n + k = N → fF = fl_anI sg n k f → V X 0 0 5 sg o [(4, .int (nI k)), (3, .int rnd), (2, .int f), (0, .ref (xg X 0)), (1, .int p)] 23 [] := by
  refine loop_ind fun n ih => ?_
  intro k f hnk hr
  refine v_iload (j := 0) C dX4_allNeedsOf_23 rfl rfl ?_
  refine v_aload_n (j := 3) C dX4_allNeedsOf_25 rfl rfl rfl ?_
  refine v_geti (c := 0) C flX4_48 (by decide) rfl rfl dX4_allNeedsOf_26 rfl ?_
  refine v_icmp_ge (tgt := 60) C dX4_allNeedsOf_29 (by decide) rfl (fun h29_1 => ?_) (fun h29_1 => ?_)
  · skip
    rw [hN, nI_lt_iff (by omega) (by omega)] at h29_1; obtain rfl : n = 0 := by omega
    exact v_eq rfl (by rw [hr, show k = N by omega]; rfl) rfl kk
  · skip
    rw [hN, nI_lt_iff (by omega) (by omega)] at h29_1; obtain ⟨m, rfl⟩ : ∃ m, n = m + 1 := ⟨n - 1, by omega⟩
    refine v_iload (j := 0) C dX4_allNeedsOf_32 rfl rfl ?_
    refine v_iload_n (j := 2) C dX4_allNeedsOf_34 rfl rfl rfl ?_
    refine v_callS (rest := []) C ksX4_140 (k_X4_isIn sg o (nI k) f) (by omega) rfl rfl (Nat.le_of_ble_eq_true rfl) (by decide) (by decide) dX4_allNeedsOf_35 rfl ?_
    refine v_if_eqB (tgt := 54) C dX4_allNeedsOf_38 (by decide) rfl (fun h38_2 => ?_) (fun h38_2 => ?_)
    · skip
      refine v_iinc (j := 0) (v := (nI (k + 1))) C [(4, .int (nI (k + 1))), (3, .int rnd), (2, .int f), (0, .ref (xg X 0)), (1, .int p)] dX4_allNeedsOf_54 rfl (nI_add1 _) (by decide) rfl rfl ?_
      refine v_goto (pc1 := 23) C dX4_allNeedsOf_57 (by decide) ?_
      exact ih m (by omega) (k + 1) f (by omega) (by rw [hr]; simp only [fl_anI, if_neg h38_2])
    · skip
      refine v_iload_n (j := 2) C dX4_allNeedsOf_41 rfl rfl rfl ?_
      refine v_aload_n (j := 3) C dX4_allNeedsOf_42 rfl rfl rfl ?_
      refine v_getr (c := 0) C 2 flX4_17 (by decide) rfl rfl dX4_allNeedsOf_43 rfl ?_
      refine v_iload (j := 0) C dX4_allNeedsOf_46 rfl rfl ?_
      refine v_aaldN (c := 2) C (Or.inr (Or.inl rfl)) (by omega) (by decide) (by decide) rfl dX4_allNeedsOf_48 rfl ?_
      refine v_geti (c := (31 + k)) C flX4_149 (lt_pc (by omega)) (lay_pc (by omega)) rfl dX4_allNeedsOf_49 rfl ?_
      refine v_ior C dX4_allNeedsOf_52 rfl ?_
      refine v_istore_n C [(2, .int (f ||| (sg (31 + k) 8))), (4, .int (nI k)), (3, .int rnd), (0, .ref (xg X 0)), (1, .int p)] dX4_allNeedsOf_53 rfl (by decide) rfl rfl ?_
      refine v_iinc (j := 1) (v := (nI (k + 1))) C [(4, .int (nI (k + 1))), (2, .int (f ||| (sg (31 + k) 8))), (3, .int rnd), (0, .ref (xg X 0)), (1, .int p)] dX4_allNeedsOf_54 rfl (nI_add1 _) (by decide) rfl rfl ?_
      refine v_goto (pc1 := 23) C dX4_allNeedsOf_57 (by decide) ?_
      refine v_sub [0, 2, 1, 3, 4] rfl ?_
      exact ih m (by omega) (k + 1) (f ||| (sg (31 + k) 8)) (by omega) (by rw [hr]; simp only [fl_anI, if_pos h38_2])
set_option maxHeartbeats 4000000 in
set_option maxRecDepth 20000 in
theorem lp_X4_anO {X : Cx} {rk : Nat} (hrk : 10 ≤ rk) (C : CF X cX4_allNeedsOf RX4 5 rk 0 0) (sg : Sg) (o : Ot) (hD : DI sg) (N : Nat) (h6 : N ≤ 6) (hN : sg 0 8 = nI N) (p : Int32) {z : Int32} (E : Ei X cX4_allNeedsOf 0 0 sg o z) : ∀ (n k : Nat) (f : Int32), n + k = N → z = fl_anO sg N n k f → V X 0 0 5 sg o [(3, .int (nI k)), (2, .int f), (0, .ref (xg X 0)), (1, .int p)] 12 [] := by
  refine loop_ind fun n ih => ?_
  intro k f hnk hr
  refine v_iload_n (j := 0) C dX4_allNeedsOf_12 rfl rfl rfl ?_
  refine v_aload_n (j := 2) C dX4_allNeedsOf_13 rfl rfl rfl ?_
  refine v_geti (c := 0) C flX4_48 (by decide) rfl rfl dX4_allNeedsOf_14 rfl ?_
  refine v_icmp_ge (tgt := 66) C dX4_allNeedsOf_17 (by decide) rfl (fun h17_1 => ?_) (fun h17_1 => ?_)
  · skip
    rw [hN, nI_lt_iff (by omega) (by omega)] at h17_1; obtain rfl : n = 0 := by omega
    refine v_iload_n (j := 1) C dX4_allNeedsOf_66 rfl rfl rfl ?_
    exact v_ret E dX4_allNeedsOf_67 (by decide) (by decide) (by rw [hr]; simp only [fl_anO]) (rfl) rfl
  · skip
    rw [hN, nI_lt_iff (by omega) (by omega)] at h17_1; obtain ⟨m, rfl⟩ : ∃ m, n = m + 1 := ⟨n - 1, by omega⟩
    refine v_iconst (v := nI 0) C dX4_allNeedsOf_20 (by decide) rfl ?_
    refine v_istore C [(4, .int (nI 0)), (3, .int (nI k)), (2, .int f), (0, .ref (xg X 0)), (1, .int p)] dX4_allNeedsOf_21 (by decide) rfl rfl ?_
    skip
    refine lp_X4_anI hrk C sg o hD N h6 hN p (nI k) ?_ N 0 f (Nat.add_zero _) rfl
    refine v_iinc (j := 1) (v := (nI (k + 1))) C [(3, .int (nI (k + 1))), (4, .int (nI N)), (2, .int ((fl_anI sg N 0 f))), (0, .ref (xg X 0)), (1, .int p)] dX4_allNeedsOf_60 rfl (nI_add1 _) (by decide) rfl rfl ?_
    refine v_goto (pc1 := 12) C dX4_allNeedsOf_63 (by decide) ?_
    refine v_sub [0, 2, 3, 4] rfl ?_
    exact ih m (by omega) (k + 1) ((fl_anI sg N 0 f)) (by omega) (by rw [hr]; simp only [fl_anO])
set_option maxHeartbeats 4000000 in
set_option maxRecDepth 20000 in
theorem k_X4_allNeedsOf {l : Launch} {D : va_G} {K : Nat → ClassId} {g : Nat → Nat} (sg : Sg) (o : Ot) (p : Int32) (hD : DI sg) (hp : vp_in p 6) : CN l yX4_allNeedsOf cX4_allNeedsOf 5 (some .int) 10 D K g [.ref (g 0), .int p] sg o (some (.int (fl_anO sg (ix (sg 0 8)) (ix (sg 0 8)) 0 (sg (31 + ix p) 8)))) sg o :=
  mk_i (own := RX4) (av := fun g => [.ref (g 0), .int p]) (lo := fun g => [(0, .ref (g 0)), (1, .int p)]) (by decide) rfl rfl (fun _ => Nat.le_of_ble_eq_true rfl) (fun _ => rfl) fun X C E => by
    have hb_p := ix_lt hp
    refine v_aload_n (j := 0) C dX4_allNeedsOf_0 rfl rfl rfl ?_
    refine v_getr (c := 0) C 2 flX4_17 (by decide) rfl rfl dX4_allNeedsOf_1 rfl ?_
    refine v_iload_n (j := 1) C dX4_allNeedsOf_4 rfl rfl rfl ?_
    refine v_aald (c := 2) C (Or.inr (Or.inl rfl)) hp (by decide) rfl dX4_allNeedsOf_5 rfl ?_
    refine v_geti (c := (31 + (ix p))) C flX4_149 (lt_pc (ix_lt hp)) (lay_pc (ix_lt hp)) rfl dX4_allNeedsOf_6 rfl ?_
    refine v_istore_n C [(2, .int (sg (31 + (ix p)) 8)), (0, .ref (xg X 0)), (1, .int p)] dX4_allNeedsOf_9 rfl (by decide) rfl rfl ?_
    refine v_iconst (v := nI 0) C dX4_allNeedsOf_10 (by decide) rfl ?_
    refine v_istore_n C [(3, .int (nI 0)), (2, .int (sg (31 + (ix p)) 8)), (0, .ref (xg X 0)), (1, .int p)] dX4_allNeedsOf_11 rfl (by decide) rfl rfl ?_
    exact lp_X4_anO (by decide) C sg o hD _ hD.nc.ixl hD.nc.ixe p E _ 0 (sg (31 + ix p) 8) (Nat.add_zero _) rfl
def fe_cbp (sg : Sg) (r t k : Nat) : Int32 := if 0 < (if sg (37 + t) 6 - sg (r + 2) k < sg (r + 3) k - sg (r + 2) k then sg (37 + t) 6 - sg (r + 2) k else sg (r + 3) k - sg (r + 2) k) then (if sg (37 + t) 6 - sg (r + 2) k < sg (r + 3) k - sg (r + 2) k then sg (37 + t) 6 - sg (r + 2) k else sg (r + 3) k - sg (r + 2) k) else 0
def fl_cbp (sg : Sg) (r t : Nat) : Nat → Nat → Int32 → Int32
  | 0, _, s => s
  | n + 1, k, s => fl_cbp sg r t n (k + 1) (s + (fe_cbp sg r t k * sg (37 + t) 5 + ((sg (r + 3) k - sg (r + 2) k) - fe_cbp sg r t k) * sg (37 + t) 7))
def fl_cmm (sg : Sg) (t : Nat) : Nat → Nat → Int64 → Int64
  | 0, _, s => s
  | n + 1, k, s => fl_cmm sg t n (k + 1) (if fl_X2_isWorkedOn sg 5 (nI k) (ix (sg 5 5)) 0 = true then (if nI k < sg (37 + t) 6 then s + Int32.toInt64 (sg (37 + t) 5) else s + Int32.toInt64 (sg (37 + t) 7)) else s)
set_option maxHeartbeats 4000000 in
set_option maxRecDepth 20000 in
theorem lp_X4_cbp {X : Cx} {rk : Nat} (hrk : 10 ≤ rk) (C : CF X cX4_costByPieces RX4 7 rk 0 0) (sg : Sg) (o : Ot) (r t : Nat) (h_r : isR r) (h_t : t < 4) (N : Nat) (h6 : N ≤ 6) (hN : sg r 5 = nI N) {z : Int32} (E : Ei X cX4_costByPieces 0 0 sg o z) : ∀ (n k : Nat) (s : Int32), n + k = N → z = fl_cbp sg r t n k s → V X 0 0 7 sg o [(4, .int (nI k)), (3, .int s), (2, .ref (xg X (37 + t))), (0, .ref (xg X 0)), (1, .ref (xg X r))] 16 [] := by
  refine loop_ind fun n ih => ?_
  intro k s hnk hr
  refine v_iload (j := 0) C dX4_costByPieces_16 rfl rfl ?_
  refine v_aload_n (j := 4) C dX4_costByPieces_18 rfl rfl rfl ?_
  refine v_geti (c := r) C flX4_200 (lt_rg h_r) (lay_rg h_r) rfl dX4_costByPieces_19 rfl ?_
  refine v_icmp_ge (tgt := 92) C dX4_costByPieces_22 (by decide) rfl (fun h22_1 => ?_) (fun h22_1 => ?_)
  · skip
    rw [hN, nI_lt_iff (by omega) (by omega)] at h22_1; obtain rfl : n = 0 := by omega
    refine v_iload_n (j := 1) C dX4_costByPieces_92 rfl rfl rfl ?_
    exact v_ret E dX4_costByPieces_93 (by decide) (by decide) (by rw [hr]; simp only [fl_cbp]) (rfl) rfl
  · skip
    rw [hN, nI_lt_iff (by omega) (by omega)] at h22_1; obtain ⟨m, rfl⟩ : ∃ m, n = m + 1 := ⟨n - 1, by omega⟩
    refine v_aload_n (j := 4) C dX4_costByPieces_25 rfl rfl rfl ?_
    refine v_getr (c := r) C (r + 3) flX4_334 (lt_rg h_r) (lay_rg h_r) rfl dX4_costByPieces_26 rfl ?_
    refine v_iload (j := 0) C dX4_costByPieces_29 rfl rfl ?_
    refine v_ialdN (c := (r + 3)) C (by omega) (by decide) (lt_ra h_r (by decide)) (lay_r3 h_r) dX4_costByPieces_31 rfl ?_
    refine v_aload_n (j := 4) C dX4_costByPieces_32 rfl rfl rfl ?_
    refine v_getr (c := r) C (r + 2) flX4_256 (lt_rg h_r) (lay_rg h_r) rfl dX4_costByPieces_33 rfl ?_
    refine v_iload (j := 0) C dX4_costByPieces_36 rfl rfl ?_
    refine v_ialdN (c := (r + 2)) C (by omega) (by decide) (lt_ra h_r (by decide)) (lay_r2 h_r) dX4_costByPieces_38 rfl ?_
    refine v_isub C dX4_costByPieces_39 rfl ?_
    refine v_istore C [(5, .int ((sg (r + 3) k) - (sg (r + 2) k))), (4, .int (nI k)), (3, .int s), (2, .ref (xg X (37 + t))), (0, .ref (xg X 0)), (1, .ref (xg X r))] dX4_costByPieces_40 (by decide) rfl rfl ?_
    refine v_iconst (v := 0) C dX4_costByPieces_42 (by decide) rfl ?_
    refine v_iload (j := 0) C dX4_costByPieces_43 rfl rfl ?_
    refine v_aload_n (j := 3) C dX4_costByPieces_45 rfl rfl rfl ?_
    refine v_geti (c := (37 + t)) C flX4_194 (lt_tn h_t) (lay_tn h_t) rfl dX4_costByPieces_46 rfl ?_
    refine v_aload_n (j := 5) C dX4_costByPieces_49 rfl rfl rfl ?_
    refine v_getr (c := r) C (r + 2) flX4_256 (lt_rg h_r) (lay_rg h_r) rfl dX4_costByPieces_50 rfl ?_
    refine v_iload (j := 1) C dX4_costByPieces_53 rfl rfl ?_
    refine v_ialdN (c := (r + 2)) C (by omega) (by decide) (lt_ra h_r (by decide)) (lay_r2 h_r) dX4_costByPieces_55 rfl ?_
    refine v_isub C dX4_costByPieces_56 rfl ?_
    refine v_mmin C ksX4_340 (by omega) (Nat.le_of_ble_eq_true rfl) (by decide) (by decide) dX4_costByPieces_57 rfl ?_
    refine v_mmax C ksX4_323 (by omega) (Nat.le_of_ble_eq_true rfl) (by decide) (by decide) dX4_costByPieces_60 rfl ?_
    refine v_istore C [(6, .int ((if 0 < ((if ((sg (37 + t) 6) - (sg (r + 2) k)) < ((sg (r + 3) k) - (sg (r + 2) k)) then ((sg (37 + t) 6) - (sg (r + 2) k)) else ((sg (r + 3) k) - (sg (r + 2) k)))) then ((if ((sg (37 + t) 6) - (sg (r + 2) k)) < ((sg (r + 3) k) - (sg (r + 2) k)) then ((sg (37 + t) 6) - (sg (r + 2) k)) else ((sg (r + 3) k) - (sg (r + 2) k)))) else 0))), (5, .int ((sg (r + 3) k) - (sg (r + 2) k))), (4, .int (nI k)), (3, .int s), (2, .ref (xg X (37 + t))), (0, .ref (xg X 0)), (1, .ref (xg X r))] dX4_costByPieces_63 (by decide) rfl rfl ?_
    refine v_iload_n (j := 3) C dX4_costByPieces_65 rfl rfl rfl ?_
    refine v_iload (j := 0) C dX4_costByPieces_66 rfl rfl ?_
    refine v_aload_n (j := 4) C dX4_costByPieces_68 rfl rfl rfl ?_
    refine v_geti (c := (37 + t)) C flX4_191 (lt_tn h_t) (lay_tn h_t) rfl dX4_costByPieces_69 rfl ?_
    refine v_imul C dX4_costByPieces_72 rfl ?_
    refine v_iload (j := 1) C dX4_costByPieces_73 rfl rfl ?_
    refine v_iload (j := 0) C dX4_costByPieces_75 rfl rfl ?_
    refine v_isub C dX4_costByPieces_77 rfl ?_
    refine v_aload_n (j := 4) C dX4_costByPieces_78 rfl rfl rfl ?_
    refine v_geti (c := (37 + t)) C flX4_197 (lt_tn h_t) (lay_tn h_t) rfl dX4_costByPieces_79 rfl ?_
    refine v_imul C dX4_costByPieces_82 rfl ?_
    refine v_iadd C dX4_costByPieces_83 rfl ?_
    refine v_iadd C dX4_costByPieces_84 rfl ?_
    refine v_istore_n C [(3, .int (s + ((((if 0 < ((if ((sg (37 + t) 6) - (sg (r + 2) k)) < ((sg (r + 3) k) - (sg (r + 2) k)) then ((sg (37 + t) 6) - (sg (r + 2) k)) else ((sg (r + 3) k) - (sg (r + 2) k)))) then ((if ((sg (37 + t) 6) - (sg (r + 2) k)) < ((sg (r + 3) k) - (sg (r + 2) k)) then ((sg (37 + t) 6) - (sg (r + 2) k)) else ((sg (r + 3) k) - (sg (r + 2) k)))) else 0)) * (sg (37 + t) 5)) + ((((sg (r + 3) k) - (sg (r + 2) k)) - ((if 0 < ((if ((sg (37 + t) 6) - (sg (r + 2) k)) < ((sg (r + 3) k) - (sg (r + 2) k)) then ((sg (37 + t) 6) - (sg (r + 2) k)) else ((sg (r + 3) k) - (sg (r + 2) k)))) then ((if ((sg (37 + t) 6) - (sg (r + 2) k)) < ((sg (r + 3) k) - (sg (r + 2) k)) then ((sg (37 + t) 6) - (sg (r + 2) k)) else ((sg (r + 3) k) - (sg (r + 2) k)))) else 0))) * (sg (37 + t) 7))))), (6, .int ((if 0 < ((if ((sg (37 + t) 6) - (sg (r + 2) k)) < ((sg (r + 3) k) - (sg (r + 2) k)) then ((sg (37 + t) 6) - (sg (r + 2) k)) else ((sg (r + 3) k) - (sg (r + 2) k)))) then ((if ((sg (37 + t) 6) - (sg (r + 2) k)) < ((sg (r + 3) k) - (sg (r + 2) k)) then ((sg (37 + t) 6) - (sg (r + 2) k)) else ((sg (r + 3) k) - (sg (r + 2) k)))) else 0))), (5, .int ((sg (r + 3) k) - (sg (r + 2) k))), (4, .int (nI k)), (2, .ref (xg X (37 + t))), (0, .ref (xg X 0)), (1, .ref (xg X r))] dX4_costByPieces_85 rfl (by decide) rfl rfl ?_
    refine v_iinc (j := 3) (v := (nI (k + 1))) C [(4, .int (nI (k + 1))), (3, .int (s + ((((if 0 < ((if ((sg (37 + t) 6) - (sg (r + 2) k)) < ((sg (r + 3) k) - (sg (r + 2) k)) then ((sg (37 + t) 6) - (sg (r + 2) k)) else ((sg (r + 3) k) - (sg (r + 2) k)))) then ((if ((sg (37 + t) 6) - (sg (r + 2) k)) < ((sg (r + 3) k) - (sg (r + 2) k)) then ((sg (37 + t) 6) - (sg (r + 2) k)) else ((sg (r + 3) k) - (sg (r + 2) k)))) else 0)) * (sg (37 + t) 5)) + ((((sg (r + 3) k) - (sg (r + 2) k)) - ((if 0 < ((if ((sg (37 + t) 6) - (sg (r + 2) k)) < ((sg (r + 3) k) - (sg (r + 2) k)) then ((sg (37 + t) 6) - (sg (r + 2) k)) else ((sg (r + 3) k) - (sg (r + 2) k)))) then ((if ((sg (37 + t) 6) - (sg (r + 2) k)) < ((sg (r + 3) k) - (sg (r + 2) k)) then ((sg (37 + t) 6) - (sg (r + 2) k)) else ((sg (r + 3) k) - (sg (r + 2) k)))) else 0))) * (sg (37 + t) 7))))), (6, .int ((if 0 < ((if ((sg (37 + t) 6) - (sg (r + 2) k)) < ((sg (r + 3) k) - (sg (r + 2) k)) then ((sg (37 + t) 6) - (sg (r + 2) k)) else ((sg (r + 3) k) - (sg (r + 2) k)))) then ((if ((sg (37 + t) 6) - (sg (r + 2) k)) < ((sg (r + 3) k) - (sg (r + 2) k)) then ((sg (37 + t) 6) - (sg (r + 2) k)) else ((sg (r + 3) k) - (sg (r + 2) k)))) else 0))), (5, .int ((sg (r + 3) k) - (sg (r + 2) k))), (2, .ref (xg X (37 + t))), (0, .ref (xg X 0)), (1, .ref (xg X r))] dX4_costByPieces_86 rfl (nI_add1 _) (by decide) rfl rfl ?_
    refine v_goto (pc1 := 16) C dX4_costByPieces_89 (by decide) ?_
    refine v_sub [0, 1, 4, 5, 6] rfl ?_
    exact ih m (by omega) (k + 1) _ (by omega) (by rw [hr]; rfl)
def fv_cbp (sg : Sg) (r : Nat) : Int32 := if sg 0 10 < 0 then 0 else fl_cbp sg r (ix (sg 0 10)) (ix (sg r 5)) 0 0
set_option maxHeartbeats 4000000 in
set_option maxRecDepth 20000 in
theorem k_X4_costByPieces {l : Launch} {D : va_G} {K : Nat → ClassId} {g : Nat → Nat} (sg : Sg) (o : Ot) (r : Nat) (h_r : isR r) (hD : DI sg) : CN l yX4_costByPieces cX4_costByPieces 7 (some .int) 10 D K g [.ref (g 0), .ref (g r)] sg o (some (.int (fv_cbp sg r))) sg o :=
  mk_i (own := RX4) (av := fun g => [.ref (g 0), .ref (g r)]) (lo := fun g => [(0, .ref (g 0)), (1, .ref (g r))]) (by decide) rfl rfl (fun _ => Nat.le_of_ble_eq_true rfl) (fun _ => rfl) fun X C E => by
    have hR_r : r = 5 ∨ r = 11 ∨ r = 17 := h_r
    refine v_aload_n (j := 0) C dX4_costByPieces_0 rfl rfl rfl ?_
    refine v_getp (c := 0) C flX4_54 (by decide) rfl rfl dX4_costByPieces_1 rfl (fun h1_1 => ?_) (fun h1_1 => ?_)
    · skip
      refine v_astore_nN C [(2, .null), (0, .ref (xg X 0)), (1, .ref (xg X r))] dX4_costByPieces_4 rfl (by decide) rfl rfl ?_
      refine v_aload_nN (j := 0) C dX4_costByPieces_5 rfl rfl rfl ?_
      refine v_ifnonnullN C dX4_costByPieces_6 rfl ?_
      refine v_iconst (v := 0) C dX4_costByPieces_9 (by decide) rfl ?_
      exact v_ret E dX4_costByPieces_10 (by decide) (by decide) ((by simp only [fv_cbp, if_pos h1_1])) (rfl) rfl
    · skip
      refine v_astore_n C [(2, .ref (xg X (37 + ix (sg 0 10)))), (0, .ref (xg X 0)), (1, .ref (xg X r))] dX4_costByPieces_4 rfl (by decide) rfl rfl ?_
      refine v_aload_n (j := 0) C dX4_costByPieces_5 rfl rfl rfl ?_
      refine v_ifnonnull (tgt := 11) C dX4_costByPieces_6 (by decide) ?_
      refine v_iconst (v := 0) C dX4_costByPieces_11 (by decide) rfl ?_
      refine v_istore_n C [(3, .int 0), (2, .ref (xg X (37 + ix (sg 0 10)))), (0, .ref (xg X 0)), (1, .ref (xg X r))] dX4_costByPieces_12 rfl (by decide) rfl rfl ?_
      refine v_iconst (v := nI 0) C dX4_costByPieces_13 (by decide) rfl ?_
      refine v_istore C [(4, .int (nI 0)), (3, .int 0), (2, .ref (xg X (37 + ix (sg 0 10)))), (0, .ref (xg X 0)), (1, .ref (xg X r))] dX4_costByPieces_14 (by decide) rfl rfl ?_
      exact lp_X4_cbp (by decide) C sg o r (ix (sg 0 10)) h_r (ix_lt (hD.tn h1_1)) _ (hD.sz h_r).ixl (hD.sz h_r).ixe E _ 0 0 (Nat.add_zero _) (by unfold fv_cbp; rw [if_neg h1_1])
set_option maxHeartbeats 4000000 in
set_option maxRecDepth 20000 in
theorem lp_X4_cmm {X : Cx} {rk : Nat} (hrk : 10 ≤ rk) (C : CF X cX4_costMinuteByMinute RX4 6 rk 0 0) (sg : Sg) (o : Ot) (hD : DI sg) (t : Nat) (h_t : t < 4) (L : Int32) (hL : ix L < 2 ^ 31) {z : Int64} (E : El X cX4_costMinuteByMinute 0 0 sg o z) : ∀ (n k : Nat) (s : Int64), n + k = ix L → z = fl_cmm sg t n k s → V X 0 0 6 sg o [(5, .int (nI k)), (4, .int L), (2, .long (s)), (0, .ref (xg X 0)), (1, .ref (xg X (37 + t)))] 25 [] := by
  refine loop_ind fun n ih => ?_
  intro k s hnk hr
  refine v_iload (j := 0) C dX4_costMinuteByMinute_25 rfl rfl ?_
  refine v_iload (j := 1) C dX4_costMinuteByMinute_27 rfl rfl ?_
  refine v_icmp_ge (tgt := 75) C dX4_costMinuteByMinute_29 (by decide) rfl (fun h29_1 => ?_) (fun h29_1 => ?_)
  · skip
    rw [nI_lt_ix (by omega)] at h29_1; obtain rfl : n = 0 := by omega
    refine v_lload_n (j := 2) C dX4_costMinuteByMinute_75 rfl rfl rfl ?_
    exact v_lret E dX4_costMinuteByMinute_76 (by decide) (by decide) (by rw [hr]; simp only [fl_cmm]) (rfl) rfl
  · skip
    rw [nI_lt_ix (by omega)] at h29_1; obtain ⟨m, rfl⟩ : ∃ m, n = m + 1 := ⟨n - 1, by omega⟩
    refine v_aload_n (j := 3) C dX4_costMinuteByMinute_32 rfl rfl rfl ?_
    refine v_getr (c := 0) C 5 flX4_34 (by decide) rfl rfl dX4_costMinuteByMinute_33 rfl ?_
    refine v_iload (j := 0) C dX4_costMinuteByMinute_36 rfl rfl ?_
    refine v_callV (rest := []) (q := (RX2, TX2, 8)) C kvX4_343 (k_X2_isWorkedOn sg o 5 (nI k) isR5 hD) (by omega) (by decide) rfl rfl rfl rfl rfl (Nat.le_of_ble_eq_true rfl) (by decide) (by decide) dX4_costMinuteByMinute_38 rfl ?_
    refine v_if_eqB (tgt := 69) C dX4_costMinuteByMinute_41 (by decide) rfl (fun h41_2 => ?_) (fun h41_2 => ?_)
    · skip
      refine v_iinc (j := 0) (v := (nI (k + 1))) C [(5, .int (nI (k + 1))), (4, .int L), (2, .long (s)), (0, .ref (xg X 0)), (1, .ref (xg X (37 + t)))] dX4_costMinuteByMinute_69 rfl (nI_add1 _) (by decide) rfl rfl ?_
      refine v_goto (pc1 := 25) C dX4_costMinuteByMinute_72 (by decide) ?_
      exact ih m (by omega) (k + 1) (s) (by omega) (by rw [hr]; simp only [fl_cmm, if_neg h41_2])
    · skip
      refine v_lload_n (j := 2) C dX4_costMinuteByMinute_44 rfl rfl rfl ?_
      refine v_iload (j := 0) C dX4_costMinuteByMinute_45 rfl rfl ?_
      refine v_aload_n (j := 4) C dX4_costMinuteByMinute_47 rfl rfl rfl ?_
      refine v_geti (c := (37 + t)) C flX4_194 (lt_tn h_t) (lay_tn h_t) rfl dX4_costMinuteByMinute_48 rfl ?_
      refine v_icmp_ge (tgt := 62) C dX4_costMinuteByMinute_51 (by decide) rfl (fun h51_3 => ?_) (fun h51_3 => ?_)
      · skip
        refine v_aload_n (j := 4) C dX4_costMinuteByMinute_62 rfl rfl rfl ?_
        refine v_geti (c := (37 + t)) C flX4_197 (lt_tn h_t) (lay_tn h_t) rfl dX4_costMinuteByMinute_63 rfl ?_
        refine v_i2l C dX4_costMinuteByMinute_66 rfl ?_
        refine v_ladd C dX4_costMinuteByMinute_67 rfl ?_
        refine v_lstore_n C [(2, .long ((s) + (Int32.toInt64 (sg (37 + t) 7)))), (5, .int (nI k)), (4, .int L), (0, .ref (xg X 0)), (1, .ref (xg X (37 + t)))] dX4_costMinuteByMinute_68 rfl (by decide) rfl rfl ?_
        refine v_iinc (j := 1) (v := (nI (k + 1))) C [(5, .int (nI (k + 1))), (2, .long ((s) + (Int32.toInt64 (sg (37 + t) 7)))), (4, .int L), (0, .ref (xg X 0)), (1, .ref (xg X (37 + t)))] dX4_costMinuteByMinute_69 rfl (nI_add1 _) (by decide) rfl rfl ?_
        refine v_goto (pc1 := 25) C dX4_costMinuteByMinute_72 (by decide) ?_
        refine v_sub [0, 2, 1, 3, 4] rfl ?_
        exact ih m (by omega) (k + 1) ((s) + (Int32.toInt64 (sg (37 + t) 7))) (by omega) (by rw [hr]; simp only [fl_cmm, if_pos h41_2, if_neg h51_3])
      · skip
        refine v_aload_n (j := 4) C dX4_costMinuteByMinute_54 rfl rfl rfl ?_
        refine v_geti (c := (37 + t)) C flX4_191 (lt_tn h_t) (lay_tn h_t) rfl dX4_costMinuteByMinute_55 rfl ?_
        refine v_i2l C dX4_costMinuteByMinute_58 rfl ?_
        refine v_goto (pc1 := 67) C dX4_costMinuteByMinute_59 (by decide) ?_
        refine v_ladd C dX4_costMinuteByMinute_67 rfl ?_
        refine v_lstore_n C [(2, .long ((s) + (Int32.toInt64 (sg (37 + t) 5)))), (5, .int (nI k)), (4, .int L), (0, .ref (xg X 0)), (1, .ref (xg X (37 + t)))] dX4_costMinuteByMinute_68 rfl (by decide) rfl rfl ?_
        refine v_iinc (j := 1) (v := (nI (k + 1))) C [(5, .int (nI (k + 1))), (2, .long ((s) + (Int32.toInt64 (sg (37 + t) 5)))), (4, .int L), (0, .ref (xg X 0)), (1, .ref (xg X (37 + t)))] dX4_costMinuteByMinute_69 rfl (nI_add1 _) (by decide) rfl rfl ?_
        refine v_goto (pc1 := 25) C dX4_costMinuteByMinute_72 (by decide) ?_
        refine v_sub [0, 2, 1, 3, 4] rfl ?_
        exact ih m (by omega) (k + 1) ((s) + (Int32.toInt64 (sg (37 + t) 5))) (by omega) (by rw [hr]; simp only [fl_cmm, if_pos h41_2, if_pos h51_3])
def fv_cmm (sg : Sg) : Int64 := if sg 0 10 < 0 then 0 else fl_cmm sg (ix (sg 0 10)) (ix (fr_X2_lastMinute sg 5)) 0 0
set_option maxHeartbeats 4000000 in
set_option maxRecDepth 20000 in
theorem k_X4_costMinuteByMinute {l : Launch} {D : va_G} {K : Nat → ClassId} {g : Nat → Nat} (sg : Sg) (o : Ot)  (hD : DI sg) : CN l yX4_costMinuteByMinute cX4_costMinuteByMinute 6 (some .long) 10 D K g [.ref (g 0)] sg o (some (.long (fv_cmm sg))) sg o :=
  mk_l (own := RX4) (av := fun g => [.ref (g 0)]) (lo := fun g => [(0, .ref (g 0))]) (by decide) rfl (fun _ => Nat.le_of_ble_eq_true rfl) (fun _ => rfl) fun X C E => by
    refine v_aload_n (j := 0) C dX4_costMinuteByMinute_0 rfl rfl rfl ?_
    refine v_getp (c := 0) C flX4_54 (by decide) rfl rfl dX4_costMinuteByMinute_1 rfl (fun h1_1 => ?_) (fun h1_1 => ?_)
    · skip
      refine v_astore_nN C [(1, .null), (0, .ref (xg X 0))] dX4_costMinuteByMinute_4 rfl (by decide) rfl rfl ?_
      refine v_aload_nN (j := 0) C dX4_costMinuteByMinute_5 rfl rfl rfl ?_
      refine v_ifnonnullN C dX4_costMinuteByMinute_6 rfl ?_
      refine v_lconst (v := 0) C dX4_costMinuteByMinute_9 rfl rfl ?_
      exact v_lret E dX4_costMinuteByMinute_10 (by decide) (by decide) ((by simp only [fv_cmm, if_pos h1_1])) (rfl) rfl
    · skip
      refine v_astore_n C [(1, .ref (xg X (37 + ix (sg 0 10)))), (0, .ref (xg X 0))] dX4_costMinuteByMinute_4 rfl (by decide) rfl rfl ?_
      refine v_aload_n (j := 0) C dX4_costMinuteByMinute_5 rfl rfl rfl ?_
      refine v_ifnonnull (tgt := 11) C dX4_costMinuteByMinute_6 (by decide) ?_
      refine v_lconst (v := 0) C dX4_costMinuteByMinute_11 rfl rfl ?_
      refine v_lstore_n C [(2, .long (0)), (1, .ref (xg X (37 + ix (sg 0 10)))), (0, .ref (xg X 0))] dX4_costMinuteByMinute_12 rfl (by decide) rfl rfl ?_
      refine v_aload_n (j := 2) C dX4_costMinuteByMinute_13 rfl rfl rfl ?_
      refine v_getr (c := 0) C 5 flX4_34 (by decide) rfl rfl dX4_costMinuteByMinute_14 rfl ?_
      refine v_callV (rest := []) (q := (RX2, TX2, 8)) C kvX4_234 (k_X2_lastMinute sg o 5 isR5 hD) (by decide) (by decide) rfl rfl rfl rfl rfl (Nat.le_of_ble_eq_true rfl) (by decide) (by decide) dX4_costMinuteByMinute_17 rfl ?_
      refine v_istore C [(4, .int (fr_X2_lastMinute sg 5)), (2, .long (0)), (1, .ref (xg X (37 + ix (sg 0 10)))), (0, .ref (xg X 0))] dX4_costMinuteByMinute_20 (by decide) rfl rfl ?_
      refine v_iconst (v := nI 0) C dX4_costMinuteByMinute_22 (by decide) rfl ?_
      refine v_istore C [(5, .int (nI 0)), (4, .int (fr_X2_lastMinute sg 5)), (2, .long (0)), (1, .ref (xg X (37 + ix (sg 0 10)))), (0, .ref (xg X 0))] dX4_costMinuteByMinute_23 (by decide) rfl rfl ?_
      refine v_sub [0, 1, 2, 4, 3] rfl ?_
      exact lp_X4_cmm (by decide) C sg o hD (ix (sg 0 10)) (ix_lt (hD.tn h1_1)) _ (ix_small _) E _ 0 0 (Nat.add_zero _) (by unfold fv_cmm; rw [if_neg h1_1])
def fb_X4_isBetter (sg : Sg) (r : Nat) (q : Nat) : Bool := (if (sg r 7) = (sg q 7) then (if (fr_X2_lastMinute sg r) = (fr_X2_lastMinute sg q) then (if (fv_cbp sg r) < (fv_cbp sg q) then true else false) else (if (fr_X2_lastMinute sg r) < (fr_X2_lastMinute sg q) then true else false)) else (if (sg q 7) < (sg r 7) then true else false))
set_option maxHeartbeats 4000000 in
set_option maxRecDepth 20000 in
theorem k_X4_isBetter {l : Launch} {D : va_G} {K : Nat → ClassId} {g : Nat → Nat} (sg : Sg) (o : Ot) (r : Nat) (q : Nat) (h_r : isR r) (h_q : isR q) (hD : DI sg) : CN l yX4_isBetter cX4_isBetter 3 (some .boolean) 11 D K g [.ref (g 0), .ref (g r), .ref (g q)] sg o (some (.int (b2i (fb_X4_isBetter sg r q = true)))) sg o :=
  mk_i (own := RX4) (av := fun g => [.ref (g 0), .ref (g r), .ref (g q)]) (lo := fun g => [(0, .ref (g 0)), (1, .ref (g r)), (2, .ref (g q))]) (by decide) rfl b2i_nar (fun _ => Nat.le_of_ble_eq_true rfl) (fun _ => rfl) fun X C E => by
    have hR_r : r = 5 ∨ r = 11 ∨ r = 17 := h_r
    have hR_q : q = 5 ∨ q = 11 ∨ q = 17 := h_q
    refine v_aload_n (j := 1) C dX4_isBetter_0 rfl rfl rfl ?_
    refine v_geti (c := r) C flX4_273 (lt_rg h_r) (lay_rg h_r) rfl dX4_isBetter_1 rfl ?_
    refine v_aload_n (j := 2) C dX4_isBetter_4 rfl rfl rfl ?_
    refine v_geti (c := q) C flX4_273 (lt_rg h_q) (lay_rg h_q) rfl dX4_isBetter_5 rfl ?_
    refine v_icmp_eq (tgt := 28) C dX4_isBetter_8 (by decide) rfl (fun h8_1 => ?_) (fun h8_1 => ?_)
    · skip
      refine v_aload_n (j := 1) C dX4_isBetter_28 rfl rfl rfl ?_
      refine v_callV (rest := []) (q := (RX2, TX2, 8)) C kvX4_234 (k_X2_lastMinute sg o r h_r hD) (by decide) (lt_rg h_r) (lay_rg h_r) rfl rfl rfl rfl (Nat.le_of_ble_eq_true rfl) (by decide) (by decide) dX4_isBetter_29 rfl ?_
      refine v_aload_n (j := 2) C dX4_isBetter_32 rfl rfl rfl ?_
      refine v_callV (rest := [.int (fr_X2_lastMinute sg r)]) (q := (RX2, TX2, 8)) C kvX4_234 (k_X2_lastMinute sg o q h_q hD) (by decide) (lt_rg h_q) (lay_rg h_q) rfl rfl rfl rfl (Nat.le_of_ble_eq_true rfl) (by decide) (by decide) dX4_isBetter_33 rfl ?_
      refine v_icmp_eq (tgt := 56) C dX4_isBetter_36 (by decide) rfl (fun h36_2 => ?_) (fun h36_2 => ?_)
      · skip
        refine v_aload_n (j := 0) C dX4_isBetter_56 rfl rfl rfl ?_
        refine v_aload_n (j := 1) C dX4_isBetter_57 rfl rfl rfl ?_
        refine v_callV (rest := []) (q := (RX4, TX4, 13)) C kvX4_262 (k_X4_costByPieces sg o r h_r hD) (by decide) (by decide) rfl rfl rfl rfl rfl (Nat.le_of_ble_eq_true rfl) (by decide) (by decide) dX4_isBetter_58 rfl ?_
        refine v_aload_n (j := 0) C dX4_isBetter_61 rfl rfl rfl ?_
        refine v_aload_n (j := 2) C dX4_isBetter_62 rfl rfl rfl ?_
        refine v_callV (rest := [.int (fv_cbp sg r)]) (q := (RX4, TX4, 13)) C kvX4_262 (k_X4_costByPieces sg o q h_q hD) (by decide) (by decide) rfl rfl rfl rfl rfl (Nat.le_of_ble_eq_true rfl) (by decide) (by decide) dX4_isBetter_63 rfl ?_
        refine v_icmp_ge (tgt := 73) C dX4_isBetter_66 (by decide) rfl (fun h66_3 => ?_) (fun h66_3 => ?_)
        · skip
          refine v_iconst (v := 0) C dX4_isBetter_73 (by decide) rfl ?_
          exact v_ret E dX4_isBetter_74 (by decide) (by decide) (b2i_f (ne_true_of_eq_false (by simp only [fb_X4_isBetter, if_pos h8_1, if_pos h36_2, if_neg h66_3]))) (rfl) rfl
        · skip
          refine v_iconst (v := 1) C dX4_isBetter_69 (by decide) rfl ?_
          refine v_goto (pc1 := 74) C dX4_isBetter_70 (by decide) ?_
          exact v_ret E dX4_isBetter_74 (by decide) (by decide) (b2i_t (by simp only [fb_X4_isBetter, if_pos h8_1, if_pos h36_2, if_pos h66_3])) (rfl) rfl
      · skip
        refine v_aload_n (j := 1) C dX4_isBetter_39 rfl rfl rfl ?_
        refine v_callV (rest := []) (q := (RX2, TX2, 8)) C kvX4_234 (k_X2_lastMinute sg o r h_r hD) (by decide) (lt_rg h_r) (lay_rg h_r) rfl rfl rfl rfl (Nat.le_of_ble_eq_true rfl) (by decide) (by decide) dX4_isBetter_40 rfl ?_
        refine v_aload_n (j := 2) C dX4_isBetter_43 rfl rfl rfl ?_
        refine v_callV (rest := [.int (fr_X2_lastMinute sg r)]) (q := (RX2, TX2, 8)) C kvX4_234 (k_X2_lastMinute sg o q h_q hD) (by decide) (lt_rg h_q) (lay_rg h_q) rfl rfl rfl rfl (Nat.le_of_ble_eq_true rfl) (by decide) (by decide) dX4_isBetter_44 rfl ?_
        refine v_icmp_ge (tgt := 54) C dX4_isBetter_47 (by decide) rfl (fun h47_4 => ?_) (fun h47_4 => ?_)
        · skip
          refine v_iconst (v := 0) C dX4_isBetter_54 (by decide) rfl ?_
          exact v_ret E dX4_isBetter_55 (by decide) (by decide) (b2i_f (ne_true_of_eq_false (by simp only [fb_X4_isBetter, if_pos h8_1, if_neg h36_2, if_neg h47_4]))) (rfl) rfl
        · skip
          refine v_iconst (v := 1) C dX4_isBetter_50 (by decide) rfl ?_
          refine v_goto (pc1 := 55) C dX4_isBetter_51 (by decide) ?_
          exact v_ret E dX4_isBetter_55 (by decide) (by decide) (b2i_t (by simp only [fb_X4_isBetter, if_pos h8_1, if_neg h36_2, if_pos h47_4])) (rfl) rfl
    · skip
      refine v_aload_n (j := 1) C dX4_isBetter_11 rfl rfl rfl ?_
      refine v_geti (c := r) C flX4_273 (lt_rg h_r) (lay_rg h_r) rfl dX4_isBetter_12 rfl ?_
      refine v_aload_n (j := 2) C dX4_isBetter_15 rfl rfl rfl ?_
      refine v_geti (c := q) C flX4_273 (lt_rg h_q) (lay_rg h_q) rfl dX4_isBetter_16 rfl ?_
      refine v_icmp_le (tgt := 26) C dX4_isBetter_19 (by decide) rfl (fun h19_5 => ?_) (fun h19_5 => ?_)
      · skip
        refine v_iconst (v := 0) C dX4_isBetter_26 (by decide) rfl ?_
        exact v_ret E dX4_isBetter_27 (by decide) (by decide) (b2i_f (ne_true_of_eq_false (by simp only [fb_X4_isBetter, if_neg h8_1, if_neg h19_5]))) (rfl) rfl
      · skip
        refine v_iconst (v := 1) C dX4_isBetter_22 (by decide) rfl ?_
        refine v_goto (pc1 := 27) C dX4_isBetter_23 (by decide) ?_
        exact v_ret E dX4_isBetter_27 (by decide) (by decide) (b2i_t (by simp only [fb_X4_isBetter, if_neg h8_1, if_pos h19_5])) (rfl) rfl
def fb_X4_mayComeLater (sg : Sg) (j : Nat) (t : Nat) : Bool := (if ¬ sg (31 + j) 4 < 0 ∧ ¬ sg (31 + j) 5 < 0 then (if (sg (37 + t) 2) < (sg (31 + j) 1) then false else (if (sg (37 + t) 4) < (((if (fr_X2_lastMinute sg 11) < (sg 4 (ix (sg (31 + j) 3))) then (sg 4 (ix (sg (31 + j) 3))) else (fr_X2_lastMinute sg 11))) + (sg (31 + j) 1)) then false else (if ¬ sg (31 + j) 4 < 0 ∧ ¬ sg (31 + j) 5 < 0 ∧ (fr_X3_allows sg t (ix (sg (31 + j) 4)) < sg 16 (ix (sg (31 + j) 4)) + sg (31 + j) 6 ∨ fr_X3_allows sg t (ix (sg (31 + j) 5)) < sg 16 (ix (sg (31 + j) 5)) + sg (31 + j) 7) then false else true))) else false)
set_option maxHeartbeats 4000000 in
set_option maxRecDepth 20000 in
theorem k_X4_mayComeLater {l : Launch} {D : va_G} {K : Nat → ClassId} {g : Nat → Nat} (sg : Sg) (o : Ot) (j : Nat) (t : Nat) (h_j : j < 6) (h_t : t < 4) (hD : DI sg) : CN l yX4_mayComeLater cX4_mayComeLater 4 (some .boolean) 5 D K g [.ref (g 0), .ref (g (31 + j)), .ref (g (37 + t))] sg o (some (.int (b2i (fb_X4_mayComeLater sg j t = true)))) sg o :=
  mk_i (own := RX4) (av := fun g => [.ref (g 0), .ref (g (31 + j)), .ref (g (37 + t))]) (lo := fun g => [(0, .ref (g 0)), (1, .ref (g (31 + j))), (2, .ref (g (37 + t)))]) (by decide) rfl b2i_nar (fun _ => Nat.le_of_ble_eq_true rfl) (fun _ => rfl) fun X C E => by
    refine v_aload_n (j := 0) C dX4_mayComeLater_0 rfl rfl rfl ?_
    refine v_getr (c := 0) C 11 flX4_38 (by decide) rfl rfl dX4_mayComeLater_1 rfl ?_
    refine v_callV (rest := []) (q := (RX2, TX2, 8)) C kvX4_234 (k_X2_lastMinute sg o 11 isR11 hD) (by decide) (by decide) rfl rfl rfl rfl rfl (Nat.le_of_ble_eq_true rfl) (by decide) (by decide) dX4_mayComeLater_4 rfl ?_
    refine v_aload_n (j := 0) C dX4_mayComeLater_7 rfl rfl rfl ?_
    refine v_getr (c := 0) C 4 flX4_27 (by decide) rfl rfl dX4_mayComeLater_8 rfl ?_
    refine v_aload_n (j := 1) C dX4_mayComeLater_11 rfl rfl rfl ?_
    refine v_geti (c := (31 + j)) C flX4_104 (lt_pc h_j) (lay_pc h_j) rfl dX4_mayComeLater_12 rfl ?_
    refine v_iald (c := 4) C (hD.tr h_j) (by decide) rfl dX4_mayComeLater_15 rfl ?_
    refine v_mmax C ksX4_323 (by omega) (Nat.le_of_ble_eq_true rfl) (by decide) (by decide) dX4_mayComeLater_16 rfl ?_
    refine v_istore_n C [(3, .int ((if (fr_X2_lastMinute sg 11) < (sg 4 (ix (sg (31 + j) 3))) then (sg 4 (ix (sg (31 + j) 3))) else (fr_X2_lastMinute sg 11)))), (0, .ref (xg X 0)), (1, .ref (xg X (31 + j))), (2, .ref (xg X (37 + t)))] dX4_mayComeLater_19 rfl (by decide) rfl rfl ?_
    refine v_aload_n (j := 2) C dX4_mayComeLater_20 rfl rfl rfl ?_
    refine v_callV (rest := []) (q := (RX0, TX0, 9)) C kvX4_312 (k_X0_isFixed sg o j h_j) (by decide) (lt_pc h_j) (lay_pc h_j) rfl rfl rfl rfl (Nat.le_of_ble_eq_true rfl) (by decide) (by decide) dX4_mayComeLater_21 rfl ?_
    refine v_if_eqB (tgt := 68) C dX4_mayComeLater_24 (by decide) rfl (fun h24_1 => ?_) (fun h24_1 => ?_)
    · skip
      refine v_iconst (v := 0) C dX4_mayComeLater_68 (by decide) rfl ?_
      exact v_ret E dX4_mayComeLater_69 (by decide) (by decide) (b2i_f (ne_true_of_eq_false (by simp only [fb_X4_mayComeLater, if_neg h24_1]))) (rfl) rfl
    · skip
      refine v_aload_n (j := 2) C dX4_mayComeLater_27 rfl rfl rfl ?_
      refine v_geti (c := (31 + j)) C flX4_98 (lt_pc h_j) (lay_pc h_j) rfl dX4_mayComeLater_28 rfl ?_
      refine v_aload_n (j := 3) C dX4_mayComeLater_31 rfl rfl rfl ?_
      refine v_geti (c := (37 + t)) C flX4_177 (lt_tn h_t) (lay_tn h_t) rfl dX4_mayComeLater_32 rfl ?_
      refine v_icmp_gt (tgt := 68) C dX4_mayComeLater_35 (by decide) rfl (fun h35_2 => ?_) (fun h35_2 => ?_)
      · skip
        refine v_iconst (v := 0) C dX4_mayComeLater_68 (by decide) rfl ?_
        exact v_ret E dX4_mayComeLater_69 (by decide) (by decide) (b2i_f (ne_true_of_eq_false (by simp only [fb_X4_mayComeLater, if_pos h24_1, if_pos h35_2]))) (rfl) rfl
      · skip
        refine v_iload_n (j := 0) C dX4_mayComeLater_38 rfl rfl rfl ?_
        refine v_aload_n (j := 2) C dX4_mayComeLater_39 rfl rfl rfl ?_
        refine v_geti (c := (31 + j)) C flX4_98 (lt_pc h_j) (lay_pc h_j) rfl dX4_mayComeLater_40 rfl ?_
        refine v_iadd C dX4_mayComeLater_43 rfl ?_
        refine v_aload_n (j := 3) C dX4_mayComeLater_44 rfl rfl rfl ?_
        refine v_geti (c := (37 + t)) C flX4_183 (lt_tn h_t) (lay_tn h_t) rfl dX4_mayComeLater_45 rfl ?_
        refine v_icmp_gt (tgt := 68) C dX4_mayComeLater_48 (by decide) rfl (fun h48_3 => ?_) (fun h48_3 => ?_)
        · skip
          refine v_iconst (v := 0) C dX4_mayComeLater_68 (by decide) rfl ?_
          exact v_ret E dX4_mayComeLater_69 (by decide) (by decide) (b2i_f (ne_true_of_eq_false (by simp only [fb_X4_mayComeLater, if_pos h24_1, if_neg h35_2, if_pos h48_3]))) (rfl) rfl
        · skip
          refine v_aload_n (j := 1) C dX4_mayComeLater_51 rfl rfl rfl ?_
          refine v_aload_n (j := 1) C dX4_mayComeLater_52 rfl rfl rfl ?_
          refine v_getr (c := 0) C 11 flX4_38 (by decide) rfl rfl dX4_mayComeLater_53 rfl ?_
          refine v_aload_n (j := 2) C dX4_mayComeLater_56 rfl rfl rfl ?_
          refine v_aload_n (j := 3) C dX4_mayComeLater_57 rfl rfl rfl ?_
          refine v_callV (rest := []) (q := (RX4, TX4, 13)) C kvX4_315 (k_X4_overloads sg o 11 j t isR11 h_j h_t hD) (by decide) (by decide) rfl rfl rfl rfl rfl (Nat.le_of_ble_eq_true rfl) (by decide) (by decide) dX4_mayComeLater_58 rfl ?_
          refine v_if_neB (tgt := 68) C dX4_mayComeLater_61 (by decide) rfl (fun h61_4 => ?_) (fun h61_4 => ?_)
          · skip
            refine v_iconst (v := 0) C dX4_mayComeLater_68 (by decide) rfl ?_
            exact v_ret E dX4_mayComeLater_69 (by decide) (by decide) (b2i_f (ne_true_of_eq_false (by simp only [fb_X4_mayComeLater, if_pos h24_1, if_neg h35_2, if_neg h48_3, if_pos h61_4]))) (rfl) rfl
          · skip
            refine v_iconst (v := 1) C dX4_mayComeLater_64 (by decide) rfl ?_
            refine v_goto (pc1 := 69) C dX4_mayComeLater_65 (by decide) ?_
            exact v_ret E dX4_mayComeLater_69 (by decide) (by decide) (b2i_t (by simp only [fb_X4_mayComeLater, if_pos h24_1, if_neg h35_2, if_neg h48_3, if_neg h61_4])) (rfl) rfl
def fl_mlb (sg : Sg) (t : Nat) : Nat → Nat → Int32 → Int32 → Bool
  | 0, _, w, m => if w = sg 17 7 then (if fr_X2_lastMinute sg 17 < m then false else true) else (if sg 17 7 < w then true else false)
  | n + 1, k, w, m => if ¬ sg 11 6 >>> (nI k &&& 31) &&& 1 = 0 then fl_mlb sg t n (k + 1) w m else (if fb_X4_mayComeLater sg k t = true then fl_mlb sg t n (k + 1) (w + sg (31 + k) 2) (m + sg (31 + k) 1) else fl_mlb sg t n (k + 1) w m)
set_option maxHeartbeats 4000000 in
set_option maxRecDepth 20000 in
theorem lp_X4_mlb {X : Cx} {rk : Nat} (hrk : 10 ≤ rk) (C : CF X cX4_mayLeadToBetter RX4 5 rk 0 0) (sg : Sg) (o : Ot) (hD : DI sg) (N : Nat) (h6 : N ≤ 6) (hN : sg 0 8 = nI N) (t : Nat) (h_t : t < 4) {z : Int32} (E : Ei X cX4_mayLeadToBetter 0 0 sg o z) : ∀ (n k : Nat) (wo : Int32) (mi : Int32), n + k = N → z = b2i (fl_mlb sg t n k wo mi = true) → V X 0 0 5 sg o [(4, .int (nI k)), (3, .int mi), (2, .int wo), (0, .ref (xg X 0)), (1, .ref (xg X (37 + t)))] 19 [] := by
  refine loop_ind fun n ih => ?_
  intro k wo mi hnk hr
  refine v_iload (j := 0) C dX4_mayLeadToBetter_19 rfl rfl ?_
  refine v_aload_n (j := 3) C dX4_mayLeadToBetter_21 rfl rfl rfl ?_
  refine v_geti (c := 0) C flX4_48 (by decide) rfl rfl dX4_mayLeadToBetter_22 rfl ?_
  refine v_icmp_ge (tgt := 90) C dX4_mayLeadToBetter_25 (by decide) rfl (fun h25_1 => ?_) (fun h25_1 => ?_)
  · skip
    rw [hN, nI_lt_iff (by omega) (by omega)] at h25_1; obtain rfl : n = 0 := by omega
    refine v_iload_n (j := 2) C dX4_mayLeadToBetter_90 rfl rfl rfl ?_
    refine v_aload_n (j := 3) C dX4_mayLeadToBetter_91 rfl rfl rfl ?_
    refine v_getr (c := 0) C 17 flX4_41 (by decide) rfl rfl dX4_mayLeadToBetter_92 rfl ?_
    refine v_geti (c := 17) C flX4_273 (by decide) rfl rfl dX4_mayLeadToBetter_95 rfl ?_
    refine v_icmp_eq (tgt := 118) C dX4_mayLeadToBetter_98 (by decide) rfl (fun h98_2 => ?_) (fun h98_2 => ?_)
    · skip
      refine v_iload_n (j := 1) C dX4_mayLeadToBetter_118 rfl rfl rfl ?_
      refine v_aload_n (j := 3) C dX4_mayLeadToBetter_119 rfl rfl rfl ?_
      refine v_getr (c := 0) C 17 flX4_41 (by decide) rfl rfl dX4_mayLeadToBetter_120 rfl ?_
      refine v_callV (rest := [.int mi]) (q := (RX2, TX2, 8)) C kvX4_234 (k_X2_lastMinute sg o 17 isR17 hD) (by omega) (by decide) rfl rfl rfl rfl rfl (Nat.le_of_ble_eq_true rfl) (by decide) (by decide) dX4_mayLeadToBetter_123 rfl ?_
      refine v_icmp_gt (tgt := 133) C dX4_mayLeadToBetter_126 (by decide) rfl (fun h126_3 => ?_) (fun h126_3 => ?_)
      · skip
        refine v_iconst (v := 0) C dX4_mayLeadToBetter_133 (by decide) rfl ?_
        exact v_ret E dX4_mayLeadToBetter_134 (by decide) (by decide) (by rw [hr]; exact b2i_f (ne_true_of_eq_false (by simp only [fl_mlb, if_pos h98_2, if_pos h126_3]))) (rfl) rfl
      · skip
        refine v_iconst (v := 1) C dX4_mayLeadToBetter_129 (by decide) rfl ?_
        refine v_goto (pc1 := 134) C dX4_mayLeadToBetter_130 (by decide) ?_
        exact v_ret E dX4_mayLeadToBetter_134 (by decide) (by decide) (by rw [hr]; exact b2i_t (by simp only [fl_mlb, if_pos h98_2, if_neg h126_3])) (rfl) rfl
    · skip
      refine v_iload_n (j := 2) C dX4_mayLeadToBetter_101 rfl rfl rfl ?_
      refine v_aload_n (j := 3) C dX4_mayLeadToBetter_102 rfl rfl rfl ?_
      refine v_getr (c := 0) C 17 flX4_41 (by decide) rfl rfl dX4_mayLeadToBetter_103 rfl ?_
      refine v_geti (c := 17) C flX4_273 (by decide) rfl rfl dX4_mayLeadToBetter_106 rfl ?_
      refine v_icmp_le (tgt := 116) C dX4_mayLeadToBetter_109 (by decide) rfl (fun h109_4 => ?_) (fun h109_4 => ?_)
      · skip
        refine v_iconst (v := 0) C dX4_mayLeadToBetter_116 (by decide) rfl ?_
        exact v_ret E dX4_mayLeadToBetter_117 (by decide) (by decide) (by rw [hr]; exact b2i_f (ne_true_of_eq_false (by simp only [fl_mlb, if_neg h98_2, if_neg h109_4]))) (rfl) rfl
      · skip
        refine v_iconst (v := 1) C dX4_mayLeadToBetter_112 (by decide) rfl ?_
        refine v_goto (pc1 := 117) C dX4_mayLeadToBetter_113 (by decide) ?_
        exact v_ret E dX4_mayLeadToBetter_117 (by decide) (by decide) (by rw [hr]; exact b2i_t (by simp only [fl_mlb, if_neg h98_2, if_pos h109_4])) (rfl) rfl
  · skip
    rw [hN, nI_lt_iff (by omega) (by omega)] at h25_1; obtain ⟨m, rfl⟩ : ∃ m, n = m + 1 := ⟨n - 1, by omega⟩
    refine v_iload (j := 0) C dX4_mayLeadToBetter_28 rfl rfl ?_
    refine v_aload_n (j := 3) C dX4_mayLeadToBetter_30 rfl rfl rfl ?_
    refine v_getr (c := 0) C 11 flX4_38 (by decide) rfl rfl dX4_mayLeadToBetter_31 rfl ?_
    refine v_geti (c := 11) C flX4_307 (by decide) rfl rfl dX4_mayLeadToBetter_34 rfl ?_
    refine v_callS (rest := []) C ksX4_140 (k_X4_isIn sg o (nI k) (sg 11 6)) (by omega) rfl rfl (Nat.le_of_ble_eq_true rfl) (by decide) (by decide) dX4_mayLeadToBetter_37 rfl ?_
    refine v_if_neB (tgt := 84) C dX4_mayLeadToBetter_40 (by decide) rfl (fun h40_5 => ?_) (fun h40_5 => ?_)
    · skip
      refine v_iinc (j := 0) (v := (nI (k + 1))) C [(4, .int (nI (k + 1))), (3, .int mi), (2, .int wo), (0, .ref (xg X 0)), (1, .ref (xg X (37 + t)))] dX4_mayLeadToBetter_84 rfl (nI_add1 _) (by decide) rfl rfl ?_
      refine v_goto (pc1 := 19) C dX4_mayLeadToBetter_87 (by decide) ?_
      exact ih m (by omega) (k + 1) wo mi (by omega) (by rw [hr]; simp only [fl_mlb, if_pos h40_5])
    · skip
      refine v_aload_n (j := 3) C dX4_mayLeadToBetter_43 rfl rfl rfl ?_
      refine v_aload_n (j := 3) C dX4_mayLeadToBetter_44 rfl rfl rfl ?_
      refine v_getr (c := 0) C 2 flX4_17 (by decide) rfl rfl dX4_mayLeadToBetter_45 rfl ?_
      refine v_iload (j := 0) C dX4_mayLeadToBetter_48 rfl rfl ?_
      refine v_aaldN (c := 2) C (Or.inr (Or.inl rfl)) (by omega) (by decide) (by decide) rfl dX4_mayLeadToBetter_50 rfl ?_
      refine v_aload_n (j := 4) C dX4_mayLeadToBetter_51 rfl rfl rfl ?_
      refine v_callV (rest := []) (q := (RX4, TX4, 13)) C kvX4_357 (k_X4_mayComeLater sg o k t (by omega) h_t hD) (by omega) (by decide) rfl rfl rfl rfl rfl (Nat.le_of_ble_eq_true rfl) (by decide) (by decide) dX4_mayLeadToBetter_52 rfl ?_
      refine v_if_eqB (tgt := 84) C dX4_mayLeadToBetter_55 (by decide) rfl (fun h55_6 => ?_) (fun h55_6 => ?_)
      · skip
        refine v_iinc (j := 0) (v := (nI (k + 1))) C [(4, .int (nI (k + 1))), (3, .int mi), (2, .int wo), (0, .ref (xg X 0)), (1, .ref (xg X (37 + t)))] dX4_mayLeadToBetter_84 rfl (nI_add1 _) (by decide) rfl rfl ?_
        refine v_goto (pc1 := 19) C dX4_mayLeadToBetter_87 (by decide) ?_
        exact ih m (by omega) (k + 1) wo mi (by omega) (by rw [hr]; simp only [fl_mlb, if_neg h40_5, if_neg h55_6])
      · skip
        refine v_iload_n (j := 2) C dX4_mayLeadToBetter_58 rfl rfl rfl ?_
        refine v_aload_n (j := 3) C dX4_mayLeadToBetter_59 rfl rfl rfl ?_
        refine v_getr (c := 0) C 2 flX4_17 (by decide) rfl rfl dX4_mayLeadToBetter_60 rfl ?_
        refine v_iload (j := 0) C dX4_mayLeadToBetter_63 rfl rfl ?_
        refine v_aaldN (c := 2) C (Or.inr (Or.inl rfl)) (by omega) (by decide) (by decide) rfl dX4_mayLeadToBetter_65 rfl ?_
        refine v_geti (c := (31 + k)) C flX4_101 (lt_pc (by omega)) (lay_pc (by omega)) rfl dX4_mayLeadToBetter_66 rfl ?_
        refine v_iadd C dX4_mayLeadToBetter_69 rfl ?_
        refine v_istore_n C [(2, .int (wo + (sg (31 + k) 2))), (4, .int (nI k)), (3, .int mi), (0, .ref (xg X 0)), (1, .ref (xg X (37 + t)))] dX4_mayLeadToBetter_70 rfl (by decide) rfl rfl ?_
        refine v_iload_n (j := 2) C dX4_mayLeadToBetter_71 rfl rfl rfl ?_
        refine v_aload_n (j := 3) C dX4_mayLeadToBetter_72 rfl rfl rfl ?_
        refine v_getr (c := 0) C 2 flX4_17 (by decide) rfl rfl dX4_mayLeadToBetter_73 rfl ?_
        refine v_iload (j := 1) C dX4_mayLeadToBetter_76 rfl rfl ?_
        refine v_aaldN (c := 2) C (Or.inr (Or.inl rfl)) (by omega) (by decide) (by decide) rfl dX4_mayLeadToBetter_78 rfl ?_
        refine v_geti (c := (31 + k)) C flX4_98 (lt_pc (by omega)) (lay_pc (by omega)) rfl dX4_mayLeadToBetter_79 rfl ?_
        refine v_iadd C dX4_mayLeadToBetter_82 rfl ?_
        refine v_istore_n C [(3, .int (mi + (sg (31 + k) 1))), (2, .int (wo + (sg (31 + k) 2))), (4, .int (nI k)), (0, .ref (xg X 0)), (1, .ref (xg X (37 + t)))] dX4_mayLeadToBetter_83 rfl (by decide) rfl rfl ?_
        refine v_iinc (j := 2) (v := (nI (k + 1))) C [(4, .int (nI (k + 1))), (3, .int (mi + (sg (31 + k) 1))), (2, .int (wo + (sg (31 + k) 2))), (0, .ref (xg X 0)), (1, .ref (xg X (37 + t)))] dX4_mayLeadToBetter_84 rfl (nI_add1 _) (by decide) rfl rfl ?_
        refine v_goto (pc1 := 19) C dX4_mayLeadToBetter_87 (by decide) ?_
        exact ih m (by omega) (k + 1) (wo + (sg (31 + k) 2)) (mi + (sg (31 + k) 1)) (by omega) (by rw [hr]; simp only [fl_mlb, if_neg h40_5, if_pos h55_6])
set_option maxHeartbeats 4000000 in
set_option maxRecDepth 20000 in
theorem k_X4_mayLeadToBetter {l : Launch} {D : va_G} {K : Nat → ClassId} {g : Nat → Nat} (sg : Sg) (o : Ot) (t : Nat) (h_t : t < 4) (hD : DI sg) : CN l yX4_mayLeadToBetter cX4_mayLeadToBetter 5 (some .boolean) 10 D K g [.ref (g 0), .ref (g (37 + t))] sg o (some (.int (b2i (fl_mlb sg t (ix (sg 0 8)) 0 (sg 11 7) (fr_X2_lastMinute sg 11) = true)))) sg o :=
  mk_i (own := RX4) (av := fun g => [.ref (g 0), .ref (g (37 + t))]) (lo := fun g => [(0, .ref (g 0)), (1, .ref (g (37 + t)))]) (by decide) rfl b2i_nar (fun _ => Nat.le_of_ble_eq_true rfl) (fun _ => rfl) fun X C E => by
    refine v_aload_n (j := 0) C dX4_mayLeadToBetter_0 rfl rfl rfl ?_
    refine v_getr (c := 0) C 11 flX4_38 (by decide) rfl rfl dX4_mayLeadToBetter_1 rfl ?_
    refine v_geti (c := 11) C flX4_273 (by decide) rfl rfl dX4_mayLeadToBetter_4 rfl ?_
    refine v_istore_n C [(2, .int (sg 11 7)), (0, .ref (xg X 0)), (1, .ref (xg X (37 + t)))] dX4_mayLeadToBetter_7 rfl (by decide) rfl rfl ?_
    refine v_aload_n (j := 1) C dX4_mayLeadToBetter_8 rfl rfl rfl ?_
    refine v_getr (c := 0) C 11 flX4_38 (by decide) rfl rfl dX4_mayLeadToBetter_9 rfl ?_
    refine v_callV (rest := []) (q := (RX2, TX2, 8)) C kvX4_234 (k_X2_lastMinute sg o 11 isR11 hD) (by decide) (by decide) rfl rfl rfl rfl rfl (Nat.le_of_ble_eq_true rfl) (by decide) (by decide) dX4_mayLeadToBetter_12 rfl ?_
    refine v_istore_n C [(3, .int (fr_X2_lastMinute sg 11)), (2, .int (sg 11 7)), (0, .ref (xg X 0)), (1, .ref (xg X (37 + t)))] dX4_mayLeadToBetter_15 rfl (by decide) rfl rfl ?_
    refine v_iconst (v := nI 0) C dX4_mayLeadToBetter_16 (by decide) rfl ?_
    refine v_istore C [(4, .int (nI 0)), (3, .int (fr_X2_lastMinute sg 11)), (2, .int (sg 11 7)), (0, .ref (xg X 0)), (1, .ref (xg X (37 + t)))] dX4_mayLeadToBetter_17 (by decide) rfl rfl ?_
    exact lp_X4_mlb (by decide) C sg o hD _ hD.nc.ixl hD.nc.ixe t h_t E _ 0 (sg 11 7) (fr_X2_lastMinute sg 11) (Nat.add_zero _) rfl
def fl_npo (sg : Sg) (t : Nat) : Nat → Nat → Bool
  | 0, _ => true
  | n + 1, k => if fr_X4_leftAt sg (nI k) t < 0 then false else fl_npo sg t n (k + 1)
def fl_nhb (sg : Sg) : Nat → Nat → Int32 → Bool
  | 0, _, _ => true
  | n + 1, k, b => if sg (31 + ix (sg 6 k)) 8 &&& (b ^^^ (-1)) = 0 then fl_nhb sg n (k + 1) (b ||| (1 <<< (sg 6 k &&& 31))) else false
set_option maxHeartbeats 4000000 in
set_option maxRecDepth 20000 in
theorem lp_X4_npo {X : Cx} {rk : Nat} (hrk : 10 ≤ rk) (C : CF X cX4_noPointOverloaded RX4 3 rk 0 0) (sg : Sg) (o : Ot) (hD : DI sg) (N : Nat) (h6 : N ≤ 8) (hN : sg 0 7 = nI N) (t : Nat) (h_t : t < 4) {z : Int32} (E : Ei X cX4_noPointOverloaded 0 0 sg o z) : ∀ (n k : Nat) , n + k = N → z = b2i (fl_npo sg t n k = true) → V X 0 0 3 sg o [(2, .int (nI k)), (0, .ref (xg X 0)), (1, .ref (xg X (37 + t)))] 2 [] := by
  refine loop_ind fun n ih => ?_
  intro k hnk hr
  refine v_iload_n (j := 0) C dX4_noPointOverloaded_2 rfl rfl rfl ?_
  refine v_aload_n (j := 1) C dX4_noPointOverloaded_3 rfl rfl rfl ?_
  refine v_geti (c := 0) C flX4_44 (by decide) rfl rfl dX4_noPointOverloaded_4 rfl ?_
  refine v_icmp_ge (tgt := 27) C dX4_noPointOverloaded_7 (by decide) rfl (fun h7_1 => ?_) (fun h7_1 => ?_)
  · skip
    rw [hN, nI_lt_iff (by omega) (by omega)] at h7_1; obtain rfl : n = 0 := by omega
    refine v_iconst (v := 1) C dX4_noPointOverloaded_27 (by decide) rfl ?_
    exact v_ret E dX4_noPointOverloaded_28 (by decide) (by decide) (by rw [hr]; exact b2i_t (by simp only [fl_npo])) (rfl) rfl
  · skip
    rw [hN, nI_lt_iff (by omega) (by omega)] at h7_1; obtain ⟨m, rfl⟩ : ∃ m, n = m + 1 := ⟨n - 1, by omega⟩
    refine v_aload_n (j := 1) C dX4_noPointOverloaded_10 rfl rfl rfl ?_
    refine v_iload_n (j := 0) C dX4_noPointOverloaded_11 rfl rfl rfl ?_
    refine v_aload_n (j := 2) C dX4_noPointOverloaded_12 rfl rfl rfl ?_
    refine v_callV (rest := []) (q := (RX4, TX4, 13)) C kvX4_282 (k_X4_leftAt sg o (nI k) t h_t (in_nI (by omega) (by decide))) (by omega) (by decide) rfl rfl rfl rfl rfl (Nat.le_of_ble_eq_true rfl) (by decide) (by decide) dX4_noPointOverloaded_13 rfl ?_
    refine v_if_ge (tgt := 21) C dX4_noPointOverloaded_16 (by decide) rfl (fun h16_2 => ?_) (fun h16_2 => ?_)
    · skip
      refine v_iinc (j := 0) (v := (nI (k + 1))) C [(2, .int (nI (k + 1))), (0, .ref (xg X 0)), (1, .ref (xg X (37 + t)))] dX4_noPointOverloaded_21 rfl (nI_add1 _) (by decide) rfl rfl ?_
      refine v_goto (pc1 := 2) C dX4_noPointOverloaded_24 (by decide) ?_
      exact ih m (by omega) (k + 1)  (by omega) (by rw [hr]; simp only [fl_npo, if_neg h16_2])
    · skip
      refine v_iconst (v := 0) C dX4_noPointOverloaded_19 (by decide) rfl ?_
      exact v_ret E dX4_noPointOverloaded_20 (by decide) (by decide) (by rw [hr]; exact b2i_f (ne_true_of_eq_false (by simp only [fl_npo, if_pos h16_2]))) (rfl) rfl
set_option maxHeartbeats 4000000 in
set_option maxRecDepth 20000 in
theorem k_X4_noPointOverloaded {l : Launch} {D : va_G} {K : Nat → ClassId} {g : Nat → Nat} (sg : Sg) (o : Ot) (t : Nat) (h_t : t < 4) (hD : DI sg) : CN l yX4_noPointOverloaded cX4_noPointOverloaded 3 (some .boolean) 10 D K g [.ref (g 0), .ref (g (37 + t))] sg o (some (.int (b2i (fl_npo sg t (ix (sg 0 7)) 0 = true)))) sg o :=
  mk_i (own := RX4) (av := fun g => [.ref (g 0), .ref (g (37 + t))]) (lo := fun g => [(0, .ref (g 0)), (1, .ref (g (37 + t)))]) (by decide) rfl b2i_nar (fun _ => Nat.le_of_ble_eq_true rfl) (fun _ => rfl) fun X C E => by
    refine v_iconst (v := nI 0) C dX4_noPointOverloaded_0 (by decide) rfl ?_
    refine v_istore_n C [(2, .int (nI 0)), (0, .ref (xg X 0)), (1, .ref (xg X (37 + t)))] dX4_noPointOverloaded_1 rfl (by decide) rfl rfl ?_
    exact lp_X4_npo (by decide) C sg o hD _ hD.np.ixl hD.np.ixe t h_t E _ 0 (Nat.add_zero _) rfl
set_option maxHeartbeats 4000000 in
set_option maxRecDepth 20000 in
theorem lp_X4_nhb {X : Cx} {rk : Nat} (hrk : 10 ≤ rk) (C : CF X cX4_needsHungBefore RX4 4 rk 0 0) (sg : Sg) (o : Ot) (hD : DI sg) (N : Nat) (h6 : N ≤ 6) (hN : sg 5 5 = nI N) {z : Int32} (E : Ei X cX4_needsHungBefore 0 0 sg o z) : ∀ (n k : Nat) (b : Int32), n + k = N → z = b2i (fl_nhb sg n k b = true) → V X 0 0 4 sg o [(2, .int (nI k)), (1, .int b), (0, .ref (xg X 0))] 4 [] := by
  refine loop_ind fun n ih => ?_
  intro k b hnk hr
  refine v_iload_n (j := 0) C dX4_needsHungBefore_4 rfl rfl rfl ?_
  refine v_aload_n (j := 2) C dX4_needsHungBefore_5 rfl rfl rfl ?_
  refine v_getr (c := 0) C 5 flX4_34 (by decide) rfl rfl dX4_needsHungBefore_6 rfl ?_
  refine v_geti (c := 5) C flX4_200 (by decide) rfl rfl dX4_needsHungBefore_9 rfl ?_
  refine v_icmp_ge (tgt := 55) C dX4_needsHungBefore_12 (by decide) rfl (fun h12_1 => ?_) (fun h12_1 => ?_)
  · skip
    rw [hN, nI_lt_iff (by omega) (by omega)] at h12_1; obtain rfl : n = 0 := by omega
    refine v_iconst (v := 1) C dX4_needsHungBefore_55 (by decide) rfl ?_
    exact v_ret E dX4_needsHungBefore_56 (by decide) (by decide) (by rw [hr]; exact b2i_t (by simp only [fl_nhb])) (rfl) rfl
  · skip
    have hlt_ := h12_1; rw [hN, nI_lt_iff (by omega) (by omega)] at h12_1; obtain ⟨m, rfl⟩ : ∃ m, n = m + 1 := ⟨n - 1, by omega⟩; have hod := hD.od isR5 (k := k) (by omega) hlt_
    refine v_aload_n (j := 2) C dX4_needsHungBefore_15 rfl rfl rfl ?_
    refine v_getr (c := 0) C 5 flX4_34 (by decide) rfl rfl dX4_needsHungBefore_16 rfl ?_
    refine v_getr (c := 5) C 6 flX4_240 (by decide) rfl rfl dX4_needsHungBefore_19 rfl ?_
    refine v_iload_n (j := 0) C dX4_needsHungBefore_22 rfl rfl rfl ?_
    refine v_ialdN (c := 6) C (by omega) (by decide) (by decide) rfl dX4_needsHungBefore_23 rfl ?_
    refine v_istore_n C [(3, .int (sg 6 k)), (2, .int (nI k)), (1, .int b), (0, .ref (xg X 0))] dX4_needsHungBefore_24 rfl (by decide) rfl rfl ?_
    refine v_aload_n (j := 3) C dX4_needsHungBefore_25 rfl rfl rfl ?_
    refine v_getr (c := 0) C 2 flX4_17 (by decide) rfl rfl dX4_needsHungBefore_26 rfl ?_
    refine v_iload_n (j := 0) C dX4_needsHungBefore_29 rfl rfl rfl ?_
    refine v_aald (c := 2) C (Or.inr (Or.inl rfl)) hod (by decide) rfl dX4_needsHungBefore_30 rfl ?_
    refine v_geti (c := (31 + (ix (sg 6 k)))) C flX4_149 (lt_pc (ix_lt hod)) (lay_pc (ix_lt hod)) rfl dX4_needsHungBefore_31 rfl ?_
    refine v_iload_n (j := 2) C dX4_needsHungBefore_34 rfl rfl rfl ?_
    refine v_iconst (v := (-1)) C dX4_needsHungBefore_35 (by decide) rfl ?_
    refine v_ixor C dX4_needsHungBefore_36 rfl ?_
    refine v_iand C dX4_needsHungBefore_37 rfl ?_
    refine v_if_eq (tgt := 43) C dX4_needsHungBefore_38 (by decide) rfl (fun h38_2 => ?_) (fun h38_2 => ?_)
    · skip
      refine v_iload_n (j := 2) C dX4_needsHungBefore_43 rfl rfl rfl ?_
      refine v_iconst (v := 1) C dX4_needsHungBefore_44 (by decide) rfl ?_
      refine v_iload_n (j := 0) C dX4_needsHungBefore_45 rfl rfl rfl ?_
      refine v_ishl C dX4_needsHungBefore_46 rfl ?_
      refine v_ior C dX4_needsHungBefore_47 rfl ?_
      refine v_istore_n C [(1, .int (b ||| (1 <<< ((sg 6 k) &&& 31)))), (3, .int (sg 6 k)), (2, .int (nI k)), (0, .ref (xg X 0))] dX4_needsHungBefore_48 rfl (by decide) rfl rfl ?_
      refine v_iinc (j := 2) (v := (nI (k + 1))) C [(2, .int (nI (k + 1))), (1, .int (b ||| (1 <<< ((sg 6 k) &&& 31)))), (3, .int (sg 6 k)), (0, .ref (xg X 0))] dX4_needsHungBefore_49 rfl (nI_add1 _) (by decide) rfl rfl ?_
      refine v_goto (pc1 := 4) C dX4_needsHungBefore_52 (by decide) ?_
      refine v_sub [0, 1, 3] rfl ?_
      exact ih m (by omega) (k + 1) (b ||| (1 <<< ((sg 6 k) &&& 31))) (by omega) (by rw [hr]; simp only [fl_nhb, if_pos h38_2])
    · skip
      refine v_iconst (v := 0) C dX4_needsHungBefore_41 (by decide) rfl ?_
      exact v_ret E dX4_needsHungBefore_42 (by decide) (by decide) (by rw [hr]; exact b2i_f (ne_true_of_eq_false (by simp only [fl_nhb, if_neg h38_2]))) (rfl) rfl
set_option maxHeartbeats 4000000 in
set_option maxRecDepth 20000 in
theorem k_X4_needsHungBefore {l : Launch} {D : va_G} {K : Nat → ClassId} {g : Nat → Nat} (sg : Sg) (o : Ot)  (hD : DI sg) : CN l yX4_needsHungBefore cX4_needsHungBefore 4 (some .boolean) 10 D K g [.ref (g 0)] sg o (some (.int (b2i (fl_nhb sg (ix (sg 5 5)) 0 0 = true)))) sg o :=
  mk_i (own := RX4) (av := fun g => [.ref (g 0)]) (lo := fun g => [(0, .ref (g 0))]) (by decide) rfl b2i_nar (fun _ => Nat.le_of_ble_eq_true rfl) (fun _ => rfl) fun X C E => by
    refine v_iconst (v := 0) C dX4_needsHungBefore_0 (by decide) rfl ?_
    refine v_istore_n C [(1, .int 0), (0, .ref (xg X 0))] dX4_needsHungBefore_1 rfl (by decide) rfl rfl ?_
    refine v_iconst (v := nI 0) C dX4_needsHungBefore_2 (by decide) rfl ?_
    refine v_istore_n C [(2, .int (nI 0)), (1, .int 0), (0, .ref (xg X 0))] dX4_needsHungBefore_3 rfl (by decide) rfl rfl ?_
    exact lp_X4_nhb (by decide) C sg o hD _ (hD.sz isR5).ixl (hD.sz isR5).ixe  E _ 0 0 (Nat.add_zero _) rfl
