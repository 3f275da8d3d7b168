theorem i32_sub0 {x y : Int32} (h : x - y = 0) : x = y := by
  have h2 : x - y + y = 0 + y := by rw [h]
  rwa [Int32.sub_add_cancel, Int32.zero_add] at h2
theorem fx_new {sg : Sg} {p : Nat} {q u v w c1 : Int32} (hq : vp_in q 8) (hu : vp_in u 8) {B : Prop} (h : sg 42 (ix q) < sg 42 (ix u) ∧ B) : FxOk (up (up (up (up (up (up sg 41 34 c1) 48 p 1) 49 p q) 50 p u) 51 p v) 52 p w) p := by
  have e1 : (up (up (up (up (up (up sg 41 34 c1) 48 p 1) 49 p q) 50 p u) 51 p v) 52 p w) 49 p = q := by simp [up]
  have e2 : (up (up (up (up (up (up sg 41 34 c1) 48 p 1) 49 p q) 50 p u) 51 p v) 52 p w) 50 p = u := by simp [up]
  have e3 : ∀ z, (up (up (up (up (up (up sg 41 34 c1) 48 p 1) 49 p q) 50 p u) 51 p v) 52 p w) 42 z = sg 42 z := fun z => by simp [up]
  refine ⟨by rw [e1]; exact hq, by rw [e2]; exact hu, ?_⟩
  rw [e1, e2, e3, e3]
  intro e
  have h1 := h.1
  rw [i32_sub0 e] at h1
  exact Int32.lt_irrefl h1
def fr_X5_fix (sg : Sg) (p : Int32) (q : Int32) (u : Int32) (v : Int32) (w : Int32) : Int32 := (if ¬ (¬ p < 0 ∧ ¬ sg 41 3 - 1 < p) then 0 else (if ¬ (¬ q < 0 ∧ ¬ sg 41 0 - 1 < q) then 0 else (if ¬ (¬ u < 0 ∧ ¬ sg 41 0 - 1 < u) then 0 else (if sg 42 (ix q) < sg 42 (ix u) ∧ (¬ v < sg 42 (ix q) ∧ ¬ sg 42 (ix u) < v) ∧ (¬ w < 0 ∧ ¬ 60 < w) then (if (fl_X5_inRig sg p (ix (sg 41 24)) 0) < 0 then (fr_X5_partOfRight (up (up (up (up (up (up sg 41 34 0) 48 (ix p) 1) 49 (ix p) q) 50 (ix p) u) 51 (ix p) v) 52 (ix p) w) p) else 0) else 0))))
def fs_X5_fix (sg : Sg) (p : Int32) (q : Int32) (u : Int32) (v : Int32) (w : Int32) : Sg := (if ¬ (¬ p < 0 ∧ ¬ sg 41 3 - 1 < p) then (up sg 41 34 1) else (if ¬ (¬ q < 0 ∧ ¬ sg 41 0 - 1 < q) then (up sg 41 34 2) else (if ¬ (¬ u < 0 ∧ ¬ sg 41 0 - 1 < u) then (up sg 41 34 2) else (if sg 42 (ix q) < sg 42 (ix u) ∧ (¬ v < sg 42 (ix q) ∧ ¬ sg 42 (ix u) < v) ∧ (¬ w < 0 ∧ ¬ 60 < w) then (if (fl_X5_inRig sg p (ix (sg 41 24)) 0) < 0 then (up (up (up (up (up (up sg 41 34 0) 48 (ix p) 1) 49 (ix p) q) 50 (ix p) u) 51 (ix p) v) 52 (ix p) w) else (up sg 41 34 4)) else (up sg 41 34 3)))))
set_option maxHeartbeats 4000000 in
set_option maxRecDepth 20000 in
theorem k_X5_fix {l : Launch} {D : va_G} {K : Nat → ClassId} {g : Nat → Nat} (sg : Sg) (o : Ot) (p : Int32) (q : Int32) (u : Int32) (v : Int32) (w : Int32) (hM : MI sg) : CN l yX5_fix cX5_fix 6 (some .int) 4 D K g [.ref (g 41), .int p, .int q, .int u, .int v, .int w] sg o (some (.int (fr_X5_fix sg p q u v w))) (fs_X5_fix sg p q u v w) o :=
  mk_i (own := RX5) (av := fun g => [.ref (g 41), .int p, .int q, .int u, .int v, .int w]) (lo := fun g => [(0, .ref (g 41)), (1, .int p), (2, .int q), (3, .int u), (4, .int v), (5, .int w)]) (by decide) rfl rfl (fun _ => Nat.le_of_ble_eq_true rfl) (fun _ => rfl) fun X C E => by
    refine v_aload_n (j := 0) C dX5_fix_0 rfl rfl rfl ?_
    refine v_aload_n (j := 0) C dX5_fix_1 rfl rfl rfl ?_
    refine v_iload_n (j := 1) C dX5_fix_2 rfl rfl rfl ?_
    refine v_callV (rest := [.ref (xg X 41)]) (q := (RX5, TX5, 35)) C kvX5_107 (k_X5_isNoPiece sg o p) (by decide) (by decide) rfl rfl rfl rfl rfl (Nat.le_of_ble_eq_true rfl) (by decide) (by decide) dX5_fix_3 rfl ?_
    refine v_if_eqB (tgt := 13) C dX5_fix_6 (by decide) rfl (fun h6_1 => ?_) (fun h6_1 => ?_)
    · skip
      refine v_aload_n (j := 0) C dX5_fix_13 rfl rfl rfl ?_
      refine v_iload_n (j := 2) C dX5_fix_14 rfl rfl rfl ?_
      refine v_callV (rest := [.ref (xg X 41)]) (q := (RX5, TX5, 35)) C kvX5_110 (k_X5_isNoPoint sg o q) (by decide) (by decide) rfl rfl rfl rfl rfl (Nat.le_of_ble_eq_true rfl) (by decide) (by decide) dX5_fix_15 rfl ?_
      refine v_if_neB (tgt := 29) C dX5_fix_18 (by decide) rfl (fun h18_2 => ?_) (fun h18_2 => ?_)
      · skip
        refine v_iconst (v := 2) C dX5_fix_29 (by decide) rfl ?_
        refine v_goto (pc1 := 63) C dX5_fix_30 (by decide) ?_
        refine v_callV (rest := []) (q := (RX5, TX5, 35)) C kvX5_103 (k_X5_fails sg o 2) (by decide) (by decide) rfl rfl rfl rfl rfl (Nat.le_of_ble_eq_true rfl) (by decide) (by decide) dX5_fix_63 rfl ?_
        refine v_if_eqB (tgt := 71) C dX5_fix_66 (by decide) rfl (fun h => absurd (by decide) h) (fun _ => ?_)
        refine v_iconst (v := 0) C dX5_fix_69 (by decide) rfl ?_
        exact v_ret E dX5_fix_70 (by decide) (by decide) ((by simp only [fr_X5_fix, if_neg h6_1, if_pos h18_2])) ((by simp only [fs_X5_fix, if_neg h6_1, if_pos h18_2])) rfl
      · skip
        refine v_aload_n (j := 0) C dX5_fix_21 rfl rfl rfl ?_
        refine v_iload_n (j := 3) C dX5_fix_22 rfl rfl rfl ?_
        refine v_callV (rest := [.ref (xg X 41)]) (q := (RX5, TX5, 35)) C kvX5_110 (k_X5_isNoPoint sg o u) (by decide) (by decide) rfl rfl rfl rfl rfl (Nat.le_of_ble_eq_true rfl) (by decide) (by decide) dX5_fix_23 rfl ?_
        refine v_if_eqB (tgt := 33) C dX5_fix_26 (by decide) rfl (fun h26_4 => ?_) (fun h26_4 => ?_)
        · skip
          refine v_aload_n (j := 0) C dX5_fix_33 rfl rfl rfl ?_
          refine v_iload_n (j := 2) C dX5_fix_34 rfl rfl rfl ?_
          refine v_iload_n (j := 3) C dX5_fix_35 rfl rfl rfl ?_
          refine v_iload (j := 4) C dX5_fix_36 rfl rfl ?_
          refine v_iload (j := 5) C dX5_fix_38 rfl rfl ?_
          refine v_callV (rest := [.ref (xg X 41)]) (q := (RX5, TX5, 35)) C kvX5_113 (k_X5_isFixing sg o q u v w hM (by first | exact (hM.nc.inn (by assumption)) | exact (hM.np.inn (by assumption))) (hM.np.inn (by assumption))) (by decide) (by decide) rfl rfl rfl rfl rfl (Nat.le_of_ble_eq_true rfl) (by decide) (by decide) dX5_fix_40 rfl ?_
          refine v_if_neB (tgt := 50) C dX5_fix_43 (by decide) rfl (fun h43_5 => ?_) (fun h43_5 => ?_)
          · skip
            refine v_aload_n (j := 0) C dX5_fix_50 rfl rfl rfl ?_
            refine v_iload_n (j := 1) C dX5_fix_51 rfl rfl rfl ?_
            refine v_callV (rest := [.ref (xg X 41)]) (q := (RX5, TX5, 35)) C kvX5_117 (k_X5_inRig sg o p hM) (by decide) (by decide) rfl rfl rfl rfl rfl (Nat.le_of_ble_eq_true rfl) (by decide) (by decide) dX5_fix_52 rfl ?_
            refine v_if_lt (tgt := 62) C dX5_fix_55 (by decide) rfl (fun h55_6 => ?_) (fun h55_6 => ?_)
            · skip
              refine v_iconst (v := 0) C dX5_fix_62 (by decide) rfl ?_
              refine v_callV (rest := []) (q := (RX5, TX5, 35)) C kvX5_103 (k_X5_fails sg o 0) (by decide) (by decide) rfl rfl rfl rfl rfl (Nat.le_of_ble_eq_true rfl) (by decide) (by decide) dX5_fix_63 rfl ?_
              refine v_if_eqB (tgt := 71) C dX5_fix_66 (by decide) rfl (fun _ => ?_) (fun h => absurd h (by decide))
              refine v_aload_n (j := 0) C dX5_fix_71 rfl rfl rfl ?_
              refine v_getr (c := 41) C 48 flX5_28 (by decide) rfl rfl dX5_fix_72 rfl ?_
              refine v_iload_n (j := 1) C dX5_fix_75 rfl rfl rfl ?_
              refine v_iconst (v := 1) C dX5_fix_76 (by decide) rfl ?_
              refine v_zast1 (c := 48) C (hM.nc.inn (by assumption)) (by decide) rfl dX5_fix_77 rfl ?_
              refine v_aload_n (j := 0) C dX5_fix_78 rfl rfl rfl ?_
              refine v_getr (c := 41) C 49 flX5_32 (by decide) rfl rfl dX5_fix_79 rfl ?_
              refine v_iload_n (j := 1) C dX5_fix_82 rfl rfl rfl ?_
              refine v_iload_n (j := 2) C dX5_fix_83 rfl rfl rfl ?_
              refine v_iast (c := 49) C (hM.nc.inn (by assumption)) (by decide) rfl dX5_fix_84 rfl ?_
              refine v_aload_n (j := 0) C dX5_fix_85 rfl rfl rfl ?_
              refine v_getr (c := 41) C 50 flX5_35 (by decide) rfl rfl dX5_fix_86 rfl ?_
              refine v_iload_n (j := 1) C dX5_fix_89 rfl rfl rfl ?_
              refine v_iload_n (j := 3) C dX5_fix_90 rfl rfl rfl ?_
              refine v_iast (c := 50) C (hM.nc.inn (by assumption)) (by decide) rfl dX5_fix_91 rfl ?_
              refine v_aload_n (j := 0) C dX5_fix_92 rfl rfl rfl ?_
              refine v_getr (c := 41) C 51 flX5_38 (by decide) rfl rfl dX5_fix_93 rfl ?_
              refine v_iload_n (j := 1) C dX5_fix_96 rfl rfl rfl ?_
              refine v_iload (j := 4) C dX5_fix_97 rfl rfl ?_
              refine v_iast (c := 51) C (hM.nc.inn (by assumption)) (by decide) rfl dX5_fix_99 rfl ?_
              refine v_aload_n (j := 0) C dX5_fix_100 rfl rfl rfl ?_
              refine v_getr (c := 41) C 52 flX5_41 (by decide) rfl rfl dX5_fix_101 rfl ?_
              refine v_iload_n (j := 1) C dX5_fix_104 rfl rfl rfl ?_
              refine v_iload (j := 5) C dX5_fix_105 rfl rfl ?_
              refine v_iast (c := 52) C (hM.nc.inn (by assumption)) (by decide) rfl dX5_fix_107 rfl ?_
              refine v_aload_n (j := 0) C dX5_fix_108 rfl rfl rfl ?_
              refine v_iload_n (j := 1) C dX5_fix_109 rfl rfl rfl ?_
              refine v_callV (rest := []) (q := (RX5, TX5, 35)) C kvX5_121 (k_X5_partOfRight (up (up (up (up (up (up sg 41 34 0) 48 (ix p) 1) 49 (ix p) q) 50 (ix p) u) 51 (ix p) v) 52 (ix p) w) o p (hM.nc.inn (by assumption)) (fx_new (hM.np.inn (by assumption)) (hM.np.inn (by assumption)) (by assumption))) (by decide) (by decide) rfl rfl rfl rfl rfl (Nat.le_of_ble_eq_true rfl) (by decide) (by decide) dX5_fix_110 rfl ?_
              exact v_ret E dX5_fix_113 (by decide) (by decide) ((by first | contradiction | simp only [fr_X5_fix, if_neg h6_1, if_neg h18_2, if_neg h26_4, if_pos h43_5, if_pos h55_6])) ((by first | contradiction | simp only [fs_X5_fix, if_neg h6_1, if_neg h18_2, if_neg h26_4, if_pos h43_5, if_pos h55_6])) rfl
            · skip
              refine v_iconst (v := 4) C dX5_fix_58 (by decide) rfl ?_
              refine v_goto (pc1 := 63) C dX5_fix_59 (by decide) ?_
              refine v_callV (rest := []) (q := (RX5, TX5, 35)) C kvX5_103 (k_X5_fails sg o 4) (by decide) (by decide) rfl rfl rfl rfl rfl (Nat.le_of_ble_eq_true rfl) (by decide) (by decide) dX5_fix_63 rfl ?_
              refine v_if_eqB (tgt := 71) C dX5_fix_66 (by decide) rfl (fun h => absurd (by decide) h) (fun _ => ?_)
              refine v_iconst (v := 0) C dX5_fix_69 (by decide) rfl ?_
              exact v_ret E dX5_fix_70 (by decide) (by decide) ((by first | contradiction | simp only [fr_X5_fix, if_neg h6_1, if_neg h18_2, if_neg h26_4, if_pos h43_5, if_neg h55_6])) ((by first | contradiction | simp only [fs_X5_fix, if_neg h6_1, if_neg h18_2, if_neg h26_4, if_pos h43_5, if_neg h55_6])) rfl
          · skip
            refine v_iconst (v := 3) C dX5_fix_46 (by decide) rfl ?_
            refine v_goto (pc1 := 63) C dX5_fix_47 (by decide) ?_
            refine v_callV (rest := []) (q := (RX5, TX5, 35)) C kvX5_103 (k_X5_fails sg o 3) (by decide) (by decide) rfl rfl rfl rfl rfl (Nat.le_of_ble_eq_true rfl) (by decide) (by decide) dX5_fix_63 rfl ?_
            refine v_if_eqB (tgt := 71) C dX5_fix_66 (by decide) rfl (fun h => absurd (by decide) h) (fun _ => ?_)
            refine v_iconst (v := 0) C dX5_fix_69 (by decide) rfl ?_
            exact v_ret E dX5_fix_70 (by decide) (by decide) ((by first | contradiction | simp only [fr_X5_fix, if_neg h6_1, if_neg h18_2, if_neg h26_4, if_neg h43_5])) ((by first | contradiction | simp only [fs_X5_fix, if_neg h6_1, if_neg h18_2, if_neg h26_4, if_neg h43_5])) rfl
        · skip
          refine v_iconst (v := 2) C dX5_fix_29 (by decide) rfl ?_
          refine v_goto (pc1 := 63) C dX5_fix_30 (by decide) ?_
          refine v_callV (rest := []) (q := (RX5, TX5, 35)) C kvX5_103 (k_X5_fails sg o 2) (by decide) (by decide) rfl rfl rfl rfl rfl (Nat.le_of_ble_eq_true rfl) (by decide) (by decide) dX5_fix_63 rfl ?_
          refine v_if_eqB (tgt := 71) C dX5_fix_66 (by decide) rfl (fun h => absurd (by decide) h) (fun _ => ?_)
          refine v_iconst (v := 0) C dX5_fix_69 (by decide) rfl ?_
          exact v_ret E dX5_fix_70 (by decide) (by decide) ((by first | contradiction | simp only [fr_X5_fix, if_neg h6_1, if_neg h18_2, if_pos h26_4])) ((by first | contradiction | simp only [fs_X5_fix, if_neg h6_1, if_neg h18_2, if_pos h26_4])) rfl
    · skip
      refine v_iconst (v := 1) C dX5_fix_9 (by decide) rfl ?_
      refine v_goto (pc1 := 63) C dX5_fix_10 (by decide) ?_
      refine v_callV (rest := []) (q := (RX5, TX5, 35)) C kvX5_103 (k_X5_fails sg o 1) (by decide) (by decide) rfl rfl rfl rfl rfl (Nat.le_of_ble_eq_true rfl) (by decide) (by decide) dX5_fix_63 rfl ?_
      refine v_if_eqB (tgt := 71) C dX5_fix_66 (by decide) rfl (fun h => absurd (by decide) h) (fun _ => ?_)
      refine v_iconst (v := 0) C dX5_fix_69 (by decide) rfl ?_
      exact v_ret E dX5_fix_70 (by decide) (by decide) ((by simp only [fr_X5_fix, if_pos h6_1])) ((by simp only [fs_X5_fix, if_pos h6_1])) rfl
def fl_nd (F : Int32 → Bool) (sg : Sg) (p q : Int32) : Nat → Nat → Bool
  | 0, _ => false
  | n + 1, k => if ((sg 53 (ix p)) >>> (nI k &&& 31)) &&& 1 = 1 then (if nI k = q then true else (if F (nI k) = true then true else fl_nd F sg p q n (k + 1))) else fl_nd F sg p q n (k + 1)
def fn_X5 (sg : Sg) (q : Int32) : Nat → Int32 → Bool
  | 0, _ => false
  | d + 1, p => fl_nd (fn_X5 sg q d) sg p q (ix (sg 41 3)) 0
/-- no piece needs itself, at last: a rank -/
def AR (sg : Sg) (rho : Nat → Nat) : Prop := ∀ p k, p < 6 → k < 6 → ((sg 53 p) >>> (nI k &&& 31)) &&& 1 = 1 → rho k < rho p
def AC (sg : Sg) : Prop := ∃ rho : Nat → Nat, (∀ p, rho p < 7) ∧ AR sg rho
set_option maxHeartbeats 4000000 in
set_option maxRecDepth 20000 in
theorem lp_X5_needsAtLast {X : Cx} (d : Nat) (C : CF X cX5_needsAtLast RX5 4 (3 + (d + 1)) 0 0) (sg : Sg) (o : Ot) (p q : Int32) (rho : Nat → Nat) (hA : AR sg rho) (hp : vp_in p 6) (hd : rho (ix p) < d + 1) (N : Nat) (h6 : N ≤ 6) (hN : sg 41 3 = nI N) (IH : ∀ k, k < 6 → rho k < d → CN (xl X) yX5_needsAtLast cX5_needsAtLast 4 (some .boolean) (3 + d) (xD X) (xK X) (xg X) [.ref (xg X 41), .int (nI k), .int q] sg o (some (.int (b2i (fn_X5 sg q d (nI k) = true)))) sg o) {r : Int32} (E : Ei X cX5_needsAtLast 0 0 sg o r) : ∀ (n k : Nat) , n + k = N → r = b2i (fl_nd (fn_X5 sg q d) sg p q n k = true) → V X 0 0 4 sg o [(3, .int (nI k)), (0, .ref (xg X 41)), (1, .int p), (2, .int q)] 2 [] := by
  refine loop_ind fun n ih => ?_
  intro k hnk hr
  refine v_iload_n (j := 0) C dX5_needsAtLast_2 rfl rfl rfl ?_
  refine v_aload_n (j := 1) C dX5_needsAtLast_3 rfl rfl rfl ?_
  refine v_geti (c := 41) C flX5_97 (by decide) rfl rfl dX5_needsAtLast_4 rfl ?_
  refine v_icmp_ge (tgt := 46) C dX5_needsAtLast_7 (by decide) rfl (fun h7_1 => ?_) (fun h7_1 => ?_)
  · skip
    rw [hN, nI_lt_iff (by omega) (by omega)] at h7_1; obtain rfl : n = 0 := by omega
    refine v_iconst (v := 0) C dX5_needsAtLast_46 (by decide) rfl ?_
    exact v_ret E dX5_needsAtLast_47 (by decide) (by decide) (by rw [hr]; exact b2i_f (ne_true_of_eq_false (by simp only [fl_nd]))) (rfl) rfl
  · skip
    rw [hN, nI_lt_iff (by omega) (by omega)] at h7_1; obtain ⟨m, rfl⟩ : ∃ m, n = m + 1 := ⟨n - 1, by omega⟩
    refine v_aload_n (j := 1) C dX5_needsAtLast_10 rfl rfl rfl ?_
    refine v_getr (c := 41) C 53 flX5_44 (by decide) rfl rfl dX5_needsAtLast_11 rfl ?_
    refine v_iload_n (j := 2) C dX5_needsAtLast_14 rfl rfl rfl ?_
    refine v_iald (c := 53) C hp (by decide) rfl dX5_needsAtLast_15 rfl ?_
    refine v_iload_n (j := 0) C dX5_needsAtLast_16 rfl rfl rfl ?_
    refine v_ishr C dX5_needsAtLast_17 rfl ?_
    refine v_iconst (v := 1) C dX5_needsAtLast_18 (by decide) rfl ?_
    refine v_iand C dX5_needsAtLast_19 rfl ?_
    refine v_iconst (v := 1) C dX5_needsAtLast_20 (by decide) rfl ?_
    refine v_icmp_ne (tgt := 40) C dX5_needsAtLast_21 (by decide) rfl (fun h21_2 => ?_) (fun h21_2 => ?_)
    · skip
      skip
      refine v_iinc (j := 0) (v := (nI (k + 1))) C [(3, .int (nI (k + 1))), (0, .ref (xg X 41)), (1, .int p), (2, .int q)] dX5_needsAtLast_40 rfl (nI_add1 _) (by decide) rfl rfl ?_
      refine v_goto (pc1 := 2) C dX5_needsAtLast_43 (by decide) ?_
      exact ih m (by omega) (k + 1)  (by omega) (by rw [hr]; simp only [fl_nd, if_neg h21_2])
    · skip
      have hrk : rho k < d := by have := hA (ix p) k (ix_lt hp) (by omega) h21_2; omega
      refine v_iload_n (j := 0) C dX5_needsAtLast_24 rfl rfl rfl ?_
      refine v_iload_n (j := 3) C dX5_needsAtLast_25 rfl rfl rfl ?_
      refine v_icmp_eq (tgt := 38) C dX5_needsAtLast_26 (by decide) rfl (fun h26_3 => ?_) (fun h26_3 => ?_)
      · skip
        refine v_iconst (v := 1) C dX5_needsAtLast_38 (by decide) rfl ?_
        exact v_ret E dX5_needsAtLast_39 (by decide) (by decide) (by rw [hr]; exact b2i_t (by simp only [fl_nd, if_pos h21_2, if_pos h26_3])) (rfl) rfl
      · skip
        refine v_aload_n (j := 1) C dX5_needsAtLast_29 rfl rfl rfl ?_
        refine v_iload_n (j := 0) C dX5_needsAtLast_30 rfl rfl rfl ?_
        refine v_iload_n (j := 3) C dX5_needsAtLast_31 rfl rfl rfl ?_
        refine v_callV (rest := []) (q := (RX5, TX5, 35)) C kvX5_124 (IH k (by omega) hrk) (by omega) (by decide) rfl rfl rfl rfl rfl (Nat.le_of_ble_eq_true rfl) (by decide) (by decide) dX5_needsAtLast_32 rfl ?_
        refine v_if_eqB (tgt := 40) C dX5_needsAtLast_35 (by decide) rfl (fun h35_4 => ?_) (fun h35_4 => ?_)
        · skip
          refine v_iinc (j := 0) (v := (nI (k + 1))) C [(3, .int (nI (k + 1))), (0, .ref (xg X 41)), (1, .int p), (2, .int q)] dX5_needsAtLast_40 rfl (nI_add1 _) (by decide) rfl rfl ?_
          refine v_goto (pc1 := 2) C dX5_needsAtLast_43 (by decide) ?_
          exact ih m (by omega) (k + 1)  (by omega) (by rw [hr]; simp only [fl_nd, if_pos h21_2, if_neg h26_3, if_neg h35_4])
        · skip
          refine v_iconst (v := 1) C dX5_needsAtLast_38 (by decide) rfl ?_
          exact v_ret E dX5_needsAtLast_39 (by decide) (by decide) (by rw [hr]; exact b2i_t (by simp only [fl_nd, if_pos h21_2, if_neg h26_3, if_pos h35_4])) (rfl) rfl
set_option maxHeartbeats 4000000 in
set_option maxRecDepth 20000 in
theorem k_nal : ∀ (d : Nat) {l : Launch} {D : va_G} {K : Nat → ClassId} {g : Nat → Nat} (sg : Sg) (o : Ot) (p q : Int32), MI sg → ∀ rho : Nat → Nat, AR sg rho → vp_in p 6 → rho (ix p) < d → CN l yX5_needsAtLast cX5_needsAtLast 4 (some .boolean) (3 + d) D K g [.ref (g 41), .int p, .int q] sg o (some (.int (b2i (fn_X5 sg q d p = true)))) sg o
  | 0, _, _, _, _, _, _, _, _, _, _, _, _, h => absurd h (Nat.not_lt_zero _)
  | d + 1, l, D, K, g, sg, o, p, q, hM, rho, hA, hp, hd => mk_i (own := RX5) (av := fun g => [.ref (g 41), .int p, .int q]) (lo := fun g => [(0, .ref (g 41)), (1, .int p), (2, .int q)]) (by decide) rfl b2i_nar (fun _ => Nat.le_of_ble_eq_true rfl) (fun _ => rfl) fun X C E => by
    refine v_iconst (v := nI 0) C dX5_needsAtLast_0 (by decide) rfl ?_
    refine v_istore_n C [(3, .int (nI 0)), (0, .ref (xg X 41)), (1, .int p), (2, .int q)] dX5_needsAtLast_1 rfl (by decide) rfl rfl ?_
    exact lp_X5_needsAtLast d C sg o p q rho hA hp hd (ix (sg 41 3)) hM.nc.ixl hM.nc.ixe (fun k hk hr => k_nal d sg o (nI k) q hM rho hA (in_nI hk (by decide)) (by rw [nI_ix (by omega)]; exact hr)) E _ 0 (Nat.add_zero _) rfl
theorem k_X5_needsAtLast {l : Launch} {D : va_G} {K : Nat → ClassId} {g : Nat → Nat} (sg : Sg) (o : Ot) (p q : Int32) (hM : MI sg) (hA : AC sg) (hp : vp_in p 6) : CN l yX5_needsAtLast cX5_needsAtLast 4 (some .boolean) 10 D K g [.ref (g 41), .int p, .int q] sg o (some (.int (b2i (fn_X5 sg q 7 p = true)))) sg o := by
  obtain ⟨rho, h1, h2⟩ := hA
  exact k_nal 7 sg o p q hM rho h2 hp (h1 _)
def fl_X5_need (sg : Sg) (p : Int32) : Nat → Nat → Int32 → Int32
  | 0, _, s => s
  | n + 1, k, s => fl_X5_need sg p n (k + 1) (s + (((sg 53 (ix p)) >>> (nI k &&& 31)) &&& 1))
set_option maxHeartbeats 4000000 in
set_option maxRecDepth 20000 in
theorem lp_X5_need {X : Cx} {rk : Nat} (C : CF X cX5_need RX5 5 rk 0 0) (sg : Sg) (o : Ot) (p q : Int32) (hp : vp_in p 6) (N : Nat) (h6 : N ≤ 6) (hN : sg 41 3 = nI N) {r : Int32} (E : Ei X cX5_need 0 0 sg o r) : ∀ (n k : Nat) (s : Int32), n + k = N → r = fl_X5_need sg p n k s → V X 0 0 5 sg o [(4, .int (nI k)), (3, .int s), (0, .ref (xg X 41)), (1, .int p), (2, .int q)] 81 [] := by
  refine loop_ind fun n ih => ?_
  intro k s hnk hr
  refine v_iload (j := 0) C dX5_need_81 rfl rfl ?_
  refine v_aload_n (j := 2) C dX5_need_83 rfl rfl rfl ?_
  refine v_geti (c := 41) C flX5_97 (by decide) rfl rfl dX5_need_84 rfl ?_
  refine v_icmp_ge (tgt := 110) C dX5_need_87 (by decide) rfl (fun h87_1 => ?_) (fun h87_1 => ?_)
  · skip
    rw [hN, nI_lt_iff (by omega) (by omega)] at h87_1; obtain rfl : n = 0 := by omega
    refine v_iload_n (j := 1) C dX5_need_110 rfl rfl rfl ?_
    exact v_ret E dX5_need_111 (by decide) (by decide) (by rw [hr]; simp only [fl_X5_need]) (rfl) rfl
  · skip
    rw [hN, nI_lt_iff (by omega) (by omega)] at h87_1; obtain ⟨m, rfl⟩ : ∃ m, n = m + 1 := ⟨n - 1, by omega⟩
    refine v_iload_n (j := 1) C dX5_need_90 rfl rfl rfl ?_
    refine v_aload_n (j := 2) C dX5_need_91 rfl rfl rfl ?_
    refine v_getr (c := 41) C 53 flX5_44 (by decide) rfl rfl dX5_need_92 rfl ?_
    refine v_iload_n (j := 3) C dX5_need_95 rfl rfl rfl ?_
    refine v_iald (c := 53) C hp (by decide) rfl dX5_need_96 rfl ?_
    refine v_iload (j := 0) C dX5_need_97 rfl rfl ?_
    refine v_ishr C dX5_need_99 rfl ?_
    refine v_iconst (v := 1) C dX5_need_100 (by decide) rfl ?_
    refine v_iand C dX5_need_101 rfl ?_
    refine v_iadd C dX5_need_102 rfl ?_
    refine v_istore_n C [(3, .int (s + (((sg 53 (ix p)) >>> ((nI k) &&& 31)) &&& 1))), (4, .int (nI k)), (0, .ref (xg X 41)), (1, .int p), (2, .int q)] dX5_need_103 rfl (by decide) rfl rfl ?_
    refine v_iinc (j := 1) (v := (nI (k + 1))) C [(4, .int (nI (k + 1))), (3, .int (s + (((sg 53 (ix p)) >>> ((nI k) &&& 31)) &&& 1))), (0, .ref (xg X 41)), (1, .int p), (2, .int q)] dX5_need_104 rfl (nI_add1 _) (by decide) rfl rfl ?_
    refine v_goto (pc1 := 81) C dX5_need_107 (by decide) ?_
    exact ih m (by omega) (k + 1) (s + (((sg 53 (ix p)) >>> ((nI k) &&& 31)) &&& 1)) (by omega) (by rw [hr]; simp only [fl_X5_need])
def fr_X5_need (sg : Sg) (p : Int32) (q : Int32) : Int32 := (if ¬ (¬ p < 0 ∧ ¬ sg 41 3 - 1 < p) then 0 else (if ¬ (¬ q < 0 ∧ ¬ sg 41 3 - 1 < q) then 0 else (if p = q then 0 else (if fn_X5 sg p 7 q = true then 0 else (if (fl_X5_inRig sg p (ix (sg 41 24)) 0) < 0 then (fl_X5_need (up (up sg 41 34 0) 53 (ix p) ((sg 53 (ix p)) ||| (1 <<< (q &&& 31)))) p (ix (sg 41 3)) 0 0) else 0)))))
def fs_X5_need (sg : Sg) (p : Int32) (q : Int32) : Sg := (if ¬ (¬ p < 0 ∧ ¬ sg 41 3 - 1 < p) then (up sg 41 34 1) else (if ¬ (¬ q < 0 ∧ ¬ sg 41 3 - 1 < q) then (up sg 41 34 1) else (if p = q then (up sg 41 34 2) else (if fn_X5 sg p 7 q = true then (up sg 41 34 3) else (if (fl_X5_inRig sg p (ix (sg 41 24)) 0) < 0 then (up (up sg 41 34 0) 53 (ix p) ((sg 53 (ix p)) ||| (1 <<< (q &&& 31)))) else (up sg 41 34 4))))))
set_option maxHeartbeats 4000000 in
set_option maxRecDepth 20000 in
theorem k_X5_need {l : Launch} {D : va_G} {K : Nat → ClassId} {g : Nat → Nat} (sg : Sg) (o : Ot) (p : Int32) (q : Int32) (hM : MI sg) (hA : AC sg) : CN l yX5_need cX5_need 5 (some .int) 11 D K g [.ref (g 41), .int p, .int q] sg o (some (.int (fr_X5_need sg p q))) (fs_X5_need sg p q) o :=
  mk_i (own := RX5) (av := fun g => [.ref (g 41), .int p, .int q]) (lo := fun g => [(0, .ref (g 41)), (1, .int p), (2, .int q)]) (by decide) rfl rfl (fun _ => Nat.le_of_ble_eq_true rfl) (fun _ => rfl) fun X C E => by
    refine v_aload_n (j := 0) C dX5_need_0 rfl rfl rfl ?_
    refine v_aload_n (j := 0) C dX5_need_1 rfl rfl rfl ?_
    refine v_iload_n (j := 1) C dX5_need_2 rfl rfl rfl ?_
    refine v_callV (rest := [.ref (xg X 41)]) (q := (RX5, TX5, 35)) C kvX5_107 (k_X5_isNoPiece sg o p) (by decide) (by decide) rfl rfl rfl rfl rfl (Nat.le_of_ble_eq_true rfl) (by decide) (by decide) dX5_need_3 rfl ?_
    refine v_if_neB (tgt := 17) C dX5_need_6 (by decide) rfl (fun h6_1 => ?_) (fun h6_1 => ?_)
    · skip
      refine v_iconst (v := 1) C dX5_need_17 (by decide) rfl ?_
      refine v_goto (pc1 := 56) C dX5_need_18 (by decide) ?_
      refine v_callV (rest := []) (q := (RX5, TX5, 35)) C kvX5_103 (k_X5_fails sg o 1) (by decide) (by decide) rfl rfl rfl rfl rfl (Nat.le_of_ble_eq_true rfl) (by decide) (by decide) dX5_need_56 rfl ?_
      refine v_if_eqB (tgt := 64) C dX5_need_59 (by decide) rfl (fun h => absurd (by decide) h) (fun _ => ?_)
      refine v_iconst (v := 0) C dX5_need_62 (by decide) rfl ?_
      exact v_ret E dX5_need_63 (by decide) (by decide) ((by simp only [fr_X5_need, if_pos h6_1])) ((by simp only [fs_X5_need, if_pos h6_1])) rfl
    · skip
      refine v_aload_n (j := 0) C dX5_need_9 rfl rfl rfl ?_
      refine v_iload_n (j := 2) C dX5_need_10 rfl rfl rfl ?_
      refine v_callV (rest := [.ref (xg X 41)]) (q := (RX5, TX5, 35)) C kvX5_107 (k_X5_isNoPiece sg o q) (by decide) (by decide) rfl rfl rfl rfl rfl (Nat.le_of_ble_eq_true rfl) (by decide) (by decide) dX5_need_11 rfl ?_
      refine v_if_eqB (tgt := 21) C dX5_need_14 (by decide) rfl (fun h14_3 => ?_) (fun h14_3 => ?_)
      · skip
        refine v_iload_n (j := 1) C dX5_need_21 rfl rfl rfl ?_
        refine v_iload_n (j := 2) C dX5_need_22 rfl rfl rfl ?_
        refine v_icmp_ne (tgt := 30) C dX5_need_23 (by decide) rfl (fun h23_4 => ?_) (fun h23_4 => ?_)
        · skip
          refine v_aload_n (j := 0) C dX5_need_30 rfl rfl rfl ?_
          refine v_iload_n (j := 2) C dX5_need_31 rfl rfl rfl ?_
          refine v_iload_n (j := 1) C dX5_need_32 rfl rfl rfl ?_
          refine v_callV (rest := [.ref (xg X 41)]) (q := (RX5, TX5, 35)) C kvX5_124 (k_X5_needsAtLast sg o q p hM hA (hM.nc.inn (by assumption))) (by decide) (by decide) rfl rfl rfl rfl rfl (Nat.le_of_ble_eq_true rfl) (by decide) (by decide) dX5_need_33 rfl ?_
          refine v_if_eqB (tgt := 43) C dX5_need_36 (by decide) rfl (fun h36_5 => ?_) (fun h36_5 => ?_)
          · skip
            refine v_aload_n (j := 0) C dX5_need_43 rfl rfl rfl ?_
            refine v_iload_n (j := 1) C dX5_need_44 rfl rfl rfl ?_
            refine v_callV (rest := [.ref (xg X 41)]) (q := (RX5, TX5, 35)) C kvX5_117 (k_X5_inRig sg o p hM) (by decide) (by decide) rfl rfl rfl rfl rfl (Nat.le_of_ble_eq_true rfl) (by decide) (by decide) dX5_need_45 rfl ?_
            refine v_if_lt (tgt := 55) C dX5_need_48 (by decide) rfl (fun h48_6 => ?_) (fun h48_6 => ?_)
            · skip
              refine v_iconst (v := 0) C dX5_need_55 (by decide) rfl ?_
              refine v_callV (rest := []) (q := (RX5, TX5, 35)) C kvX5_103 (k_X5_fails sg o 0) (by decide) (by decide) rfl rfl rfl rfl rfl (Nat.le_of_ble_eq_true rfl) (by decide) (by decide) dX5_need_56 rfl ?_
              refine v_if_eqB (tgt := 64) C dX5_need_59 (by decide) rfl (fun _ => ?_) (fun h => absurd h (by decide))
              refine v_aload_n (j := 0) C dX5_need_64 rfl rfl rfl ?_
              refine v_getr (c := 41) C 53 flX5_44 (by decide) rfl rfl dX5_need_65 rfl ?_
              refine v_iload_n (j := 1) C dX5_need_68 rfl rfl rfl ?_
              refine v_dup2 C dX5_need_69 rfl rfl rfl ?_
              refine v_iald (c := 53) C (hM.nc.inn (by assumption)) (by decide) rfl dX5_need_70 rfl ?_
              refine v_rwi (y := sg 53 (ix p)) ((up_ne _ _ (Or.inl (by decide))).trans rfl) ?_
              refine v_iconst (v := 1) C dX5_need_71 (by decide) rfl ?_
              refine v_iload_n (j := 2) C dX5_need_72 rfl rfl rfl ?_
              refine v_ishl C dX5_need_73 rfl ?_
              refine v_ior C dX5_need_74 rfl ?_
              refine v_iast (c := 53) C (hM.nc.inn (by assumption)) (by decide) rfl dX5_need_75 rfl ?_
              refine v_iconst (v := 0) C dX5_need_76 (by decide) rfl ?_
              refine v_istore_n C [(3, .int 0), (0, .ref (xg X 41)), (1, .int p), (2, .int q)] dX5_need_77 rfl (by decide) rfl rfl ?_
              refine v_iconst (v := nI 0) C dX5_need_78 (by decide) rfl ?_
              refine v_istore C [(4, .int (nI 0)), (3, .int 0), (0, .ref (xg X 41)), (1, .int p), (2, .int q)] dX5_need_79 (by decide) rfl rfl ?_
              have E1 : Ei X cX5_need 0 0 (up (up sg 41 34 0) 53 (ix p) ((sg 53 (ix p)) ||| (1 <<< (q &&& 31)))) o (fl_X5_need (up (up sg 41 34 0) 53 (ix p) ((sg 53 (ix p)) ||| (1 <<< (q &&& 31)))) p (ix (sg 41 3)) 0 0) := by have h := E; simp only [fr_X5_need, fs_X5_need, if_neg h6_1, if_neg h14_3, if_neg h23_4, if_neg h36_5, if_pos h48_6] at h; exact h
              exact lp_X5_need C (up (up sg 41 34 0) 53 (ix p) ((sg 53 (ix p)) ||| (1 <<< (q &&& 31)))) o p q (hM.nc.inn (by assumption)) (ix (sg 41 3)) hM.nc.ixl hM.nc.ixe E1 _ 0 0 (Nat.add_zero _) rfl
            · skip
              refine v_iconst (v := 4) C dX5_need_51 (by decide) rfl ?_
              refine v_goto (pc1 := 56) C dX5_need_52 (by decide) ?_
              refine v_callV (rest := []) (q := (RX5, TX5, 35)) C kvX5_103 (k_X5_fails sg o 4) (by decide) (by decide) rfl rfl rfl rfl rfl (Nat.le_of_ble_eq_true rfl) (by decide) (by decide) dX5_need_56 rfl ?_
              refine v_if_eqB (tgt := 64) C dX5_need_59 (by decide) rfl (fun h => absurd (by decide) h) (fun _ => ?_)
              refine v_iconst (v := 0) C dX5_need_62 (by decide) rfl ?_
              exact v_ret E dX5_need_63 (by decide) (by decide) ((by first | contradiction | simp only [fr_X5_need, if_neg h6_1, if_neg h14_3, if_neg h23_4, if_neg h36_5, if_neg h48_6])) ((by first | contradiction | simp only [fs_X5_need, if_neg h6_1, if_neg h14_3, if_neg h23_4, if_neg h36_5, if_neg h48_6])) rfl
          · skip
            refine v_iconst (v := 3) C dX5_need_39 (by decide) rfl ?_
            refine v_goto (pc1 := 56) C dX5_need_40 (by decide) ?_
            refine v_callV (rest := []) (q := (RX5, TX5, 35)) C kvX5_103 (k_X5_fails sg o 3) (by decide) (by decide) rfl rfl rfl rfl rfl (Nat.le_of_ble_eq_true rfl) (by decide) (by decide) dX5_need_56 rfl ?_
            refine v_if_eqB (tgt := 64) C dX5_need_59 (by decide) rfl (fun h => absurd (by decide) h) (fun _ => ?_)
            refine v_iconst (v := 0) C dX5_need_62 (by decide) rfl ?_
            exact v_ret E dX5_need_63 (by decide) (by decide) ((by first | contradiction | simp only [fr_X5_need, if_neg h6_1, if_neg h14_3, if_neg h23_4, if_pos h36_5])) ((by first | contradiction | simp only [fs_X5_need, if_neg h6_1, if_neg h14_3, if_neg h23_4, if_pos h36_5])) rfl
        · skip
          refine v_iconst (v := 2) C dX5_need_26 (by decide) rfl ?_
          refine v_goto (pc1 := 56) C dX5_need_27 (by decide) ?_
          refine v_callV (rest := []) (q := (RX5, TX5, 35)) C kvX5_103 (k_X5_fails sg o 2) (by decide) (by decide) rfl rfl rfl rfl rfl (Nat.le_of_ble_eq_true rfl) (by decide) (by decide) dX5_need_56 rfl ?_
          refine v_if_eqB (tgt := 64) C dX5_need_59 (by decide) rfl (fun h => absurd (by decide) h) (fun _ => ?_)
          refine v_iconst (v := 0) C dX5_need_62 (by decide) rfl ?_
          exact v_ret E dX5_need_63 (by decide) (by decide) ((by first | contradiction | simp only [fr_X5_need, if_neg h6_1, if_neg h14_3, if_pos h23_4])) ((by first | contradiction | simp only [fs_X5_need, if_neg h6_1, if_neg h14_3, if_pos h23_4])) rfl
      · skip
        refine v_iconst (v := 1) C dX5_need_17 (by decide) rfl ?_
        refine v_goto (pc1 := 56) C dX5_need_18 (by decide) ?_
        refine v_callV (rest := []) (q := (RX5, TX5, 35)) C kvX5_103 (k_X5_fails sg o 1) (by decide) (by decide) rfl rfl rfl rfl rfl (Nat.le_of_ble_eq_true rfl) (by decide) (by decide) dX5_need_56 rfl ?_
        refine v_if_eqB (tgt := 64) C dX5_need_59 (by decide) rfl (fun h => absurd (by decide) h) (fun _ => ?_)
        refine v_iconst (v := 0) C dX5_need_62 (by decide) rfl ?_
        exact v_ret E dX5_need_63 (by decide) (by decide) ((by simp only [fr_X5_need, if_neg h6_1, if_pos h14_3])) ((by simp only [fs_X5_need, if_neg h6_1, if_pos h14_3])) rfl
def fl_cmp : Nat → Sg → Sg
  | 0, s => s
  | n + 1, s => fl_cmp n (fs_X5_hangs s (s 65 (ix (s 41 24))))
/-- the best that the search has found is one -/
def BO (s : Sg) : Prop := cnt (s 41 32) 6 ∧ (∀ k, k < 6 → nI k < s 41 32 → vp_in (s 65 k) 6) ∧ (s 41 24 < s 41 32 → ¬ s 41 23 < 0)
theorem BO.hput {s : Sg} {p b w : Int32} (h : BO s) (ht : ¬ s 41 23 < 0) : BO (hput s p b w) := by
  refine ⟨h.1, fun k hk hl => ?_, fun _ => ht⟩
  rw [hput_o 65 k (by omega)]
  exact h.2.1 k hk hl
theorem BO.at {s : Sg} (h : BO s) (hM : MI s) (hl : s 41 24 < s 41 32) : vp_in (s 65 (ix (s 41 24))) 6 ∧ vp_in (s 41 24) 6 ∧ ix (s 41 24) < ix (s 41 32) := by
  obtain ⟨b, hb, eb⟩ := h.1
  obtain ⟨a, ha, ea⟩ := hM.nh
  have hl0 := hl
  rw [ea, eb, nI_lt_iff (by omega) (by omega)] at hl
  have e1 : ix (s 41 24) = a := by rw [ea, nI_ix (by omega)]
  have e2 : ix (s 41 32) = b := by rw [eb, nI_ix (by omega)]
  refine ⟨?_, by rw [ea]; exact in_nI (by omega) (by decide), by omega⟩
  rw [e1]
  exact h.2.1 a (by omega) (by rw [eb, nI_lt_iff (by omega) (by omega)]; exact hl)
theorem BO.no {s : Sg} (h : BO s) (hM : MI s) (hl : ¬ s 41 24 < s 41 32) : ix (s 41 32) ≤ ix (s 41 24) := by
  obtain ⟨b, hb, eb⟩ := h.1
  obtain ⟨a, ha, ea⟩ := hM.nh
  rw [ea, eb, nI_lt_iff (by omega) (by omega)] at hl
  rw [ea, eb, nI_ix (by omega), nI_ix (by omega)]
  omega
set_option maxHeartbeats 4000000 in
theorem lp_X5_complete {X : Cx} {rk : Nat} (hrk : 6 ≤ rk) (C : CF X cX5_complete RX5 2 rk 0 0) (o : Ot) (w : Int32) {sF : Sg} (E : Ei X cX5_complete 0 0 sF o (sF 41 24 - w)) : ∀ (n : Nat) (sg : Sg), n = ix (sg 41 32) - ix (sg 41 24) → MI sg → BO sg → sF = fl_cmp n sg → V X 0 0 2 sg o [(1, .int w), (0, .ref (xg X 41))] 9 [] := by
  refine loop_ind fun n ih => ?_
  intro sg hn hM hB hr
  refine v_aload_n (j := 1) C dX5_complete_9 rfl rfl rfl ?_
  refine v_geti (c := 41) C flX5_100 (by decide) rfl rfl dX5_complete_10 rfl ?_
  refine v_aload_n (j := 1) C dX5_complete_13 rfl rfl rfl ?_
  refine v_geti (c := 41) C flX5_206 (by decide) rfl rfl dX5_complete_14 rfl ?_
  refine v_icmp_ge (tgt := 36) C dX5_complete_17 (by decide) rfl (fun h17_1 => ?_) (fun h17_1 => ?_)
  · skip
    have hb := hB.no hM h17_1; obtain rfl : n = 0 := by omega
    refine v_aload_n (j := 1) C dX5_complete_36 rfl rfl rfl ?_
    refine v_geti (c := 41) C flX5_100 (by decide) rfl rfl dX5_complete_37 rfl ?_
    refine v_iload_n (j := 0) C dX5_complete_40 rfl rfl rfl ?_
    refine v_isub C dX5_complete_41 rfl ?_
    exact v_ret E dX5_complete_42 (by decide) (by decide) (by rw [hr]; rfl) (by rw [hr]; rfl) rfl
  · skip
    have ht := hB.2.2 h17_1; have hb := hB.at hM h17_1; obtain ⟨m, rfl⟩ : ∃ m, n = m + 1 := ⟨n - 1, by omega⟩
    refine v_aload_n (j := 1) C dX5_complete_20 rfl rfl rfl ?_
    refine v_aload_n (j := 1) C dX5_complete_21 rfl rfl rfl ?_
    refine v_getr (c := 41) C 65 flX5_84 (by decide) rfl rfl dX5_complete_22 rfl ?_
    refine v_aload_n (j := 1) C dX5_complete_25 rfl rfl rfl ?_
    refine v_geti (c := 41) C flX5_100 (by decide) rfl rfl dX5_complete_26 rfl ?_
    refine v_iald (c := 65) C hb.2.1 (by decide) rfl dX5_complete_29 rfl ?_
    refine v_callV (rest := []) (q := (RX5, TX5, 35)) C kvX5_173 (k_X5_hangs sg o (sg 65 (ix (sg 41 24))) hM hb.1 ht hb.2.1) (by omega) (by decide) rfl rfl rfl rfl rfl (Nat.le_of_ble_eq_true rfl) (by decide) (by decide) dX5_complete_30 rfl ?_
    refine v_goto (pc1 := 9) C dX5_complete_33 (by decide) ?_
    have M1 := hput_MI (b := fr_X5_beginNext sg (sg 65 (ix (sg 41 24)))) (w := fw_X5 sg (sg 65 (ix (sg 41 24)))) hM hb.1 hb.2.1
    have B1 := hB.hput (p := sg 65 (ix (sg 41 24))) (b := fr_X5_beginNext sg (sg 65 (ix (sg 41 24)))) (w := fw_X5 sg (sg 65 (ix (sg 41 24)))) ht
    have e1 := hput_ix (p := sg 65 (ix (sg 41 24))) (b := fr_X5_beginNext sg (sg 65 (ix (sg 41 24)))) (w := fw_X5 sg (sg 65 (ix (sg 41 24)))) hb.2.1
    have e2 := hput_o (sg := sg) (p := sg 65 (ix (sg 41 24))) (b := fr_X5_beginNext sg (sg 65 (ix (sg 41 24)))) (w := fw_X5 sg (sg 65 (ix (sg 41 24)))) 41 32 (by decide)
    rw [← hangs_eq] at M1 B1 e1 e2
    exact ih m (by omega) _ (by rw [e1, e2]; omega) M1 B1 (by rw [hr]; rfl)
def fr_X5_complete (sg : Sg) : Int32 := (fl_cmp (ix ((fs_X5_searches sg) 41 32) - ix ((fs_X5_searches sg) 41 24)) (fs_X5_searches sg) 41 24 - (fs_X5_searches sg) 41 24)
set_option maxHeartbeats 4000000 in
set_option maxRecDepth 20000 in
theorem k_X5_complete {l : Launch} {D : va_G} {K : Nat → ClassId} {g : Nat → Nat} (sg : Sg) (o : Ot)  (hM : MI sg) (hR : RI sg) (hB : BO (fs_X5_searches sg)) : CN l yX5_complete cX5_complete 2 (some .int) 16 D K g [.ref (g 41)] sg o (some (.int (fr_X5_complete sg))) (fl_cmp (ix ((fs_X5_searches sg) 41 32) - ix ((fs_X5_searches sg) 41 24)) (fs_X5_searches sg)) o :=
  mk_i (own := RX5) (av := fun g => [.ref (g 41)]) (lo := fun g => [(0, .ref (g 41))]) (by decide) rfl rfl (fun _ => Nat.le_of_ble_eq_true rfl) (fun _ => rfl) fun X C E => by
    refine v_aload_n (j := 0) C dX5_complete_0 rfl rfl rfl ?_
    refine v_callV (rest := []) (q := (RX5, TX5, 35)) C kvX5_212 (k_X5_searches sg o hM hR) (by decide) (by decide) rfl rfl rfl rfl rfl (Nat.le_of_ble_eq_true rfl) (by decide) (by decide) dX5_complete_1 rfl ?_
    refine v_aload_n (j := 0) C dX5_complete_4 rfl rfl rfl ?_
    refine v_geti (c := 41) C flX5_100 (by decide) rfl rfl dX5_complete_5 rfl ?_
    refine v_istore_n C [(1, .int ((fs_X5_searches sg) 41 24)), (0, .ref (xg X 41))] dX5_complete_8 rfl (by decide) rfl rfl ?_
    have E1 : Ei X cX5_complete 0 0 (fl_cmp (ix ((fs_X5_searches sg) 41 32) - ix ((fs_X5_searches sg) 41 24)) (fs_X5_searches sg)) o (fl_cmp (ix ((fs_X5_searches sg) 41 32) - ix ((fs_X5_searches sg) 41 24)) (fs_X5_searches sg) 41 24 - (fs_X5_searches sg) 41 24) := by have h := E; simp only [fr_X5_complete] at h; exact h
    exact lp_X5_complete (by decide) C o _ E1 _ (fs_X5_searches sg) rfl (ag_MI hM (ag_searches hM hR)) hB rfl
