def fb_X5_isBetter (sg : Sg) : Bool := (if (sg 41 28) = 1 then true else (if (fl_X5_worth sg (ix (sg 41 24)) 0 0) = (sg 41 29) then (if (fr_X5_lastEnd sg) = (sg 41 30) then (if (fl_X5_costs sg (ix (sg 41 24)) 0 0) < (sg 41 31) then true else false) else (if (fr_X5_lastEnd sg) < (sg 41 30) then true else false)) else (if (sg 41 29) < (fl_X5_worth sg (ix (sg 41 24)) 0 0) then true else false)))
set_option maxHeartbeats 4000000 in
set_option maxRecDepth 20000 in
theorem k_X5_isBetter {l : Launch} {D : va_G} {K : Nat → ClassId} {g : Nat → Nat} (sg : Sg) (o : Ot)  (hM : MI sg) (hT : ∀ k, k < 6 → nI k < sg 41 24 → ¬ sg 41 23 < 0) : CN l yX5_isBetter cX5_isBetter 1 (some .boolean) 4 D K g [.ref (g 41)] sg o (some (.int (b2i (fb_X5_isBetter sg = true)))) sg o :=
  mk_i (own := RX5) (av := fun g => [.ref (g 41)]) (lo := fun g => [(0, .ref (g 41))]) (by decide) rfl b2i_nar (fun _ => Nat.le_of_ble_eq_true rfl) (fun _ => rfl) fun X C E => by
    refine v_aload_n (j := 0) C dX5_isBetter_0 rfl rfl rfl ?_
    refine v_geti (c := 41) C flX5_187 (by decide) rfl rfl dX5_isBetter_1 rfl ?_
    refine v_iconst (v := 1) C dX5_isBetter_4 (by decide) rfl ?_
    refine v_icmp_ne (tgt := 10) C dX5_isBetter_5 (by decide) rfl (fun h5_1 => ?_) (fun h5_1 => ?_)
    · skip
      refine v_aload_n (j := 0) C dX5_isBetter_10 rfl rfl rfl ?_
      refine v_callV (rest := []) (q := (RX5, TX5, 35)) C kvX5_190 (k_X5_worth sg o hM) (by decide) (by decide) rfl rfl rfl rfl rfl (Nat.le_of_ble_eq_true rfl) (by decide) (by decide) dX5_isBetter_11 rfl ?_
      refine v_aload_n (j := 0) C dX5_isBetter_14 rfl rfl rfl ?_
      refine v_geti (c := 41) C flX5_193 (by decide) rfl rfl dX5_isBetter_15 rfl ?_
      refine v_icmp_eq (tgt := 38) C dX5_isBetter_18 (by decide) rfl (fun h18_2 => ?_) (fun h18_2 => ?_)
      · skip
        refine v_aload_n (j := 0) C dX5_isBetter_38 rfl rfl rfl ?_
        refine v_callV (rest := []) (q := (RX5, TX5, 35)) C kvX5_150 (k_X5_lastEnd sg o hM) (by decide) (by decide) rfl rfl rfl rfl rfl (Nat.le_of_ble_eq_true rfl) (by decide) (by decide) dX5_isBetter_39 rfl ?_
        refine v_aload_n (j := 0) C dX5_isBetter_42 rfl rfl rfl ?_
        refine v_geti (c := 41) C flX5_196 (by decide) rfl rfl dX5_isBetter_43 rfl ?_
        refine v_icmp_eq (tgt := 68) C dX5_isBetter_46 (by decide) rfl (fun h46_3 => ?_) (fun h46_3 => ?_)
        · skip
          refine v_aload_n (j := 0) C dX5_isBetter_68 rfl rfl rfl ?_
          refine v_callV (rest := []) (q := (RX5, TX5, 35)) C kvX5_180 (k_X5_costs sg o hM hT) (by decide) (by decide) rfl rfl rfl rfl rfl (Nat.le_of_ble_eq_true rfl) (by decide) (by decide) dX5_isBetter_69 rfl ?_
          refine v_aload_n (j := 0) C dX5_isBetter_72 rfl rfl rfl ?_
          refine v_geti (c := 41) C flX5_199 (by decide) rfl rfl dX5_isBetter_73 rfl ?_
          refine v_icmp_ge (tgt := 83) C dX5_isBetter_76 (by decide) rfl (fun h76_4 => ?_) (fun h76_4 => ?_)
          · skip
            refine v_iconst (v := 0) C dX5_isBetter_83 (by decide) rfl ?_
            exact v_ret E dX5_isBetter_84 (by decide) (by decide) (b2i_f (ne_true_of_eq_false (by simp only [fb_X5_isBetter, if_neg h5_1, if_pos h18_2, if_pos h46_3, if_neg h76_4]))) (rfl) rfl
          · skip
            refine v_iconst (v := 1) C dX5_isBetter_79 (by decide) rfl ?_
            refine v_goto (pc1 := 84) C dX5_isBetter_80 (by decide) ?_
            exact v_ret E dX5_isBetter_84 (by decide) (by decide) (b2i_t (by simp only [fb_X5_isBetter, if_neg h5_1, if_pos h18_2, if_pos h46_3, if_pos h76_4])) (rfl) rfl
        · skip
          refine v_aload_n (j := 0) C dX5_isBetter_49 rfl rfl rfl ?_
          refine v_callV (rest := []) (q := (RX5, TX5, 35)) C kvX5_150 (k_X5_lastEnd sg o hM) (by decide) (by decide) rfl rfl rfl rfl rfl (Nat.le_of_ble_eq_true rfl) (by decide) (by decide) dX5_isBetter_50 rfl ?_
          refine v_aload_n (j := 0) C dX5_isBetter_53 rfl rfl rfl ?_
          refine v_geti (c := 41) C flX5_196 (by decide) rfl rfl dX5_isBetter_54 rfl ?_
          refine v_icmp_ge (tgt := 64) C dX5_isBetter_57 (by decide) rfl (fun h57_5 => ?_) (fun h57_5 => ?_)
          · skip
            refine v_iconst (v := 0) C dX5_isBetter_64 (by decide) rfl ?_
            refine v_goto (pc1 := 84) C dX5_isBetter_65 (by decide) ?_
            exact v_ret E dX5_isBetter_84 (by decide) (by decide) (b2i_f (ne_true_of_eq_false (by simp only [fb_X5_isBetter, if_neg h5_1, if_pos h18_2, if_neg h46_3, if_neg h57_5]))) (rfl) rfl
          · skip
            refine v_iconst (v := 1) C dX5_isBetter_60 (by decide) rfl ?_
            refine v_goto (pc1 := 84) C dX5_isBetter_61 (by decide) ?_
            exact v_ret E dX5_isBetter_84 (by decide) (by decide) (b2i_t (by simp only [fb_X5_isBetter, if_neg h5_1, if_pos h18_2, if_neg h46_3, if_pos h57_5])) (rfl) rfl
      · skip
        refine v_aload_n (j := 0) C dX5_isBetter_21 rfl rfl rfl ?_
        refine v_callV (rest := []) (q := (RX5, TX5, 35)) C kvX5_190 (k_X5_worth sg o hM) (by decide) (by decide) rfl rfl rfl rfl rfl (Nat.le_of_ble_eq_true rfl) (by decide) (by decide) dX5_isBetter_22 rfl ?_
        refine v_aload_n (j := 0) C dX5_isBetter_25 rfl rfl rfl ?_
        refine v_geti (c := 41) C flX5_193 (by decide) rfl rfl dX5_isBetter_26 rfl ?_
        refine v_icmp_le (tgt := 36) C dX5_isBetter_29 (by decide) rfl (fun h29_6 => ?_) (fun h29_6 => ?_)
        · skip
          refine v_iconst (v := 0) C dX5_isBetter_36 (by decide) rfl ?_
          exact v_ret E dX5_isBetter_37 (by decide) (by decide) (b2i_f (ne_true_of_eq_false (by simp only [fb_X5_isBetter, if_neg h5_1, if_neg h18_2, if_neg h29_6]))) (rfl) rfl
        · skip
          refine v_iconst (v := 1) C dX5_isBetter_32 (by decide) rfl ?_
          refine v_goto (pc1 := 37) C dX5_isBetter_33 (by decide) ?_
          exact v_ret E dX5_isBetter_37 (by decide) (by decide) (b2i_t (by simp only [fb_X5_isBetter, if_neg h5_1, if_neg h18_2, if_pos h29_6])) (rfl) rfl
    · skip
      refine v_iconst (v := 1) C dX5_isBetter_8 (by decide) rfl ?_
      exact v_ret E dX5_isBetter_9 (by decide) (by decide) (b2i_t (by simp only [fb_X5_isBetter, if_pos h5_1])) (rfl) rfl
theorem ag_worth0 {s t : Sg} (a : Ag (ix (s 41 24)) s t) : fl_X5_worth t (ix (s 41 24)) 0 0 = fl_X5_worth s (ix (s 41 24)) 0 0 := ag_worth a _ 0 _ (Nat.le_refl _)
theorem ag_costs0 {s t : Sg} (a : Ag (ix (s 41 24)) s t) : fl_X5_costs t (ix (s 41 24)) 0 0 = fl_X5_costs s (ix (s 41 24)) 0 0 := ag_costs a _ 0 _ (Nat.le_refl _)
theorem ag_better {s t : Sg} (hM : MI s) (a : Ag (ix (s 41 24)) s t) (h28 : t 41 28 = s 41 28) (h29 : t 41 29 = s 41 29) (h30 : t 41 30 = s 41 30) (h31 : t 41 31 = s 41 31) : fb_X5_isBetter t = fb_X5_isBetter s := by
  unfold fb_X5_isBetter
  simp only [h28, h29, h30, h31, a.f 24 (by decide), ag_worth0 a, ag_lastEnd hM a, ag_costs0 a]
def fcpb : Nat → Nat → Sg → Sg
  | 0, _, s => s
  | n + 1, k, s => fcpb n (k + 1) (up s 65 k (s 62 k))
def fs_take (s : Sg) : Sg := if fb_X5_isBetter (up s 41 28 (s 41 28 + 1)) = true then
    fcpb (ix (s 41 24)) 0 (up (up (up (up (up s 41 28 (s 41 28 + 1)) 41 29 (fl_X5_worth s (ix (s 41 24)) 0 0)) 41 30 (fr_X5_lastEnd s)) 41 31 (fl_X5_costs s (ix (s 41 24)) 0 0)) 41 32 (s 41 24))
  else up s 41 28 (s 41 28 + 1)
def fTl (F : Sg → Sg) : Nat → Nat → Sg → Sg
  | 0, _, s => s
  | n + 1, k, s => fTl F n (k + 1) (if fr_X5_why s (nI k) = 45 then up (F (fs_X5_hangs s (nI k))) 41 24 (F (fs_X5_hangs s (nI k)) 41 24 - 1) else s)
def fT : Nat → Sg → Sg
  | 0, s => s
  | d + 1, s => fTl (fT d) (ix (s 41 3)) 0 (fs_take s)
theorem ag_cpb {h : Nat} : ∀ (n k : Nat) (s : Sg), Ag h s (fcpb n k s)
  | 0, _, s => Ag.rf s
  | n + 1, k, s => ((Ag.rf s).up65).tr (ag_cpb n (k + 1) _)
theorem ag_take {h : Nat} (s : Sg) : Ag h s (fs_take s) := by
  unfold fs_take
  split
  · exact (((((Ag.rf s).upf (by decide)).upf (by decide)).upf (by decide)).upf (by decide)).upf (by decide) |>.tr (ag_cpb _ _ _)
  · exact (Ag.rf s).upf (by decide)
theorem why45 {s : Sg} {p : Int32} (h : fr_X5_why s p = 45) : ¬ s 41 23 < 0 ∧ offR s p ∧ ¬ s 48 (ix p) = 0 := by
  unfold fr_X5_why at h
  split at h
  · exact absurd h (by decide)
  · rename_i h1
    split at h
    · rename_i h2
      split at h
      · exact absurd h (by decide)
      · rename_i h3
        exact ⟨h1, h2, h3⟩
    · exact absurd h (by decide)
theorem i32_back (x : Int32) : x + 1 - 1 = x := by
  rw [Int32.add_sub_cancel]
/-- after a piece more, the search and the piece less, all is as it was but for what the search writes -/
theorem ag_step {s t : Sg} {p b w : Int32} (hu : vp_in (s 41 24) 6) (a : Ag (ix (s 41 24) + 1) (hput s p b w) t) : Ag (ix (s 41 24)) s (up t 41 24 (t 41 24 - 1)) := by
  have e : t 41 24 - 1 = s 41 24 := by rw [a.f 24 (by decide), hput_h, i32_back]
  rw [e]
  refine (ag_hput (p := p) (b := b) (w := w) hu).tr fun c k h1 h2 h3 h4 => ?_
  by_cases hc : c = 41 ∧ k = 24
  · rw [hc.1, hc.2, up_at, up_at]
  · rw [up_ne _ _ (by omega), up_ne _ _ (by omega)]
    exact a c k h1 h2 h3 (fun z => Nat.lt_succ_of_lt (h4 z))
theorem hput_ix {s : Sg} {p b w : Int32} (hu : vp_in (s 41 24) 6) : ix (hput s p b w 41 24) = ix (s 41 24) + 1 := by
  obtain ⟨h, hh, e⟩ := in_nat hu (by decide)
  rw [hput_h, e, show nI h + 1 = nI (h + 1) from nI_add1 h, nI_ix (by omega), nI_ix (by omega)]
theorem ag_fTl {F : Sg → Sg} (hF : ∀ s, MI s → RI s → Ag (ix (s 41 24)) s (F s)) : ∀ (n k : Nat) (s : Sg), n + k ≤ 6 → MI s → RI s → Ag (ix (s 41 24)) s (fTl F n k s)
  | 0, _, s, _, _, _ => Ag.rf s
  | n + 1, k, s, hk, hM, hR => by
    unfold fTl
    split
    · rename_i hw
      obtain ⟨h1, h2, h3⟩ := why45 hw
      have hp : vp_in (nI k) 6 := in_nI (by omega) (by decide)
      have hu := hR.room hM hp h2
      rw [hangs_eq]
      have M1 := hput_MI (b := fr_X5_beginNext s (nI k)) (w := fw_X5 s (nI k)) hM hp hu
      have R1 := hput_RI (b := fr_X5_beginNext s (nI k)) (w := fw_X5 s (nI k)) hM hR hp h2 h1
      have a1 := hF _ M1 R1
      rw [hput_ix hu] at a1
      have a2 := ag_step hu a1
      have M2 := ag_MI hM a2
      have R2 := ag_RI hR a2
      have a3 := ag_fTl hF n (k + 1) _ (by omega) M2 R2
      rw [a2.f 24 (by decide)] at a3
      exact a2.tr a3
    · exact ag_fTl hF n (k + 1) _ (by omega) hM hR
theorem ag_fT : ∀ (d : Nat) (s : Sg), MI s → RI s → Ag (ix (s 41 24)) s (fT d s)
  | 0, s, _, _ => Ag.rf s
  | d + 1, s, hM, hR => by
    unfold fT
    have a := ag_take (h := ix (s 41 24)) s
    have b := ag_fTl (ag_fT d) (ix (s 41 3)) 0 (fs_take s) (by have := hM.nc.ixl; omega) (ag_MI hM a) (ag_RI hR a)
    rw [a.f 24 (by decide)] at b
    exact a.tr b
set_option maxHeartbeats 4000000 in
set_option maxRecDepth 20000 in
theorem lp_X5_cpb {X : Cx} {rk : Nat} (C : CF X cX5_tries RX5 2 rk 0 0) (o : Ot) (N : Nat) (h6 : N ≤ 6) {sF : Sg} (kk : V X 0 0 2 sF o [(1, .int (nI N)), (0, .ref (xg X 41))] 77 []) : ∀ (n k : Nat) (sg : Sg), n + k = N → sg 41 24 = nI N → sF = fcpb n k sg → V X 0 0 2 sg o [(1, .int (nI k)), (0, .ref (xg X 41))] 51 [] := by
  refine loop_ind fun n ih => ?_
  intro k sg hnk hN hr
  refine v_iload_n (j := 0) C dX5_tries_51 rfl rfl rfl ?_
  refine v_aload_n (j := 1) C dX5_tries_52 rfl rfl rfl ?_
  refine v_geti (c := 41) C flX5_100 (by decide) rfl rfl dX5_tries_53 rfl ?_
  refine v_icmp_ge (tgt := 77) C dX5_tries_56 (by decide) rfl (fun h56_1 => ?_) (fun h56_1 => ?_)
  · skip
    rw [hN, nI_lt_iff (by omega) (by omega)] at h56_1; obtain rfl : n = 0 := by omega
    exact v_eq (by rw [hr]; rfl) (by rw [show k = N by omega]) rfl kk
  · skip
    rw [hN, nI_lt_iff (by omega) (by omega)] at h56_1; obtain ⟨m, rfl⟩ : ∃ m, n = m + 1 := ⟨n - 1, by omega⟩
    refine v_aload_n (j := 1) C dX5_tries_59 rfl rfl rfl ?_
    refine v_getr (c := 41) C 65 flX5_84 (by decide) rfl rfl dX5_tries_60 rfl ?_
    refine v_iload_n (j := 0) C dX5_tries_63 rfl rfl rfl ?_
    refine v_aload_n (j := 1) C dX5_tries_64 rfl rfl rfl ?_
    refine v_getr (c := 41) C 62 flX5_75 (by decide) rfl rfl dX5_tries_65 rfl ?_
    refine v_iload_n (j := 0) C dX5_tries_68 rfl rfl rfl ?_
    refine v_ialdN (c := 62) C (by omega) (by decide) (by decide) rfl dX5_tries_69 rfl ?_
    refine v_iastN (c := 65) C (by omega) (by decide) (by decide) rfl dX5_tries_70 rfl ?_
    refine v_iinc (j := 0) (v := (nI (k + 1))) C [(1, .int (nI (k + 1))), (0, .ref (xg X 41))] dX5_tries_71 rfl (nI_add1 _) (by decide) rfl rfl ?_
    refine v_goto (pc1 := 51) C dX5_tries_74 (by decide) ?_
    exact ih m (by omega) (k + 1) (up sg 65 k (sg 62 k)) (by omega) hN (by rw [hr]; simp only [fcpb])
set_option maxHeartbeats 4000000 in
set_option maxRecDepth 20000 in
theorem lp_X5_tries {X : Cx} (o : Ot) (d : Nat) (C : CF X cX5_tries RX5 2 (7 + (d + 1)) 0 0) (N U : Nat) (h6 : N ≤ 6) (hU : U ≤ d) (IH : ∀ s1 : Sg, MI s1 → RI s1 → ung s1 < d → CN (xl X) yX5_tries cX5_tries 2 none (7 + d) (xD X) (xK X) (xg X) [.ref (xg X 41)] s1 o none (fT d s1) o) {sF : Sg} (E : Ev X cX5_tries 0 0 sF o) : ∀ (n k : Nat) (sg : Sg), n + k = N → MI sg → RI sg → ung sg = U → sg 41 3 = nI N → sF = fTl (fT d) n k sg → V X 0 0 2 sg o [(1, .int (nI k)), (0, .ref (xg X 41))] 79 [] := by
  refine loop_ind fun n ih => ?_
  intro k sg hnk hM hR hu hN hr
  refine v_iload_n (j := 0) C dX5_tries_79 rfl rfl rfl ?_
  refine v_aload_n (j := 1) C dX5_tries_80 rfl rfl rfl ?_
  refine v_geti (c := 41) C flX5_97 (by decide) rfl rfl dX5_tries_81 rfl ?_
  refine v_icmp_ge (tgt := 125) C dX5_tries_84 (by decide) rfl (fun h84_1 => ?_) (fun h84_1 => ?_)
  · skip
    rw [hN, nI_lt_iff (by omega) (by omega)] at h84_1; obtain rfl : n = 0 := by omega
    exact v_vret E dX5_tries_125 (by decide) (by decide) (by rw [hr]; simp only [fTl]) rfl
  · skip
    rw [hN, nI_lt_iff (by omega) (by omega)] at h84_1; obtain ⟨m, rfl⟩ : ∃ m, n = m + 1 := ⟨n - 1, by omega⟩; have hp : vp_in (nI k) 6 := in_nI (by omega) (by decide)
    refine v_aload_n (j := 1) C dX5_tries_87 rfl rfl rfl ?_
    refine v_iload_n (j := 0) C dX5_tries_88 rfl rfl rfl ?_
    refine v_callV (rest := []) (q := (RX5, TX5, 35)) C kvX5_169 (k_X5_why sg o (nI k) hM hp) (by omega) (by decide) rfl rfl rfl rfl rfl (Nat.le_of_ble_eq_true rfl) (by decide) (by decide) dX5_tries_89 rfl ?_
    refine v_bipush (v := 45) C dX5_tries_92 (by decide) rfl ?_
    refine v_icmp_eq (tgt := 100) C dX5_tries_94 (by decide) rfl (fun h94_2 => ?_) (fun h94_2 => ?_)
    · skip
      have hw := why45 h94_2; have hv := hR.room hM hp hw.2.1; have M1 := hput_MI (b := fr_X5_beginNext sg (nI k)) (w := fw_X5 sg (nI k)) hM hp hv; have R1 := hput_RI (b := fr_X5_beginNext sg (nI k)) (w := fw_X5 sg (nI k)) hM hR hp hw.2.1 hw.1; have U1 := hput_u (b := fr_X5_beginNext sg (nI k)) (w := fw_X5 sg (nI k)) hM hp hv hw.2.1; rw [← hangs_eq] at M1 R1 U1
      refine v_aload_n (j := 1) C dX5_tries_100 rfl rfl rfl ?_
      refine v_iload_n (j := 0) C dX5_tries_101 rfl rfl rfl ?_
      refine v_callV (rest := []) (q := (RX5, TX5, 35)) C kvX5_173 (k_X5_hangs sg o (nI k) hM hp hw.1 hv) (by omega) (by decide) rfl rfl rfl rfl rfl (Nat.le_of_ble_eq_true rfl) (by decide) (by decide) dX5_tries_102 rfl ?_
      refine v_aload_n (j := 1) C dX5_tries_105 rfl rfl rfl ?_
      refine v_callV (rest := []) (q := (RX5, TX5, 35)) C kvX5_209 (IH (fs_X5_hangs sg (nI k)) M1 R1 (by omega)) (by omega) (by decide) rfl rfl rfl rfl rfl (Nat.le_of_ble_eq_true rfl) (by decide) (by decide) dX5_tries_106 rfl ?_
      refine v_aload_n (j := 1) C dX5_tries_109 rfl rfl rfl ?_
      refine v_dup C dX5_tries_110 rfl rfl ?_
      refine v_geti (c := 41) C flX5_100 (by decide) rfl rfl dX5_tries_111 rfl ?_
      refine v_iconst (v := 1) C dX5_tries_114 (by decide) rfl ?_
      refine v_isub C dX5_tries_115 rfl ?_
      refine v_puti (c := 41) C fpX5_100 (by decide) rfl rfl dX5_tries_116 rfl ?_
      refine v_iinc (j := 0) (v := (nI (k + 1))) C [(1, .int (nI (k + 1))), (0, .ref (xg X 41))] dX5_tries_119 rfl (nI_add1 _) (by decide) rfl rfl ?_
      refine v_goto (pc1 := 79) C dX5_tries_122 (by decide) ?_
      have a1 := ag_fT d _ M1 R1; rw [hangs_eq, hput_ix hv] at a1; have a2 := ag_step hv a1; rw [← hangs_eq] at a2; exact ih m (by omega) (k + 1) _ (by omega) (ag_MI hM a2) (ag_RI hR a2) ((ag_u a2).trans hu) ((a2.f 3 (by decide)).trans hN) (by rw [hr]; simp only [fTl, if_pos h94_2])
    · skip
      skip
      refine v_goto (pc1 := 119) C dX5_tries_97 (by decide) ?_
      refine v_iinc (j := 0) (v := (nI (k + 1))) C [(1, .int (nI (k + 1))), (0, .ref (xg X 41))] dX5_tries_119 rfl (nI_add1 _) (by decide) rfl rfl ?_
      refine v_goto (pc1 := 79) C dX5_tries_122 (by decide) ?_
      exact ih m (by omega) (k + 1) _ (by omega) hM hR hu hN (by rw [hr]; simp only [fTl, if_neg h94_2])
set_option maxHeartbeats 4000000 in
set_option maxRecDepth 20000 in
theorem k_X5_tries : ∀ (d : Nat) {l : Launch} {D : va_G} {K : Nat → ClassId} {g : Nat → Nat} (sg : Sg) (o : Ot), MI sg → RI sg → ung sg < d → CN l yX5_tries cX5_tries 2 none (7 + d) D K g [.ref (g 41)] sg o none (fT d sg) o
  | 0, _, _, _, _, sg, o, _, _, h => absurd h (Nat.not_lt_zero _)
  | d + 1, l, D, K, g, sg, o, hM, hR, hd => mk_v (own := RX5) (av := fun g => [.ref (g 41)]) (lo := fun g => [(0, .ref (g 41))]) (by decide) rfl (fun _ => Nat.le_of_ble_eq_true rfl) (fun _ => rfl) fun X C E => by
    refine v_aload_n (j := 0) C dX5_tries_0 rfl rfl rfl ?_
    refine v_dup C dX5_tries_1 rfl rfl ?_
    refine v_geti (c := 41) C flX5_187 (by decide) rfl rfl dX5_tries_2 rfl ?_
    refine v_iconst (v := 1) C dX5_tries_5 (by decide) rfl ?_
    refine v_iadd C dX5_tries_6 rfl ?_
    refine v_puti (c := 41) C fpX5_187 (by decide) rfl rfl dX5_tries_7 rfl ?_
    refine v_aload_n (j := 0) C dX5_tries_10 rfl rfl rfl ?_
    refine v_callV (rest := []) (q := (RX5, TX5, 35)) C kvX5_202 (k_X5_isBetter (up sg 41 28 ((sg 41 28) + 1)) o hM hR.tn) (by omega) (by decide) rfl rfl rfl rfl rfl (Nat.le_of_ble_eq_true rfl) (by decide) (by decide) dX5_tries_11 rfl ?_
    refine v_if_eqB (tgt := 77) C dX5_tries_14 (by decide) rfl (fun h14_1 => ?_) (fun h14_1 => ?_)
    · skip
      refine v_iconst (v := nI 0) C dX5_tries_77 (by decide) rfl ?_
      refine v_istore_n C [(1, .int (nI 0)), (0, .ref (xg X 41))] dX5_tries_78 rfl (by decide) rfl rfl ?_
      exact v_eq (sg1 := fs_take sg) (by unfold fs_take; rw [if_neg h14_1]) rfl rfl (lp_X5_tries o d C (ix (sg 41 3)) (ung sg) hM.nc.ixl (by omega) (fun s1 q1 q2 q3 => k_X5_tries d s1 o q1 q2 q3) E _ 0 (fs_take sg) (Nat.add_zero _) (ag_MI hM (ag_take sg)) (ag_RI hR (ag_take sg)) (ag_u (ag_take sg)) (((ag_take (h := 0) sg).f 3 (by decide)).trans hM.nc.ixe) rfl)
    · skip
      refine v_aload_n (j := 0) C dX5_tries_17 rfl rfl rfl ?_
      refine v_aload_n (j := 0) C dX5_tries_18 rfl rfl rfl ?_
      refine v_callV (rest := [.ref (xg X 41)]) (q := (RX5, TX5, 35)) C kvX5_190 (k_X5_worth (up sg 41 28 ((sg 41 28) + 1)) o hM) (by omega) (by decide) rfl rfl rfl rfl rfl (Nat.le_of_ble_eq_true rfl) (by decide) (by decide) dX5_tries_19 rfl ?_
      refine v_rwi (y := fl_X5_worth sg (ix (sg 41 24)) 0 0) (ag_worth (h := ix (sg 41 24)) ((Ag.rf sg).upf (by decide)) _ 0 _ (Nat.le_refl _)) ?_
      refine v_puti (c := 41) C fpX5_193 (by decide) rfl rfl dX5_tries_22 rfl ?_
      refine v_aload_n (j := 0) C dX5_tries_25 rfl rfl rfl ?_
      refine v_aload_n (j := 0) C dX5_tries_26 rfl rfl rfl ?_
      refine v_callV (rest := [.ref (xg X 41)]) (q := (RX5, TX5, 35)) C kvX5_150 (k_X5_lastEnd (up (up sg 41 28 ((sg 41 28) + 1)) 41 29 (fl_X5_worth sg (ix (sg 41 24)) 0 0)) o hM) (by omega) (by decide) rfl rfl rfl rfl rfl (Nat.le_of_ble_eq_true rfl) (by decide) (by decide) dX5_tries_27 rfl ?_
      refine v_rwi (y := fr_X5_lastEnd sg) (ag_lastEnd hM (((Ag.rf sg).upf (by decide)).upf (by decide))) ?_
      refine v_puti (c := 41) C fpX5_196 (by decide) rfl rfl dX5_tries_30 rfl ?_
      refine v_aload_n (j := 0) C dX5_tries_33 rfl rfl rfl ?_
      refine v_aload_n (j := 0) C dX5_tries_34 rfl rfl rfl ?_
      refine v_callV (rest := [.ref (xg X 41)]) (q := (RX5, TX5, 35)) C kvX5_180 (k_X5_costs (up (up (up sg 41 28 ((sg 41 28) + 1)) 41 29 (fl_X5_worth sg (ix (sg 41 24)) 0 0)) 41 30 (fr_X5_lastEnd sg)) o hM hR.tn) (by omega) (by decide) rfl rfl rfl rfl rfl (Nat.le_of_ble_eq_true rfl) (by decide) (by decide) dX5_tries_35 rfl ?_
      refine v_rwi (y := fl_X5_costs sg (ix (sg 41 24)) 0 0) (ag_costs (h := ix (sg 41 24)) ((((Ag.rf sg).upf (by decide)).upf (by decide)).upf (by decide)) _ 0 _ (Nat.le_refl _)) ?_
      refine v_puti (c := 41) C fpX5_199 (by decide) rfl rfl dX5_tries_38 rfl ?_
      refine v_aload_n (j := 0) C dX5_tries_41 rfl rfl rfl ?_
      refine v_aload_n (j := 0) C dX5_tries_42 rfl rfl rfl ?_
      refine v_geti (c := 41) C flX5_100 (by decide) rfl rfl dX5_tries_43 rfl ?_
      refine v_rwi (y := sg 41 24) ((up_ne _ _ (Or.inr (by decide))).trans ((up_ne _ _ (Or.inr (by decide))).trans ((up_ne _ _ (Or.inr (by decide))).trans ((up_ne _ _ (Or.inr (by decide))).trans rfl)))) ?_
      refine v_puti (c := 41) C fpX5_206 (by decide) rfl rfl dX5_tries_46 rfl ?_
      refine v_iconst (v := nI 0) C dX5_tries_49 (by decide) rfl ?_
      refine v_istore_n C [(1, .int (nI 0)), (0, .ref (xg X 41))] dX5_tries_50 rfl (by decide) rfl rfl ?_
      refine lp_X5_cpb C o (ix (sg 41 24)) hM.nh.ixl ?_ (ix (sg 41 24)) 0 _ (Nat.add_zero _) hM.nh.ixe rfl
      refine v_iconst (v := nI 0) C dX5_tries_77 (by decide) rfl ?_
      refine v_istore_n C [(1, .int (nI 0)), (0, .ref (xg X 41))] dX5_tries_78 rfl (by decide) rfl rfl ?_
      exact v_eq (sg1 := fs_take sg) (by unfold fs_take; rw [if_pos h14_1]) rfl rfl (lp_X5_tries o d C (ix (sg 41 3)) (ung sg) hM.nc.ixl (by omega) (fun s1 q1 q2 q3 => k_X5_tries d s1 o q1 q2 q3) E _ 0 (fs_take sg) (Nat.add_zero _) (ag_MI hM (ag_take sg)) (ag_RI hR (ag_take sg)) (ag_u (ag_take sg)) (((ag_take (h := 0) sg).f 3 (by decide)).trans hM.nc.ixe) rfl)
