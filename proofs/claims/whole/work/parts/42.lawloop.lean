def St_all (R : Sg → Prop) : Prop := St_addPoint R ∧ St_addPiece R ∧ St_fix R ∧ St_need R ∧ St_setArrival R ∧ St_addTown R ∧ St_setRates R ∧ St_come R ∧ St_town R ∧ St_loadOn R ∧ St_mayBear R ∧ St_bears R ∧ St_reason R ∧ St_hang R ∧ St_takeDown R ∧ St_hung R ∧ St_hungAt R ∧ St_beginOf R ∧ St_end R ∧ St_work R ∧ St_cost R ∧ St_costByMinutes R ∧ St_bestWorth R ∧ St_bestByAll R ∧ St_bestEnd R ∧ St_bestCost R ∧ St_bestSize R ∧ St_bestAt R ∧ St_complete R ∧ St_completions R ∧ St_tightest R ∧ St_hungShare R ∧ St_meanLoad R ∧ St_isSound R
theorem and63 (x : Int32) : 0 ≤ (x &&& 63).toInt ∧ (x &&& 63).toInt ≤ 63 := by
  have h : (x &&& 63).toBitVec = x.toBitVec &&& 63#32 := rfl
  have h2 : ((x &&& 63).toBitVec).toNat ≤ 63 := by
    rw [h, BitVec.toNat_and]
    exact Nat.and_le_right
  have h3 : (x &&& 63).toInt = (((x &&& 63).toBitVec).toNat : Int) := by
    show BitVec.toInt _ = _
    exact BitVec.toInt_eq_toNat_of_lt (by omega)
  omega
theorem sub6 {L : Nat} (h : L ≤ 3072) : (nI L - 6).toInt = (L : Int) - 6 := by
  rw [Int32.toInt_sub, nI_toInt (by omega), show (6 : Int32).toInt = 6 from rfl]
  exact Int.bmod_eq_of_le (by omega) (by omega)
section VT
variable {X : Cx} {a b nL rk mc ms : Nat} {sg : Sg} {o : Ot} {lo : List (Nat × Value)} {pc pc1 : Nat} {st rest : List Value}
theorem v_tableOut (C : CF X cL_law RL nL rk mc ms) {dflt l h : Int} {offs : Array Int} {len tgt : Nat} {x : Int32} (d : decode cL_law pc = .ok (.tableswitch dflt l h offs, len)) (hx : x.toInt < l ∨ h < x.toInt) (ht : (pc : Int) + dflt = (tgt : Int)) (kk : V X a b nL sg o lo tgt st) : V X a b nL sg o lo pc (.int x :: st) :=
  fun H locs ls hP hS hl => lv_tableOut C.1 C.2.1 d hx ht (kk H locs ls hP hS hl)
theorem v_tableIn (C : CF X cL_law RL nL rk mc ms) {dflt l h off : Int} {offs : Array Int} {len tgt : Nat} {x : Int32} (d : decode cL_law pc = .ok (.tableswitch dflt l h offs, len)) (h1 : ¬ x.toInt < l) (h2 : ¬ h < x.toInt) (ho : offs[(x.toInt - l).toNat]? = some off) (ht : (pc : Int) + off = (tgt : Int)) (kk : V X a b nL sg o lo tgt st) : V X a b nL sg o lo pc (.int x :: st) :=
  fun H locs ls hP hS hl => lv_tableIn C.1 C.2.1 d h1 h2 ho ht (kk H locs ls hP hS hl)
theorem v_slen (C : CF X cL_law RL nL rk mc ms) {b0 L : Nat} {xs : Nat → Int32} (S : Scr X b0 L xs) (d : decode cL_law pc = .ok (.arraylength, 1)) (hp : pc + 1 = pc1) (kk : V X a b nL sg o lo pc1 (.int (nI L) :: st)) : V X a b nL sg o lo pc (.ref b0 :: st) := by
  subst hp
  exact fun H locs ls hP hS hl => va_slen C.1 C.2.1 S.1 S.2.1 S.2.2.1 hS d (kk H locs ls hP hS hl)
theorem v_sld (C : CF X cL_law RL nL rk mc ms) {b0 L j : Nat} {xs : Nat → Int32} (S : Scr X b0 L xs) (hj : j < L) (d : decode cL_law pc = .ok (.iaload, 1)) (hp : pc + 1 = pc1) (kk : V X a b nL sg o lo pc1 (.int (xs j) :: st)) : V X a b nL sg o lo pc (.int (nI j) :: .ref b0 :: st) := by
  subst hp
  obtain ⟨s1, s2, s3, s4⟩ := S
  intro H locs ls hP hS hl
  refine va_sld C.1 C.2.1 s1 s2 s3 hS (vp_in_nI hj (by omega)) d ?_
  rw [show (nI j).toNatClampNeg = j from nI_ix (by omega)]
  exact kk H locs ls hP hS hl
end VT
set_option maxHeartbeats 4000000 in
set_option maxRecDepth 20000 in
theorem law_case {R : Sg → Prop} (Z : St_all R) {X : Cx} (C : CF X cL_law RL 9 30 662168 7046113) (T : Xw (xA X) (xs_ X) ∧ Ncs (xs_ X)) (hl : (xl X).stackTraces = false) {b0 L k ca cb : Nat} {xs : Nat → Int32} (S : Scr X b0 L xs) (hk : 6 * k + 6 ≤ L) (ha : ca + 4 ≤ 662168) (hb : cb + 24 ≤ 7046113) (sg : Sg) (o : Ot) (hR0 : R sg) (kk : ∀ (sg2 : Sg) (o2 : Ot), R sg2 → Lc X (ca + 4) (cb + 24) b0 k 1730 sg2 o2) (x : Int32) (h0 : 0 ≤ x.toInt) : V X ca cb 9 sg o (LB X b0 k) 45 [.int x] := by
  obtain ⟨z0, z1, z2, z3, z4, z5, z6, z7, z8, z9, z10, z11, z12, z13, z14, z15, z16, z17, z18, z19, z20, z21, z22, z23, z24, z25, z26, z27, z28, z29, z30, z31, z32, z33⟩ := Z
  by_cases h : 33 < x.toInt
  · exact v_tableOut (tgt := 1730) C dL_law_45 (Or.inr h) (by decide) (v_widen (by omega) (by omega) (kk sg o hR0))
  · obtain ⟨c, hc⟩ : ∃ c : Nat, x.toInt = (c : Int) := ⟨x.toInt.toNat, by omega⟩
    have hc34 : c < 34 := by omega
    have h1 : ¬ x.toInt < 0 := by omega
    match c, hc, hc34 with
    | 0, hc, _ => exact v_tableIn (off := 151) (tgt := 196) C dL_law_45 h1 h (by rw [hc]; rfl) (by decide) (lc_addPoint z0 C T hl S hk ha hb sg o hR0 _ _ rfl rfl kk)
    | 1, hc, _ => exact v_tableIn (off := 219) (tgt := 264) C dL_law_45 h1 h (by rw [hc]; rfl) (by decide) (lc_addPiece z1 C T hl S hk ha hb sg o hR0 _ _ _ _ rfl rfl rfl rfl kk)
    | 2, hc, _ => exact v_tableIn (off := 311) (tgt := 356) C dL_law_45 h1 h (by rw [hc]; rfl) (by decide) (lc_fix z2 C T hl S hk ha hb sg o hR0 _ _ _ _ _ rfl rfl rfl rfl rfl kk)
    | 3, hc, _ => exact v_tableIn (off := 415) (tgt := 460) C dL_law_45 h1 h (by rw [hc]; rfl) (by decide) (lc_need z3 C T hl S hk ha hb sg o hR0 _ _ rfl rfl kk)
    | 4, hc, _ => exact v_tableIn (off := 483) (tgt := 528) C dL_law_45 h1 h (by rw [hc]; rfl) (by decide) (lc_setArrival z4 C T hl S hk ha hb sg o hR0 _ _ rfl rfl kk)
    | 5, hc, _ => exact v_tableIn (off := 551) (tgt := 596) C dL_law_45 h1 h (by rw [hc]; rfl) (by decide) (lc_addTown z5 C T hl S hk ha hb sg o hR0 _ _ _ _ rfl rfl rfl rfl kk)
    | 6, hc, _ => exact v_tableIn (off := 643) (tgt := 688) C dL_law_45 h1 h (by rw [hc]; rfl) (by decide) (lc_setRates z6 C T hl S hk ha hb sg o hR0 _ _ _ _ rfl rfl rfl rfl kk)
    | 7, hc, _ => exact v_tableIn (off := 735) (tgt := 780) C dL_law_45 h1 h (by rw [hc]; rfl) (by decide) (lc_come z7 C T hl S hk ha hb sg o hR0 _ rfl kk)
    | 8, hc, _ => exact v_tableIn (off := 791) (tgt := 836) C dL_law_45 h1 h (by rw [hc]; rfl) (by decide) (lc_town z8 C T hl S hk ha hb sg o hR0 kk)
    | 9, hc, _ => exact v_tableIn (off := 835) (tgt := 880) C dL_law_45 h1 h (by rw [hc]; rfl) (by decide) (lc_loadOn z9 C T hl S hk ha hb sg o hR0 _ _ rfl rfl kk)
    | 10, hc, _ => exact v_tableIn (off := 903) (tgt := 948) C dL_law_45 h1 h (by rw [hc]; rfl) (by decide) (lc_mayBear z10 C T hl S hk ha hb sg o hR0 _ rfl kk)
    | 11, hc, _ => exact v_tableIn (off := 959) (tgt := 1004) C dL_law_45 h1 h (by rw [hc]; rfl) (by decide) (lc_bears z11 C T hl S hk ha hb sg o hR0 _ rfl kk)
    | 12, hc, _ => exact v_tableIn (off := 1015) (tgt := 1060) C dL_law_45 h1 h (by rw [hc]; rfl) (by decide) (lc_reason z12 C T hl S hk ha hb sg o hR0 _ rfl kk)
    | 13, hc, _ => exact v_tableIn (off := 1071) (tgt := 1116) C dL_law_45 h1 h (by rw [hc]; rfl) (by decide) (lc_hang z13 C T hl S hk ha hb sg o hR0 _ rfl kk)
    | 14, hc, _ => exact v_tableIn (off := 1127) (tgt := 1172) C dL_law_45 h1 h (by rw [hc]; rfl) (by decide) (lc_takeDown z14 C T hl S hk ha hb sg o hR0 kk)
    | 15, hc, _ => exact v_tableIn (off := 1171) (tgt := 1216) C dL_law_45 h1 h (by rw [hc]; rfl) (by decide) (lc_hung z15 C T hl S hk ha hb sg o hR0 kk)
    | 16, hc, _ => exact v_tableIn (off := 1184) (tgt := 1229) C dL_law_45 h1 h (by rw [hc]; rfl) (by decide) (lc_hungAt z16 C T hl S hk ha hb sg o hR0 _ rfl kk)
    | 17, hc, _ => exact v_tableIn (off := 1240) (tgt := 1285) C dL_law_45 h1 h (by rw [hc]; rfl) (by decide) (lc_beginOf z17 C T hl S hk ha hb sg o hR0 _ rfl kk)
    | 18, hc, _ => exact v_tableIn (off := 1296) (tgt := 1341) C dL_law_45 h1 h (by rw [hc]; rfl) (by decide) (lc_end z18 C T hl S hk ha hb sg o hR0 kk)
    | 19, hc, _ => exact v_tableIn (off := 1309) (tgt := 1354) C dL_law_45 h1 h (by rw [hc]; rfl) (by decide) (lc_work z19 C T hl S hk ha hb sg o hR0 kk)
    | 20, hc, _ => exact v_tableIn (off := 1322) (tgt := 1367) C dL_law_45 h1 h (by rw [hc]; rfl) (by decide) (lc_cost z20 C T hl S hk ha hb sg o hR0 kk)
    | 21, hc, _ => exact v_tableIn (off := 1336) (tgt := 1381) C dL_law_45 h1 h (by rw [hc]; rfl) (by decide) (lc_costByMinutes z21 C T hl S hk ha hb sg o hR0 kk)
    | 22, hc, _ => exact v_tableIn (off := 1350) (tgt := 1395) C dL_law_45 h1 h (by rw [hc]; rfl) (by decide) (lc_bestWorth z22 C T hl S hk ha hb sg o hR0 kk)
    | 23, hc, _ => exact v_tableIn (off := 1363) (tgt := 1408) C dL_law_45 h1 h (by rw [hc]; rfl) (by decide) (lc_bestByAll z23 C T hl S hk ha hb sg o hR0 kk)
    | 24, hc, _ => exact v_tableIn (off := 1376) (tgt := 1421) C dL_law_45 h1 h (by rw [hc]; rfl) (by decide) (lc_bestEnd z24 C T hl S hk ha hb sg o hR0 kk)
    | 25, hc, _ => exact v_tableIn (off := 1389) (tgt := 1434) C dL_law_45 h1 h (by rw [hc]; rfl) (by decide) (lc_bestCost z25 C T hl S hk ha hb sg o hR0 kk)
    | 26, hc, _ => exact v_tableIn (off := 1402) (tgt := 1447) C dL_law_45 h1 h (by rw [hc]; rfl) (by decide) (lc_bestSize z26 C T hl S hk ha hb sg o hR0 kk)
    | 27, hc, _ => exact v_tableIn (off := 1415) (tgt := 1460) C dL_law_45 h1 h (by rw [hc]; rfl) (by decide) (lc_bestAt z27 C T hl S hk ha hb sg o hR0 _ rfl kk)
    | 28, hc, _ => exact v_tableIn (off := 1471) (tgt := 1516) C dL_law_45 h1 h (by rw [hc]; rfl) (by decide) (lc_complete z28 C T hl S hk ha hb sg o hR0 kk)
    | 29, hc, _ => exact v_tableIn (off := 1484) (tgt := 1529) C dL_law_45 h1 h (by rw [hc]; rfl) (by decide) (lc_completions z29 C T hl S hk ha hb sg o hR0 kk)
    | 30, hc, _ => exact v_tableIn (off := 1497) (tgt := 1542) C dL_law_45 h1 h (by rw [hc]; rfl) (by decide) (lc_tightest z30 C T hl S hk ha hb sg o hR0 kk)
    | 31, hc, _ => exact v_tableIn (off := 1541) (tgt := 1586) C dL_law_45 h1 h (by rw [hc]; rfl) (by decide) (lc_hungShare z31 C T hl S hk ha hb sg o hR0 kk)
    | 32, hc, _ => exact v_tableIn (off := 1607) (tgt := 1652) C dL_law_45 h1 h (by rw [hc]; rfl) (by decide) (lc_meanLoad z32 C T hl S hk ha hb sg o hR0 kk)
    | 33, hc, _ => exact v_tableIn (off := 1672) (tgt := 1717) C dL_law_45 h1 h (by rw [hc]; rfl) (by decide) (lc_isSound z33 C T hl S hk ha hb sg o hR0 kk)
    | c + 34, _, h => exact absurd h (by omega)
set_option maxHeartbeats 4000000 in
set_option maxRecDepth 20000 in
theorem law_loop {R : Sg → Prop} (Z : St_all R) {X : Cx} (C : CF X cL_law RL 9 30 662168 7046113) (T : Xw (xA X) (xs_ X) ∧ Ncs (xs_ X)) (hl : (xl X).stackTraces = false) {b0 L : Nat} {xs : Nat → Int32} (S : Scr X b0 L xs) (hE : ∀ (a b : Nat) (sg : Sg) (o : Ot) (lo : List (Nat × Value)), a ≤ 662168 → b ≤ 7046113 → V X a b 9 sg o lo 1736 []) : ∀ (n k a b : Nat) (sg : Sg) (o : Ot), L < 6 * (k + n) + 6 → 6 * k ≤ L → a + 4 * n ≤ 662168 → b + 24 * n ≤ 7046113 → R sg → V X a b 9 sg o (LB X b0 k) 28 [] := by
  intro n
  induction n with
  | zero =>
    intro k a b sg o hn hk ha hb hR
    have hL := S.2.2.2
    refine v_iload (j := 0) C dL_law_28 rfl rfl (v_aload_n (j := 5) C dL_law_30 rfl rfl rfl (v_slen C S dL_law_31 rfl (v_bipush (v := 6) C dL_law_32 (by decide) rfl (v_isub C dL_law_34 rfl ?_))))
    refine v_icmp_gt (tgt := 1736) C dL_law_35 (by decide) rfl (fun _ => hE _ _ _ _ _ (by omega) (by omega)) (fun h => absurd ?_ h)
    rw [Int32.lt_iff_toInt_lt, sub6 hL, nI_toInt (by omega)]
    omega
  | succ n ih =>
    intro k a b sg o hn hk ha hb hR
    have hL := S.2.2.2
    refine v_iload (j := 0) C dL_law_28 rfl rfl (v_aload_n (j := 5) C dL_law_30 rfl rfl rfl (v_slen C S dL_law_31 rfl (v_bipush (v := 6) C dL_law_32 (by decide) rfl (v_isub C dL_law_34 rfl ?_))))
    refine v_icmp_gt (tgt := 1736) C dL_law_35 (by decide) rfl (fun _ => hE _ _ _ _ _ (by omega) (by omega)) (fun h => ?_)
    rw [Int32.lt_iff_toInt_lt, sub6 hL, nI_toInt (by omega)] at h
    refine v_aload_n (j := 5) C dL_law_38 rfl rfl rfl (v_iload (j := 0) C dL_law_39 rfl rfl (v_sld C S (show 6 * k < L by omega) dL_law_41 rfl (v_bipush (v := 63) C dL_law_42 (by decide) rfl (v_iand C dL_law_44 rfl ?_))))
    refine law_case Z C T hl S (by omega) (by omega) (by omega) sg o hR (fun sg2 o2 hR2 => ?_) _ (and63 _).1
    refine v_iinc (j := 0) (v := nI (6 * (k + 1))) C (LB X b0 (k + 1)) dL_law_1730 rfl ?_ (by decide) rfl rfl ?_
    · show nI (6 * k) + nI 6 = _
      rw [nI_add]
      rfl
    refine v_goto (pc1 := 28) C dL_law_1733 (by decide) ?_
    exact ih (k + 1) _ _ sg2 o2 (by omega) (by omega) (by omega) (by omega) hR2
