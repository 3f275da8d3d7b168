theorem lg_cmp_self (x : Int64) : lg_cmp x x = 0 := by simp [lg_cmp]
section VS
variable {X : Cx} {a b nL rk mc ms : Nat} {sg : Sg} {o : Ot} {lo : List (Nat × Value)} {pc pc1 : Nat} {st rest : List Value}
/-- the script: its length, what it holds; it lies outside -/
def Scr (X : Cx) (b0 L : Nat) (xs : Nat → Int32) : Prop := va_X b0 L xs (xs_ X) (xs_ X).heap ∧ b0 < (xs_ X).heap.size ∧ ¬ xA X b0 ∧ L ≤ 3072
theorem v_arg (C : CF X cL_law RL nL rk mc ms) {b0 L k j j0 j5 : Nat} {xs : Nat → Int32} {n : Int} {p : Int32} (S : Scr X b0 L xs) (hv : xs (6 * k + j) = p) (hk : 6 * k + 6 ≤ L) (hj : j < 6) (hn : Int32.ofInt n = nI j) (h0 : lo[j0]? = some (0, .ref b0)) (h5 : lo[j5]? = some (5, .int (nI (6 * k))))
    (d0 : decode cL_law pc = .ok (.aload_n 0, 1)) (d1 : decode cL_law (pc + 1) = .ok (.iload 5, 2)) (d2 : decode cL_law (pc + 3) = .ok (.iconst n, 1)) (d3 : decode cL_law (pc + 4) = .ok (.iadd, 1)) (d4 : decode cL_law (pc + 5) = .ok (.iaload, 1)) (hp : pc + 6 = pc1) (kk : V X a b nL sg o lo pc1 (.int p :: st)) : V X a b nL sg o lo pc st := by
  subst hp; subst hv
  refine v_aload_n C d0 rfl h0 rfl (v_iload C d1 h5 rfl (v_iconst C d2 hn rfl (v_iadd C d3 rfl ?_)))
  obtain ⟨s1, s2, s3, s4⟩ := S
  have e : nI (6 * k) + nI j = nI (6 * k + j) := nI_add _ _
  rw [e]
  intro H locs ls hP hS hl
  refine va_sld C.1 C.2.1 s1 s2 s3 hS (vp_in_nI (show 6 * k + j < L by omega) (by omega)) d4 ?_
  rw [show (nI (6 * k + j)).toNatClampNeg = 6 * k + j from nI_ix (by omega)]
  exact kk H locs ls hP hS hl
theorem v_dcmp (C : CF X cL_law RL nL rk mc ms) {x y : UInt64} {op : CmpOp} {v : Int32} (d : decode cL_law pc = .ok (.dcmp op, 1)) (hv : Op.cmpValue (FP.dcmp x y) op = v) (hp : pc + 1 = pc1) (kk : V X a b nL sg o lo pc1 (.int v :: st)) : V X a b nL sg o lo pc (.double y :: .double x :: st) := by
  subst hp; subst hv; exact fun H locs ls hP hS hl => lv_dcmp C.1 C.2.1 d (kk H locs ls hP hS hl)
theorem v_fcmp (C : CF X cL_law RL nL rk mc ms) {x y : UInt32} {op : CmpOp} {v : Int32} (d : decode cL_law pc = .ok (.fcmp op, 1)) (hv : Op.cmpValue (FP.fcmp x y) op = v) (hp : pc + 1 = pc1) (kk : V X a b nL sg o lo pc1 (.int v :: st)) : V X a b nL sg o lo pc (.float y :: .float x :: st) := by
  subst hp; subst hv; exact fun H locs ls hP hS hl => lv_fcmp C.1 C.2.1 d (kk H locs ls hP hS hl)
end VS
abbrev LB (X : Cx) (b0 k : Nat) : List (Nat × Value) := [(5, .int (nI (6 * k))), (4, .ref (xg X 67)), (3, .ref (xg X 66)), (2, .ref (xg X 41)), (1, .ref (xg X 0)), (0, .ref b0)]
/-- where a call of the script begins; and the end of a call -/
def Lc (X : Cx) (a b b0 k pc : Nat) (sg : Sg) (o : Ot) : Prop := V X a b 9 sg o (LB X b0 k) pc []
def St_addPoint (R : Sg → Prop) : Prop := ∀ (sg : Sg) (p : Int32) (z : Int32), R sg → (DI sg) ∧ (MI (wS (fe_X4_addPoint sg p z) (fs_X4_addPoint sg p z) sg)) ∧ fr_X5_thrown (fs_X5_addPoint (wS (fe_X4_addPoint sg p z) (fs_X4_addPoint sg p z) sg) p z) = wC wf_addPoint (fe_X4_addPoint sg p z) ∧ ((fe_X4_addPoint sg p z) = none → fr_X4_addPoint sg p z = fr_X5_addPoint (wS (fe_X4_addPoint sg p z) (fs_X4_addPoint sg p z) sg) p z) ∧ R (fs_X5_addPoint (wS (fe_X4_addPoint sg p z) (fs_X4_addPoint sg p z) sg) p z)
theorem wc0_addPoint {ex : Option String} (h : wC wf_addPoint ex = 0) : ex = none := by
  cases ex with
  | none => rfl
  | some E =>
    exfalso
    revert h
    show ¬ wf_addPoint E = 0
    unfold wf_addPoint
    repeat' split
    all_goals decide
set_option maxHeartbeats 4000000 in
set_option maxRecDepth 20000 in
theorem lc_addPoint {R : Sg → Prop} (Z : St_addPoint R) {X : Cx} (C : CF X cL_law RL 9 30 662168 7046113) (T : Xw (xA X) (xs_ X) ∧ Ncs (xs_ X)) (hl : (xl X).stackTraces = false) {b0 L k ca cb : Nat} {xs : Nat → Int32} (S : Scr X b0 L xs) (hk : 6 * k + 6 ≤ L) (ha : ca + 4 ≤ 662168) (hb : cb + 24 ≤ 7046113) (sg : Sg) (o : Ot) (hR0 : R sg) (p : Int32) (z : Int32) (h_p : xs (6 * k + 1) = p) (h_z : xs (6 * k + 2) = z) (kk : ∀ (sg2 : Sg) (o2 : Ot), R sg2 → Lc X (ca + 4) (cb + 24) b0 k 1730 sg2 o2) : Lc X ca cb b0 k 196 sg o := by
  obtain ⟨hD, m_hM, hcode, hval, hR2⟩ := Z sg p z hR0
  refine v_aload_n (j := 4) C dL_law_196 rfl rfl rfl ?_
  refine v_arg (j := 1) (j0 := 5) (j5 := 0) C S h_p hk (by decide) (by decide) rfl rfl dL_law_197 dL_law_198 dL_law_200 dL_law_201 dL_law_202 rfl ?_
  refine v_arg (j := 2) (j0 := 5) (j5 := 0) C S h_z hk (by decide) (by decide) rfl rfl dL_law_203 dL_law_204 dL_law_206 dL_law_207 dL_law_208 rfl ?_
  refine v_aload_n (j := 2) C dL_law_209 rfl rfl rfl ?_
  refine v_callW (rest := []) (As := [.ref (xg X 0), .int p, .int z, .ref (xg X 66)]) C T.1 T.2 kw_addPoint (k_L_addPoint hl sg o p z hD) (by decide) rfl rfl (Nat.le_of_ble_eq_true rfl) (by omega) (by omega) dL_law_210 rfl ?_
  refine v_widen (a1 := ca + 4) (b1 := cb + 24) (by omega) (by omega) ?_
  refine v_istore C [(6, .int (wC wf_addPoint (fe_X4_addPoint sg p z))), (5, .int (nI (6 * k))), (4, .ref (xg X 67)), (3, .ref (xg X 66)), (2, .ref (xg X 41)), (1, .ref (xg X 0)), (0, .ref b0)] dL_law_213 (by decide) rfl rfl ?_
  refine v_aload_n (j := 4) C dL_law_215 rfl rfl rfl ?_
  refine v_arg (j := 1) (j0 := 6) (j5 := 1) C S h_p hk (by decide) (by decide) rfl rfl dL_law_216 dL_law_217 dL_law_219 dL_law_220 dL_law_221 rfl ?_
  refine v_arg (j := 2) (j0 := 6) (j5 := 1) C S h_z hk (by decide) (by decide) rfl rfl dL_law_222 dL_law_223 dL_law_225 dL_law_226 dL_law_227 rfl ?_
  refine v_callV (rest := []) (As := [.int p, .int z]) (q := (RX5, TX5, 35)) (c := 41) C kvL_101 (k_X5_addPoint (wS (fe_X4_addPoint sg p z) (fs_X4_addPoint sg p z) sg) (wO (fe_X4_addPoint sg p z) (Int32.toInt64 (fr_X4_addPoint sg p z), o.2) o) p z m_hM) (by decide) (by decide) rfl rfl rfl rfl rfl (Nat.le_of_ble_eq_true rfl) (by omega) (by omega) dL_law_228 rfl ?_
  refine v_istore C [(7, .int (fr_X5_addPoint (wS (fe_X4_addPoint sg p z) (fs_X4_addPoint sg p z) sg) p z)), (6, .int (wC wf_addPoint (fe_X4_addPoint sg p z))), (5, .int (nI (6 * k))), (4, .ref (xg X 67)), (3, .ref (xg X 66)), (2, .ref (xg X 41)), (1, .ref (xg X 0)), (0, .ref b0)] dL_law_231 (by decide) rfl rfl ?_
  refine v_aload_n (j := 5) C dL_law_233 rfl rfl rfl ?_
  refine v_callV (rest := []) (As := []) (q := (RX5, TX5, 35)) (c := 41) C kvL_102 (k_X5_thrown (fs_X5_addPoint (wS (fe_X4_addPoint sg p z) (fs_X4_addPoint sg p z) sg) p z) (wO (fe_X4_addPoint sg p z) (Int32.toInt64 (fr_X4_addPoint sg p z), o.2) o)) (by decide) (by decide) rfl rfl rfl rfl rfl (Nat.le_of_ble_eq_true rfl) (by omega) (by omega) dL_law_234 rfl ?_
  refine v_eq (st1 := [.int (wC wf_addPoint (fe_X4_addPoint sg p z))]) rfl rfl (by rw [hcode]; rfl) ?_
  refine v_iload (j := 1) C dL_law_237 rfl rfl ?_
  refine v_icmp_eq (tgt := 244) C dL_law_239 (by decide) rfl (fun _ => ?_) (fun h => absurd rfl h)
  refine v_iload (j := 1) C dL_law_244 rfl rfl ?_
  refine v_if_ne (tgt := 261) C dL_law_246 (by decide) rfl (fun _ => ?_) (fun h0 => ?_)
  · skip
    refine v_goto (pc1 := 1730) C dL_law_261 (by decide) ?_
    exact v_sub [2, 3, 4, 5, 6, 7] rfl (kk _ _ hR2)
  · skip
    have he0 := wc0_addPoint h0
    sorry
