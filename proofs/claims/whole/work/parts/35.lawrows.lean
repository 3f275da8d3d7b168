section VL
variable {X : Cx} {cc : ByteArray} {own : String} {a b nL rk mc ms : Nat} {sg : Sg} {o : Ot} {lo : List (Nat × Value)} {pc pc1 : Nat} {st rest : List Value}
theorem v_widen {a1 b1 : Nat} (h1 : a ≤ a1) (h2 : b ≤ b1) (k : V X a1 b1 nL sg o lo pc st) : V X a b nL sg o lo pc st := fun H locs ls hP hS hl => W.widen h1 h2 (k H locs ls hP hS hl)
theorem vp_upd0 {f : Nat → Int64} {v : Int64} (h : ∀ j, f j = f 0) : vp_updL f (0 : Int32).toNatClampNeg v 0 = v := by
  unfold vp_updL; simp
theorem arrV_congr {cI : ClassId} {N : Nat} {f f1 : Nat → Value} (h : ∀ j, j < N → f j = f1 j) : arrV cI N f = arrV cI N f1 := by
  have e : (fun j : Fin N => f j.val) = fun j : Fin N => f1 j.val := funext fun j => h j.val j.isLt
  unfold arrV
  rw [e]
theorem arrL_eq {cA : ClassId} {f f1 : Nat → Int64} (h : f 0 = f1 0) : vp_cell cA (1, .inr (.inl f)) = vp_cell cA (1, .inr (.inl f1)) := by
  rw [vp_cell_l, vp_cell_l]
  refine arrV_congr (fun j hj => ?_)
  have : j = 0 := by omega
  subst this
  exact congrArg Value.long h
theorem arrD_eq {cA : ClassId} {f f1 : Nat → UInt64} (h : f 0 = f1 0) : vp_cell cA (1, .inr (.inr (.inr (.inl f)))) = vp_cell cA (1, .inr (.inr (.inr (.inl f1)))) := by
  rw [vp_cell_d, vp_cell_d]
  refine arrV_congr (fun j hj => ?_)
  have : j = 0 := by omega
  subst this
  exact congrArg Value.double h
theorem wls_o {D : va_G} {K : Nat → ClassId} {g : Nat → Nat} {H : Heap} {c : Nat} {e : va_E} {o1 : Ot} (hc : c < 68) (h : va_P D vwCl ((wls g K sg o).set c (g c, e)) H) (he : ∀ H : Heap, va_at D vwCl (g c, e) H → va_at D vwCl (g c, ent g K sg o1 c) H) (hne : ∀ c1, c1 < 68 → c1 ≠ c → ent g K sg o1 c1 = ent g K sg o c1) : Wd D K g sg o1 H := by
  intro k q hk
  have hk68 : k < 68 := by
    have := (List.getElem?_eq_some_iff.mp hk).1
    rwa [wls_len] at this
  rw [wls_at hk68] at hk
  cases hk
  by_cases hkc : k = c
  · subst hkc
    exact he H (h k _ (by rw [List.getElem?_set_self (by rw [wls_len]; exact hc)]))
  · rw [hne k hk68 hkc]
    exact h k _ (by rw [List.getElem?_set_ne (Ne.symm hkc), wls_at hk68])
theorem ent_o66 {K : Nat → ClassId} {g : Nat → Nat} {o1 : Ot} {c1 : Nat} (h : lay c1 ≠ .inr (5, 1, 0)) (h2 : o1.2 = o.2) : ent g K sg o1 c1 = ent g K sg o c1 := by
  unfold ent
  split
  · rfl
  · rename_i ty n bs hl
    unfold arc
    split
    · rfl
    · split
      · rfl
      · split
        · rename_i h3
          refine absurd ?_ h
          rw [hl, h3]
          unfold lay at hl
          split at hl
          · split at hl <;> simp_all
          · split at hl
            · cases hl
            · split at hl
              · cases hl
              · split at hl
                · cases hl
                · split at hl <;> simp_all
        · rw [h2]
theorem lay66 {c : Nat} (h : c ≠ 66) : lay c ≠ .inr (5, 1, 0) := by
  intro e
  unfold lay at e
  split at e
  · split at e <;> simp_all
  · split at e
    · cases e
    · split at e
      · cases e
      · split at e
        · cases e
        · split at e <;> simp_all
theorem lay67 {c : Nat} (h : c ≠ 67) : lay c ≠ .inr (6, 1, 0) := by
  intro e
  unfold lay at e
  split at e
  · split at e <;> simp_all
  · split at e
    · cases e
    · split at e
      · cases e
      · split at e
        · cases e
        · split at e <;> simp_all
theorem v_last (C : CF X cc own nL rk mc ms) {v : Int64} (d : decode cc pc = .ok (.lastore, 1)) (hp : pc + 1 = pc1) (kk : V X a b nL sg (v, o.2) lo pc1 st) : V X a b nL sg o lo pc (.long v :: .int 0 :: .ref (xg X 66) :: st) := by
  subst hp
  intro H locs ls hP hS hl
  have he : (wls (xg X) (xK X) sg o)[66]? = some (xg X 66, .inl (xK X 5, 1, .inr (.inl (fun _ => o.1)))) := by rw [wls_at (by decide)]; rfl
  refine va_last C.1 C.2.1 C.2.2.2.2.2.1 hP (wls_D C.2.2.2.2.2.2.1 C.2.2.2.2.2.2.2.1) hS 66 5 he rfl (by rw [vp_in_iff]; decide) d (fun H1 locs1 hP1 _ hS1 => ?_)
  refine kk H1 locs1 ls (wls_o (by decide) hP1 (fun H h => ?_) (fun c1 h1 h2 => ent_o66 (lay66 h2) rfl)) hS1 hl
  show H[_]? = some (vp_cell (xK X 5) (1, .inr (.inl (fun _ => v))))
  rw [show vp_cell (xK X 5) (1, .inr (.inl (fun _ => v))) = vp_cell (xK X 5) (1, .inr (.inl (vp_updL (fun _ => o.1) (0 : Int32).toNatClampNeg v))) from arrL_eq (by unfold vp_updL; simp)]
  exact h
theorem v_lald (C : CF X cc own nL rk mc ms) (d : decode cc pc = .ok (.laload, 1)) (hp : pc + 1 = pc1) (kk : V X a b nL sg o lo pc1 (.long o.1 :: st)) : V X a b nL sg o lo pc (.int 0 :: .ref (xg X 66) :: st) := by
  subst hp
  intro H locs ls hP hS hl
  have he : (wls (xg X) (xK X) sg o)[66]? = some (xg X 66, .inl (xK X 5, 1, .inr (.inl (fun _ => o.1)))) := by rw [wls_at (by decide)]; rfl
  exact va_lald C.1 C.2.1 C.2.2.2.2.2.1 hP 66 5 he rfl (by rw [vp_in_iff]; decide) d (kk H locs ls hP hS hl)
theorem ent_o67 {K : Nat → ClassId} {g : Nat → Nat} {o1 : Ot} {c1 : Nat} (h : lay c1 ≠ .inr (6, 1, 0)) (h2 : o1.1 = o.1) : ent g K sg o1 c1 = ent g K sg o c1 := by
  unfold ent
  split
  · rfl
  · rename_i ty n bs hl
    unfold arc
    split
    · rfl
    · split
      · rfl
      · split
        · rw [h2]
        · rename_i h3 h4 h5
          refine absurd ?_ h
          rw [hl]
          unfold lay at hl
          split at hl
          · split at hl <;> simp_all <;> omega
          · split at hl
            · cases hl
            · split at hl
              · cases hl
              · split at hl
                · cases hl
                · split at hl <;> simp_all <;> omega
theorem v_dast (C : CF X cc own nL rk mc ms) {v : UInt64} (d : decode cc pc = .ok (.dastore, 1)) (hp : pc + 1 = pc1) (kk : V X a b nL sg (o.1, v) lo pc1 st) : V X a b nL sg o lo pc (.double v :: .int 0 :: .ref (xg X 67) :: st) := by
  subst hp
  intro H locs ls hP hS hl
  have he : (wls (xg X) (xK X) sg o)[67]? = some (xg X 67, .inl (xK X 6, 1, .inr (.inr (.inr (.inl (fun _ => o.2)))))) := by rw [wls_at (by decide)]; rfl
  refine va_dast C.1 C.2.1 C.2.2.2.2.2.1 hP (wls_D C.2.2.2.2.2.2.1 C.2.2.2.2.2.2.2.1) hS 67 6 he rfl (by rw [vp_in_iff]; decide) d (fun H1 locs1 hP1 _ hS1 => ?_)
  refine kk H1 locs1 ls (wls_o (by decide) hP1 (fun H h => ?_) (fun c1 h1 h2 => ent_o67 (lay67 h2) rfl)) hS1 hl
  show H[_]? = some (vp_cell (xK X 6) (1, .inr (.inr (.inr (.inl (fun _ => v))))))
  rw [show vp_cell (xK X 6) (1, .inr (.inr (.inr (.inl (fun _ => v))))) = vp_cell (xK X 6) (1, .inr (.inr (.inr (.inl (vf_upd (fun _ => o.2) (0 : Int32).toNatClampNeg v))))) from arrD_eq (by unfold vf_upd; simp)]
  exact h
theorem v_dald (C : CF X cc own nL rk mc ms) (d : decode cc pc = .ok (.daload, 1)) (hp : pc + 1 = pc1) (kk : V X a b nL sg o lo pc1 (.double o.2 :: st)) : V X a b nL sg o lo pc (.int 0 :: .ref (xg X 67) :: st) := by
  subst hp
  intro H locs ls hP hS hl
  have he : (wls (xg X) (xK X) sg o)[67]? = some (xg X 67, .inl (xK X 6, 1, .inr (.inr (.inr (.inl (fun _ => o.2)))))) := by rw [wls_at (by decide)]; rfl
  exact va_dald C.1 C.2.1 C.2.2.2.2.2.1 hP 67 6 he rfl (by rw [vp_in_iff]; decide) d (kk H locs ls hP hS hl)
/-- what is caught: no row before takes it -/
def ncL : List (String × String) := [(eISE, eIAE), (eIOB, eNSE), (eIAE, eNSE), (eIAE, eIOB), (eISE, eNSE), (eISE, eIOB), (eUOE, eNSE), (eUOE, eIAE), (eISE, eUOE), (eNSE, eISE)]
def Ncs (U : State) : Prop := ∀ q ∈ ncL, va_Nc q.1 q.2 U
theorem Ncs.moved {s U : State} (hW : s.vm.Alike U.vm) (h : Ncs s) : Ncs U := fun q hq => va_Nc.moved hW (h q hq)
theorem v_catch (C : CF X cc own nL rk mc ms) (hw : Xw (xA X) (xs_ X)) {hh : List (Nat × Nat × Nat × Nat)} (ht : (xc X).exceptionTable.toList = tableOf hh) (p1 : List (Nat × Nat × Nat × Nat)) (x : Nat × Nat × Nat × Nat) (p2 : List (Nat × Nat × Nat × Nat)) {E : String} (hs : hh = p1 ++ x :: p2) (hE : E ∈ exL) (hx : covers ⟨x.1, x.2.1, x.2.2.1, x.2.2.2⟩ pc = true) (h0 : x.2.2.2 ≠ 0) (hl0 : Cond.classLink own x.2.2.2 E ∈ ALL) (hp1 : ∀ z ∈ p1, z.2.2.2 ≠ 0 ∧ ∃ nm : String, Cond.classLink own z.2.2.2 nm ∈ ALL ∧ va_Nc E nm (xs_ X))
    (k : ∀ q : Nat, V X a b nL sg o lo x.2.2.1 [.ref q]) : VX X a b nL sg o lo pc rest E := by
  intro H locs ls q ce hP hS hl hce hv hcl
  refine vx_catch (own := own) (name := E) C.2.2.2.1 (tableOf p1) ⟨x.1, x.2.1, x.2.2.1, x.2.2.2⟩ (tableOf p2) ?_ ?_ hx h0 (C.2.2.2.2.1 _ hl0) (va_Nw.use rfl (hw.2.1.1 E hE)) hce hv hcl (k q H locs ls hP hS hl)
  · rw [ht, hs]; unfold tableOf; rw [List.map_append, List.map_cons]
  · intro z hz
    obtain ⟨y, hy, rfl⟩ := List.mem_map.mp hz
    obtain ⟨h1, nm, h2, h3⟩ := hp1 y hy
    exact Or.inr ⟨h1, nm, C.2.2.2.2.1 _ h2, h3⟩
end VL
/-! the law's own methods: they catch what the desk throws -/
def Pwy (D : va_G) (K : Nat → ClassId) (g : Nat → Nat) (sg : Sg) (o : Ot) (U : State) : Prop := Pwx D K g sg o U ∧ Ncs U
def CW (l : Launch) (y : MethodName) (bytes : ByteArray) (maxL : Nat) (hh : List (Nat × Nat × Nat × Nat)) (rk mc ms : Nat) (D : va_G) (K : Nat → ClassId) (g : Nat → Nat) (av : List Value) (sg : Sg) (o : Ot) (r : Int32) (sg1 : Sg) (o1 : Ot) : Prop :=
  Met l y (Cond.codeWith y bytes maxL (some .int) hh :: ALL) (rmR rk mc ms) (va_Pc av (Pwy D K g sg o)) (Rt D K g (some (.int r)) sg1 o1) mc ms (inG g)
theorem Pwy_blind {D : va_G} {K : Nat → ClassId} {g : Nat → Nat} {sg : Sg} {o : Ot} {av : List Value} : FrameBlind (va_Pc av (Pwy D K g sg o)) := by
  intro a U f mk q
  have h := Pwx_blind (D := D) (K := K) (g := g) (sg := sg) (o := o) (av := av) a U f mk ⟨q.1, q.2.1⟩
  exact ⟨h.1, h.2, Ncs.moved (s := U) (U := U.calling f mk a) (Vm.Alike.refl U.vm) q.2.2⟩
theorem Met.ofWH {l : Launch} {y : MethodName} {ws ws' : List Cond} {rm : Room} {Pc : Array Value → State → Prop} {Qc : Array Value → State → Outcome → State → Prop} {mc ms : Nat} {free : Addr → Prop} {cc : ByteArray} {maxL : Nat} {ret : Option FieldType} {hh : List (Nat × Nat × Nat × Nat)}
    (hy : plainName y.cls = true) (hw : ws = Cond.codeWith y cc maxL ret hh :: ws')
    (body : ∀ p e s m args below meth c s₁, BodyLoose p l y (headSpec ws rm) cc maxL ret e s m args below meth c s₁ → c.maxLocals = maxL → Pc args s →
      W p l e (headSpec ws rm).room s m args below meth c s.heap [] 0 0 (MQ below Qc args s mc ms free) (entryFrame m args maxL)) : Met l y ws rm Pc Qc mc ms free := by
  refine MetFree.of_bodyS (code := cc) (maxLocals := maxL) (ret := ret) hy ?_ ?_
  · intro args s m h hn
    obtain ⟨m9, meth, c, hn9, h1, h2, h3, h4, -, h5, h6, -⟩ := Cond.codeWith_spec (atoms_spec (ws := ws) h _ (by rw [hw]; exact List.mem_cons_self))
    cases hn.symm.trans hn9
    exact ⟨meth, c, h1, h2, h3, h4, h5, h6⟩
  · intro p e s m args below meth c s₁ B hml hP _
    have hh0 : s₁.heap = s.heap := by rw [B.state]; rfl
    obtain ⟨t, a1, o, b1, b2, b3⟩ := body p e s m args below meth c s₁ B hml hP s₁ hh0 (Stand.of_body B)
    exact ⟨t, o, a1, b1, b2, ⟨b3.1, b3.2⟩⟩
def Hs (X : Cx) (hh : List (Nat × Nat × Nat × Nat)) : Prop := Xw (xA X) (xs_ X) ∧ Ncs (xs_ X) ∧ (xc X).exceptionTable.toList = tableOf hh
section MW
variable {l : Launch} {y : MethodName} {bytes : ByteArray} {maxL rk mc ms : Nat} {hh : List (Nat × Nat × Nat × Nat)} {av : (Nat → Nat) → List Value} {sg sg1 sgx : Sg} {o o1 : Ot} {D : va_G} {K : Nat → ClassId} {g : Nat → Nat} {own : String} {lo : (Nat → Nat) → List (Nat × Value)}
theorem mk_w {r : Int32} (hy : plainName y.cls = true) (hown : y.cls = own) (hlen : ∀ g, (lg_sl (av g)).length ≤ maxL) (hlo : ∀ g, lv_args 0 (av g) = lo g)
    (body : ∀ X : Cx, CF X bytes own maxL rk mc ms → Hs X hh → xl X = l → Ei X bytes mc ms sg1 o1 r → V X 0 0 maxL sg o (lo (xg X)) 0 []) : CW l y bytes maxL hh rk mc ms D K g (av g) sg o r sg1 o1 := by
  refine Met.ofWH (cc := bytes) (maxL := maxL) (ret := some .int) (hh := hh) hy rfl ?_
  intro p e s m args below meth c s₁ B hml hv
  obtain ⟨rfl, ⟨⟨hP, hK, hG⟩, hw⟩, hn⟩ := hv
  have hts0 := atoms_spec (ws := Cond.codeWith y bytes maxL (some .int) hh :: ALL) B.pre
  have C := mk_C (Q := MQ below (Rt D K g (some (.int r)) sg1 o1) (av g).toArray s mc ms (inG g)) (own := own) hown hK hG (fun w h => hts0 w (List.mem_cons_of_mem _ h)) B hml
  refine mk_start (X := (p, l, e, rmR rk mc ms, s, m, (av g).toArray, below, meth, c, D, K, g, inG g, MQ below (Rt D K g (some (.int r)) sg1 o1) (av g).toArray s mc ms (inG g))) (hlen g) (hlo g) hP (body _ C ⟨hw, hn, vx_table (x := y) B (hts0 _ List.mem_cons_self)⟩ rfl ?_)
  intro a b nL lo pc ha hb d H locs ls hP hS hl
  exact W.widen ha hb (W.zret B.exec B.bytes B.returns rfl (fun t ht hW => ⟨⟨rfl, by rw [ht]; exact hP⟩, hS.F ht⟩) hS.2.2 d B.notSynchronized)
end MW
section VW
variable {X : Cx} {cc : ByteArray} {own : String} {a b nL rk mc ms : Nat} {sg sg1 sgx : Sg} {o o1 : Ot} {lo : List (Nat × Value)} {pc pc1 : Nat} {st rest : List Value}
/-- a call of a method that may throw; thrown: sgx is left -/
theorem v_callVX2 (C : CF X cc own nL rk mc ms) (hw : Xw (xA X) (xs_ X)) {y : MethodName} {bytes : ByteArray} {maxL idx n rk1 mc1 ms1 c ci : Nat} {ret : Option FieldType} {ex : Option String} {rv : Option Value} {sl : List Nat} {q : vw_C} {As : List Value} (k : KV own idx y bytes maxL ret n)
    (M : CX2 (xl X) y bytes maxL ret rk1 mc1 ms1 (xD X) (xK X) (xg X) (.ref (xg X c) :: As) sg o ex sgx rv sg1 o1) (hrk : rk1 + 1 ≤ rk) (hc : c < 68) (hy : lay c = .inl (ci, sl)) (hq : vwCl[ci]? = some q) (hq1 : q.1 = y.cls) (hst : st = As.reverse ++ .ref (xg X c) :: rest) (hn : As.length = n) (hcat : (rest.map fun v => v.category).sum ≤ 8) (ha : a + mc1 ≤ mc) (hb : b + ms1 ≤ ms)
    (d : decode cc pc = .ok (.invokevirtual idx, 3)) (hp : pc + 3 = pc1) (kx : ∀ E, ex = some E → VX X (a + mc1) (b + ms1) nL sgx o lo pc rest E) (kk : ex = none → V X (a + mc1) (b + ms1) nL sg1 o1 lo pc1 (rv.toList ++ rest)) : V X a b nL sg o lo pc st := by
  subst hp
  intro H locs ls hP hS hl
  obtain ⟨cx, cb, cm, co, ct, cK, cG, cA, ⟨r1, r2, r3, r4⟩, cl⟩ := C
  refine v_runX (sg := sgx) (vx_runV (As := As) (rest := rest) (C := y.cls) ⟨cx, cb, cm, co, ct⟩ M ⟨k.1.b ct hrk r1 r2, ct _ k.2.1, ct _ k.2.2⟩ ⟨Pwx_blind, ?_, fun U hU hW => ⟨rfl, ⟨by rw [hU]; exact hP, va_K.moved hW.alike cK, cG⟩, hw.go hS hU hW cA⟩⟩ rfl hn hl.1 hst (lv_room hcat) d ⟨Nat.le_trans ha r3, Nat.le_trans hb r4⟩) hS cA hl kx kk
  rw [← hq1]
  exact v_recv cK hP hc hy hq
/-- a call of a static method of the law -/
def KW (own : String) (idx : Nat) (y : MethodName) (bytes : ByteArray) (maxL : Nat) (hh : List (Nat × Nat × Nat × Nat)) (n : Nat) : Prop := Cond.codeWith y bytes maxL (some .int) hh ∈ ALL ∧ Cond.initialized y.cls ∈ ALL ∧ Cond.methodLink own idx y ∈ ALL ∧ Cond.static y ∈ ALL ∧ (y.cls ≠ "java/lang/invoke/MethodHandle" ∧ y.cls ≠ "java/lang/invoke/VarHandle") ∧ (parseMethodDescriptor y.desc).map (fun d => d.parameters.length) = some n ∧ maxL ≤ 20
theorem v_callW (C : CF X cc own nL rk mc ms) (hw : Xw (xA X) (xs_ X)) (hN : Ncs (xs_ X)) {y : MethodName} {bytes : ByteArray} {maxL idx n rk1 mc1 ms1 : Nat} {hh : List (Nat × Nat × Nat × Nat)} {r : Int32} {As : List Value} (k : KW own idx y bytes maxL hh n)
    (M : CW (xl X) y bytes maxL hh rk1 mc1 ms1 (xD X) (xK X) (xg X) As sg o r sg1 o1) (hrk : rk1 + 1 ≤ rk) (hst : st = As.reverse ++ rest) (hn : As.length = n) (hcat : (rest.map fun v => v.category).sum ≤ 8) (ha : a + mc1 ≤ mc) (hb : b + ms1 ≤ ms)
    (d : decode cc pc = .ok (.invokestatic idx, 3)) (hp : pc + 3 = pc1) (kk : V X (a + mc1) (b + ms1) nL sg1 o1 lo pc1 (.int r :: rest)) : V X a b nL sg o lo pc st := by
  subst hp
  intro H locs ls hP hS hl
  obtain ⟨cx, cb, cm, co, ct, cK, cG, cA, ⟨r1, r2, r3, r4⟩, cl⟩ := C
  obtain ⟨k1, k2, k3, k4, k5, k6, k7⟩ := k
  have hr := vx_runSW (p := xp X) (e := xe X) (below := xb X) (meth := xh X) (H := H) (locs := locs) (cells := a) (slots := b) (As := As) (rest := rest) (g := F0 (xm X) pc ls st) ⟨cx, cb, cm, co, ct⟩ M ⟨⟨rfl, rfl, Nat.le_trans hrk r1, ?_, pay_in ct (fun w hw => (List.mem_cons.mp hw).elim (fun e => by rw [e]; exact ⟨k1, good_of_word (all_good _ k1)⟩) (fun h => ⟨h, good_of_word (all_good _ h)⟩)), List.mem_cons_self⟩, ct _ k1, ct _ k2, k5, fun sig h => ?_, ct _ k3, ct _ k4⟩ ⟨Pwy_blind, fun U hU hW => ⟨rfl, ⟨⟨by rw [hU]; exact hP, va_K.moved hW.alike cK, cG⟩, hw.go hS hU hW cA⟩, hN.moved hW.alike⟩⟩ rfl hn hl.1 hst (lv_room hcat) d ⟨Nat.le_trans ha r3, Nat.le_trans hb r4⟩
  · intro T hT Y
    obtain ⟨v, st₀, t, T', L, h0, Y', hL, e1, e2, ⟨⟨hv, hp⟩, hz, hk⟩, stp⟩ := hr T hT Y
    cases hv
    rw [h0] at hz hk
    obtain ⟨t2, a1, b1⟩ := kk T'.heap (locs ++ L) ls (by rw [e1]; exact hp)
      ⟨Nat.le_trans hS.1 (by rw [e1]; exact hz), fun q h1 h2 => by rw [e1, hk q (Nat.lt_of_lt_of_le h1 hS.1) (fun z => h2 (cA q z))]; exact hS.2.1 q h1 h2, fun q hq => by
        rcases List.mem_append.mp hq with h | h
        · exact hS.2.2 q h
        · exact cA _ (hL q h)⟩ hl T' rfl Y'
    exact ⟨t2, stp t2 a1, b1⟩
  · show 8 + (maxL + 11) + 40 * rk1 ≤ (xR X).locals
    omega
  · rw [h] at k6
    exact (Option.some.inj k6).symm
end VW
