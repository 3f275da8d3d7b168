/-! contracts: from the world that holds sg and o, with these arguments, the method answers rv and leaves sg1 and o1; or it throws ex, and leaves all as it was -/
def rmR (rk mc ms : Nat) : Room := { frames := rk, cells := mc, slots := ms, locals := 40 * rk }
def wsM (y : MethodName) (bytes : ByteArray) (maxL : Nat) (ret : Option FieldType) : List Cond := Cond.code y bytes maxL ret :: ALL
theorem wsM_good {y : MethodName} {bytes : ByteArray} {maxL : Nat} {ret : Option FieldType} (hc : Cond.code y bytes maxL ret ∈ ALL) : GoodIn ALL (wsM y bytes maxL ret) := fun w hw => (List.mem_cons.mp hw).elim (fun e => by rw [e]; exact ⟨hc, good_of_word (all_good _ hc)⟩) (fun h => ⟨h, good_of_word (all_good _ h)⟩)
def Pw (D : va_G) (K : Nat → ClassId) (g : Nat → Nat) (sg : Sg) (o : Ot) (U : State) : Prop := Wd D K g sg o U.heap ∧ va_K D vwCl (tyl K) U ∧ apG g
def Rt (D : va_G) (K : Nat → ClassId) (g : Nat → Nat) (rv : Option Value) (sg : Sg) (o : Ot) : Array Value → State → Outcome → State → Prop := fun _ st oc t => (oc = .returned rv ∧ Wd D K g sg o t.heap) ∧ va_F (inG g) st t
/-- a method that only returns -/
def CN (l : Launch) (y : MethodName) (bytes : ByteArray) (maxL : Nat) (ret : Option FieldType) (rk : Nat) (D : va_G) (K : Nat → ClassId) (g : Nat → Nat) (av : List Value) (sg : Sg) (o : Ot) (rv : Option Value) (sg1 : Sg) (o1 : Ot) : Prop :=
  Met l y (wsM y bytes maxL ret) (rmR rk 0 0) (va_Pc av (Pw D K g sg o)) (Rt D K g rv sg1 o1) 0 0 (inG g)
abbrev eIAE : String := "java/lang/IllegalArgumentException"
abbrev eISE : String := "java/lang/IllegalStateException"
abbrev eIOB : String := "java/lang/IndexOutOfBoundsException"
abbrev eNSE : String := "java/util/NoSuchElementException"
abbrev eUOE : String := "java/lang/UnsupportedOperationException"
abbrev eAE : String := "java/lang/ArithmeticException"
def exL : List String := [eIAE, eISE, eIOB, eNSE, eUOE, eAE]
def dcL : List MethodName := [Bundle.initS "java/lang/RuntimeException", Bundle.initS "java/lang/Exception", Bundle.initS Bundle.tN]
def strL : List (Nat × String) := [(75, "the place or the limit is out of range"), (82, "there are 8 points"), (91, "a number of the piece is out of range"), (93, "there are 6 pieces"), (303, "there is no such piece"), (301, "there is no such point"), (113, "the places, the centre or the angle do not fit"), (310, "the piece is hung"), (134, "a piece cannot need itself"), (146, "the other piece needs this one"), (159, "there is no such truck"), (162, "the minute is out of range"), (168, "a piece of this truck is hung"), (170, "a number of the town is out of range"), (172, "there are 4 towns"), (305, "there is no such town"), (189, "a rate or the overtime is out of range"), (208, "the show is in no town"), (228, "the piece cannot be hung next"), (238, "no piece is hung"), (254, "there is no such piece, or it is not hung"), (280, "there is no point"), (288, "there are no pieces"), (291, "there are no points")]
/-- what a throw asks of the state: the two statics of Throwable (outside of A), the classes, the texts -/
def Xw (A : Nat → Prop) (U : State) : Prop := (vx_Zq Bundle.tN "UNASSIGNED_STACK" Bundle.steD A U U.heap ∧ vx_Zq Bundle.tN "SUPPRESSED_SENTINEL" Bundle.listD A U U.heap) ∧ ((∀ E ∈ exL, va_Nw (.castable E E) U) ∧ ∀ y ∈ dcL, va_Nw (.declares y) U) ∧ ∀ q ∈ strL, ∃ sa, vk_R RX4 q.1 q.2 sa U
theorem Xw.go {A A1 : Nat → Prop} {s U : State} {H : Heap} {locs : List Loc} (h : Xw A s) (hS : va_S A s.heap H locs) (hU : U.heap = H) (hW : s.WarmedH U.vm) (hA : ∀ q, A1 q → A q) : Xw A1 U := by
  obtain ⟨⟨h1, h2⟩, ⟨h3, h5⟩, h4⟩ := h
  refine ⟨⟨?_, ?_⟩, ⟨fun E hE => va_Nw.warmC hW (h3 E hE), fun y hy => va_Nw.warmD hW (h5 y hy)⟩, fun q hq => ?_⟩
  · rw [hU]; exact (vx_Zq.moved hW.alike (h1.kept hS.2.1)).narrow hA
  · rw [hU]; exact (vx_Zq.moved hW.alike (h2.kept hS.2.1)).narrow hA
  · obtain ⟨sa, hs⟩ := h4 q hq
    exact ⟨sa, vk_R.warm hW hs⟩
def Pwx (D : va_G) (K : Nat → ClassId) (g : Nat → Nat) (sg : Sg) (o : Ot) (U : State) : Prop := Pw D K g sg o U ∧ Xw (inG g) U
/-- a method that returns or throws -/
def CX (l : Launch) (y : MethodName) (bytes : ByteArray) (maxL : Nat) (ret : Option FieldType) (rk mc ms : Nat) (D : va_G) (K : Nat → ClassId) (g : Nat → Nat) (av : List Value) (sg : Sg) (o : Ot) (ex : Option String) (rv : Option Value) (sg1 : Sg) (o1 : Ot) : Prop :=
  vx_Met l y (wsM y bytes maxL ret) (rmR rk mc ms) (va_Pc av (Pwx D K g sg o)) (fun a st oc t => ex = none ∧ Rt D K g rv sg1 o1 a st oc t) (vx_X (fun E : String => ex = some E) (fun E1 E t => E1 = E ∧ Wd D K g sg o t.heap) (inG g)) mc ms (inG g)
theorem Pw_blind {D : va_G} {K : Nat → ClassId} {g : Nat → Nat} {sg : Sg} {o : Ot} {av : List Value} : FrameBlind (va_Pc av (Pw D K g sg o)) := fun a U f mk q => ⟨q.1, q.2.1, va_K.moved (u := U) (U := U.calling f mk a) (Vm.Alike.refl U.vm) q.2.2.1, q.2.2.2⟩
theorem Pwx_blind {D : va_G} {K : Nat → ClassId} {g : Nat → Nat} {sg : Sg} {o : Ot} {av : List Value} : FrameBlind (va_Pc av (Pwx D K g sg o)) := by
  intro a U f mk q
  refine ⟨q.1, ⟨q.2.1.1, va_K.moved (u := U) (U := U.calling f mk a) (Vm.Alike.refl U.vm) q.2.1.2.1, q.2.1.2.2⟩, ⟨?_, ?_⟩, ⟨fun E hE => ?_, fun y hy => ?_⟩, fun z hz => ?_⟩
  · exact vx_Zq.moved (u := U) (U := U.calling f mk a) (Vm.Alike.refl U.vm) q.2.2.1.1
  · exact vx_Zq.moved (u := U) (U := U.calling f mk a) (Vm.Alike.refl U.vm) q.2.2.1.2
  · exact va_Nw.same (u := U) (U := U.calling f mk a) rfl rfl (q.2.2.2.1.1 E hE)
  · exact va_Nw.same (u := U) (U := U.calling f mk a) rfl rfl (q.2.2.2.1.2 y hy)
  · obtain ⟨sa, hs⟩ := q.2.2.2.2 z hz
    exact ⟨sa, vk_R.same (u := U) (U := U.calling f mk a) rfl hs⟩
/-! ends -/
def Ei (X : Cx) (cc : ByteArray) (mc ms : Nat) (sg : Sg) (o : Ot) (r : Int32) : Prop := ∀ (a b nL : Nat) (lo : List (Nat × Value)) (pc : Nat), a ≤ mc → b ≤ ms → decode cc pc = .ok (.ireturn, 1) → V X a b nL sg o lo pc [.int r]
def Ev (X : Cx) (cc : ByteArray) (mc ms : Nat) (sg : Sg) (o : Ot) : Prop := ∀ (a b nL : Nat) (lo : List (Nat × Value)) (pc : Nat), a ≤ mc → b ≤ ms → decode cc pc = .ok (.return_, 1) → V X a b nL sg o lo pc []
def El (X : Cx) (cc : ByteArray) (mc ms : Nat) (sg : Sg) (o : Ot) (r : Int64) : Prop := ∀ (a b nL : Nat) (lo : List (Nat × Value)) (pc : Nat), a ≤ mc → b ≤ ms → decode cc pc = .ok (.lreturn, 1) → V X a b nL sg o lo pc [.long r]
def Ef (X : Cx) (cc : ByteArray) (mc ms : Nat) (sg : Sg) (o : Ot) (r : UInt32) : Prop := ∀ (a b nL : Nat) (lo : List (Nat × Value)) (pc : Nat), a ≤ mc → b ≤ ms → decode cc pc = .ok (.freturn, 1) → V X a b nL sg o lo pc [.float r]
def Ed (X : Cx) (cc : ByteArray) (mc ms : Nat) (sg : Sg) (o : Ot) (r : UInt64) : Prop := ∀ (a b nL : Nat) (lo : List (Nat × Value)) (pc : Nat), a ≤ mc → b ≤ ms → decode cc pc = .ok (.dreturn, 1) → V X a b nL sg o lo pc [.double r]
section VE
variable {X : Cx} {cc : ByteArray} {a b nL mc ms : Nat} {sg sg1 : Sg} {o o1 : Ot} {lo : List (Nat × Value)} {pc : Nat}
theorem v_ret {r r1 : Int32} (E : Ei X cc mc ms sg1 o1 r1) (d : decode cc pc = .ok (.ireturn, 1)) (ha : a ≤ mc) (hb : b ≤ ms) (h : r = r1) (hs : sg = sg1) (ho : o = o1) : V X a b nL sg o lo pc [.int r] := by
  subst h; subst hs; subst ho; exact E a b nL lo pc ha hb d
theorem v_vret (E : Ev X cc mc ms sg1 o1) (d : decode cc pc = .ok (.return_, 1)) (ha : a ≤ mc) (hb : b ≤ ms) (hs : sg = sg1) (ho : o = o1) : V X a b nL sg o lo pc [] := by
  subst hs; subst ho; exact E a b nL lo pc ha hb d
theorem v_lret {r r1 : Int64} (E : El X cc mc ms sg1 o1 r1) (d : decode cc pc = .ok (.lreturn, 1)) (ha : a ≤ mc) (hb : b ≤ ms) (h : r = r1) (hs : sg = sg1) (ho : o = o1) : V X a b nL sg o lo pc [.long r] := by
  subst h; subst hs; subst ho; exact E a b nL lo pc ha hb d
theorem v_fret {r r1 : UInt32} (E : Ef X cc mc ms sg1 o1 r1) (d : decode cc pc = .ok (.freturn, 1)) (ha : a ≤ mc) (hb : b ≤ ms) (h : r = r1) (hs : sg = sg1) (ho : o = o1) : V X a b nL sg o lo pc [.float r] := by
  subst h; subst hs; subst ho; exact E a b nL lo pc ha hb d
theorem v_dret {r r1 : UInt64} (E : Ed X cc mc ms sg1 o1 r1) (d : decode cc pc = .ok (.dreturn, 1)) (ha : a ≤ mc) (hb : b ≤ ms) (h : r = r1) (hs : sg = sg1) (ho : o = o1) : V X a b nL sg o lo pc [.double r] := by
  subst h; subst hs; subst ho; exact E a b nL lo pc ha hb d
end VE
/-! contracts out of walks -/
section MK
variable {l : Launch} {y : MethodName} {bytes : ByteArray} {maxL rk mc ms : Nat} {rt : FieldType} {av : (Nat → Nat) → List Value} {sg sg1 : Sg} {o o1 : Ot} {D : va_G} {K : Nat → ClassId} {g : Nat → Nat} {own : String} {lo : (Nat → Nat) → List (Nat × Value)} {ex : Option String}
theorem mk_start {X : Cx} {av1 : List Value} {lo1 : List (Nat × Value)} (hlen : (lg_sl av1).length ≤ maxL) (hlo : lv_args 0 av1 = lo1) (hP : Wd (xD X) (xK X) (xg X) sg o (xs_ X).heap) (k : V X 0 0 maxL sg o lo1 0 []) : WW X (xs_ X).heap [] 0 0 (entryFrame (xm X) av1.toArray maxL) := by
  rw [lg_entry_eq]
  have hl := lv_entry av1 hlen
  rw [hlo] at hl
  exact k _ _ _ hP va_S.rf hl
theorem mk_C {av1 : List Value} {ret : Option FieldType} {ws : List Cond} {Q : State → Prop} {p : Program} {e : Env} {s : State} {m : MethodId} {below : List Frame} {meth : Method} {c : Code} {s₁ : State} (hown : y.cls = own) (hK : va_K D vwCl (tyl K) s) (hG : apG g) (hts : ∀ w ∈ ALL, w.before av1.toArray s = true)
    (B : BodyLoose p l y (headSpec ws (rmR rk mc ms)) bytes maxL ret e s m av1.toArray below meth c s₁) (hml : c.maxLocals = maxL) : CF (p, l, e, rmR rk mc ms, s, m, av1.toArray, below, meth, c, D, K, g, inG g, Q) bytes own maxL rk mc ms :=
  ⟨B.exec, B.bytes, hml, by rw [← hown]; exact findClass_of_methodNamed B.named, hts, hK, hG, fun _ h => h, ⟨Nat.le_refl _, Nat.le_refl _, Nat.le_refl _, Nat.le_refl _⟩, B.notSynchronized⟩
theorem mk_i {r : Int32} (hy : plainName y.cls = true) (hown : y.cls = own) (hn : narrow rt (.int r) = .int r) (hlen : ∀ g, (lg_sl (av g)).length ≤ maxL) (hlo : ∀ g, lv_args 0 (av g) = lo g)
    (body : ∀ X : Cx, CF X bytes own maxL rk 0 0 → Ei X bytes 0 0 sg1 o1 r → V X 0 0 maxL sg o (lo (xg X)) 0 []) : CN l y bytes maxL (some rt) rk D K g (av g) sg o (some (.int r)) sg1 o1 := by
  refine Met.ofW (cc := bytes) (maxL := maxL) (ret := some rt) hy rfl ?_
  intro p e s m args below meth c s₁ B hml hv
  obtain ⟨rfl, hP, hK, hG⟩ := hv
  have hts0 := atoms_spec (ws := wsM y bytes maxL (some rt)) B.pre
  have C := mk_C (Q := MQ below (Rt D K g (some (.int r)) sg1 o1) (av g).toArray s 0 0 (inG g)) (own := own) hown hK hG (fun w h => hts0 w (List.mem_cons_of_mem _ h)) B hml
  refine mk_start (X := (p, l, e, rmR rk 0 0, s, m, (av g).toArray, below, meth, c, D, K, g, inG g, MQ below (Rt D K g (some (.int r)) sg1 o1) (av g).toArray s 0 0 (inG g))) (hlen g) (hlo g) hP (body _ C ?_)
  intro a b nL lo pc ha hb d H locs ls hP hS hl
  exact W.widen ha hb (W.zret B.exec B.bytes B.returns hn (fun t ht hW => ⟨⟨rfl, by rw [ht]; exact hP⟩, hS.F ht⟩) hS.2.2 d B.notSynchronized)
theorem mk_v (hy : plainName y.cls = true) (hown : y.cls = own) (hlen : ∀ g, (lg_sl (av g)).length ≤ maxL) (hlo : ∀ g, lv_args 0 (av g) = lo g)
    (body : ∀ X : Cx, CF X bytes own maxL rk 0 0 → Ev X bytes 0 0 sg1 o1 → V X 0 0 maxL sg o (lo (xg X)) 0 []) : CN l y bytes maxL none rk D K g (av g) sg o none sg1 o1 := by
  refine Met.ofW (cc := bytes) (maxL := maxL) (ret := none) hy rfl ?_
  intro p e s m args below meth c s₁ B hml hv
  obtain ⟨rfl, hP, hK, hG⟩ := hv
  have hts0 := atoms_spec (ws := wsM y bytes maxL none) B.pre
  have C := mk_C (Q := MQ below (Rt D K g none sg1 o1) (av g).toArray s 0 0 (inG g)) (own := own) hown hK hG (fun w h => hts0 w (List.mem_cons_of_mem _ h)) B hml
  refine mk_start (X := (p, l, e, rmR rk 0 0, s, m, (av g).toArray, below, meth, c, D, K, g, inG g, MQ below (Rt D K g none sg1 o1) (av g).toArray s 0 0 (inG g))) (hlen g) (hlo g) hP (body _ C ?_)
  intro a b nL lo pc ha hb d H locs ls hP hS hl
  exact W.widen ha hb (W.vret B.exec B.bytes B.returns (fun t ht hW => ⟨⟨rfl, by rw [ht]; exact hP⟩, hS.F ht⟩) hS.2.2 d B.notSynchronized)
theorem mk_l {r : Int64} (hy : plainName y.cls = true) (hown : y.cls = own) (hlen : ∀ g, (lg_sl (av g)).length ≤ maxL) (hlo : ∀ g, lv_args 0 (av g) = lo g)
    (body : ∀ X : Cx, CF X bytes own maxL rk 0 0 → El X bytes 0 0 sg1 o1 r → V X 0 0 maxL sg o (lo (xg X)) 0 []) : CN l y bytes maxL (some .long) rk D K g (av g) sg o (some (.long r)) sg1 o1 := by
  refine Met.ofW (cc := bytes) (maxL := maxL) (ret := some .long) hy rfl ?_
  intro p e s m args below meth c s₁ B hml hv
  obtain ⟨rfl, hP, hK, hG⟩ := hv
  have hts0 := atoms_spec (ws := wsM y bytes maxL (some .long)) B.pre
  have C := mk_C (Q := MQ below (Rt D K g (some (.long r)) sg1 o1) (av g).toArray s 0 0 (inG g)) (own := own) hown hK hG (fun w h => hts0 w (List.mem_cons_of_mem _ h)) B hml
  refine mk_start (X := (p, l, e, rmR rk 0 0, s, m, (av g).toArray, below, meth, c, D, K, g, inG g, MQ below (Rt D K g (some (.long r)) sg1 o1) (av g).toArray s 0 0 (inG g))) (hlen g) (hlo g) hP (body _ C ?_)
  intro a b nL lo pc ha hb d H locs ls hP hS hl
  exact W.widen ha hb (W.lret B.exec B.bytes B.returns (fun t ht hW => ⟨⟨rfl, by rw [ht]; exact hP⟩, hS.F ht⟩) hS.2.2 d B.notSynchronized)
theorem mk_f {r : UInt32} (hy : plainName y.cls = true) (hown : y.cls = own) (hlen : ∀ g, (lg_sl (av g)).length ≤ maxL) (hlo : ∀ g, lv_args 0 (av g) = lo g)
    (body : ∀ X : Cx, CF X bytes own maxL rk 0 0 → Ef X bytes 0 0 sg1 o1 r → V X 0 0 maxL sg o (lo (xg X)) 0 []) : CN l y bytes maxL (some .float) rk D K g (av g) sg o (some (.float r)) sg1 o1 := by
  refine Met.ofW (cc := bytes) (maxL := maxL) (ret := some .float) hy rfl ?_
  intro p e s m args below meth c s₁ B hml hv
  obtain ⟨rfl, hP, hK, hG⟩ := hv
  have hts0 := atoms_spec (ws := wsM y bytes maxL (some .float)) B.pre
  have C := mk_C (Q := MQ below (Rt D K g (some (.float r)) sg1 o1) (av g).toArray s 0 0 (inG g)) (own := own) hown hK hG (fun w h => hts0 w (List.mem_cons_of_mem _ h)) B hml
  refine mk_start (X := (p, l, e, rmR rk 0 0, s, m, (av g).toArray, below, meth, c, D, K, g, inG g, MQ below (Rt D K g (some (.float r)) sg1 o1) (av g).toArray s 0 0 (inG g))) (hlen g) (hlo g) hP (body _ C ?_)
  intro a b nL lo pc ha hb d H locs ls hP hS hl
  exact W.widen ha hb (W.fret B.exec B.bytes B.returns (fun t ht hW => ⟨⟨rfl, by rw [ht]; exact hP⟩, hS.F ht⟩) hS.2.2 d B.notSynchronized)
theorem mk_d {r : UInt64} (hy : plainName y.cls = true) (hown : y.cls = own) (hlen : ∀ g, (lg_sl (av g)).length ≤ maxL) (hlo : ∀ g, lv_args 0 (av g) = lo g)
    (body : ∀ X : Cx, CF X bytes own maxL rk 0 0 → Ed X bytes 0 0 sg1 o1 r → V X 0 0 maxL sg o (lo (xg X)) 0 []) : CN l y bytes maxL (some .double) rk D K g (av g) sg o (some (.double r)) sg1 o1 := by
  refine Met.ofW (cc := bytes) (maxL := maxL) (ret := some .double) hy rfl ?_
  intro p e s m args below meth c s₁ B hml hv
  obtain ⟨rfl, hP, hK, hG⟩ := hv
  have hts0 := atoms_spec (ws := wsM y bytes maxL (some .double)) B.pre
  have C := mk_C (Q := MQ below (Rt D K g (some (.double r)) sg1 o1) (av g).toArray s 0 0 (inG g)) (own := own) hown hK hG (fun w h => hts0 w (List.mem_cons_of_mem _ h)) B hml
  refine mk_start (X := (p, l, e, rmR rk 0 0, s, m, (av g).toArray, below, meth, c, D, K, g, inG g, MQ below (Rt D K g (some (.double r)) sg1 o1) (av g).toArray s 0 0 (inG g))) (hlen g) (hlo g) hP (body _ C ?_)
  intro a b nL lo pc ha hb d H locs ls hP hS hl
  exact W.widen ha hb (W.dret B.exec B.bytes B.returns (fun t ht hW => ⟨⟨rfl, by rw [ht]; exact hP⟩, hS.F ht⟩) hS.2.2 d B.notSynchronized)
end MK
/-! calls of methods that only return -/
theorem KB.b {R : Room} {s : State} {args : Array Value} {own : String} {idx : Nat} {y : MethodName} {bytes : ByteArray} {maxL : Nat} {ret : Option FieldType} {n rk rk1 mc ms : Nat} (k : KB own idx y bytes maxL ret n) (ht : ∀ w ∈ ALL, w.before args s = true) (hr : rk1 + 1 ≤ rk) (h1 : rk ≤ R.frames) (h2 : 40 * rk ≤ R.locals) : CallB R s args own idx y bytes maxL ret (wsM y bytes maxL ret) (rmR rk1 mc ms) mc ms n := by
  obtain ⟨k1, k2, k3, k4, k5, k6⟩ := k
  refine callB_of n ht (wsM_good k1) rfl rfl rfl (ht _ k2) (ht _ k5) ⟨k3.1, k3.2, k4⟩ ⟨?_, ?_⟩
  · show rk1 + 1 ≤ R.frames
    omega
  · show 8 + (maxL + 11) + 40 * rk1 ≤ R.locals
    omega
section VC
variable {X : Cx} {cc : ByteArray} {own : String} {a b nL rk mc ms : Nat} {sg sg1 : Sg} {o o1 : Ot} {lo : List (Nat × Value)} {pc pc1 : Nat} {st rest : List Value}
theorem v_run {ar : Array Value} {rv : Option Value} {H : Heap} {locs : List Loc} {ls : Array Slot} (hr : va_Run (xp X) (xl X) (xe X) (xR X) (xs_ X) (xm X) (xa X) (xb X) (xh X) (xc X) H locs a b 0 0 (F0 (xm X) pc ls st) rest (Rt (xD X) (xK X) (xg X) rv sg1 o1 ar) (inG (xg X))) (hS : va_S (xA X) (xs_ X).heap H locs) (hA : ∀ q, inG (xg X) q → xA X q) (hl : lv_has ls nL lo)
    (kk : V X a b nL sg1 o1 lo (pc + 3) (rv.toList ++ rest)) : WW X H locs a b (F0 (xm X) pc ls st) := by
  intro T hT Y
  obtain ⟨v, st₀, t, T', L, h0, Y', hL, e1, e2, ⟨⟨hv, hp⟩, hz, hk⟩, stp⟩ := hr T hT Y
  cases hv
  rw [h0] at hz hk
  obtain ⟨t2, a1, b1⟩ := kk T'.heap (locs ++ L) ls (by rw [e1]; exact hp)
    ⟨Nat.le_trans hS.1 (by rw [e1]; exact hz), fun q h1 h2 => by rw [e1, hk q (Nat.lt_of_lt_of_le h1 hS.1) (fun z => h2 (hA q z))]; exact hS.2.1 q h1 h2, fun q hq => by
      rcases List.mem_append.mp hq with h | h
      · exact hS.2.2 q h
      · exact hA _ (hL q h)⟩ hl T' rfl Y'
  exact ⟨t2, stp t2 a1, b1⟩
theorem v_recv {c ci : Nat} {sl : List Nat} {q : vw_C} {H : Heap} (hK : va_K (xD X) vwCl (tyl (xK X)) (xs_ X)) (hP : Wd (xD X) (xK X) (xg X) sg o H) (hc : c < 68) (hy : lay c = .inl (ci, sl)) (hq : vwCl[ci]? = some q) : ∃ cell : Cell, H[xg X c]? = some cell ∧ cell.vm.isStatics = false ∧ (xs_ X).vm.findClass q.1 = some cell.cls :=
  va_recv hK hP hq (show (wls (xg X) (xK X) sg o)[c]? = some (xg X c, .inr (ci, sls (xg X) (sg c) 0 sl)) by rw [wls_at hc, ent_o hy])
theorem v_callV (C : CF X cc own nL rk mc ms) {y : MethodName} {bytes : ByteArray} {maxL idx n rk1 c ci : Nat} {ret : Option FieldType} {rv : Option Value} {sl : List Nat} {q : vw_C} {As : List Value} (k : KV own idx y bytes maxL ret n)
    (M : CN (xl X) y bytes maxL ret rk1 (xD X) (xK X) (xg X) (.ref (xg X c) :: As) sg o rv sg1 o1) (hrk : rk1 + 1 ≤ rk) (hc : c < 68) (hy : lay c = .inl (ci, sl)) (hq : vwCl[ci]? = some q) (hq1 : q.1 = y.cls) (hst : st = As.reverse ++ .ref (xg X c) :: rest) (hn : As.length = n) (hcat : (rest.map fun v => v.category).sum ≤ 8) (ha : a ≤ mc) (hb : b ≤ ms)
    (d : decode cc pc = .ok (.invokevirtual idx, 3)) (hp : pc + 3 = pc1) (kk : V X a b nL sg1 o1 lo pc1 (rv.toList ++ rest)) : V X a b nL sg o lo pc st := by
  subst hp
  intro H locs ls hP hS hl
  obtain ⟨cx, cb, cm, co, ct, cK, cG, cA, ⟨r1, r2, r3, r4⟩, cl⟩ := C
  refine v_run (va_runV (As := As) (rest := rest) (C := y.cls) ⟨cx, cb, cm, co, ct⟩ M ⟨k.1.b ct hrk r1 r2, ct _ k.2.1, ct _ k.2.2⟩ ⟨Pw_blind, ?_, fun U hU hW => ⟨rfl, by rw [hU]; exact hP, va_K.moved hW.alike cK, cG⟩⟩ rfl hn hl.1 hst (lv_room hcat) d ⟨Nat.le_trans ha r3, Nat.le_trans hb r4⟩) hS cA hl kk
  rw [← hq1]
  exact v_recv cK hP hc hy hq
theorem v_callS (C : CF X cc own nL rk mc ms) {y : MethodName} {bytes : ByteArray} {maxL idx n rk1 : Nat} {ret : Option FieldType} {rv : Option Value} {As : List Value} (k : KS own idx y bytes maxL ret n)
    (M : CN (xl X) y bytes maxL ret rk1 (xD X) (xK X) (xg X) As sg o rv sg1 o1) (hrk : rk1 + 1 ≤ rk) (hst : st = As.reverse ++ rest) (hn : As.length = n) (hcat : (rest.map fun v => v.category).sum ≤ 8) (ha : a ≤ mc) (hb : b ≤ ms)
    (d : decode cc pc = .ok (.invokestatic idx, 3)) (hp : pc + 3 = pc1) (kk : V X a b nL sg1 o1 lo pc1 (rv.toList ++ rest)) : V X a b nL sg o lo pc st := by
  subst hp
  intro H locs ls hP hS hl
  obtain ⟨cx, cb, cm, co, ct, cK, cG, cA, ⟨r1, r2, r3, r4⟩, cl⟩ := C
  exact v_run (va_runS (As := As) (rest := rest) ⟨cx, cb, cm, co, ct⟩ M ⟨k.1.b ct hrk r1 r2, ct _ k.2⟩ ⟨Pw_blind, fun U hU hW => ⟨rfl, by rw [hU]; exact hP, va_K.moved hW.alike cK, cG⟩⟩ rfl hn hl.1 hst (lv_room hcat) d ⟨Nat.le_trans ha r3, Nat.le_trans hb r4⟩) hS cA hl kk
end VC
