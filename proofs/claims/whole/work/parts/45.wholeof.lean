set_option maxHeartbeats 4000000 in
set_option maxRecDepth 20000 in
theorem whole_of {R : Sg → Prop} (Z : St_all R) (hR0 : R sg0) {p : Program} {e : Env} {s : State} {m : MethodId} {below : List Frame} {meth : Method} {c : Code} (l : Launch) (hflags : l.flags = flags0) {b L : Nat} {xs : Nat → Int32} (hL : L ≤ 3072) (C0 : lw_At p s m meth c b L xs) : W p l e room_1 s m #[Value.ref b] below meth c s.heap [] 0 0 (lw_Z below #[Value.ref b] s) (entryFrame m ([Value.ref b] : List Value).toArray 9) := by
  obtain ⟨hx, hb, hr, hml, hown, hts, hX, hbl, hlocks, hgv⟩ := C0
  have htA : ∀ w ∈ ALL, w.before #[Value.ref b] s = true := fun w h => hts w (all_tbl w h)
  obtain ⟨D, k0, hK⟩ := law_K htA
  have hst : l.stackTraces = false := by
    unfold Launch.stackTraces
    rw [hflags]
    decide +kernel
  have C : GF (p, l, e, room_1, s, m, #[Value.ref b], below, meth, c, D, fun _ => k0, fun _ => 0, fun q => s.heap.size ≤ q, lw_Z below #[Value.ref b] s) cL_law RL 9 30 662168 7046113 :=
    ⟨hx, hb, hml, hown, htA, hK, fun _ h => h, law_Nx hts, ⟨show 30 ≤ room_1.frames by decide, show 40 * 30 ≤ room_1.locals by decide, show 662168 ≤ room_1.cells by decide, show 7046113 ≤ room_1.slots by decide⟩, hlocks⟩
  have main : ∀ (K : Nat → ClassId) (g : Nat → Nat), va_K D vwCl (tyl K) s → apG g → (∀ q, inG g q → s.heap.size ≤ q) → V (XK (p, l, e, room_1, s, m, #[Value.ref b], below, meth, c, D, fun _ => k0, fun _ => 0, fun q => s.heap.size ≤ q, lw_Z below #[Value.ref b] s) K g) 68 424 9 sg0 o0 [(4, .ref (g 67)), (3, .ref (g 66)), (2, .ref (g 41)), (1, .ref (g 0)), (0, .ref b)] 25 [] := by
    intro K g hK hG hA
    have C1 : CF (XK (p, l, e, room_1, s, m, #[Value.ref b], below, meth, c, D, fun _ => k0, fun _ => 0, fun q => s.heap.size ≤ q, lw_Z below #[Value.ref b] s) K g) cL_law RL 9 30 662168 7046113 :=
      ⟨hx, hb, hml, hown, htA, hK, hG, hA, ⟨show 30 ≤ room_1.frames by decide, show 40 * 30 ≤ room_1.locals by decide, show 662168 ≤ room_1.cells by decide, show 7046113 ≤ room_1.slots by decide⟩, hlocks⟩
    have S : Scr (XK (p, l, e, room_1, s, m, #[Value.ref b], below, meth, c, D, fun _ => k0, fun _ => 0, fun q => s.heap.size ≤ q, lw_Z below #[Value.ref b] s) K g) b L xs := ⟨hX, hbl, fun h => by
      have : s.heap.size ≤ b := h
      omega, hL⟩
    refine v_iconst (v := nI 0) C1 dL_law_25 (by decide) rfl ?_
    refine v_istore C1 (LB (XK (p, l, e, room_1, s, m, #[Value.ref b], below, meth, c, D, fun _ => k0, fun _ => 0, fun q => s.heap.size ≤ q, lw_Z below #[Value.ref b] s) K g) b 0) dL_law_26 (by decide) rfl rfl ?_
    refine law_loop Z C1 ⟨law_Xw hts hgv ?_, law_Ncs hgv⟩ hst S ?_ 512 0 68 424 sg0 o0 (by omega) (by omega) (by omega) (by omega) hR0
    · obtain ⟨cc, kk, hc, -⟩ := Cond.instantiable_spec (htA _ isX4)
      exact ⟨_, hc⟩
    · intro a1 b1 sg o lo h1 h2
      refine v_iconst (v := 1) C1 dL_law_1736 (by decide) rfl ?_
      intro H locs ls hP hS hl
      exact W.widen h1 h2 (va_forget (fun q hq => hS.2.2 q hq) (W.base (lw_ret (Drawn.sameBut.refl s.drawn lw_cs) hx hb hr hlocks dL_law_1737)))
  have G := law_head _ C b main
  rw [lg_entry_eq]
  have hl := lv_entry ([Value.ref b]) (n := 9) (Nat.le_of_ble_eq_true rfl)
  exact G _ _ _ (fun k q h => (by cases h)) ⟨fun i j p q h _ _ => (by cases h), fun k q h => (by cases h)⟩ va_S.rf hl
