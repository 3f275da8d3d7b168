theorem inJ0 : ∀ w ∈ u_ws RJ0 TJ0 2, w ∈ ALL := by
  intro w hw
  obtain ⟨k, hk, rfl⟩ := List.mem_map.mp hw
  have hk := List.mem_range.mp hk
  match k, hk with
  | 0, _ => exact all_in3 21 (by decide +kernel) rfl
  | 1, _ => exact all_in3 23 (by decide +kernel) rfl
  | k + 2, h => exact absurd h (by omega)
theorem isJ0 : Cond.instantiable RJ0 4 ∈ ALL := all_in3 20 (by decide +kernel) rfl
theorem inJx00060 : ∀ w ∈ u_ws RJx00060 TJx00060 6, w ∈ ALL := by
  intro w hw
  obtain ⟨k, hk, rfl⟩ := List.mem_map.mp hw
  have hk := List.mem_range.mp hk
  match k, hk with
  | 0, _ => exact all_in3 9 (by decide +kernel) rfl
  | 1, _ => exact all_in3 10 (by decide +kernel) rfl
  | 2, _ => exact all_in3 11 (by decide +kernel) rfl
  | 3, _ => exact all_in3 12 (by decide +kernel) rfl
  | 4, _ => exact all_in3 13 (by decide +kernel) rfl
  | 5, _ => exact all_in3 14 (by decide +kernel) rfl
  | k + 6, h => exact absurd h (by omega)
theorem isJx00060 : Cond.instantiable RJx00060 6 ∈ ALL := all_in3 2 (by decide +kernel) rfl
/-- from here on the entry of the law -/
theorem law_K {s : State} {args : Array Value} (hts : ∀ w ∈ ALL, w.before args s = true) : ∃ (D : va_G) (k0 : ClassId), va_K D vwCl [(k0, .int)] s := by
  obtain ⟨cJ0, iJ0, hJ0⟩ := u_known (N := 2) hts inJ0 (hts _ isJ0)
  obtain ⟨cJx00060, iJx00060, hJx00060⟩ := u_known (N := 6) hts inJx00060 (hts _ isJx00060)
  obtain ⟨cX0, iX0, hX0⟩ := u_known (N := 9) hts inX0 (hts _ isX0)
  obtain ⟨cX1, iX1, hX1⟩ := u_known (N := 2) hts inX1 (hts _ isX1)
  obtain ⟨cX2, iX2, hX2⟩ := u_known (N := 8) hts inX2 (hts _ isX2)
  obtain ⟨cX3, iX3, hX3⟩ := u_known (N := 8) hts inX3 (hts _ isX3)
  obtain ⟨cX4, iX4, hX4⟩ := u_known (N := 13) hts inX4 (hts _ isX4)
  obtain ⟨cX5, iX5, hX5⟩ := u_known (N := 35) hts inX5 (hts _ isX5)
  obtain ⟨k0, kA, comp, e1, e2, e3⟩ := Cond.arrayClass_spec (hts _ acI)
  refine ⟨(fun c => [cJ0, cJx00060, cX0, cX1, cX2, cX3, cX4, cX5].getD c 0, fun c => [iJ0, iJx00060, iX0, iX1, iX2, iX3, iX4, iX5].getD c (fun _ => 0)), k0, ?_, ?_⟩
  · intro c q hq
    match c, hq with
    | 0, hq => cases hq; exact hJ0
    | 1, hq => cases hq; exact hJx00060
    | 2, hq => cases hq; exact hX0
    | 3, hq => cases hq; exact hX1
    | 4, hq => cases hq; exact hX2
    | 5, hq => cases hq; exact hX3
    | 6, hq => cases hq; exact hX4
    | 7, hq => cases hq; exact hX5
    | c + 8, hq => cases hq
  · intro k q hk
    match k, hk with
    | 0, hk => cases hk; exact ⟨fun n z => ⟨fun k h => (by cases h), kA, e2, comp, e3⟩, e1⟩
    | k + 1, hk => cases hk
theorem law_Xw {s : State} {args : Array Value} (hts : ∀ w ∈ lw_tbl, w.before args s = true) (hgv : (Jvm.Cond.and given_1 narrow_1).before args s = true) (hown : ∃ c, s.vm.findClass RX4 = some c) : Xw (fun q => s.heap.size ≤ q) s := by
  have hs := flat_of_before _ hgv
  refine ⟨⟨vx_Zqof (hts _ (tbl_in2 167 (by decide +kernel))) (hts _ (tbl_in1 7 (by decide +kernel))) (hs _ (by decide +kernel)) (fun a h => by omega), vx_Zqof (hts _ (tbl_in2 169 (by decide +kernel))) (hts _ (tbl_in1 7 (by decide +kernel))) (hs _ (by decide +kernel)) (fun a h => by omega)⟩, ⟨fun E hE => ?_, fun y hy => ?_⟩, fun q hq => ?_⟩
  · refine va_Nw.of rfl (hts _ ?_)
    revert hE
    unfold exL
    intro hE
    rcases List.mem_cons.mp hE with rfl | hE
    · exact (tbl_in2 142 (by decide +kernel))
    rcases List.mem_cons.mp hE with rfl | hE
    · exact (tbl_in2 214 (by decide +kernel))
    rcases List.mem_cons.mp hE with rfl | hE
    · exact (tbl_in3 55 (by decide +kernel))
    rcases List.mem_cons.mp hE with rfl | hE
    · exact (tbl_in3 35 (by decide +kernel))
    rcases List.mem_cons.mp hE with rfl | hE
    · exact (tbl_in3 90 (by decide +kernel))
    rcases List.mem_cons.mp hE with rfl | hE
    · exact (tbl_in4 25 (by decide +kernel))
    cases hE
  · refine va_Nw.of rfl (hts _ ?_)
    revert hy
    unfold dcL
    intro hy
    rcases List.mem_cons.mp hy with rfl | hy
    · exact (tbl_in2 144 (by decide +kernel))
    rcases List.mem_cons.mp hy with rfl | hy
    · exact (tbl_in2 146 (by decide +kernel))
    rcases List.mem_cons.mp hy with rfl | hy
    · exact (tbl_in2 148 (by decide +kernel))
    cases hy
  · have key : ∀ (k : Nat) (tx : String), Cond.stringRef RX4 k tx ∈ lw_tbl → ∃ sa, vk_R RX4 k tx sa s := by
      intro k tx hw
      obtain ⟨c, hc⟩ := hown
      obtain ⟨-, -, -, sa, -, -, -, -, -, he⟩ := Cond.stringRef_spec (first := s) (o := none) (idx := []) hc (hts _ hw)
      exact ⟨sa, vk_R.of (hts _ hw) he⟩
    revert hq
    unfold strL
    intro hq
    rcases List.mem_cons.mp hq with rfl | hq
    · exact key _ _ (tbl_in2 185 (by decide +kernel))
    rcases List.mem_cons.mp hq with rfl | hq
    · exact key _ _ (tbl_in2 221 (by decide +kernel))
    rcases List.mem_cons.mp hq with rfl | hq
    · exact key _ _ (tbl_in2 235 (by decide +kernel))
    rcases List.mem_cons.mp hq with rfl | hq
    · exact key _ _ (tbl_in2 236 (by decide +kernel))
    rcases List.mem_cons.mp hq with rfl | hq
    · exact key _ _ (tbl_in3 42 (by decide +kernel))
    rcases List.mem_cons.mp hq with rfl | hq
    · exact key _ _ (tbl_in3 62 (by decide +kernel))
    rcases List.mem_cons.mp hq with rfl | hq
    · exact key _ _ (tbl_in3 66 (by decide +kernel))
    rcases List.mem_cons.mp hq with rfl | hq
    · exact key _ _ (tbl_in3 71 (by decide +kernel))
    rcases List.mem_cons.mp hq with rfl | hq
    · exact key _ _ (tbl_in3 83 (by decide +kernel))
    rcases List.mem_cons.mp hq with rfl | hq
    · exact key _ _ (tbl_in3 97 (by decide +kernel))
    rcases List.mem_cons.mp hq with rfl | hq
    · exact key _ _ (tbl_in3 117 (by decide +kernel))
    rcases List.mem_cons.mp hq with rfl | hq
    · exact key _ _ (tbl_in3 118 (by decide +kernel))
    rcases List.mem_cons.mp hq with rfl | hq
    · exact key _ _ (tbl_in3 123 (by decide +kernel))
    rcases List.mem_cons.mp hq with rfl | hq
    · exact key _ _ (tbl_in3 131 (by decide +kernel))
    rcases List.mem_cons.mp hq with rfl | hq
    · exact key _ _ (tbl_in3 132 (by decide +kernel))
    rcases List.mem_cons.mp hq with rfl | hq
    · exact key _ _ (tbl_in3 144 (by decide +kernel))
    rcases List.mem_cons.mp hq with rfl | hq
    · exact key _ _ (tbl_in3 145 (by decide +kernel))
    rcases List.mem_cons.mp hq with rfl | hq
    · exact key _ _ (tbl_in3 164 (by decide +kernel))
    rcases List.mem_cons.mp hq with rfl | hq
    · exact key _ _ (tbl_in3 204 (by decide +kernel))
    rcases List.mem_cons.mp hq with rfl | hq
    · exact key _ _ (tbl_in3 212 (by decide +kernel))
    rcases List.mem_cons.mp hq with rfl | hq
    · exact key _ _ (tbl_in3 234 (by decide +kernel))
    rcases List.mem_cons.mp hq with rfl | hq
    · exact key _ _ (tbl_in4 9 (by decide +kernel))
    rcases List.mem_cons.mp hq with rfl | hq
    · exact key _ _ (tbl_in4 32 (by decide +kernel))
    rcases List.mem_cons.mp hq with rfl | hq
    · exact key _ _ (tbl_in4 41 (by decide +kernel))
    cases hq
theorem law_Nx {s : State} {args : Array Value} (hts : ∀ w ∈ lw_tbl, w.before args s = true) : Nx s := by
  refine ⟨fun w hw => va_Nw.of ?_ (hts w ?_), ?_, ?_, ?_⟩
  · revert hw
    unfold nestL
    intro hw
    rcases List.mem_cons.mp hw with rfl | hw
    · rfl
    rcases List.mem_cons.mp hw with rfl | hw
    · rfl
    rcases List.mem_cons.mp hw with rfl | hw
    · rfl
    cases hw
  · revert hw
    unfold nestL
    intro hw
    rcases List.mem_cons.mp hw with rfl | hw
    · exact (tbl_in1 36 (by decide +kernel))
    rcases List.mem_cons.mp hw with rfl | hw
    · exact (tbl_in1 75 (by decide +kernel))
    rcases List.mem_cons.mp hw with rfl | hw
    · exact (tbl_in1 90 (by decide +kernel))
    cases hw
  · exact va_AO.of (A := args) (hts _ (tbl_in1 29 (by decide +kernel)))
  · exact va_AO.of (A := args) (hts _ (tbl_in1 31 (by decide +kernel)))
  · exact va_AO.of (A := args) (hts _ (tbl_in1 33 (by decide +kernel)))
theorem law_Ncs {s : State} {args : Array Value} (hgv : (Jvm.Cond.and given_1 narrow_1).before args s = true) : Ncs s := by
  have hs := flat_of_before _ hgv
  intro q hq
  revert hq
  unfold ncL
  intro hq
  rcases List.mem_cons.mp hq with rfl | hq
  · exact va_Nc.of (args := args) (hs _ (by decide +kernel))
  rcases List.mem_cons.mp hq with rfl | hq
  · exact va_Nc.of (args := args) (hs _ (by decide +kernel))
  rcases List.mem_cons.mp hq with rfl | hq
  · exact va_Nc.of (args := args) (hs _ (by decide +kernel))
  rcases List.mem_cons.mp hq with rfl | hq
  · exact va_Nc.of (args := args) (hs _ (by decide +kernel))
  rcases List.mem_cons.mp hq with rfl | hq
  · exact va_Nc.of (args := args) (hs _ (by decide +kernel))
  rcases List.mem_cons.mp hq with rfl | hq
  · exact va_Nc.of (args := args) (hs _ (by decide +kernel))
  rcases List.mem_cons.mp hq with rfl | hq
  · exact va_Nc.of (args := args) (hs _ (by decide +kernel))
  rcases List.mem_cons.mp hq with rfl | hq
  · exact va_Nc.of (args := args) (hs _ (by decide +kernel))
  rcases List.mem_cons.mp hq with rfl | hq
  · exact va_Nc.of (args := args) (hs _ (by decide +kernel))
  rcases List.mem_cons.mp hq with rfl | hq
  · exact va_Nc.of (args := args) (hs _ (by decide +kernel))
  cases hq
