theorem nf_in : ∀ q ∈ NF, Cond.fieldLinkNest q.1 q.2.1 q.2.2.1 q.2.2.2.1 q.2.2.2.2.1 q.2.2.2.2.2 ∈ lw_tbl := by decide +kernel
theorem nm_in : ∀ q ∈ NM, Cond.methodLinkNest q.1 q.2.1 q.2.2.1 q.2.2.2 ∈ lw_tbl := by decide +kernel
theorem xd_in : ∀ y ∈ XD, Cond.declares y ∈ lw_tbl := by decide +kernel
theorem xk_in : ∀ q ∈ XK, Cond.castable q.1 q.2 ∈ lw_tbl := by decide +kernel
theorem xs_in : ∀ q ∈ XS, Cond.stringRef q.1 q.2.1 q.2.2 ∈ lw_tbl := by decide +kernel
theorem xn_in : ∀ q ∈ XN, Cond.not (Cond.castable q.1 q.2) ∈ flatC (Jvm.Cond.and given_1 narrow_1) := by decide +kernel
theorem xx_in : ∀ q ∈ XS, Cond.exactly (Term.string q.1 q.2.1) "java/lang/String" ∈ flatC (Jvm.Cond.and given_1 narrow_1) := by decide +kernel
theorem st_arr {args : Array Value} {s : State} {ty : FieldType} (hty : ∀ C, ty ≠ .object C) (h : (Cond.arrayClass ty).before args s = true) : ∃ cA, ArrOfT s cA ty ∧ va_RA s cA ty := by
  obtain ⟨c, k, comp, h1, h2, h3⟩ := Cond.arrayClass_spec h
  refine ⟨c, fun n z => ⟨(fun k h => by cases h), k, h2, comp, h3⟩, ?_⟩
  cases ty with
  | object C => exact absurd rfl (hty C)
  | _ => exact h1
theorem st_arrO {args : Array Value} {s : State} {C : String} (h : (Cond.arrayOver (.object C)).before args s = true) : ∃ cA, ArrOfT s cA (.object C) ∧ va_RA s cA (.object C) := by
  obtain ⟨comp, c, k, h1, -, h2, h3, h4⟩ := Cond.arrayOver_spec h
  exact ⟨c, fun n z => ⟨(fun k h => by cases h), k, h2, comp, h3⟩, k, comp, h2, h3, h1, h4⟩
theorem inJ0 : ∀ w ∈ u_ws RJ0 TJ0 2, w ∈ lw_tbl := by decide +kernel
theorem inJ1 : ∀ w ∈ u_ws RJx00060 TJx00060 6, w ∈ lw_tbl := by decide +kernel
theorem inJ2 : ∀ w ∈ u_ws RJxde1cd TJxde1cd 6, w ∈ lw_tbl := by decide +kernel
theorem st_K {args : Array Value} {s : State} (hts : ∀ w ∈ lw_tbl, w.before args s = true) : ∃ (D : va_G) (cy : Nat → ClassId), K9 D cy s := by
  obtain ⟨c0, i0, h0⟩ := u_known (C := RJ0) (T := TJ0) (N := 2) (n := 4) hts inJ0 (hts (.instantiable "java/lang/String" 4) (by decide +kernel))
  obtain ⟨c1, i1, h1⟩ := u_known (C := RJx00060) (T := TJx00060) (N := 6) (n := 6) hts inJ1 (hts (.instantiable "java/lang/ArrayIndexOutOfBoundsException" 6) (by decide +kernel))
  obtain ⟨c2, i2, h2⟩ := u_known (C := RJxde1cd) (T := TJxde1cd) (N := 6) (n := 6) hts inJ2 (hts (.instantiable "java/lang/NegativeArraySizeException" 6) (by decide +kernel))
  obtain ⟨c3, i3, h3⟩ := u_known (C := RX0) (T := TX0) (N := 9) (n := 9) hts (fun w hw => (List.mem_filter.mp (inT0 w hw)).1) (hts (.instantiable "CanBits$Frame" 9) (by decide +kernel))
  obtain ⟨c4, i4, h4⟩ := u_known (C := RX1) (T := TX1) (N := 17) (n := 17) hts (fun w hw => (List.mem_filter.mp (inT1 w hw)).1) (hts (.instantiable "CanBits$Listener" 17) (by decide +kernel))
  obtain ⟨c5, i5, h5⟩ := u_known (C := RX2) (T := TX2) (N := 10) (n := 10) hts (fun w hw => (List.mem_filter.mp (inT2 w hw)).1) (hts (.instantiable "CanBits$Node" 10) (by decide +kernel))
  obtain ⟨c6, i6, h6⟩ := u_known (C := RX3) (T := TX3) (N := 4) (n := 4) hts (fun w hw => (List.mem_filter.mp (inT3 w hw)).1) (hts (.instantiable "CanBits$Register" 4) (by decide +kernel))
  obtain ⟨c7, i7, h7⟩ := u_known (C := RX4) (T := TX4) (N := 3) (n := 3) hts (fun w hw => (List.mem_filter.mp (inT4 w hw)).1) (hts (.instantiable "CanBits$Sums" 3) (by decide +kernel))
  obtain ⟨c8, i8, h8⟩ := u_known (C := RX5) (T := TX5) (N := 4) (n := 4) hts (fun w hw => (List.mem_filter.mp (inT5 w hw)).1) (hts (.instantiable "CanBits$Takings" 4) (by decide +kernel))
  obtain ⟨c9, i9, h9⟩ := u_known (C := RX6) (T := TX6) (N := 4) (n := 4) hts (fun w hw => (List.mem_filter.mp (inT6 w hw)).1) (hts (.instantiable "CanBits$Writer" 4) (by decide +kernel))
  obtain ⟨c10, i10, h10⟩ := u_known (C := RX7) (T := TX7) (N := 14) (n := 14) hts (fun w hw => (List.mem_filter.mp (inT7 w hw)).1) (hts (.instantiable "CanBits" 14) (by decide +kernel))
  obtain ⟨c11, i11, h11⟩ := u_known (C := RX8) (T := TX8) (N := 47) (n := 47) hts (fun w hw => (List.mem_filter.mp (inT8 w hw)).1) (hts (.instantiable "CanBitsModel" 47) (by decide +kernel))
  obtain ⟨y0, a0⟩ := st_arr (ty := .int) (fun _ h => by cases h) (hts (.arrayClass .int) (by decide +kernel))
  obtain ⟨y1, a1⟩ := st_arr (ty := .byte) (fun _ h => by cases h) (hts (.arrayClass .byte) (by decide +kernel))
  obtain ⟨y2, a2⟩ := st_arr (ty := .boolean) (fun _ h => by cases h) (hts (.arrayClass .boolean) (by decide +kernel))
  obtain ⟨y3, a3⟩ := st_arr (ty := .long) (fun _ h => by cases h) (hts (.arrayClass .long) (by decide +kernel))
  have b4 := hts (.arrayOver (.object "CanBits$Node")) (by decide +kernel)
  obtain ⟨y4, a4⟩ := st_arrO b4
  have b5 := hts (.arrayOver (.object "CanBits$Frame")) (by decide +kernel)
  obtain ⟨y5, a5⟩ := st_arrO b5
  refine ⟨(fun k => match k with | 0 => c0 | 1 => c1 | 2 => c2 | 3 => c3 | 4 => c4 | 5 => c5 | 6 => c6 | 7 => c7 | 8 => c8 | 9 => c9 | 10 => c10 | _ => c11, fun k => match k with | 0 => i0 | 1 => i1 | 2 => i2 | 3 => i3 | 4 => i4 | 5 => i5 | 6 => i6 | 7 => i7 | 8 => i8 | 9 => i9 | 10 => i10 | _ => i11), fun k => match k with | 0 => y0 | 1 => y1 | 2 => y2 | 3 => y3 | 4 => y4 | _ => y5, ⟨?_, ?_⟩, ⟨fun q hq => va_Nw.of rfl (hts _ (nf_in q hq)), fun q hq => va_Nw.of rfl (hts _ (nm_in q hq))⟩, va_AO.of b4, va_AO.of b5⟩
  · intro k q hq
    match k, hq with
    | 0, hq => cases hq; exact h0
    | 1, hq => cases hq; exact h1
    | 2, hq => cases hq; exact h2
    | 3, hq => cases hq; exact h3
    | 4, hq => cases hq; exact h4
    | 5, hq => cases hq; exact h5
    | 6, hq => cases hq; exact h6
    | 7, hq => cases hq; exact h7
    | 8, hq => cases hq; exact h8
    | 9, hq => cases hq; exact h9
    | 10, hq => cases hq; exact h10
    | 11, hq => cases hq; exact h11
    | k + 12, hq => simp [vwCl] at hq
  · intro k q hq
    match k, hq with
    | 0, hq => cases hq; exact a0
    | 1, hq => cases hq; exact a1
    | 2, hq => cases hq; exact a2
    | 3, hq => cases hq; exact a3
    | 4, hq => cases hq; exact a4
    | 5, hq => cases hq; exact a5
    | k + 6, hq => simp [tysW] at hq
theorem st_T {b : Nat} {s : State} {A : Nat → Prop} (hts : ∀ w ∈ lw_tbl, w.before #[Value.ref b] s = true) (hgv : (Jvm.Cond.and given_1 narrow_1).before #[Value.ref b] s = true) (hA : ∀ a : Nat, a < s.heap.size → ¬ A a) : STA A s := by
  have hs := flat_of_before _ hgv
  have harr : (Cond.arrayOf (.static "CanBits" "FLEXIBLE_OCTETS" "[I") .int).before #[Value.ref b] s = true := hs _ (by decide +kernel)
  have hlen := va_eqt (hs (Cond.eq (.length (.static "CanBits" "FLEXIBLE_OCTETS" "[I")) (.int 7)) (by decide +kernel))
  have hel : ∀ j : Nat, j < 7 → (Term.elem (.static "CanBits" "FLEXIBLE_OCTETS" "[I") (.int (Int32.ofNat j))).eval #[Value.ref b] s none [] s = some (.int (flx j)) := by
    intro j hj
    rcases (show j = 0 ∨ j = 1 ∨ j = 2 ∨ j = 3 ∨ j = 4 ∨ j = 5 ∨ j = 6 by omega) with rfl | rfl | rfl | rfl | rfl | rfl | rfl
    · exact va_eqt (hs (Cond.eq (.elem (.static "CanBits" "FLEXIBLE_OCTETS" "[I") (.int 0)) (.int 12)) (by decide +kernel))
    · exact va_eqt (hs (Cond.eq (.elem (.static "CanBits" "FLEXIBLE_OCTETS" "[I") (.int 1)) (.int 16)) (by decide +kernel))
    · exact va_eqt (hs (Cond.eq (.elem (.static "CanBits" "FLEXIBLE_OCTETS" "[I") (.int 2)) (.int 20)) (by decide +kernel))
    · exact va_eqt (hs (Cond.eq (.elem (.static "CanBits" "FLEXIBLE_OCTETS" "[I") (.int 3)) (.int 24)) (by decide +kernel))
    · exact va_eqt (hs (Cond.eq (.elem (.static "CanBits" "FLEXIBLE_OCTETS" "[I") (.int 4)) (.int 32)) (by decide +kernel))
    · exact va_eqt (hs (Cond.eq (.elem (.static "CanBits" "FLEXIBLE_OCTETS" "[I") (.int 5)) (.int 48)) (by decide +kernel))
    · exact va_eqt (hs (Cond.eq (.elem (.static "CanBits" "FLEXIBLE_OCTETS" "[I") (.int 6)) (.int 64)) (by decide +kernel))
  obtain ⟨t, ht, hT⟩ := va_Tof (N := 7) (A := A) (by decide) harr hlen hel hA
  exact ⟨t, va_Zof (hts _ (by decide +kernel)) (hts _ (by decide +kernel)) ht hA, hT⟩
theorem st_X {b : Nat} {s : State} {Λ : LY} (hts : ∀ w ∈ lw_tbl, w.before #[Value.ref b] s = true) (hgv : (Jvm.Cond.and given_1 narrow_1).before #[Value.ref b] s = true) (hA : ∀ a : Nat, a < s.heap.size → ¬ yA Λ a) : EX Λ s := by
  have hs := flat_of_before _ hgv
  refine ⟨fun y hy => va_Nw.of rfl (hts _ (xd_in y hy)), fun q hq => va_Nw.of rfl (hts _ (xk_in q hq)), fun q hq => va_Nc.of (hs _ (xn_in q hq)), fun q hq => ?_, ?_, ?_⟩
  · obtain ⟨a, c, cell, k, h1, -⟩ := Cond.exactly_spec (hs _ (xx_in q hq))
    have h2 := vk_R.of (A := #[Value.ref b]) (hts _ (xs_in q hq)) h1
    exact ⟨a, h2⟩
  · exact vx_Zqof (hts _ (by decide +kernel)) (hts _ (by decide +kernel)) (hs _ (by decide +kernel)) hA
  · exact vx_Zqof (hts _ (by decide +kernel)) (hts _ (by decide +kernel)) (hs _ (by decide +kernel)) hA
