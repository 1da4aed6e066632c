theorem dX5_begin_0 : decode cX5_begin 0 = .ok (.aload_n 0, 1) := by decide +kernel
theorem dX5_begin_1 : decode cX5_begin 1 = .ok (.iconst 0, 1) := by decide +kernel
theorem dX5_begin_2 : decode cX5_begin 2 = .ok (.putfield 18, 3) := by decide +kernel
theorem dX5_begin_5 : decode cX5_begin 5 = .ok (.aload_n 0, 1) := by decide +kernel
theorem dX5_begin_6 : decode cX5_begin 6 = .ok (.iconst 0, 1) := by decide +kernel
theorem dX5_begin_7 : decode cX5_begin 7 = .ok (.putfield 22, 3) := by decide +kernel
theorem dX5_begin_10 : decode cX5_begin 10 = .ok (.return_, 1) := by decide +kernel
noncomputable def f_X5_begin (tf : Nat → Int32)  : Option ((Nat → Int32)) := some ((upd (upd tf 2 0) 3 0))
set_option maxHeartbeats 4000000 in
set_option maxRecDepth 100000 in
theorem c_X5_begin (l : Launch) (Λ : LY) (hF : FL Λ) (σ : CS) (i : Nat) (tf : Nat → Int32) (tt : Nat → Int32) (tk : Nat → Int32)  (hii : i < 32)  {tf' : Nat → Int32} (hf : f_X5_begin tf = some tf') : CM l yX5_begin (.code yX5_begin cX5_begin 1 none :: TT) ({ frames := 0, cells := 0, slots := 0, locals := 0 }) Λ [.ref (ya Λ 10 i)] (qTak σ i tf tt tk) (qTak σ i tf' tt tk) (none) := by
  refine CM_intro (own := RX5) (by decide) rfl (Nat.le_of_ble_eq_true rfl) ?_
  intro Γ hg hl hΓ hE
  subst hg; subst hl
  show GG Γ (0, 0) (qTak σ i tf tt tk) 0 [(0, .ref (ya (gl Γ) 10 i))] []
  unfold f_X5_begin at hf
  refine G_aload_n hΓ 0 dX5_begin_0 rfl ?_
  refine G_iconst (v := 0) hΓ dX5_begin_1 (by decide) ?_
  refine F_put hΓ (t := 10) (i := i) (ci := 8) (C := RX5) (T := TX5) (N := 4) (fs5 (gl Γ) i) (f := tf) (f' := (upd tf 2 0)) (σ' := (qTak σ i (upd tf 2 0) tt tk)) (ty := .int) (v := .int 0) tyX5 tyX5_ok nmX5 (FLi hF (t := 10) hii) (fun _ _ _ => rfl) qTak_g10 qTak_s10 rfl inW5 2 (by decide) (TT_cons kw_153) rfl (by decide +kernel) rfl rfl (fun _ _ => Nat.le_of_ble_eq_true rfl) (fun _ _ => rfl) dX5_begin_2 ?_
  refine G_aload_n hΓ 0 dX5_begin_5 rfl ?_
  refine G_iconst (v := 0) hΓ dX5_begin_6 (by decide) ?_
  refine F_put hΓ (t := 10) (i := i) (ci := 8) (C := RX5) (T := TX5) (N := 4) (fs5 (gl Γ) i) (f := (upd tf 2 0)) (f' := (upd (upd tf 2 0) 3 0)) (σ' := (qTak σ i (upd (upd tf 2 0) 3 0) tt tk)) (ty := .int) (v := .int 0) tyX5 tyX5_ok nmX5 (FLi hF (t := 10) hii) (fun _ _ _ => rfl) qTak_g10 qTak_s10 rfl inW5 3 (by decide) (TT_cons kw_155) rfl (by decide +kernel) rfl rfl (fun _ _ => Nat.le_of_ble_eq_true rfl) (fun _ _ => rfl) dX5_begin_7 ?_
  cases hf
  exact G_vret hΓ hE dX5_begin_10
theorem dX5_told_0 : decode cX5_told 0 = .ok (.iload_n 1, 1) := by decide +kernel
theorem dX5_told_1 : decode cX5_told 1 = .ok (.bipush 6, 2) := by decide +kernel
theorem dX5_told_3 : decode cX5_told 3 = .ok (.imul, 1) := by decide +kernel
theorem dX5_told_4 : decode cX5_told 4 = .ok (.iload_n 2, 1) := by decide +kernel
theorem dX5_told_5 : decode cX5_told 5 = .ok (.iadd, 1) := by decide +kernel
theorem dX5_told_6 : decode cX5_told 6 = .ok (.istore_n 3, 1) := by decide +kernel
theorem dX5_told_7 : decode cX5_told 7 = .ok (.iload_n 3, 1) := by decide +kernel
theorem dX5_told_8 : decode cX5_told 8 = .ok (.ifCond .lt 21, 3) := by decide +kernel
theorem dX5_told_11 : decode cX5_told 11 = .ok (.iload_n 3, 1) := by decide +kernel
theorem dX5_told_12 : decode cX5_told 12 = .ok (.aload_n 0, 1) := by decide +kernel
theorem dX5_told_13 : decode cX5_told 13 = .ok (.getfield 11, 3) := by decide +kernel
theorem dX5_told_16 : decode cX5_told 16 = .ok (.arraylength, 1) := by decide +kernel
theorem dX5_told_17 : decode cX5_told 17 = .ok (.if_icmp .ge 12, 3) := by decide +kernel
theorem dX5_told_20 : decode cX5_told 20 = .ok (.aload_n 0, 1) := by decide +kernel
theorem dX5_told_21 : decode cX5_told 21 = .ok (.getfield 11, 3) := by decide +kernel
theorem dX5_told_24 : decode cX5_told 24 = .ok (.iload_n 3, 1) := by decide +kernel
theorem dX5_told_25 : decode cX5_told 25 = .ok (.iaload, 1) := by decide +kernel
theorem dX5_told_26 : decode cX5_told 26 = .ok (.goto 4, 3) := by decide +kernel
theorem dX5_told_29 : decode cX5_told 29 = .ok (.iconst (-1), 1) := by decide +kernel
theorem dX5_told_30 : decode cX5_told 30 = .ok (.ireturn, 1) := by decide +kernel
noncomputable def f_X5_told (tt : Nat → Int32) (p1 : Int32) (p2 : Int32) : Option (Int32) := jn (α := Int32) (fun x1 => some (x1)) (fun k3 => if ((p1 * 6) + p2) < 0 then k3 (-1) else if 2616 ≤ ((p1 * 6) + p2) then k3 (-1) else gd (vp_in ((p1 * 6) + p2) 2616) (k3 (tt (((p1 * 6) + p2).toNatClampNeg))))
set_option maxHeartbeats 4000000 in
set_option maxRecDepth 100000 in
theorem c_X5_told (l : Launch) (Λ : LY) (hF : FL Λ) (σ : CS) (i : Nat) (tf : Nat → Int32) (tt : Nat → Int32) (tk : Nat → Int32) (p1 : Int32) (p2 : Int32) (hii : i < 32)  {r9 : Int32} (hf : f_X5_told tt p1 p2 = some r9) : CM l yX5_told (.code yX5_told cX5_told 4 (some .int) :: TT) ({ frames := 0, cells := 0, slots := 0, locals := 0 }) Λ [.ref (ya Λ 10 i), .int p1, .int p2] (qTak σ i tf tt tk) (qTak σ i tf tt tk) (some (.int r9)) := by
  refine CM_intro (own := RX5) (by decide) rfl (Nat.le_of_ble_eq_true rfl) ?_
  intro Γ hg hl hΓ hE
  subst hg; subst hl
  show GG Γ (0, 0) (qTak σ i tf tt tk) 0 [(0, .ref (ya (gl Γ) 10 i)), (1, .int p1), (2, .int p2)] []
  unfold f_X5_told at hf
  refine G_iload_n hΓ 1 dX5_told_0 rfl ?_
  refine G_bipush (v := 6) hΓ dX5_told_1 (by decide) ?_
  refine G_imul hΓ dX5_told_3 ?_
  refine G_iload_n hΓ 2 dX5_told_4 rfl ?_
  refine G_iadd hΓ dX5_told_5 ?_
  refine G_istore_n hΓ [(3, .int ((p1 * 6) + p2)), (0, .ref (ya (gl Γ) 10 i)), (1, .int p1), (2, .int p2)] dX5_told_6 (by decide) rfl ?_
  refine G_iload_n hΓ 0 dX5_told_7 rfl ?_
  obtain ⟨k3, hk_k3, hf⟩ := jn_eq hf
  try dsimp only at hf
  have K4 : ∀ x1, k3 x1 = some r9 → GG Γ (0, 0) (qTak σ i tf tt tk) 30 [(3, .int ((p1 * 6) + p2)), (0, .ref (ya (gl Γ) 10 i)), (1, .int p1), (2, .int p2)] [.int x1] := by
    intro x1 hf
    subst hk_k3
    try dsimp only at hf
    cases hf
    exact G_iret hΓ hE dX5_told_30
  clear hk_k3
  refine G_if_lt hΓ (tgt := 29) dX5_told_8 (by decide) (fun hc7 => ?_) (fun hc7 => ?_)
  · rw [if_pos hc7] at hf
    refine G_iconst (v := (-1)) hΓ dX5_told_29 (by decide) ?_
    exact K4 _ hf
  · rw [if_neg hc7] at hf
    refine G_iload_n hΓ 0 dX5_told_11 rfl ?_
    refine G_aload_n hΓ 1 dX5_told_12 rfl ?_
    refine F_get hΓ (t := 10) (i := i) (ci := 8) (C := RX5) (T := TX5) (N := 4) (fs5 (gl Γ) i) (v := .ref (ya (gl Γ) 11 i)) (FLi hF (t := 10) hii) (fun _ _ _ => rfl) rfl rfl rfl rfl inW5 0 (by decide) (TT_cons kw_151) rfl dX5_told_13 ?_
    refine F_len hΓ (v := 2616) (FLi hF (t := 11) hii) (fun _ _ _ => rfl) rfl (by decide) dX5_told_16 ?_
    refine G_icmp_ge hΓ (tgt := 29) dX5_told_17 (by decide) (fun hc6 => ?_) (fun hc6 => ?_)
    · rw [if_pos hc6] at hf
      refine G_iconst (v := (-1)) hΓ dX5_told_29 (by decide) ?_
      exact K4 _ hf
    · rw [if_neg hc6] at hf
      refine G_aload_n hΓ 1 dX5_told_20 rfl ?_
      refine F_get hΓ (t := 10) (i := i) (ci := 8) (C := RX5) (T := TX5) (N := 4) (fs5 (gl Γ) i) (v := .ref (ya (gl Γ) 11 i)) (FLi hF (t := 10) hii) (fun _ _ _ => rfl) rfl rfl rfl rfl inW5 0 (by decide) (TT_cons kw_151) rfl dX5_told_21 ?_
      refine G_iload_n hΓ 0 dX5_told_24 rfl ?_
      obtain ⟨hg5, hf⟩ := gd_some hf
      refine F_ald (G_iald hΓ) (t := 11) (i := i) (f := tt) (FLi hF (t := 11) hii) (fun _ _ _ => rfl) qTak_g11 hg5 dX5_told_25 ?_
      refine G_goto hΓ (tgt := 30) dX5_told_26 (by decide) ?_
      exact K4 _ hf
theorem dX5_octetOf_0 : decode cX5_octetOf 0 = .ok (.aload_n 0, 1) := by decide +kernel
theorem dX5_octetOf_1 : decode cX5_octetOf 1 = .ok (.iload_n 1, 1) := by decide +kernel
theorem dX5_octetOf_2 : decode cX5_octetOf 2 = .ok (.iconst 5, 1) := by decide +kernel
theorem dX5_octetOf_3 : decode cX5_octetOf 3 = .ok (.invokevirtual 41, 3) := by decide +kernel
theorem dX5_octetOf_6 : decode cX5_octetOf 6 = .ok (.iload_n 2, 1) := by decide +kernel
theorem dX5_octetOf_7 : decode cX5_octetOf 7 = .ok (.iadd, 1) := by decide +kernel
theorem dX5_octetOf_8 : decode cX5_octetOf 8 = .ok (.istore_n 3, 1) := by decide +kernel
theorem dX5_octetOf_9 : decode cX5_octetOf 9 = .ok (.iload_n 3, 1) := by decide +kernel
theorem dX5_octetOf_10 : decode cX5_octetOf 10 = .ok (.ifCond .lt 21, 3) := by decide +kernel
theorem dX5_octetOf_13 : decode cX5_octetOf 13 = .ok (.iload_n 3, 1) := by decide +kernel
theorem dX5_octetOf_14 : decode cX5_octetOf 14 = .ok (.aload_n 0, 1) := by decide +kernel
theorem dX5_octetOf_15 : decode cX5_octetOf 15 = .ok (.getfield 15, 3) := by decide +kernel
theorem dX5_octetOf_18 : decode cX5_octetOf 18 = .ok (.arraylength, 1) := by decide +kernel
theorem dX5_octetOf_19 : decode cX5_octetOf 19 = .ok (.if_icmp .ge 12, 3) := by decide +kernel
theorem dX5_octetOf_22 : decode cX5_octetOf 22 = .ok (.aload_n 0, 1) := by decide +kernel
theorem dX5_octetOf_23 : decode cX5_octetOf 23 = .ok (.getfield 15, 3) := by decide +kernel
theorem dX5_octetOf_26 : decode cX5_octetOf 26 = .ok (.iload_n 3, 1) := by decide +kernel
theorem dX5_octetOf_27 : decode cX5_octetOf 27 = .ok (.iaload, 1) := by decide +kernel
theorem dX5_octetOf_28 : decode cX5_octetOf 28 = .ok (.goto 4, 3) := by decide +kernel
theorem dX5_octetOf_31 : decode cX5_octetOf 31 = .ok (.iconst (-1), 1) := by decide +kernel
theorem dX5_octetOf_32 : decode cX5_octetOf 32 = .ok (.ireturn, 1) := by decide +kernel
noncomputable def f_X5_octetOf (tt : Nat → Int32) (tk : Nat → Int32) (p1 : Int32) (p2 : Int32) : Option (Int32) := bd (f_X5_told tt p1 5) (fun u1 => jn (α := Int32) (fun x3 => some (x3)) (fun k5 => if (u1 + p2) < 0 then k5 (-1) else if 2500 ≤ (u1 + p2) then k5 (-1) else gd (vp_in (u1 + p2) 2500) (k5 (tk ((u1 + p2).toNatClampNeg)))))
set_option maxHeartbeats 4000000 in
set_option maxRecDepth 100000 in
theorem c_X5_octetOf (l : Launch) (Λ : LY) (hF : FL Λ) (σ : CS) (i : Nat) (tf : Nat → Int32) (tt : Nat → Int32) (tk : Nat → Int32) (p1 : Int32) (p2 : Int32) (hii : i < 32)  {r9 : Int32} (hf : f_X5_octetOf tt tk p1 p2 = some r9) : CM l yX5_octetOf (.code yX5_octetOf cX5_octetOf 4 (some .int) :: TT) ({ frames := 1, cells := 0, slots := 0, locals := 23 }) Λ [.ref (ya Λ 10 i), .int p1, .int p2] (qTak σ i tf tt tk) (qTak σ i tf tt tk) (some (.int r9)) := by
  refine CM_intro (own := RX5) (by decide) rfl (Nat.le_of_ble_eq_true rfl) ?_
  intro Γ hg hl hΓ hE
  subst hg; subst hl
  show GG Γ (0, 0) (qTak σ i tf tt tk) 0 [(0, .ref (ya (gl Γ) 10 i)), (1, .int p1), (2, .int p2)] []
  unfold f_X5_octetOf at hf
  refine G_aload_n hΓ 0 dX5_octetOf_0 rfl ?_
  refine G_iload_n hΓ 1 dX5_octetOf_1 rfl ?_
  refine G_iconst (v := 5) hΓ dX5_octetOf_2 (by decide) ?_
  obtain ⟨u1, hc2, hf⟩ := bd_some hf
  refine G_callV hΓ (n := 2) (As := [.int p1, .int 5]) (t := 10) (i := i) (ci := 8) (T := TX5) (N := 4) (FS := fs5 (gl Γ) i) (σ' := (qTak σ i tf tt tk)) (c_X5_told (gL Γ) (gl Γ) hF σ i tf tt tk p1 5 hii hc2) rfl rfl kw_862 kw_848 kw_849 kw_6 kw_850 ⟨rfl, by decide, by decide, by decide +kernel⟩ (FLi hF (t := 10) hii) (fun _ _ _ => rfl) rfl rfl rfl ⟨Nat.le_of_ble_eq_true rfl, Nat.le_of_ble_eq_true rfl⟩ rfl (Nat.le_of_ble_eq_true rfl) dX5_octetOf_3 ⟨_, rfl⟩ rfl ?_
  refine G_iload_n hΓ 2 dX5_octetOf_6 rfl ?_
  refine G_iadd hΓ dX5_octetOf_7 ?_
  refine G_istore_n hΓ [(3, .int (u1 + p2)), (0, .ref (ya (gl Γ) 10 i)), (1, .int p1), (2, .int p2)] dX5_octetOf_8 (by decide) rfl ?_
  refine G_iload_n hΓ 0 dX5_octetOf_9 rfl ?_
  obtain ⟨k5, hk_k5, hf⟩ := jn_eq hf
  try dsimp only at hf
  have K6 : ∀ x3, k5 x3 = some r9 → GG Γ (0, 0) (qTak σ i tf tt tk) 32 [(3, .int (u1 + p2)), (0, .ref (ya (gl Γ) 10 i)), (1, .int p1), (2, .int p2)] [.int x3] := by
    intro x3 hf
    subst hk_k5
    try dsimp only at hf
    cases hf
    exact G_iret hΓ hE dX5_octetOf_32
  clear hk_k5
  refine G_if_lt hΓ (tgt := 31) dX5_octetOf_10 (by decide) (fun hc9 => ?_) (fun hc9 => ?_)
  · rw [if_pos hc9] at hf
    refine G_iconst (v := (-1)) hΓ dX5_octetOf_31 (by decide) ?_
    exact K6 _ hf
  · rw [if_neg hc9] at hf
    refine G_iload_n hΓ 0 dX5_octetOf_13 rfl ?_
    refine G_aload_n hΓ 1 dX5_octetOf_14 rfl ?_
    refine F_get hΓ (t := 10) (i := i) (ci := 8) (C := RX5) (T := TX5) (N := 4) (fs5 (gl Γ) i) (v := .ref (ya (gl Γ) 12 i)) (FLi hF (t := 10) hii) (fun _ _ _ => rfl) rfl rfl rfl rfl inW5 1 (by decide) (TT_cons kw_152) rfl dX5_octetOf_15 ?_
    refine F_len hΓ (v := 2500) (FLi hF (t := 12) hii) (fun _ _ _ => rfl) rfl (by decide) dX5_octetOf_18 ?_
    refine G_icmp_ge hΓ (tgt := 31) dX5_octetOf_19 (by decide) (fun hc8 => ?_) (fun hc8 => ?_)
    · rw [if_pos hc8] at hf
      refine G_iconst (v := (-1)) hΓ dX5_octetOf_31 (by decide) ?_
      exact K6 _ hf
    · rw [if_neg hc8] at hf
      refine G_aload_n hΓ 1 dX5_octetOf_22 rfl ?_
      refine F_get hΓ (t := 10) (i := i) (ci := 8) (C := RX5) (T := TX5) (N := 4) (fs5 (gl Γ) i) (v := .ref (ya (gl Γ) 12 i)) (FLi hF (t := 10) hii) (fun _ _ _ => rfl) rfl rfl rfl rfl inW5 1 (by decide) (TT_cons kw_152) rfl dX5_octetOf_23 ?_
      refine G_iload_n hΓ 0 dX5_octetOf_26 rfl ?_
      obtain ⟨hg7, hf⟩ := gd_some hf
      refine F_ald (G_iald hΓ) (t := 12) (i := i) (f := tk) (FLi hF (t := 12) hii) (fun _ _ _ => rfl) qTak_g12 hg7 dX5_octetOf_27 ?_
      refine G_goto hΓ (tgt := 32) dX5_octetOf_28 (by decide) ?_
      exact K6 _ hf
