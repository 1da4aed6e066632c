theorem dX5_begin_0 : decode cX5_begin 0 = .ok (.aload_n 0, 1) := by decide +kernel
theorem dX5_begin_1 : decode cX5_begin 1 = .ok (.iconst 0, 1) := by decide +kernel
theorem dX5_begin_2 : decode cX5_begin 2 = .ok (.putfield 18, 3) := by decide +kernel
theorem dX5_begin_5 : decode cX5_begin 5 = .ok (.aload_n 0, 1) := by decide +kernel
theorem dX5_begin_6 : decode cX5_begin 6 = .ok (.iconst 0, 1) := by decide +kernel
theorem dX5_begin_7 : decode cX5_begin 7 = .ok (.putfield 22, 3) := by decide +kernel
theorem dX5_begin_10 : decode cX5_begin 10 = .ok (.return_, 1) := by decide +kernel
noncomputable def f_X5_begin  (tf : Nat → Int32)  : Option ((Nat → Int32)) := some ((upd (upd tf 2 0) 3 0))
set_option maxHeartbeats 4000000 in
set_option maxRecDepth 100000 in
theorem c_X5_begin (l : Launch) (Λ : LY) (hF : FL Λ) (σ : CS) (i : Nat) (tf : Nat → Int32) (tt : Nat → Int32) (tk : Nat → Int32)  (hii : i < 32)  {tf' : Nat → Int32} (hf : f_X5_begin tf = some tf') : CM l yX5_begin (.code yX5_begin cX5_begin 1 none :: TT) ({ frames := 0, cells := 0, slots := 0, locals := 0 }) Λ [.ref (ya Λ 10 i)] (qTak σ i tf tt tk) (qTak σ i tf' tt tk) (none) := by
  refine CM_intro (own := RX5) (by decide) rfl (Nat.le_of_ble_eq_true rfl) ?_
  intro Γ hg hl hΓ hE
  subst hg; subst hl
  show GG Γ (0, 0) (qTak σ i tf tt tk) 0 [(0, .ref (ya (gl Γ) 10 i))] []
  unfold f_X5_begin at hf
  refine G_aload_n hΓ 0 dX5_begin_0 rfl ?_
  refine G_iconst (v := 0) hΓ dX5_begin_1 (by decide) ?_
  refine F_put hΓ (t := 10) (i := i) (ci := 8) (C := RX5) (T := TX5) (N := 4) (fs5 (gl Γ) i) (f := tf) (f' := (upd tf 2 0)) (σ' := (qTak σ i (upd tf 2 0) tt tk)) (ty := .int) (v := .int 0) tyX5 tyX5_ok nmX5 (FLi hF (t := 10) hii) (fun _ _ _ => rfl) qTak_g10 qTak_s10 rfl inW5 2 (by decide) (TT_cons kw_153) rfl (by decide +kernel) rfl rfl (fun _ _ => Nat.le_of_ble_eq_true rfl) (fun _ _ => rfl) dX5_begin_2 ?_
  refine G_aload_n hΓ 0 dX5_begin_5 rfl ?_
  refine G_iconst (v := 0) hΓ dX5_begin_6 (by decide) ?_
  refine F_put hΓ (t := 10) (i := i) (ci := 8) (C := RX5) (T := TX5) (N := 4) (fs5 (gl Γ) i) (f := (upd tf 2 0)) (f' := (upd (upd tf 2 0) 3 0)) (σ' := (qTak σ i (upd (upd tf 2 0) 3 0) tt tk)) (ty := .int) (v := .int 0) tyX5 tyX5_ok nmX5 (FLi hF (t := 10) hii) (fun _ _ _ => rfl) qTak_g10 qTak_s10 rfl inW5 3 (by decide) (TT_cons kw_155) rfl (by decide +kernel) rfl rfl (fun _ _ => Nat.le_of_ble_eq_true rfl) (fun _ _ => rfl) dX5_begin_7 ?_
  cases hf
  exact G_vret hΓ hE dX5_begin_10
theorem dX5_told_0 : decode cX5_told 0 = .ok (.iload_n 1, 1) := by decide +kernel
theorem dX5_told_1 : decode cX5_told 1 = .ok (.bipush 6, 2) := by decide +kernel
theorem dX5_told_3 : decode cX5_told 3 = .ok (.imul, 1) := by decide +kernel
theorem dX5_told_4 : decode cX5_told 4 = .ok (.iload_n 2, 1) := by decide +kernel
theorem dX5_told_5 : decode cX5_told 5 = .ok (.iadd, 1) := by decide +kernel
theorem dX5_told_6 : decode cX5_told 6 = .ok (.istore_n 3, 1) := by decide +kernel
theorem dX5_told_7 : decode cX5_told 7 = .ok (.iload_n 3, 1) := by decide +kernel
theorem dX5_told_8 : decode cX5_told 8 = .ok (.ifCond .lt 21, 3) := by decide +kernel
theorem dX5_told_11 : decode cX5_told 11 = .ok (.iload_n 3, 1) := by decide +kernel
theorem dX5_told_12 : decode cX5_told 12 = .ok (.aload_n 0, 1) := by decide +kernel
theorem dX5_told_13 : decode cX5_told 13 = .ok (.getfield 11, 3) := by decide +kernel
theorem dX5_told_16 : decode cX5_told 16 = .ok (.arraylength, 1) := by decide +kernel
theorem dX5_told_17 : decode cX5_told 17 = .ok (.if_icmp .ge 12, 3) := by decide +kernel
theorem dX5_told_20 : decode cX5_told 20 = .ok (.aload_n 0, 1) := by decide +kernel
theorem dX5_told_21 : decode cX5_told 21 = .ok (.getfield 11, 3) := by decide +kernel
theorem dX5_told_24 : decode cX5_told 24 = .ok (.iload_n 3, 1) := by decide +kernel
theorem dX5_told_25 : decode cX5_told 25 = .ok (.iaload, 1) := by decide +kernel
theorem dX5_told_26 : decode cX5_told 26 = .ok (.goto 4, 3) := by decide +kernel
theorem dX5_told_29 : decode cX5_told 29 = .ok (.iconst (-1), 1) := by decide +kernel
theorem dX5_told_30 : decode cX5_told 30 = .ok (.ireturn, 1) := by decide +kernel
noncomputable def f_X5_told  (tt : Nat → Int32) (p1 : Int32) (p2 : Int32) : Option (Int32) := jn (α := Int32) (fun x1 => some (x1)) (fun k3 => if ((p1 * 6) + p2) < 0 then k3 (-1) else if 2616 ≤ ((p1 * 6) + p2) then k3 (-1) else gd (vp_in ((p1 * 6) + p2) 2616) (k3 (tt (((p1 * 6) + p2).toNatClampNeg))))
set_option maxHeartbeats 4000000 in
set_option maxRecDepth 100000 in
theorem c_X5_told (l : Launch) (Λ : LY) (hF : FL Λ) (σ : CS) (i : Nat) (tf : Nat → Int32) (tt : Nat → Int32) (tk : Nat → Int32) (p1 : Int32) (p2 : Int32) (hii : i < 32)  {r9 : Int32} (hf : f_X5_told tt p1 p2 = some r9) : CM l yX5_told (.code yX5_told cX5_told 4 (some .int) :: TT) ({ frames := 0, cells := 0, slots := 0, locals := 0 }) Λ [.ref (ya Λ 10 i), .int p1, .int p2] (qTak σ i tf tt tk) (qTak σ i tf tt tk) (some (.int r9)) := by
  refine CM_intro (own := RX5) (by decide) rfl (Nat.le_of_ble_eq_true rfl) ?_
  intro Γ hg hl hΓ hE
  subst hg; subst hl
  show GG Γ (0, 0) (qTak σ i tf tt tk) 0 [(0, .ref (ya (gl Γ) 10 i)), (1, .int p1), (2, .int p2)] []
  unfold f_X5_told at hf
  refine G_iload_n hΓ 1 dX5_told_0 rfl ?_
  refine G_bipush (v := 6) hΓ dX5_told_1 (by decide) ?_
  refine G_imul hΓ dX5_told_3 ?_
  refine G_iload_n hΓ 2 dX5_told_4 rfl ?_
  refine G_iadd hΓ dX5_told_5 ?_
  refine G_istore_n hΓ [(3, .int ((p1 * 6) + p2)), (0, .ref (ya (gl Γ) 10 i)), (1, .int p1), (2, .int p2)] dX5_told_6 (by decide) rfl ?_
  refine G_iload_n hΓ 0 dX5_told_7 rfl ?_
  obtain ⟨k3, hk_k3, hf⟩ := jn_eq hf
  try dsimp only at hf
  have K4 : ∀ x1, k3 x1 = some r9 → GG Γ (0, 0) (qTak σ i tf tt tk) 30 [(3, .int ((p1 * 6) + p2)), (0, .ref (ya (gl Γ) 10 i)), (1, .int p1), (2, .int p2)] [.int x1] := by
    intro x1 hf
    subst hk_k3
    try dsimp only at hf
    cases hf
    exact G_iret hΓ hE dX5_told_30
  clear hk_k3
  refine G_if_lt hΓ (tgt := 29) dX5_told_8 (by decide) (fun hc7 => ?_) (fun hc7 => ?_)
  · rw [if_pos hc7] at hf
    refine G_iconst (v := (-1)) hΓ dX5_told_29 (by decide) ?_
    exact K4 _ hf
  · rw [if_neg hc7] at hf
    refine G_iload_n hΓ 0 dX5_told_11 rfl ?_
    refine G_aload_n hΓ 1 dX5_told_12 rfl ?_
    refine F_get hΓ (t := 10) (i := i) (ci := 8) (C := RX5) (T := TX5) (N := 4) (fs5 (gl Γ) i) (v := .ref (ya (gl Γ) 11 i)) (FLi hF (t := 10) hii) (fun _ _ _ => rfl) rfl rfl rfl rfl inW5 0 (by decide) (TT_cons kw_151) rfl dX5_told_13 ?_
    refine F_len hΓ (v := 2616) (FLi hF (t := 11) hii) (fun _ _ _ => rfl) rfl (by decide) dX5_told_16 ?_
    refine G_icmp_ge hΓ (tgt := 29) dX5_told_17 (by decide) (fun hc6 => ?_) (fun hc6 => ?_)
    · rw [if_pos hc6] at hf
      refine G_iconst (v := (-1)) hΓ dX5_told_29 (by decide) ?_
      exact K4 _ hf
    · rw [if_neg hc6] at hf
      refine G_aload_n hΓ 1 dX5_told_20 rfl ?_
      refine F_get hΓ (t := 10) (i := i) (ci := 8) (C := RX5) (T := TX5) (N := 4) (fs5 (gl Γ) i) (v := .ref (ya (gl Γ) 11 i)) (FLi hF (t := 10) hii) (fun _ _ _ => rfl) rfl rfl rfl rfl inW5 0 (by decide) (TT_cons kw_151) rfl dX5_told_21 ?_
      refine G_iload_n hΓ 0 dX5_told_24 rfl ?_
      obtain ⟨hg5, hf⟩ := gd_some hf
      refine F_ald (G_iald hΓ) (t := 11) (i := i) (f := tt) (FLi hF (t := 11) hii) (fun _ _ _ => rfl) qTak_g11 hg5 dX5_told_25 ?_
      refine G_goto hΓ (tgt := 30) dX5_told_26 (by decide) ?_
      exact K4 _ hf
theorem dX5_octetOf_0 : decode cX5_octetOf 0 = .ok (.aload_n 0, 1) := by decide +kernel
theorem dX5_octetOf_1 : decode cX5_octetOf 1 = .ok (.iload_n 1, 1) := by decide +kernel
theorem dX5_octetOf_2 : decode cX5_octetOf 2 = .ok (.iconst 5, 1) := by decide +kernel
theorem dX5_octetOf_3 : decode cX5_octetOf 3 = .ok (.invokevirtual 41, 3) := by decide +kernel
theorem dX5_octetOf_6 : decode cX5_octetOf 6 = .ok (.iload_n 2, 1) := by decide +kernel
theorem dX5_octetOf_7 : decode cX5_octetOf 7 = .ok (.iadd, 1) := by decide +kernel
theorem dX5_octetOf_8 : decode cX5_octetOf 8 = .ok (.istore_n 3, 1) := by decide +kernel
theorem dX5_octetOf_9 : decode cX5_octetOf 9 = .ok (.iload_n 3, 1) := by decide +kernel
theorem dX5_octetOf_10 : decode cX5_octetOf 10 = .ok (.ifCond .lt 21, 3) := by decide +kernel
theorem dX5_octetOf_13 : decode cX5_octetOf 13 = .ok (.iload_n 3, 1) := by decide +kernel
theorem dX5_octetOf_14 : decode cX5_octetOf 14 = .ok (.aload_n 0, 1) := by decide +kernel
theorem dX5_octetOf_15 : decode cX5_octetOf 15 = .ok (.getfield 15, 3) := by decide +kernel
theorem dX5_octetOf_18 : decode cX5_octetOf 18 = .ok (.arraylength, 1) := by decide +kernel
theorem dX5_octetOf_19 : decode cX5_octetOf 19 = .ok (.if_icmp .ge 12, 3) := by decide +kernel
theorem dX5_octetOf_22 : decode cX5_octetOf 22 = .ok (.aload_n 0, 1) := by decide +kernel
theorem dX5_octetOf_23 : decode cX5_octetOf 23 = .ok (.getfield 15, 3) := by decide +kernel
theorem dX5_octetOf_26 : decode cX5_octetOf 26 = .ok (.iload_n 3, 1) := by decide +kernel
theorem dX5_octetOf_27 : decode cX5_octetOf 27 = .ok (.iaload, 1) := by decide +kernel
theorem dX5_octetOf_28 : decode cX5_octetOf 28 = .ok (.goto 4, 3) := by decide +kernel
theorem dX5_octetOf_31 : decode cX5_octetOf 31 = .ok (.iconst (-1), 1) := by decide +kernel
theorem dX5_octetOf_32 : decode cX5_octetOf 32 = .ok (.ireturn, 1) := by decide +kernel
noncomputable def f_X5_octetOf  (tt : Nat → Int32) (tk : Nat → Int32) (p1 : Int32) (p2 : Int32) : Option (Int32) := bd (f_X5_told tt p1 5) (fun u1 => jn (α := Int32) (fun x3 => some (x3)) (fun k5 => if (u1 + p2) < 0 then k5 (-1) else if 2500 ≤ (u1 + p2) then k5 (-1) else gd (vp_in (u1 + p2) 2500) (k5 (tk ((u1 + p2).toNatClampNeg)))))
set_option maxHeartbeats 4000000 in
set_option maxRecDepth 100000 in
theorem c_X5_octetOf (l : Launch) (Λ : LY) (hF : FL Λ) (σ : CS) (i : Nat) (tf : Nat → Int32) (tt : Nat → Int32) (tk : Nat → Int32) (p1 : Int32) (p2 : Int32) (hii : i < 32)  {r9 : Int32} (hf : f_X5_octetOf tt tk p1 p2 = some r9) : CM l yX5_octetOf (.code yX5_octetOf cX5_octetOf 4 (some .int) :: TT) ({ frames := 1, cells := 0, slots := 0, locals := 23 }) Λ [.ref (ya Λ 10 i), .int p1, .int p2] (qTak σ i tf tt tk) (qTak σ i tf tt tk) (some (.int r9)) := by
  refine CM_intro (own := RX5) (by decide) rfl (Nat.le_of_ble_eq_true rfl) ?_
  intro Γ hg hl hΓ hE
  subst hg; subst hl
  show GG Γ (0, 0) (qTak σ i tf tt tk) 0 [(0, .ref (ya (gl Γ) 10 i)), (1, .int p1), (2, .int p2)] []
  unfold f_X5_octetOf at hf
  refine G_aload_n hΓ 0 dX5_octetOf_0 rfl ?_
  refine G_iload_n hΓ 1 dX5_octetOf_1 rfl ?_
  refine G_iconst (v := 5) hΓ dX5_octetOf_2 (by decide) ?_
  obtain ⟨u1, hc2, hf⟩ := bd_some hf
  refine G_callV hΓ (n := 2) (As := [.int p1, .int 5]) (t := 10) (i := i) (ci := 8) (T := TX5) (N := 4) (FS := fs5 (gl Γ) i) (σ' := (qTak σ i tf tt tk)) (c_X5_told (gL Γ) (gl Γ) hF σ i tf tt tk p1 5 hii hc2) rfl rfl kw_862 kw_848 kw_849 kw_6 kw_850 ⟨rfl, by decide, by decide, by decide +kernel⟩ (FLi hF (t := 10) hii) (fun _ _ _ => rfl) rfl rfl rfl ⟨Nat.le_of_ble_eq_true rfl, Nat.le_of_ble_eq_true rfl⟩ rfl (Nat.le_of_ble_eq_true rfl) dX5_octetOf_3 ⟨_, rfl⟩ rfl ?_
  refine G_iload_n hΓ 2 dX5_octetOf_6 rfl ?_
  refine G_iadd hΓ dX5_octetOf_7 ?_
  refine G_istore_n hΓ [(3, .int (u1 + p2)), (0, .ref (ya (gl Γ) 10 i)), (1, .int p1), (2, .int p2)] dX5_octetOf_8 (by decide) rfl ?_
  refine G_iload_n hΓ 0 dX5_octetOf_9 rfl ?_
  obtain ⟨k5, hk_k5, hf⟩ := jn_eq hf
  try dsimp only at hf
  have K6 : ∀ x3, k5 x3 = some r9 → GG Γ (0, 0) (qTak σ i tf tt tk) 32 [(3, .int (u1 + p2)), (0, .ref (ya (gl Γ) 10 i)), (1, .int p1), (2, .int p2)] [.int x3] := by
    intro x3 hf
    subst hk_k5
    try dsimp only at hf
    cases hf
    exact G_iret hΓ hE dX5_octetOf_32
  clear hk_k5
  refine G_if_lt hΓ (tgt := 31) dX5_octetOf_10 (by decide) (fun hc9 => ?_) (fun hc9 => ?_)
  · rw [if_pos hc9] at hf
    refine G_iconst (v := (-1)) hΓ dX5_octetOf_31 (by decide) ?_
    exact K6 _ hf
  · rw [if_neg hc9] at hf
    refine G_iload_n hΓ 0 dX5_octetOf_13 rfl ?_
    refine G_aload_n hΓ 1 dX5_octetOf_14 rfl ?_
    refine F_get hΓ (t := 10) (i := i) (ci := 8) (C := RX5) (T := TX5) (N := 4) (fs5 (gl Γ) i) (v := .ref (ya (gl Γ) 12 i)) (FLi hF (t := 10) hii) (fun _ _ _ => rfl) rfl rfl rfl rfl inW5 1 (by decide) (TT_cons kw_152) rfl dX5_octetOf_15 ?_
    refine F_len hΓ (v := 2500) (FLi hF (t := 12) hii) (fun _ _ _ => rfl) rfl (by decide) dX5_octetOf_18 ?_
    refine G_icmp_ge hΓ (tgt := 31) dX5_octetOf_19 (by decide) (fun hc8 => ?_) (fun hc8 => ?_)
    · rw [if_pos hc8] at hf
      refine G_iconst (v := (-1)) hΓ dX5_octetOf_31 (by decide) ?_
      exact K6 _ hf
    · rw [if_neg hc8] at hf
      refine G_aload_n hΓ 1 dX5_octetOf_22 rfl ?_
      refine F_get hΓ (t := 10) (i := i) (ci := 8) (C := RX5) (T := TX5) (N := 4) (fs5 (gl Γ) i) (v := .ref (ya (gl Γ) 12 i)) (FLi hF (t := 10) hii) (fun _ _ _ => rfl) rfl rfl rfl rfl inW5 1 (by decide) (TT_cons kw_152) rfl dX5_octetOf_23 ?_
      refine G_iload_n hΓ 0 dX5_octetOf_26 rfl ?_
      obtain ⟨hg7, hf⟩ := gd_some hf
      refine F_ald (G_iald hΓ) (t := 12) (i := i) (f := tk) (FLi hF (t := 12) hii) (fun _ _ _ => rfl) qTak_g12 hg7 dX5_octetOf_27 ?_
      refine G_goto hΓ (tgt := 32) dX5_octetOf_28 (by decide) ?_
      exact K6 _ hf
theorem dX5_add_0 : decode cX5_add 0 = .ok (.aload_n 0, 1) := by decide +kernel
theorem dX5_add_1 : decode cX5_add 1 = .ok (.getfield 18, 3) := by decide +kernel
theorem dX5_add_4 : decode cX5_add 4 = .ok (.sipush 436, 3) := by decide +kernel
theorem dX5_add_7 : decode cX5_add 7 = .ok (.if_icmp .ge 18, 3) := by decide +kernel
theorem dX5_add_10 : decode cX5_add 10 = .ok (.aload_n 1, 1) := by decide +kernel
theorem dX5_add_11 : decode cX5_add 11 = .ok (.getfield 25, 3) := by decide +kernel
theorem dX5_add_14 : decode cX5_add 14 = .ok (.sipush 2500, 3) := by decide +kernel
theorem dX5_add_17 : decode cX5_add 17 = .ok (.aload_n 0, 1) := by decide +kernel
theorem dX5_add_18 : decode cX5_add 18 = .ok (.getfield 22, 3) := by decide +kernel
theorem dX5_add_21 : decode cX5_add 21 = .ok (.isub, 1) := by decide +kernel
theorem dX5_add_22 : decode cX5_add 22 = .ok (.if_icmp .le 4, 3) := by decide +kernel
theorem dX5_add_25 : decode cX5_add 25 = .ok (.return_, 1) := by decide +kernel
theorem dX5_add_26 : decode cX5_add 26 = .ok (.aload_n 0, 1) := by decide +kernel
theorem dX5_add_27 : decode cX5_add 27 = .ok (.getfield 18, 3) := by decide +kernel
theorem dX5_add_30 : decode cX5_add 30 = .ok (.bipush 6, 2) := by decide +kernel
theorem dX5_add_32 : decode cX5_add 32 = .ok (.imul, 1) := by decide +kernel
theorem dX5_add_33 : decode cX5_add 33 = .ok (.istore_n 3, 1) := by decide +kernel
theorem dX5_add_34 : decode cX5_add 34 = .ok (.aload_n 0, 1) := by decide +kernel
theorem dX5_add_35 : decode cX5_add 35 = .ok (.getfield 11, 3) := by decide +kernel
theorem dX5_add_38 : decode cX5_add 38 = .ok (.iload_n 3, 1) := by decide +kernel
theorem dX5_add_39 : decode cX5_add 39 = .ok (.aload_n 1, 1) := by decide +kernel
theorem dX5_add_40 : decode cX5_add 40 = .ok (.invokevirtual 30, 3) := by decide +kernel
theorem dX5_add_43 : decode cX5_add 43 = .ok (.iastore, 1) := by decide +kernel
theorem dX5_add_44 : decode cX5_add 44 = .ok (.aload_n 0, 1) := by decide +kernel
theorem dX5_add_45 : decode cX5_add 45 = .ok (.getfield 11, 3) := by decide +kernel
theorem dX5_add_48 : decode cX5_add 48 = .ok (.iload_n 3, 1) := by decide +kernel
theorem dX5_add_49 : decode cX5_add 49 = .ok (.iconst 1, 1) := by decide +kernel
theorem dX5_add_50 : decode cX5_add 50 = .ok (.iadd, 1) := by decide +kernel
theorem dX5_add_51 : decode cX5_add 51 = .ok (.aload_n 1, 1) := by decide +kernel
theorem dX5_add_52 : decode cX5_add 52 = .ok (.invokevirtual 34, 3) := by decide +kernel
theorem dX5_add_55 : decode cX5_add 55 = .ok (.iastore, 1) := by decide +kernel
theorem dX5_add_56 : decode cX5_add 56 = .ok (.aload_n 0, 1) := by decide +kernel
theorem dX5_add_57 : decode cX5_add 57 = .ok (.getfield 11, 3) := by decide +kernel
theorem dX5_add_60 : decode cX5_add 60 = .ok (.iload_n 3, 1) := by decide +kernel
theorem dX5_add_61 : decode cX5_add 61 = .ok (.iconst 2, 1) := by decide +kernel
theorem dX5_add_62 : decode cX5_add 62 = .ok (.iadd, 1) := by decide +kernel
theorem dX5_add_63 : decode cX5_add 63 = .ok (.aload_n 1, 1) := by decide +kernel
theorem dX5_add_64 : decode cX5_add 64 = .ok (.invokevirtual 37, 3) := by decide +kernel
theorem dX5_add_67 : decode cX5_add 67 = .ok (.iastore, 1) := by decide +kernel
theorem dX5_add_68 : decode cX5_add 68 = .ok (.aload_n 0, 1) := by decide +kernel
theorem dX5_add_69 : decode cX5_add 69 = .ok (.getfield 11, 3) := by decide +kernel
theorem dX5_add_72 : decode cX5_add 72 = .ok (.iload_n 3, 1) := by decide +kernel
theorem dX5_add_73 : decode cX5_add 73 = .ok (.iconst 3, 1) := by decide +kernel
theorem dX5_add_74 : decode cX5_add 74 = .ok (.iadd, 1) := by decide +kernel
theorem dX5_add_75 : decode cX5_add 75 = .ok (.aload_n 1, 1) := by decide +kernel
theorem dX5_add_76 : decode cX5_add 76 = .ok (.getfield 25, 3) := by decide +kernel
theorem dX5_add_79 : decode cX5_add 79 = .ok (.iastore, 1) := by decide +kernel
theorem dX5_add_80 : decode cX5_add 80 = .ok (.aload_n 0, 1) := by decide +kernel
theorem dX5_add_81 : decode cX5_add 81 = .ok (.getfield 11, 3) := by decide +kernel
theorem dX5_add_84 : decode cX5_add 84 = .ok (.iload_n 3, 1) := by decide +kernel
theorem dX5_add_85 : decode cX5_add 85 = .ok (.iconst 4, 1) := by decide +kernel
theorem dX5_add_86 : decode cX5_add 86 = .ok (.iadd, 1) := by decide +kernel
theorem dX5_add_87 : decode cX5_add 87 = .ok (.iload_n 2, 1) := by decide +kernel
theorem dX5_add_88 : decode cX5_add 88 = .ok (.iastore, 1) := by decide +kernel
theorem dX5_add_89 : decode cX5_add 89 = .ok (.aload_n 0, 1) := by decide +kernel
theorem dX5_add_90 : decode cX5_add 90 = .ok (.getfield 11, 3) := by decide +kernel
theorem dX5_add_93 : decode cX5_add 93 = .ok (.iload_n 3, 1) := by decide +kernel
theorem dX5_add_94 : decode cX5_add 94 = .ok (.iconst 5, 1) := by decide +kernel
theorem dX5_add_95 : decode cX5_add 95 = .ok (.iadd, 1) := by decide +kernel
theorem dX5_add_96 : decode cX5_add 96 = .ok (.aload_n 0, 1) := by decide +kernel
theorem dX5_add_97 : decode cX5_add 97 = .ok (.getfield 22, 3) := by decide +kernel
theorem dX5_add_100 : decode cX5_add 100 = .ok (.iastore, 1) := by decide +kernel
theorem dX5_add_101 : decode cX5_add 101 = .ok (.iconst 0, 1) := by decide +kernel
theorem dX5_add_102 : decode cX5_add 102 = .ok (.istore 4, 2) := by decide +kernel
theorem dX5_add_104 : decode cX5_add 104 = .ok (.iload 4, 2) := by decide +kernel
theorem dX5_add_106 : decode cX5_add 106 = .ok (.aload_n 1, 1) := by decide +kernel
theorem dX5_add_107 : decode cX5_add 107 = .ok (.getfield 25, 3) := by decide +kernel
theorem dX5_add_110 : decode cX5_add 110 = .ok (.if_icmp .ge 39, 3) := by decide +kernel
theorem dX5_add_113 : decode cX5_add 113 = .ok (.iload 4, 2) := by decide +kernel
theorem dX5_add_115 : decode cX5_add 115 = .ok (.bipush 64, 2) := by decide +kernel
theorem dX5_add_117 : decode cX5_add 117 = .ok (.if_icmp .ge 32, 3) := by decide +kernel
theorem dX5_add_120 : decode cX5_add 120 = .ok (.aload_n 0, 1) := by decide +kernel
theorem dX5_add_121 : decode cX5_add 121 = .ok (.getfield 15, 3) := by decide +kernel
theorem dX5_add_124 : decode cX5_add 124 = .ok (.aload_n 0, 1) := by decide +kernel
theorem dX5_add_125 : decode cX5_add 125 = .ok (.dup, 1) := by decide +kernel
theorem dX5_add_126 : decode cX5_add 126 = .ok (.getfield 22, 3) := by decide +kernel
theorem dX5_add_129 : decode cX5_add 129 = .ok (.dup_x1, 1) := by decide +kernel
theorem dX5_add_130 : decode cX5_add 130 = .ok (.iconst 1, 1) := by decide +kernel
theorem dX5_add_131 : decode cX5_add 131 = .ok (.iadd, 1) := by decide +kernel
theorem dX5_add_132 : decode cX5_add 132 = .ok (.putfield 22, 3) := by decide +kernel
theorem dX5_add_135 : decode cX5_add 135 = .ok (.aload_n 1, 1) := by decide +kernel
theorem dX5_add_136 : decode cX5_add 136 = .ok (.getfield 40, 3) := by decide +kernel
theorem dX5_add_139 : decode cX5_add 139 = .ok (.iload 4, 2) := by decide +kernel
theorem dX5_add_141 : decode cX5_add 141 = .ok (.iaload, 1) := by decide +kernel
theorem dX5_add_142 : decode cX5_add 142 = .ok (.iastore, 1) := by decide +kernel
theorem dX5_add_143 : decode cX5_add 143 = .ok (.iinc 4 1, 3) := by decide +kernel
theorem dX5_add_146 : decode cX5_add 146 = .ok (.goto (-42), 3) := by decide +kernel
theorem dX5_add_149 : decode cX5_add 149 = .ok (.aload_n 0, 1) := by decide +kernel
theorem dX5_add_150 : decode cX5_add 150 = .ok (.dup, 1) := by decide +kernel
theorem dX5_add_151 : decode cX5_add 151 = .ok (.getfield 18, 3) := by decide +kernel
theorem dX5_add_154 : decode cX5_add 154 = .ok (.iconst 1, 1) := by decide +kernel
theorem dX5_add_155 : decode cX5_add 155 = .ok (.iadd, 1) := by decide +kernel
theorem dX5_add_156 : decode cX5_add 156 = .ok (.putfield 18, 3) := by decide +kernel
theorem dX5_add_159 : decode cX5_add 159 = .ok (.return_, 1) := by decide +kernel
noncomputable def L_X5_add_104 (f : Nat → Int32) (o : Nat → Int32) (k16 : (Nat → Int32) × (Nat → Int32) × Int32 → Option ((Nat → Int32) × (Nat → Int32) × (Nat → Int32))) : Nat → (Nat → Int32) → (Nat → Int32) → Int32 → Option ((Nat → Int32) × (Nat → Int32) × (Nat → Int32))
  | 0, _, _, _ => none
  | nn + 1, v13, v14, v15 => if (f 14) ≤ v15 then k16 (v13, v14, v15) else if 64 ≤ v15 then k16 (v13, v14, v15) else gd (vp_in v15 64) (gd (vp_in (v13 3) 2500) (L_X5_add_104 f o k16 nn (upd v13 3 ((v13 3) + 1)) (upd v14 ((v13 3).toNatClampNeg) (o v15.toNatClampNeg)) (v15 + 1)))
noncomputable def f_X5_add  (tf : Nat → Int32) (tt : Nat → Int32) (tk : Nat → Int32) (h : Int64) (f : Nat → Int32) (o : Nat → Int32) (p2 : Int32) : Option ((Nat → Int32) × (Nat → Int32) × (Nat → Int32)) := if 436 ≤ (tf 2) then some (tf, tt, tk) else if (f 14) ≤ (2500 - (tf 3)) then bd (f_X1_identifier h f) (fun u1 => gd (vp_in ((tf 2) * 6) 2616) (bd (f_X1_kind h f) (fun u4 => gd (vp_in (((tf 2) * 6) + 1) 2616) (bd (f_X1_code h) (fun u7 => gd (vp_in (((tf 2) * 6) + 2) 2616) (gd (vp_in (((tf 2) * 6) + 3) 2616) (gd (vp_in (((tf 2) * 6) + 4) 2616) (gd (vp_in (((tf 2) * 6) + 5) 2616) (jn (α := (Nat → Int32) × (Nat → Int32) × Int32) (fun ⟨v13, v14, v15⟩ => some ((upd v13 2 ((v13 2) + 1)), (upd (upd (upd (upd (upd (upd tt (((tf 2) * 6).toNatClampNeg) u1) ((((tf 2) * 6) + 1).toNatClampNeg) u4) ((((tf 2) * 6) + 2).toNatClampNeg) u7) ((((tf 2) * 6) + 3).toNatClampNeg) (f 14)) ((((tf 2) * 6) + 4).toNatClampNeg) p2) ((((tf 2) * 6) + 5).toNatClampNeg) (tf 3)), v14)) (fun k16 => L_X5_add_104 f o k16 fu tf tk 0)))))))))) else some (tf, tt, tk)
set_option maxHeartbeats 4000000 in
set_option maxRecDepth 100000 in
theorem c_X5_add (l : Launch) (Λ : LY) (hF : FL Λ) (σ : CS) (i : Nat) (tf : Nat → Int32) (tt : Nat → Int32) (tk : Nat → Int32) (h : Int64) (f : Nat → Int32) (o : Nat → Int32) (p2 : Int32) (hii : i < 32) (hr_h : σ.2.1 4 i = h) (hr_f : σ.1 4 i = f) (hr_o : σ.1 5 i = o) {tf' : Nat → Int32} {tt' : Nat → Int32} {tk' : Nat → Int32} (hf : f_X5_add tf tt tk h f o p2 = some (tf', tt', tk')) : CM l yX5_add (.code yX5_add cX5_add 5 none :: TT) ({ frames := 1, cells := 0, slots := 0, locals := 22 }) Λ [.ref (ya Λ 10 i), .ref (ya Λ 4 i), .int p2] (qTak σ i tf tt tk) (qTak σ i tf' tt' tk') (none) := by
  refine CM_intro (own := RX5) (by decide) rfl (Nat.le_of_ble_eq_true rfl) ?_
  intro Γ hg hl hΓ hE
  subst hg; subst hl
  show GG Γ (0, 0) (qTak σ i tf tt tk) 0 [(0, .ref (ya (gl Γ) 10 i)), (1, .ref (ya (gl Γ) 4 i)), (2, .int p2)] []
  unfold f_X5_add at hf
  refine G_aload_n hΓ 0 dX5_add_0 rfl ?_
  refine F_get hΓ (t := 10) (i := i) (ci := 8) (C := RX5) (T := TX5) (N := 4) (fs5 (gl Γ) i) (v := .int (tf 2)) (FLi hF (t := 10) hii) (fun _ _ _ => rfl) qTak_g10 rfl rfl rfl inW5 2 (by decide) (TT_cons kw_153) rfl dX5_add_1 ?_
  refine G_sipush (v := 436) hΓ dX5_add_4 (by decide) ?_
  refine G_icmp_ge hΓ (tgt := 25) dX5_add_7 (by decide) (fun hc24 => ?_) (fun hc24 => ?_)
  · rw [if_pos hc24] at hf
    cases hf
    exact G_vret hΓ hE dX5_add_25
  · rw [if_neg hc24] at hf
    refine G_aload_n hΓ 1 dX5_add_10 rfl ?_
    refine F_getN hΓ (t := 4) (i := i) (ci := 4) (C := RX1) (T := TX1) (N := 17) (fs1 (gl Γ) i) (v := .int (f 14)) (FLi hF (t := 4) hii) (fun _ _ _ => rfl) hr_f rfl rfl rfl inW1 14 (by decide) 10 (host := "CanBits") rfl rfl dX5_add_11 ?_
    refine G_sipush (v := 2500) hΓ dX5_add_14 (by decide) ?_
    refine G_aload_n hΓ 0 dX5_add_17 rfl ?_
    refine F_get hΓ (t := 10) (i := i) (ci := 8) (C := RX5) (T := TX5) (N := 4) (fs5 (gl Γ) i) (v := .int (tf 3)) (FLi hF (t := 10) hii) (fun _ _ _ => rfl) qTak_g10 rfl rfl rfl inW5 3 (by decide) (TT_cons kw_155) rfl dX5_add_18 ?_
    refine G_isub hΓ dX5_add_21 ?_
    refine G_icmp_le hΓ (tgt := 26) dX5_add_22 (by decide) (fun hc23 => ?_) (fun hc23 => ?_)
    · rw [if_pos hc23] at hf
      refine G_aload_n hΓ 0 dX5_add_26 rfl ?_
      refine F_get hΓ (t := 10) (i := i) (ci := 8) (C := RX5) (T := TX5) (N := 4) (fs5 (gl Γ) i) (v := .int (tf 2)) (FLi hF (t := 10) hii) (fun _ _ _ => rfl) qTak_g10 rfl rfl rfl inW5 2 (by decide) (TT_cons kw_153) rfl dX5_add_27 ?_
      refine G_bipush (v := 6) hΓ dX5_add_30 (by decide) ?_
      refine G_imul hΓ dX5_add_32 ?_
      refine G_istore_n hΓ [(3, .int ((tf 2) * 6)), (0, .ref (ya (gl Γ) 10 i)), (1, .ref (ya (gl Γ) 4 i)), (2, .int p2)] dX5_add_33 (by decide) rfl ?_
      refine G_aload_n hΓ 1 dX5_add_34 rfl ?_
      refine F_get hΓ (t := 10) (i := i) (ci := 8) (C := RX5) (T := TX5) (N := 4) (fs5 (gl Γ) i) (v := .ref (ya (gl Γ) 11 i)) (FLi hF (t := 10) hii) (fun _ _ _ => rfl) rfl rfl rfl rfl inW5 0 (by decide) (TT_cons kw_151) rfl dX5_add_35 ?_
      refine G_iload_n hΓ 0 dX5_add_38 rfl ?_
      refine G_aload_n hΓ 2 dX5_add_39 rfl ?_
      obtain ⟨u1, hc2, hf⟩ := bd_some hf
      refine G_callV hΓ (n := 0) (As := []) (t := 4) (i := i) (ci := 4) (T := TX1) (N := 17) (FS := fs1 (gl Γ) i) (σ' := (qTak σ i tf tt tk)) (c_X1_identifier (gL Γ) (gl Γ) hF (qTak σ i tf tt tk) i h f  hii hr_h hr_f hc2) rfl rfl kw_778 kw_770 kw_771 kw_3 kw_772 ⟨rfl, by decide, by decide, by decide +kernel⟩ (FLi hF (t := 4) hii) (fun _ _ _ => rfl) rfl rfl rfl ⟨Nat.le_of_ble_eq_true rfl, Nat.le_of_ble_eq_true rfl⟩ rfl (Nat.le_of_ble_eq_true rfl) dX5_add_40 ⟨_, rfl⟩ rfl ?_
      obtain ⟨hg3, hf⟩ := gd_some hf
      refine F_iast hΓ (t := 11) (i := i) (f := tt) (σ' := (qTak σ i tf (upd tt (((tf 2) * 6).toNatClampNeg) u1) tk)) (FLi hF (t := 11) hii) (fun _ _ _ => rfl) qTak_g11 qTak_s11 hg3 dX5_add_43 ?_
      refine G_aload_n hΓ 1 dX5_add_44 rfl ?_
      refine F_get hΓ (t := 10) (i := i) (ci := 8) (C := RX5) (T := TX5) (N := 4) (fs5 (gl Γ) i) (v := .ref (ya (gl Γ) 11 i)) (FLi hF (t := 10) hii) (fun _ _ _ => rfl) rfl rfl rfl rfl inW5 0 (by decide) (TT_cons kw_151) rfl dX5_add_45 ?_
      refine G_iload_n hΓ 0 dX5_add_48 rfl ?_
      refine G_iconst (v := 1) hΓ dX5_add_49 (by decide) ?_
      refine G_iadd hΓ dX5_add_50 ?_
      refine G_aload_n hΓ 2 dX5_add_51 rfl ?_
      obtain ⟨u4, hc5, hf⟩ := bd_some hf
      refine G_callV hΓ (n := 0) (As := []) (t := 4) (i := i) (ci := 4) (T := TX1) (N := 17) (FS := fs1 (gl Γ) i) (σ' := (qTak σ i tf (upd tt (((tf 2) * 6).toNatClampNeg) u1) tk)) (c_X1_kind (gL Γ) (gl Γ) hF (qTak σ i tf (upd tt (((tf 2) * 6).toNatClampNeg) u1) tk) i h f  hii hr_h hr_f hc5) rfl rfl kw_779 kw_729 kw_730 kw_3 kw_731 ⟨rfl, by decide, by decide, by decide +kernel⟩ (FLi hF (t := 4) hii) (fun _ _ _ => rfl) rfl rfl rfl ⟨Nat.le_of_ble_eq_true rfl, Nat.le_of_ble_eq_true rfl⟩ rfl (Nat.le_of_ble_eq_true rfl) dX5_add_52 ⟨_, rfl⟩ rfl ?_
      obtain ⟨hg6, hf⟩ := gd_some hf
      refine F_iast hΓ (t := 11) (i := i) (f := (upd tt (((tf 2) * 6).toNatClampNeg) u1)) (σ' := (qTak σ i tf (upd (upd tt (((tf 2) * 6).toNatClampNeg) u1) ((((tf 2) * 6) + 1).toNatClampNeg) u4) tk)) (FLi hF (t := 11) hii) (fun _ _ _ => rfl) qTak_g11 qTak_s11 hg6 dX5_add_55 ?_
      refine G_aload_n hΓ 1 dX5_add_56 rfl ?_
      refine F_get hΓ (t := 10) (i := i) (ci := 8) (C := RX5) (T := TX5) (N := 4) (fs5 (gl Γ) i) (v := .ref (ya (gl Γ) 11 i)) (FLi hF (t := 10) hii) (fun _ _ _ => rfl) rfl rfl rfl rfl inW5 0 (by decide) (TT_cons kw_151) rfl dX5_add_57 ?_
      refine G_iload_n hΓ 0 dX5_add_60 rfl ?_
      refine G_iconst (v := 2) hΓ dX5_add_61 (by decide) ?_
      refine G_iadd hΓ dX5_add_62 ?_
      refine G_aload_n hΓ 2 dX5_add_63 rfl ?_
      obtain ⟨u7, hc8, hf⟩ := bd_some hf
      refine G_callV hΓ (n := 0) (As := []) (t := 4) (i := i) (ci := 4) (T := TX1) (N := 17) (FS := fs1 (gl Γ) i) (σ' := (qTak σ i tf (upd (upd tt (((tf 2) * 6).toNatClampNeg) u1) ((((tf 2) * 6) + 1).toNatClampNeg) u4) tk)) (c_X1_code (gL Γ) (gl Γ) hF (qTak σ i tf (upd (upd tt (((tf 2) * 6).toNatClampNeg) u1) ((((tf 2) * 6) + 1).toNatClampNeg) u4) tk) i h f  hii hr_h hr_f hc8) rfl rfl kw_780 kw_733 kw_734 kw_3 kw_735 ⟨rfl, by decide, by decide, by decide +kernel⟩ (FLi hF (t := 4) hii) (fun _ _ _ => rfl) rfl rfl rfl ⟨Nat.le_of_ble_eq_true rfl, Nat.le_of_ble_eq_true rfl⟩ rfl (Nat.le_of_ble_eq_true rfl) dX5_add_64 ⟨_, rfl⟩ rfl ?_
      obtain ⟨hg9, hf⟩ := gd_some hf
      refine F_iast hΓ (t := 11) (i := i) (f := (upd (upd tt (((tf 2) * 6).toNatClampNeg) u1) ((((tf 2) * 6) + 1).toNatClampNeg) u4)) (σ' := (qTak σ i tf (upd (upd (upd tt (((tf 2) * 6).toNatClampNeg) u1) ((((tf 2) * 6) + 1).toNatClampNeg) u4) ((((tf 2) * 6) + 2).toNatClampNeg) u7) tk)) (FLi hF (t := 11) hii) (fun _ _ _ => rfl) qTak_g11 qTak_s11 hg9 dX5_add_67 ?_
      refine G_aload_n hΓ 1 dX5_add_68 rfl ?_
      refine F_get hΓ (t := 10) (i := i) (ci := 8) (C := RX5) (T := TX5) (N := 4) (fs5 (gl Γ) i) (v := .ref (ya (gl Γ) 11 i)) (FLi hF (t := 10) hii) (fun _ _ _ => rfl) rfl rfl rfl rfl inW5 0 (by decide) (TT_cons kw_151) rfl dX5_add_69 ?_
      refine G_iload_n hΓ 0 dX5_add_72 rfl ?_
      refine G_iconst (v := 3) hΓ dX5_add_73 (by decide) ?_
      refine G_iadd hΓ dX5_add_74 ?_
      refine G_aload_n hΓ 2 dX5_add_75 rfl ?_
      refine F_getN hΓ (t := 4) (i := i) (ci := 4) (C := RX1) (T := TX1) (N := 17) (fs1 (gl Γ) i) (v := .int (f 14)) (FLi hF (t := 4) hii) (fun _ _ _ => rfl) hr_f rfl rfl rfl inW1 14 (by decide) 10 (host := "CanBits") rfl rfl dX5_add_76 ?_
      obtain ⟨hg10, hf⟩ := gd_some hf
      refine F_iast hΓ (t := 11) (i := i) (f := (upd (upd (upd tt (((tf 2) * 6).toNatClampNeg) u1) ((((tf 2) * 6) + 1).toNatClampNeg) u4) ((((tf 2) * 6) + 2).toNatClampNeg) u7)) (σ' := (qTak σ i tf (upd (upd (upd (upd tt (((tf 2) * 6).toNatClampNeg) u1) ((((tf 2) * 6) + 1).toNatClampNeg) u4) ((((tf 2) * 6) + 2).toNatClampNeg) u7) ((((tf 2) * 6) + 3).toNatClampNeg) (f 14)) tk)) (FLi hF (t := 11) hii) (fun _ _ _ => rfl) qTak_g11 qTak_s11 hg10 dX5_add_79 ?_
      refine G_aload_n hΓ 1 dX5_add_80 rfl ?_
      refine F_get hΓ (t := 10) (i := i) (ci := 8) (C := RX5) (T := TX5) (N := 4) (fs5 (gl Γ) i) (v := .ref (ya (gl Γ) 11 i)) (FLi hF (t := 10) hii) (fun _ _ _ => rfl) rfl rfl rfl rfl inW5 0 (by decide) (TT_cons kw_151) rfl dX5_add_81 ?_
      refine G_iload_n hΓ 0 dX5_add_84 rfl ?_
      refine G_iconst (v := 4) hΓ dX5_add_85 (by decide) ?_
      refine G_iadd hΓ dX5_add_86 ?_
      refine G_iload_n hΓ 3 dX5_add_87 rfl ?_
      obtain ⟨hg11, hf⟩ := gd_some hf
      refine F_iast hΓ (t := 11) (i := i) (f := (upd (upd (upd (upd tt (((tf 2) * 6).toNatClampNeg) u1) ((((tf 2) * 6) + 1).toNatClampNeg) u4) ((((tf 2) * 6) + 2).toNatClampNeg) u7) ((((tf 2) * 6) + 3).toNatClampNeg) (f 14))) (σ' := (qTak σ i tf (upd (upd (upd (upd (upd tt (((tf 2) * 6).toNatClampNeg) u1) ((((tf 2) * 6) + 1).toNatClampNeg) u4) ((((tf 2) * 6) + 2).toNatClampNeg) u7) ((((tf 2) * 6) + 3).toNatClampNeg) (f 14)) ((((tf 2) * 6) + 4).toNatClampNeg) p2) tk)) (FLi hF (t := 11) hii) (fun _ _ _ => rfl) qTak_g11 qTak_s11 hg11 dX5_add_88 ?_
      refine G_aload_n hΓ 1 dX5_add_89 rfl ?_
      refine F_get hΓ (t := 10) (i := i) (ci := 8) (C := RX5) (T := TX5) (N := 4) (fs5 (gl Γ) i) (v := .ref (ya (gl Γ) 11 i)) (FLi hF (t := 10) hii) (fun _ _ _ => rfl) rfl rfl rfl rfl inW5 0 (by decide) (TT_cons kw_151) rfl dX5_add_90 ?_
      refine G_iload_n hΓ 0 dX5_add_93 rfl ?_
      refine G_iconst (v := 5) hΓ dX5_add_94 (by decide) ?_
      refine G_iadd hΓ dX5_add_95 ?_
      refine G_aload_n hΓ 1 dX5_add_96 rfl ?_
      refine F_get hΓ (t := 10) (i := i) (ci := 8) (C := RX5) (T := TX5) (N := 4) (fs5 (gl Γ) i) (v := .int (tf 3)) (FLi hF (t := 10) hii) (fun _ _ _ => rfl) qTak_g10 rfl rfl rfl inW5 3 (by decide) (TT_cons kw_155) rfl dX5_add_97 ?_
      obtain ⟨hg12, hf⟩ := gd_some hf
      refine F_iast hΓ (t := 11) (i := i) (f := (upd (upd (upd (upd (upd tt (((tf 2) * 6).toNatClampNeg) u1) ((((tf 2) * 6) + 1).toNatClampNeg) u4) ((((tf 2) * 6) + 2).toNatClampNeg) u7) ((((tf 2) * 6) + 3).toNatClampNeg) (f 14)) ((((tf 2) * 6) + 4).toNatClampNeg) p2)) (σ' := (qTak σ i tf (upd (upd (upd (upd (upd (upd tt (((tf 2) * 6).toNatClampNeg) u1) ((((tf 2) * 6) + 1).toNatClampNeg) u4) ((((tf 2) * 6) + 2).toNatClampNeg) u7) ((((tf 2) * 6) + 3).toNatClampNeg) (f 14)) ((((tf 2) * 6) + 4).toNatClampNeg) p2) ((((tf 2) * 6) + 5).toNatClampNeg) (tf 3)) tk)) (FLi hF (t := 11) hii) (fun _ _ _ => rfl) qTak_g11 qTak_s11 hg12 dX5_add_100 ?_
      refine G_iconst (v := 0) hΓ dX5_add_101 (by decide) ?_
      refine G_istore hΓ [(4, .int 0), (3, .int ((tf 2) * 6)), (0, .ref (ya (gl Γ) 10 i)), (1, .ref (ya (gl Γ) 4 i)), (2, .int p2)] dX5_add_102 (by decide) rfl ?_
      obtain ⟨k16, hk_k16, hf⟩ := jn_eq hf
      try dsimp only at hf
      have K17 : ∀ v13 v14 v15, k16 (v13, v14, v15) = some (tf', tt', tk') → GG Γ (0, 0) (qTak σ i v13 (upd (upd (upd (upd (upd (upd tt (((tf 2) * 6).toNatClampNeg) u1) ((((tf 2) * 6) + 1).toNatClampNeg) u4) ((((tf 2) * 6) + 2).toNatClampNeg) u7) ((((tf 2) * 6) + 3).toNatClampNeg) (f 14)) ((((tf 2) * 6) + 4).toNatClampNeg) p2) ((((tf 2) * 6) + 5).toNatClampNeg) (tf 3)) v14) 149 [(4, .int v15), (3, .int ((tf 2) * 6)), (0, .ref (ya (gl Γ) 10 i)), (1, .ref (ya (gl Γ) 4 i)), (2, .int p2)] [] := by
        intro v13 v14 v15 hf
        subst hk_k16
        try dsimp only at hf
        refine G_aload_n hΓ 2 dX5_add_149 rfl ?_
        refine G_dup hΓ dX5_add_150 rfl ?_
        refine F_get hΓ (t := 10) (i := i) (ci := 8) (C := RX5) (T := TX5) (N := 4) (fs5 (gl Γ) i) (v := .int (v13 2)) (FLi hF (t := 10) hii) (fun _ _ _ => rfl) qTak_g10 rfl rfl rfl inW5 2 (by decide) (TT_cons kw_153) rfl dX5_add_151 ?_
        refine G_iconst (v := 1) hΓ dX5_add_154 (by decide) ?_
        refine G_iadd hΓ dX5_add_155 ?_
        refine F_put hΓ (t := 10) (i := i) (ci := 8) (C := RX5) (T := TX5) (N := 4) (fs5 (gl Γ) i) (f := v13) (f' := (upd v13 2 ((v13 2) + 1))) (σ' := (qTak σ i (upd v13 2 ((v13 2) + 1)) (upd (upd (upd (upd (upd (upd tt (((tf 2) * 6).toNatClampNeg) u1) ((((tf 2) * 6) + 1).toNatClampNeg) u4) ((((tf 2) * 6) + 2).toNatClampNeg) u7) ((((tf 2) * 6) + 3).toNatClampNeg) (f 14)) ((((tf 2) * 6) + 4).toNatClampNeg) p2) ((((tf 2) * 6) + 5).toNatClampNeg) (tf 3)) v14)) (ty := .int) (v := .int ((v13 2) + 1)) tyX5 tyX5_ok nmX5 (FLi hF (t := 10) hii) (fun _ _ _ => rfl) qTak_g10 qTak_s10 rfl inW5 2 (by decide) (TT_cons kw_153) rfl (by decide +kernel) rfl rfl (fun _ _ => Nat.le_of_ble_eq_true rfl) (fun _ _ => rfl) dX5_add_156 ?_
        cases hf
        exact G_vret hΓ hE dX5_add_159
      clear hk_k16
      have loop22 : ∀ (nn : Nat) v13 v14 v15, L_X5_add_104 f o k16 nn v13 v14 v15 = some (tf', tt', tk') → GG Γ (0, 0) (qTak σ i v13 (upd (upd (upd (upd (upd (upd tt (((tf 2) * 6).toNatClampNeg) u1) ((((tf 2) * 6) + 1).toNatClampNeg) u4) ((((tf 2) * 6) + 2).toNatClampNeg) u7) ((((tf 2) * 6) + 3).toNatClampNeg) (f 14)) ((((tf 2) * 6) + 4).toNatClampNeg) p2) ((((tf 2) * 6) + 5).toNatClampNeg) (tf 3)) v14) 104 [(4, .int v15), (3, .int ((tf 2) * 6)), (0, .ref (ya (gl Γ) 10 i)), (1, .ref (ya (gl Γ) 4 i)), (2, .int p2)] [] := by
        intro nn
        induction nn with
        | zero => intro v13 v14 v15 hf; cases hf
        | succ nn ih =>
          intro v13 v14 v15 hf
          rw [L_X5_add_104] at hf
          refine G_iload hΓ 0 dX5_add_104 rfl ?_
          refine G_aload_n hΓ 3 dX5_add_106 rfl ?_
          refine F_getN hΓ (t := 4) (i := i) (ci := 4) (C := RX1) (T := TX1) (N := 17) (fs1 (gl Γ) i) (v := .int (f 14)) (FLi hF (t := 4) hii) (fun _ _ _ => rfl) hr_f rfl rfl rfl inW1 14 (by decide) 10 (host := "CanBits") rfl rfl dX5_add_107 ?_
          refine G_icmp_ge hΓ (tgt := 149) dX5_add_110 (by decide) (fun hc21 => ?_) (fun hc21 => ?_)
          · rw [if_pos hc21] at hf
            exact (K17 _ _ _ hf)
          · rw [if_neg hc21] at hf
            refine G_iload hΓ 0 dX5_add_113 rfl ?_
            refine G_bipush (v := 64) hΓ dX5_add_115 (by decide) ?_
            refine G_icmp_ge hΓ (tgt := 149) dX5_add_117 (by decide) (fun hc20 => ?_) (fun hc20 => ?_)
            · rw [if_pos hc20] at hf
              exact (K17 _ _ _ hf)
            · rw [if_neg hc20] at hf
              refine G_aload_n hΓ 2 dX5_add_120 rfl ?_
              refine F_get hΓ (t := 10) (i := i) (ci := 8) (C := RX5) (T := TX5) (N := 4) (fs5 (gl Γ) i) (v := .ref (ya (gl Γ) 12 i)) (FLi hF (t := 10) hii) (fun _ _ _ => rfl) rfl rfl rfl rfl inW5 1 (by decide) (TT_cons kw_152) rfl dX5_add_121 ?_
              refine G_aload_n hΓ 2 dX5_add_124 rfl ?_
              refine G_dup hΓ dX5_add_125 rfl ?_
              refine F_get hΓ (t := 10) (i := i) (ci := 8) (C := RX5) (T := TX5) (N := 4) (fs5 (gl Γ) i) (v := .int (v13 3)) (FLi hF (t := 10) hii) (fun _ _ _ => rfl) qTak_g10 rfl rfl rfl inW5 3 (by decide) (TT_cons kw_155) rfl dX5_add_126 ?_
              refine G_dup_x1 hΓ dX5_add_129 rfl rfl ?_
              refine G_iconst (v := 1) hΓ dX5_add_130 (by decide) ?_
              refine G_iadd hΓ dX5_add_131 ?_
              refine F_put hΓ (t := 10) (i := i) (ci := 8) (C := RX5) (T := TX5) (N := 4) (fs5 (gl Γ) i) (f := v13) (f' := (upd v13 3 ((v13 3) + 1))) (σ' := (qTak σ i (upd v13 3 ((v13 3) + 1)) (upd (upd (upd (upd (upd (upd tt (((tf 2) * 6).toNatClampNeg) u1) ((((tf 2) * 6) + 1).toNatClampNeg) u4) ((((tf 2) * 6) + 2).toNatClampNeg) u7) ((((tf 2) * 6) + 3).toNatClampNeg) (f 14)) ((((tf 2) * 6) + 4).toNatClampNeg) p2) ((((tf 2) * 6) + 5).toNatClampNeg) (tf 3)) v14)) (ty := .int) (v := .int ((v13 3) + 1)) tyX5 tyX5_ok nmX5 (FLi hF (t := 10) hii) (fun _ _ _ => rfl) qTak_g10 qTak_s10 rfl inW5 3 (by decide) (TT_cons kw_155) rfl (by decide +kernel) rfl rfl (fun _ _ => Nat.le_of_ble_eq_true rfl) (fun _ _ => rfl) dX5_add_132 ?_
              refine G_aload_n hΓ 3 dX5_add_135 rfl ?_
              refine F_getN hΓ (t := 4) (i := i) (ci := 4) (C := RX1) (T := TX1) (N := 17) (fs1 (gl Γ) i) (v := .ref (ya (gl Γ) 5 i)) (FLi hF (t := 4) hii) (fun _ _ _ => rfl) rfl rfl rfl rfl inW1 1 (by decide) 9 (host := "CanBits") rfl rfl dX5_add_136 ?_
              refine G_iload hΓ 0 dX5_add_139 rfl ?_
              obtain ⟨hg18, hf⟩ := gd_some hf
              refine F_ald (G_iald hΓ) (t := 5) (i := i) (f := o) (FLi hF (t := 5) hii) (fun _ _ _ => rfl) hr_o hg18 dX5_add_141 ?_
              obtain ⟨hg19, hf⟩ := gd_some hf
              refine F_iast hΓ (t := 12) (i := i) (f := v14) (σ' := (qTak σ i (upd v13 3 ((v13 3) + 1)) (upd (upd (upd (upd (upd (upd tt (((tf 2) * 6).toNatClampNeg) u1) ((((tf 2) * 6) + 1).toNatClampNeg) u4) ((((tf 2) * 6) + 2).toNatClampNeg) u7) ((((tf 2) * 6) + 3).toNatClampNeg) (f 14)) ((((tf 2) * 6) + 4).toNatClampNeg) p2) ((((tf 2) * 6) + 5).toNatClampNeg) (tf 3)) (upd v14 ((v13 3).toNatClampNeg) (o v15.toNatClampNeg)))) (FLi hF (t := 12) hii) (fun _ _ _ => rfl) qTak_g12 qTak_s12 hg19 dX5_add_142 ?_
              refine G_iinc hΓ 0 [(4, .int (v15 + 1)), (3, .int ((tf 2) * 6)), (0, .ref (ya (gl Γ) 10 i)), (1, .ref (ya (gl Γ) 4 i)), (2, .int p2)] dX5_add_143 rfl rfl (by decide) rfl ?_
              refine G_goto hΓ (tgt := 104) dX5_add_146 (by decide) ?_
              exact (ih _ _ _ hf)
      exact loop22 _ _ _ _ hf
    · rw [if_neg hc23] at hf
      cases hf
      exact G_vret hΓ hE dX5_add_25
