theorem dX1_acknowledges_0 : decode cX1_acknowledges 0 = .ok (.aload_n 0, 1) := by decide +kernel
theorem dX1_acknowledges_1 : decode cX1_acknowledges 1 = .ok (.getfield 25, 3) := by decide +kernel
theorem dX1_acknowledges_4 : decode cX1_acknowledges 4 = .ok (.iconst 2, 1) := by decide +kernel
theorem dX1_acknowledges_5 : decode cX1_acknowledges 5 = .ok (.if_icmp .ne 22, 3) := by decide +kernel
theorem dX1_acknowledges_8 : decode cX1_acknowledges 8 = .ok (.aload_n 0, 1) := by decide +kernel
theorem dX1_acknowledges_9 : decode cX1_acknowledges 9 = .ok (.getfield 29, 3) := by decide +kernel
theorem dX1_acknowledges_12 : decode cX1_acknowledges 12 = .ok (.iconst 1, 1) := by decide +kernel
theorem dX1_acknowledges_13 : decode cX1_acknowledges 13 = .ok (.if_icmp .ne 14, 3) := by decide +kernel
theorem dX1_acknowledges_16 : decode cX1_acknowledges 16 = .ok (.aload_n 0, 1) := by decide +kernel
theorem dX1_acknowledges_17 : decode cX1_acknowledges 17 = .ok (.getfield 71, 3) := by decide +kernel
theorem dX1_acknowledges_20 : decode cX1_acknowledges 20 = .ok (.ifCond .eq 7, 3) := by decide +kernel
theorem dX1_acknowledges_23 : decode cX1_acknowledges 23 = .ok (.iconst 1, 1) := by decide +kernel
theorem dX1_acknowledges_24 : decode cX1_acknowledges 24 = .ok (.goto 4, 3) := by decide +kernel
theorem dX1_acknowledges_27 : decode cX1_acknowledges 27 = .ok (.iconst 0, 1) := by decide +kernel
theorem dX1_acknowledges_28 : decode cX1_acknowledges 28 = .ok (.ireturn, 1) := by decide +kernel
noncomputable def f_X1_acknowledges  (f : Nat → Int32)  : Option (Int32) := lt (α := Int32) (if (f 2) = 2 then if (f 3) = 1 then if (f 16) = 0 then 0 else 1 else 0 else 0) (fun x1 => some (x1))
set_option maxHeartbeats 4000000 in
set_option maxRecDepth 100000 in
theorem c_X1_acknowledges (l : Launch) (Λ : LY) (hF : FL Λ) (σ : CS) (i : Nat) (h : Int64) (f : Nat → Int32)  (hii : i < 32) (hr_h : σ.2.1 4 i = h) (hr_f : σ.1 4 i = f) {r9 : Int32} (hf : f_X1_acknowledges f = some r9) : CM l yX1_acknowledges (.code yX1_acknowledges cX1_acknowledges 1 (some .boolean) :: TT) ({ frames := 0, cells := 0, slots := 0, locals := 0 }) Λ [.ref (ya Λ 4 i)] σ σ (some (.int r9)) := by
  refine CM_intro (own := RX1) (by decide) rfl (Nat.le_of_ble_eq_true rfl) ?_
  intro Γ hg hl hΓ hE
  subst hg; subst hl
  show GG Γ (0, 0) σ 0 [(0, .ref (ya (gl Γ) 4 i))] []
  unfold f_X1_acknowledges at hf
  refine G_aload_n hΓ 0 dX1_acknowledges_0 rfl ?_
  refine F_get hΓ (t := 4) (i := i) (ci := 4) (C := RX1) (T := TX1) (N := 17) (fs1 (gl Γ) i) (v := .int (f 2)) (FLi hF (t := 4) hii) (fun _ _ _ => rfl) hr_f rfl rfl rfl inW1 2 (by decide) (TT_cons kw_93) rfl dX1_acknowledges_1 ?_
  refine G_iconst (v := 2) hΓ dX1_acknowledges_4 (by decide) ?_
  obtain ⟨x1, he6, hf⟩ := lt_eq hf
  have K2 : GG Γ (0, 0) σ 28 [(0, .ref (ya (gl Γ) 4 i))] [.int x1] := by
    cases hf
    exact G_zret hΓ (by rw [he6]; (repeat' split) <;> rfl) hE dX1_acknowledges_28
  have he := he6
  refine G_icmp_ne hΓ (tgt := 27) dX1_acknowledges_5 (by decide) (fun hc5 => ?_) (fun hc5 => ?_)
  · rw [if_neg hc5] at he
    refine G_iconst (v := 0) hΓ dX1_acknowledges_27 (by decide) ?_
    subst he
    exact K2
  · rw [if_pos hc5] at he
    refine G_aload_n hΓ 0 dX1_acknowledges_8 rfl ?_
    refine F_get hΓ (t := 4) (i := i) (ci := 4) (C := RX1) (T := TX1) (N := 17) (fs1 (gl Γ) i) (v := .int (f 3)) (FLi hF (t := 4) hii) (fun _ _ _ => rfl) hr_f rfl rfl rfl inW1 3 (by decide) (TT_cons kw_94) rfl dX1_acknowledges_9 ?_
    refine G_iconst (v := 1) hΓ dX1_acknowledges_12 (by decide) ?_
    refine G_icmp_ne hΓ (tgt := 27) dX1_acknowledges_13 (by decide) (fun hc4 => ?_) (fun hc4 => ?_)
    · rw [if_neg hc4] at he
      refine G_iconst (v := 0) hΓ dX1_acknowledges_27 (by decide) ?_
      subst he
      exact K2
    · rw [if_pos hc4] at he
      refine G_aload_n hΓ 0 dX1_acknowledges_16 rfl ?_
      refine F_get hΓ (t := 4) (i := i) (ci := 4) (C := RX1) (T := TX1) (N := 17) (fs1 (gl Γ) i) (v := .int (f 16)) (FLi hF (t := 4) hii) (fun _ _ _ => rfl) hr_f rfl rfl rfl inW1 16 (by decide) (TT_cons kw_108) rfl dX1_acknowledges_17 ?_
      refine G_if_eq hΓ (tgt := 27) dX1_acknowledges_20 (by decide) (fun hc3 => ?_) (fun hc3 => ?_)
      · rw [if_pos hc3] at he
        refine G_iconst (v := 0) hΓ dX1_acknowledges_27 (by decide) ?_
        subst he
        exact K2
      · rw [if_neg hc3] at he
        refine G_iconst (v := 1) hΓ dX1_acknowledges_23 (by decide) ?_
        refine G_goto hΓ (tgt := 28) dX1_acknowledges_24 (by decide) ?_
        subst he
        exact K2
theorem dX1_identifier_0 : decode cX1_identifier 0 = .ok (.aload_n 0, 1) := by decide +kernel
theorem dX1_identifier_1 : decode cX1_identifier 1 = .ok (.getfield 44, 3) := by decide +kernel
theorem dX1_identifier_4 : decode cX1_identifier 4 = .ok (.aload_n 0, 1) := by decide +kernel
theorem dX1_identifier_5 : decode cX1_identifier 5 = .ok (.getfield 55, 3) := by decide +kernel
theorem dX1_identifier_8 : decode cX1_identifier 8 = .ok (.bipush 12, 2) := by decide +kernel
theorem dX1_identifier_10 : decode cX1_identifier 10 = .ok (.isub, 1) := by decide +kernel
theorem dX1_identifier_11 : decode cX1_identifier 11 = .ok (.lshr, 1) := by decide +kernel
theorem dX1_identifier_12 : decode cX1_identifier 12 = .ok (.l2i, 1) := by decide +kernel
theorem dX1_identifier_13 : decode cX1_identifier 13 = .ok (.sipush 2047, 3) := by decide +kernel
theorem dX1_identifier_16 : decode cX1_identifier 16 = .ok (.iand, 1) := by decide +kernel
theorem dX1_identifier_17 : decode cX1_identifier 17 = .ok (.istore_n 1, 1) := by decide +kernel
theorem dX1_identifier_18 : decode cX1_identifier 18 = .ok (.aload_n 0, 1) := by decide +kernel
theorem dX1_identifier_19 : decode cX1_identifier 19 = .ok (.getfield 48, 3) := by decide +kernel
theorem dX1_identifier_22 : decode cX1_identifier 22 = .ok (.ifCond .ne 5, 3) := by decide +kernel
theorem dX1_identifier_25 : decode cX1_identifier 25 = .ok (.iload_n 1, 1) := by decide +kernel
theorem dX1_identifier_26 : decode cX1_identifier 26 = .ok (.ireturn, 1) := by decide +kernel
theorem dX1_identifier_27 : decode cX1_identifier 27 = .ok (.iload_n 1, 1) := by decide +kernel
theorem dX1_identifier_28 : decode cX1_identifier 28 = .ok (.bipush 18, 2) := by decide +kernel
theorem dX1_identifier_30 : decode cX1_identifier 30 = .ok (.ishl, 1) := by decide +kernel
theorem dX1_identifier_31 : decode cX1_identifier 31 = .ok (.aload_n 0, 1) := by decide +kernel
theorem dX1_identifier_32 : decode cX1_identifier 32 = .ok (.getfield 44, 3) := by decide +kernel
theorem dX1_identifier_35 : decode cX1_identifier 35 = .ok (.aload_n 0, 1) := by decide +kernel
theorem dX1_identifier_36 : decode cX1_identifier 36 = .ok (.getfield 55, 3) := by decide +kernel
theorem dX1_identifier_39 : decode cX1_identifier 39 = .ok (.bipush 32, 2) := by decide +kernel
theorem dX1_identifier_41 : decode cX1_identifier 41 = .ok (.isub, 1) := by decide +kernel
theorem dX1_identifier_42 : decode cX1_identifier 42 = .ok (.lshr, 1) := by decide +kernel
theorem dX1_identifier_43 : decode cX1_identifier 43 = .ok (.l2i, 1) := by decide +kernel
theorem dX1_identifier_44 : decode cX1_identifier 44 = .ok (.ldc 74, 2) := by decide +kernel
theorem dX1_identifier_46 : decode cX1_identifier 46 = .ok (.iand, 1) := by decide +kernel
theorem dX1_identifier_47 : decode cX1_identifier 47 = .ok (.ior, 1) := by decide +kernel
theorem dX1_identifier_48 : decode cX1_identifier 48 = .ok (.ireturn, 1) := by decide +kernel
noncomputable def f_X1_identifier  (h : Int64) (f : Nat → Int32)  : Option (Int32) := lt (α := Int32) (((h >>> (((f 11) - 12).toInt64 &&& 63)).toInt32) &&& 2047) (fun v1 => if (f 9) = 0 then some (v1) else some ((v1 <<< ((18 : Int32) &&& 31)) ||| (((h >>> (((f 11) - 32).toInt64 &&& 63)).toInt32) &&& 262143)))
set_option maxHeartbeats 4000000 in
set_option maxRecDepth 100000 in
theorem c_X1_identifier (l : Launch) (Λ : LY) (hF : FL Λ) (σ : CS) (i : Nat) (h : Int64) (f : Nat → Int32)  (hii : i < 32) (hr_h : σ.2.1 4 i = h) (hr_f : σ.1 4 i = f) {r9 : Int32} (hf : f_X1_identifier h f = some r9) : CM l yX1_identifier (.code yX1_identifier cX1_identifier 2 (some .int) :: TT) ({ frames := 0, cells := 0, slots := 0, locals := 0 }) Λ [.ref (ya Λ 4 i)] σ σ (some (.int r9)) := by
  refine CM_intro (own := RX1) (by decide) rfl (Nat.le_of_ble_eq_true rfl) ?_
  intro Γ hg hl hΓ hE
  subst hg; subst hl
  show GG Γ (0, 0) σ 0 [(0, .ref (ya (gl Γ) 4 i))] []
  unfold f_X1_identifier at hf
  refine G_aload_n hΓ 0 dX1_identifier_0 rfl ?_
  refine F_get hΓ (t := 4) (i := i) (ci := 4) (C := RX1) (T := TX1) (N := 17) (fs1 (gl Γ) i) (v := .long h) (FLi hF (t := 4) hii) (fun _ _ _ => rfl) rfl hr_h rfl rfl inW1 8 (by decide) (TT_cons kw_99) rfl dX1_identifier_1 ?_
  refine G_aload_n hΓ 0 dX1_identifier_4 rfl ?_
  refine F_get hΓ (t := 4) (i := i) (ci := 4) (C := RX1) (T := TX1) (N := 17) (fs1 (gl Γ) i) (v := .int (f 11)) (FLi hF (t := 4) hii) (fun _ _ _ => rfl) hr_f rfl rfl rfl inW1 11 (by decide) (TT_cons kw_102) rfl dX1_identifier_5 ?_
  refine G_bipush (v := 12) hΓ dX1_identifier_8 (by decide) ?_
  refine G_isub hΓ dX1_identifier_10 ?_
  refine G_lshr hΓ dX1_identifier_11 ?_
  refine G_l2i hΓ dX1_identifier_12 ?_
  refine G_sipush (v := 2047) hΓ dX1_identifier_13 (by decide) ?_
  refine G_iand hΓ dX1_identifier_16 ?_
  obtain ⟨v1, hv_v1, hf⟩ := lt_eq hf
  refine G_topi hv_v1 ?_
  refine G_istore_n hΓ [(1, .int v1), (0, .ref (ya (gl Γ) 4 i))] dX1_identifier_17 (by decide) rfl ?_
  refine G_aload_n hΓ 1 dX1_identifier_18 rfl ?_
  refine F_get hΓ (t := 4) (i := i) (ci := 4) (C := RX1) (T := TX1) (N := 17) (fs1 (gl Γ) i) (v := .int (f 9)) (FLi hF (t := 4) hii) (fun _ _ _ => rfl) hr_f rfl rfl rfl inW1 9 (by decide) (TT_cons kw_100) rfl dX1_identifier_19 ?_
  refine G_if_ne hΓ (tgt := 27) dX1_identifier_22 (by decide) (fun hc2 => ?_) (fun hc2 => ?_)
  · rw [if_neg hc2] at hf
    refine G_iload_n hΓ 0 dX1_identifier_27 rfl ?_
    refine G_bipush (v := 18) hΓ dX1_identifier_28 (by decide) ?_
    refine G_ishl hΓ dX1_identifier_30 ?_
    refine G_aload_n hΓ 1 dX1_identifier_31 rfl ?_
    refine F_get hΓ (t := 4) (i := i) (ci := 4) (C := RX1) (T := TX1) (N := 17) (fs1 (gl Γ) i) (v := .long h) (FLi hF (t := 4) hii) (fun _ _ _ => rfl) rfl hr_h rfl rfl inW1 8 (by decide) (TT_cons kw_99) rfl dX1_identifier_32 ?_
    refine G_aload_n hΓ 1 dX1_identifier_35 rfl ?_
    refine F_get hΓ (t := 4) (i := i) (ci := 4) (C := RX1) (T := TX1) (N := 17) (fs1 (gl Γ) i) (v := .int (f 11)) (FLi hF (t := 4) hii) (fun _ _ _ => rfl) hr_f rfl rfl rfl inW1 11 (by decide) (TT_cons kw_102) rfl dX1_identifier_36 ?_
    refine G_bipush (v := 32) hΓ dX1_identifier_39 (by decide) ?_
    refine G_isub hΓ dX1_identifier_41 ?_
    refine G_lshr hΓ dX1_identifier_42 ?_
    refine G_l2i hΓ dX1_identifier_43 ?_
    refine G_ldc hΓ (v := 262143) (TT_cons kw_773) dX1_identifier_44 ?_
    refine G_iand hΓ dX1_identifier_46 ?_
    refine G_ior hΓ dX1_identifier_47 ?_
    cases hf
    exact G_iret hΓ hE dX1_identifier_48
  · rw [if_pos hc2] at hf
    refine G_iload_n hΓ 0 dX1_identifier_25 rfl ?_
    cases hf
    exact G_iret hΓ hE dX1_identifier_26
theorem dX1_kind_0 : decode cX1_kind 0 = .ok (.aload_n 0, 1) := by decide +kernel
theorem dX1_kind_1 : decode cX1_kind 1 = .ok (.getfield 48, 3) := by decide +kernel
theorem dX1_kind_4 : decode cX1_kind 4 = .ok (.ifCond .eq 7, 3) := by decide +kernel
theorem dX1_kind_7 : decode cX1_kind 7 = .ok (.iconst 1, 1) := by decide +kernel
theorem dX1_kind_8 : decode cX1_kind 8 = .ok (.goto 4, 3) := by decide +kernel
theorem dX1_kind_11 : decode cX1_kind 11 = .ok (.iconst 0, 1) := by decide +kernel
theorem dX1_kind_12 : decode cX1_kind 12 = .ok (.istore_n 1, 1) := by decide +kernel
theorem dX1_kind_13 : decode cX1_kind 13 = .ok (.aload_n 0, 1) := by decide +kernel
theorem dX1_kind_14 : decode cX1_kind 14 = .ok (.getfield 52, 3) := by decide +kernel
theorem dX1_kind_17 : decode cX1_kind 17 = .ok (.ifCond .eq 7, 3) := by decide +kernel
theorem dX1_kind_20 : decode cX1_kind 20 = .ok (.iconst 2, 1) := by decide +kernel
theorem dX1_kind_21 : decode cX1_kind 21 = .ok (.iload_n 1, 1) := by decide +kernel
theorem dX1_kind_22 : decode cX1_kind 22 = .ok (.iadd, 1) := by decide +kernel
theorem dX1_kind_23 : decode cX1_kind 23 = .ok (.ireturn, 1) := by decide +kernel
theorem dX1_kind_24 : decode cX1_kind 24 = .ok (.aload_n 0, 1) := by decide +kernel
theorem dX1_kind_25 : decode cX1_kind 25 = .ok (.getfield 48, 3) := by decide +kernel
theorem dX1_kind_28 : decode cX1_kind 28 = .ok (.ifCond .eq 8, 3) := by decide +kernel
theorem dX1_kind_31 : decode cX1_kind 31 = .ok (.bipush 32, 2) := by decide +kernel
theorem dX1_kind_33 : decode cX1_kind 33 = .ok (.goto 5, 3) := by decide +kernel
theorem dX1_kind_36 : decode cX1_kind 36 = .ok (.bipush 12, 2) := by decide +kernel
theorem dX1_kind_38 : decode cX1_kind 38 = .ok (.istore_n 2, 1) := by decide +kernel
theorem dX1_kind_39 : decode cX1_kind 39 = .ok (.aload_n 0, 1) := by decide +kernel
theorem dX1_kind_40 : decode cX1_kind 40 = .ok (.getfield 44, 3) := by decide +kernel
theorem dX1_kind_43 : decode cX1_kind 43 = .ok (.aload_n 0, 1) := by decide +kernel
theorem dX1_kind_44 : decode cX1_kind 44 = .ok (.getfield 55, 3) := by decide +kernel
theorem dX1_kind_47 : decode cX1_kind 47 = .ok (.iconst 1, 1) := by decide +kernel
theorem dX1_kind_48 : decode cX1_kind 48 = .ok (.isub, 1) := by decide +kernel
theorem dX1_kind_49 : decode cX1_kind 49 = .ok (.iload_n 2, 1) := by decide +kernel
theorem dX1_kind_50 : decode cX1_kind 50 = .ok (.isub, 1) := by decide +kernel
theorem dX1_kind_51 : decode cX1_kind 51 = .ok (.lshr, 1) := by decide +kernel
theorem dX1_kind_52 : decode cX1_kind 52 = .ok (.lconst 1, 1) := by decide +kernel
theorem dX1_kind_53 : decode cX1_kind 53 = .ok (.land, 1) := by decide +kernel
theorem dX1_kind_54 : decode cX1_kind 54 = .ok (.lconst 1, 1) := by decide +kernel
theorem dX1_kind_55 : decode cX1_kind 55 = .ok (.lcmp, 1) := by decide +kernel
theorem dX1_kind_56 : decode cX1_kind 56 = .ok (.ifCond .ne 9, 3) := by decide +kernel
theorem dX1_kind_59 : decode cX1_kind 59 = .ok (.iconst 4, 1) := by decide +kernel
theorem dX1_kind_60 : decode cX1_kind 60 = .ok (.iload_n 1, 1) := by decide +kernel
theorem dX1_kind_61 : decode cX1_kind 61 = .ok (.iadd, 1) := by decide +kernel
theorem dX1_kind_62 : decode cX1_kind 62 = .ok (.goto 4, 3) := by decide +kernel
theorem dX1_kind_65 : decode cX1_kind 65 = .ok (.iload_n 1, 1) := by decide +kernel
theorem dX1_kind_66 : decode cX1_kind 66 = .ok (.ireturn, 1) := by decide +kernel
noncomputable def f_X1_kind  (h : Int64) (f : Nat → Int32)  : Option (Int32) := lt (α := Int32) (if (f 9) = 0 then 0 else 1) (fun x1 => if (f 10) = 0 then lt (α := Int32) (if (f 9) = 0 then 12 else 32) (fun x5 => lt (α := Int32) (if (lg_cmp ((h >>> ((((f 11) - 1) - x5).toInt64 &&& 63)) &&& 1) 1) = 0 then (4 + x1) else x1) (fun x9 => some (x9))) else some (2 + x1))
set_option maxHeartbeats 4000000 in
set_option maxRecDepth 100000 in
theorem c_X1_kind (l : Launch) (Λ : LY) (hF : FL Λ) (σ : CS) (i : Nat) (h : Int64) (f : Nat → Int32)  (hii : i < 32) (hr_h : σ.2.1 4 i = h) (hr_f : σ.1 4 i = f) {r9 : Int32} (hf : f_X1_kind h f = some r9) : CM l yX1_kind (.code yX1_kind cX1_kind 3 (some .int) :: TT) ({ frames := 0, cells := 0, slots := 0, locals := 0 }) Λ [.ref (ya Λ 4 i)] σ σ (some (.int r9)) := by
  refine CM_intro (own := RX1) (by decide) rfl (Nat.le_of_ble_eq_true rfl) ?_
  intro Γ hg hl hΓ hE
  subst hg; subst hl
  show GG Γ (0, 0) σ 0 [(0, .ref (ya (gl Γ) 4 i))] []
  unfold f_X1_kind at hf
  refine G_aload_n hΓ 0 dX1_kind_0 rfl ?_
  refine F_get hΓ (t := 4) (i := i) (ci := 4) (C := RX1) (T := TX1) (N := 17) (fs1 (gl Γ) i) (v := .int (f 9)) (FLi hF (t := 4) hii) (fun _ _ _ => rfl) hr_f rfl rfl rfl inW1 9 (by decide) (TT_cons kw_100) rfl dX1_kind_1 ?_
  obtain ⟨x1, he4, hf⟩ := lt_eq hf
  have K2 : GG Γ (0, 0) σ 12 [(0, .ref (ya (gl Γ) 4 i))] [.int x1] := by
    refine G_istore_n hΓ [(1, .int x1), (0, .ref (ya (gl Γ) 4 i))] dX1_kind_12 (by decide) rfl ?_
    refine G_aload_n hΓ 1 dX1_kind_13 rfl ?_
    refine F_get hΓ (t := 4) (i := i) (ci := 4) (C := RX1) (T := TX1) (N := 17) (fs1 (gl Γ) i) (v := .int (f 10)) (FLi hF (t := 4) hii) (fun _ _ _ => rfl) hr_f rfl rfl rfl inW1 10 (by decide) (TT_cons kw_101) rfl dX1_kind_14 ?_
    refine G_if_eq hΓ (tgt := 24) dX1_kind_17 (by decide) (fun hc13 => ?_) (fun hc13 => ?_)
    · rw [if_pos hc13] at hf
      refine G_aload_n hΓ 1 dX1_kind_24 rfl ?_
      refine F_get hΓ (t := 4) (i := i) (ci := 4) (C := RX1) (T := TX1) (N := 17) (fs1 (gl Γ) i) (v := .int (f 9)) (FLi hF (t := 4) hii) (fun _ _ _ => rfl) hr_f rfl rfl rfl inW1 9 (by decide) (TT_cons kw_100) rfl dX1_kind_25 ?_
      obtain ⟨x5, he8, hf⟩ := lt_eq hf
      have K6 : GG Γ (0, 0) σ 38 [(1, .int x1), (0, .ref (ya (gl Γ) 4 i))] [.int x5] := by
        refine G_istore_n hΓ [(2, .int x5), (1, .int x1), (0, .ref (ya (gl Γ) 4 i))] dX1_kind_38 (by decide) rfl ?_
        refine G_aload_n hΓ 2 dX1_kind_39 rfl ?_
        refine F_get hΓ (t := 4) (i := i) (ci := 4) (C := RX1) (T := TX1) (N := 17) (fs1 (gl Γ) i) (v := .long h) (FLi hF (t := 4) hii) (fun _ _ _ => rfl) rfl hr_h rfl rfl inW1 8 (by decide) (TT_cons kw_99) rfl dX1_kind_40 ?_
        refine G_aload_n hΓ 2 dX1_kind_43 rfl ?_
        refine F_get hΓ (t := 4) (i := i) (ci := 4) (C := RX1) (T := TX1) (N := 17) (fs1 (gl Γ) i) (v := .int (f 11)) (FLi hF (t := 4) hii) (fun _ _ _ => rfl) hr_f rfl rfl rfl inW1 11 (by decide) (TT_cons kw_102) rfl dX1_kind_44 ?_
        refine G_iconst (v := 1) hΓ dX1_kind_47 (by decide) ?_
        refine G_isub hΓ dX1_kind_48 ?_
        refine G_iload_n hΓ 0 dX1_kind_49 rfl ?_
        refine G_isub hΓ dX1_kind_50 ?_
        refine G_lshr hΓ dX1_kind_51 ?_
        refine G_lconst (v := 1) hΓ dX1_kind_52 (by decide) ?_
        refine G_land hΓ dX1_kind_53 ?_
        refine G_lconst (v := 1) hΓ dX1_kind_54 (by decide) ?_
        refine G_lcmp hΓ dX1_kind_55 ?_
        obtain ⟨x9, he12, hf⟩ := lt_eq hf
        have K10 : GG Γ (0, 0) σ 66 [(2, .int x5), (1, .int x1), (0, .ref (ya (gl Γ) 4 i))] [.int x9] := by
          cases hf
          exact G_iret hΓ hE dX1_kind_66
        have he := he12
        refine G_if_ne hΓ (tgt := 65) dX1_kind_56 (by decide) (fun hc11 => ?_) (fun hc11 => ?_)
        · rw [if_neg hc11] at he
          refine G_iload_n hΓ 1 dX1_kind_65 rfl ?_
          subst he
          exact K10
        · rw [if_pos hc11] at he
          refine G_iconst (v := 4) hΓ dX1_kind_59 (by decide) ?_
          refine G_iload_n hΓ 1 dX1_kind_60 rfl ?_
          refine G_iadd hΓ dX1_kind_61 ?_
          refine G_goto hΓ (tgt := 66) dX1_kind_62 (by decide) ?_
          subst he
          exact K10
      have he := he8
      refine G_if_eq hΓ (tgt := 36) dX1_kind_28 (by decide) (fun hc7 => ?_) (fun hc7 => ?_)
      · rw [if_pos hc7] at he
        refine G_bipush (v := 12) hΓ dX1_kind_36 (by decide) ?_
        subst he
        exact K6
      · rw [if_neg hc7] at he
        refine G_bipush (v := 32) hΓ dX1_kind_31 (by decide) ?_
        refine G_goto hΓ (tgt := 38) dX1_kind_33 (by decide) ?_
        subst he
        exact K6
    · rw [if_neg hc13] at hf
      refine G_iconst (v := 2) hΓ dX1_kind_20 (by decide) ?_
      refine G_iload_n hΓ 0 dX1_kind_21 rfl ?_
      refine G_iadd hΓ dX1_kind_22 ?_
      cases hf
      exact G_iret hΓ hE dX1_kind_23
  have he := he4
  refine G_if_eq hΓ (tgt := 11) dX1_kind_4 (by decide) (fun hc3 => ?_) (fun hc3 => ?_)
  · rw [if_pos hc3] at he
    refine G_iconst (v := 0) hΓ dX1_kind_11 (by decide) ?_
    subst he
    exact K2
  · rw [if_neg hc3] at he
    refine G_iconst (v := 1) hΓ dX1_kind_7 (by decide) ?_
    refine G_goto hΓ (tgt := 12) dX1_kind_8 (by decide) ?_
    subst he
    exact K2
theorem dX1_code_0 : decode cX1_code 0 = .ok (.aload_n 0, 1) := by decide +kernel
theorem dX1_code_1 : decode cX1_code 1 = .ok (.getfield 44, 3) := by decide +kernel
theorem dX1_code_4 : decode cX1_code 4 = .ok (.l2i, 1) := by decide +kernel
theorem dX1_code_5 : decode cX1_code 5 = .ok (.bipush 15, 2) := by decide +kernel
theorem dX1_code_7 : decode cX1_code 7 = .ok (.iand, 1) := by decide +kernel
theorem dX1_code_8 : decode cX1_code 8 = .ok (.ireturn, 1) := by decide +kernel
noncomputable def f_X1_code  (h : Int64)  : Option (Int32) := some (h.toInt32 &&& 15)
set_option maxHeartbeats 4000000 in
set_option maxRecDepth 100000 in
theorem c_X1_code (l : Launch) (Λ : LY) (hF : FL Λ) (σ : CS) (i : Nat) (h : Int64) (f : Nat → Int32)  (hii : i < 32) (hr_h : σ.2.1 4 i = h) (hr_f : σ.1 4 i = f) {r9 : Int32} (hf : f_X1_code h = some r9) : CM l yX1_code (.code yX1_code cX1_code 1 (some .int) :: TT) ({ frames := 0, cells := 0, slots := 0, locals := 0 }) Λ [.ref (ya Λ 4 i)] σ σ (some (.int r9)) := by
  refine CM_intro (own := RX1) (by decide) rfl (Nat.le_of_ble_eq_true rfl) ?_
  intro Γ hg hl hΓ hE
  subst hg; subst hl
  show GG Γ (0, 0) σ 0 [(0, .ref (ya (gl Γ) 4 i))] []
  unfold f_X1_code at hf
  refine G_aload_n hΓ 0 dX1_code_0 rfl ?_
  refine F_get hΓ (t := 4) (i := i) (ci := 4) (C := RX1) (T := TX1) (N := 17) (fs1 (gl Γ) i) (v := .long h) (FLi hF (t := 4) hii) (fun _ _ _ => rfl) rfl hr_h rfl rfl inW1 8 (by decide) (TT_cons kw_99) rfl dX1_code_1 ?_
  refine G_l2i hΓ dX1_code_4 ?_
  refine G_bipush (v := 15) hΓ dX1_code_5 (by decide) ?_
  refine G_iand hΓ dX1_code_7 ?_
  cases hf
  exact G_iret hΓ hE dX1_code_8
theorem dX1_begin_0 : decode cX1_begin 0 = .ok (.aload_n 0, 1) := by decide +kernel
theorem dX1_begin_1 : decode cX1_begin 1 = .ok (.getfield 12, 3) := by decide +kernel
theorem dX1_begin_4 : decode cX1_begin 4 = .ok (.invokevirtual 22, 3) := by decide +kernel
theorem dX1_begin_7 : decode cX1_begin 7 = .ok (.aload_n 0, 1) := by decide +kernel
theorem dX1_begin_8 : decode cX1_begin 8 = .ok (.iconst 0, 1) := by decide +kernel
theorem dX1_begin_9 : decode cX1_begin 9 = .ok (.putfield 25, 3) := by decide +kernel
theorem dX1_begin_12 : decode cX1_begin 12 = .ok (.aload_n 0, 1) := by decide +kernel
theorem dX1_begin_13 : decode cX1_begin 13 = .ok (.iconst 0, 1) := by decide +kernel
theorem dX1_begin_14 : decode cX1_begin 14 = .ok (.putfield 29, 3) := by decide +kernel
theorem dX1_begin_17 : decode cX1_begin 17 = .ok (.aload_n 0, 1) := by decide +kernel
theorem dX1_begin_18 : decode cX1_begin 18 = .ok (.iconst 1, 1) := by decide +kernel
theorem dX1_begin_19 : decode cX1_begin 19 = .ok (.putfield 32, 3) := by decide +kernel
theorem dX1_begin_22 : decode cX1_begin 22 = .ok (.aload_n 0, 1) := by decide +kernel
theorem dX1_begin_23 : decode cX1_begin 23 = .ok (.iconst 0, 1) := by decide +kernel
theorem dX1_begin_24 : decode cX1_begin 24 = .ok (.putfield 35, 3) := by decide +kernel
theorem dX1_begin_27 : decode cX1_begin 27 = .ok (.aload_n 0, 1) := by decide +kernel
theorem dX1_begin_28 : decode cX1_begin 28 = .ok (.iconst 0, 1) := by decide +kernel
theorem dX1_begin_29 : decode cX1_begin 29 = .ok (.putfield 38, 3) := by decide +kernel
theorem dX1_begin_32 : decode cX1_begin 32 = .ok (.aload_n 0, 1) := by decide +kernel
theorem dX1_begin_33 : decode cX1_begin 33 = .ok (.iconst 0, 1) := by decide +kernel
theorem dX1_begin_34 : decode cX1_begin 34 = .ok (.putfield 41, 3) := by decide +kernel
theorem dX1_begin_37 : decode cX1_begin 37 = .ok (.aload_n 0, 1) := by decide +kernel
theorem dX1_begin_38 : decode cX1_begin 38 = .ok (.lconst 0, 1) := by decide +kernel
theorem dX1_begin_39 : decode cX1_begin 39 = .ok (.putfield 44, 3) := by decide +kernel
theorem dX1_begin_42 : decode cX1_begin 42 = .ok (.aload_n 0, 1) := by decide +kernel
theorem dX1_begin_43 : decode cX1_begin 43 = .ok (.iconst 0, 1) := by decide +kernel
theorem dX1_begin_44 : decode cX1_begin 44 = .ok (.putfield 48, 3) := by decide +kernel
theorem dX1_begin_47 : decode cX1_begin 47 = .ok (.aload_n 0, 1) := by decide +kernel
theorem dX1_begin_48 : decode cX1_begin 48 = .ok (.iconst 0, 1) := by decide +kernel
theorem dX1_begin_49 : decode cX1_begin 49 = .ok (.putfield 52, 3) := by decide +kernel
theorem dX1_begin_52 : decode cX1_begin 52 = .ok (.aload_n 0, 1) := by decide +kernel
theorem dX1_begin_53 : decode cX1_begin 53 = .ok (.bipush 41, 2) := by decide +kernel
theorem dX1_begin_55 : decode cX1_begin 55 = .ok (.putfield 55, 3) := by decide +kernel
theorem dX1_begin_58 : decode cX1_begin 58 = .ok (.aload_n 0, 1) := by decide +kernel
theorem dX1_begin_59 : decode cX1_begin 59 = .ok (.ldc 58, 2) := by decide +kernel
theorem dX1_begin_61 : decode cX1_begin 61 = .ok (.putfield 59, 3) := by decide +kernel
theorem dX1_begin_64 : decode cX1_begin 64 = .ok (.aload_n 0, 1) := by decide +kernel
theorem dX1_begin_65 : decode cX1_begin 65 = .ok (.ldc 58, 2) := by decide +kernel
theorem dX1_begin_67 : decode cX1_begin 67 = .ok (.putfield 62, 3) := by decide +kernel
theorem dX1_begin_70 : decode cX1_begin 70 = .ok (.aload_n 0, 1) := by decide +kernel
theorem dX1_begin_71 : decode cX1_begin 71 = .ok (.iconst 0, 1) := by decide +kernel
theorem dX1_begin_72 : decode cX1_begin 72 = .ok (.putfield 65, 3) := by decide +kernel
theorem dX1_begin_75 : decode cX1_begin 75 = .ok (.aload_n 0, 1) := by decide +kernel
theorem dX1_begin_76 : decode cX1_begin 76 = .ok (.iconst 0, 1) := by decide +kernel
theorem dX1_begin_77 : decode cX1_begin 77 = .ok (.putfield 68, 3) := by decide +kernel
theorem dX1_begin_80 : decode cX1_begin 80 = .ok (.aload_n 0, 1) := by decide +kernel
theorem dX1_begin_81 : decode cX1_begin 81 = .ok (.iconst 0, 1) := by decide +kernel
theorem dX1_begin_82 : decode cX1_begin 82 = .ok (.putfield 71, 3) := by decide +kernel
theorem dX1_begin_85 : decode cX1_begin 85 = .ok (.return_, 1) := by decide +kernel
noncomputable def f_X1_begin  (h : Int64) (f : Nat → Int32) (a : Nat → Int32) (b : Nat → Int32) (c : Nat → Int32)  : Option (Int64 × (Nat → Int32) × (Nat → Int32) × (Nat → Int32) × (Nat → Int32)) := bd (f_X4_begin a b c) (fun ⟨u1, u2, u3⟩ => some (0, (upd (upd (upd (upd (upd (upd (upd (upd (upd (upd (upd (upd (upd (upd f 2 0) 3 0) 4 1) 5 0) 6 0) 7 0) 9 0) 10 0) 11 41) 12 1000000) 13 1000000) 14 0) 15 0) 16 0), u1, u2, u3))
set_option maxHeartbeats 4000000 in
set_option maxRecDepth 100000 in
theorem c_X1_begin (l : Launch) (Λ : LY) (hF : FL Λ) (σ : CS) (i : Nat) (h : Int64) (f : Nat → Int32) (o : Nat → Int32) (a : Nat → Int32) (b : Nat → Int32) (c : Nat → Int32)  (hii : i < 32)  {h' : Int64} {f' : Nat → Int32} {a' : Nat → Int32} {b' : Nat → Int32} {c' : Nat → Int32} (hf : f_X1_begin h f a b c = some (h', f', a', b', c')) : CM l yX1_begin (.code yX1_begin cX1_begin 1 none :: TT) ({ frames := 2, cells := 0, slots := 0, locals := 40 }) Λ [.ref (ya Λ 4 i)] (qLis σ i h f o a b c) (qLis σ i h' f' o a' b' c') (none) := by
  refine CM_intro (own := RX1) (by decide) rfl (Nat.le_of_ble_eq_true rfl) ?_
  intro Γ hg hl hΓ hE
  subst hg; subst hl
  show GG Γ (0, 0) (qLis σ i h f o a b c) 0 [(0, .ref (ya (gl Γ) 4 i))] []
  unfold f_X1_begin at hf
  refine G_aload_n hΓ 0 dX1_begin_0 rfl ?_
  refine F_get hΓ (t := 4) (i := i) (ci := 4) (C := RX1) (T := TX1) (N := 17) (fs1 (gl Γ) i) (v := .ref (ya (gl Γ) 6 i)) (FLi hF (t := 4) hii) (fun _ _ _ => rfl) rfl rfl rfl rfl inW1 0 (by decide) (TT_cons kw_90) rfl dX1_begin_1 ?_
  obtain ⟨⟨u1, u2, u3⟩, hc4, hf⟩ := bd_some hf
  try dsimp only at hf
  refine G_callV hΓ (n := 0) (As := []) (t := 6) (i := i) (ci := 7) (T := TX4) (N := 3) (FS := fs4 (gl Γ) i) (σ' := (qLis σ i h f o u1 u2 u3)) (c_X4_begin (gL Γ) (gl Γ) hF (qLis σ i h f o a b c) i a b c  (Nat.lt_trans hii (by decide)) hc4) qSum_qLis qSum_qLis kw_692 kw_537 kw_538 kw_4 kw_539 ⟨rfl, by decide, by decide, by decide +kernel⟩ (FLi hF (t := 6) (Nat.lt_trans hii (by decide))) (fun _ _ _ => rfl) rfl rfl rfl ⟨Nat.le_of_ble_eq_true rfl, Nat.le_of_ble_eq_true rfl⟩ rfl (Nat.le_of_ble_eq_true rfl) dX1_begin_4 ⟨_, rfl⟩ rfl ?_
  refine G_aload_n hΓ 0 dX1_begin_7 rfl ?_
  refine G_iconst (v := 0) hΓ dX1_begin_8 (by decide) ?_
  refine F_put hΓ (t := 4) (i := i) (ci := 4) (C := RX1) (T := TX1) (N := 17) (fs1 (gl Γ) i) (f := f) (f' := (upd f 2 0)) (σ' := (qLis σ i h (upd f 2 0) o u1 u2 u3)) (ty := .int) (v := .int 0) tyX1 tyX1_ok nmX1 (FLi hF (t := 4) hii) (fun _ _ _ => rfl) qLis_g4 qLis_s4 rfl inW1 2 (by decide) (TT_cons kw_93) rfl (by decide +kernel) rfl rfl (fun _ _ => Nat.le_of_ble_eq_true rfl) (fun _ _ => rfl) dX1_begin_9 ?_
  refine G_aload_n hΓ 0 dX1_begin_12 rfl ?_
  refine G_iconst (v := 0) hΓ dX1_begin_13 (by decide) ?_
  refine F_put hΓ (t := 4) (i := i) (ci := 4) (C := RX1) (T := TX1) (N := 17) (fs1 (gl Γ) i) (f := (upd f 2 0)) (f' := (upd (upd f 2 0) 3 0)) (σ' := (qLis σ i h (upd (upd f 2 0) 3 0) o u1 u2 u3)) (ty := .int) (v := .int 0) tyX1 tyX1_ok nmX1 (FLi hF (t := 4) hii) (fun _ _ _ => rfl) qLis_g4 qLis_s4 rfl inW1 3 (by decide) (TT_cons kw_94) rfl (by decide +kernel) rfl rfl (fun _ _ => Nat.le_of_ble_eq_true rfl) (fun _ _ => rfl) dX1_begin_14 ?_
  refine G_aload_n hΓ 0 dX1_begin_17 rfl ?_
  refine G_iconst (v := 1) hΓ dX1_begin_18 (by decide) ?_
  refine F_put hΓ (t := 4) (i := i) (ci := 4) (C := RX1) (T := TX1) (N := 17) (fs1 (gl Γ) i) (f := (upd (upd f 2 0) 3 0)) (f' := (upd (upd (upd f 2 0) 3 0) 4 1)) (σ' := (qLis σ i h (upd (upd (upd f 2 0) 3 0) 4 1) o u1 u2 u3)) (ty := .int) (v := .int 1) tyX1 tyX1_ok nmX1 (FLi hF (t := 4) hii) (fun _ _ _ => rfl) qLis_g4 qLis_s4 rfl inW1 4 (by decide) (TT_cons kw_95) rfl (by decide +kernel) rfl rfl (fun _ _ => Nat.le_of_ble_eq_true rfl) (fun _ _ => rfl) dX1_begin_19 ?_
  refine G_aload_n hΓ 0 dX1_begin_22 rfl ?_
  refine G_iconst (v := 0) hΓ dX1_begin_23 (by decide) ?_
  refine F_put hΓ (t := 4) (i := i) (ci := 4) (C := RX1) (T := TX1) (N := 17) (fs1 (gl Γ) i) (f := (upd (upd (upd f 2 0) 3 0) 4 1)) (f' := (upd (upd (upd (upd f 2 0) 3 0) 4 1) 5 0)) (σ' := (qLis σ i h (upd (upd (upd (upd f 2 0) 3 0) 4 1) 5 0) o u1 u2 u3)) (ty := .int) (v := .int 0) tyX1 tyX1_ok nmX1 (FLi hF (t := 4) hii) (fun _ _ _ => rfl) qLis_g4 qLis_s4 rfl inW1 5 (by decide) (TT_cons kw_96) rfl (by decide +kernel) rfl rfl (fun _ _ => Nat.le_of_ble_eq_true rfl) (fun _ _ => rfl) dX1_begin_24 ?_
  refine G_aload_n hΓ 0 dX1_begin_27 rfl ?_
  refine G_iconst (v := 0) hΓ dX1_begin_28 (by decide) ?_
  refine F_put hΓ (t := 4) (i := i) (ci := 4) (C := RX1) (T := TX1) (N := 17) (fs1 (gl Γ) i) (f := (upd (upd (upd (upd f 2 0) 3 0) 4 1) 5 0)) (f' := (upd (upd (upd (upd (upd f 2 0) 3 0) 4 1) 5 0) 6 0)) (σ' := (qLis σ i h (upd (upd (upd (upd (upd f 2 0) 3 0) 4 1) 5 0) 6 0) o u1 u2 u3)) (ty := .int) (v := .int 0) tyX1 tyX1_ok nmX1 (FLi hF (t := 4) hii) (fun _ _ _ => rfl) qLis_g4 qLis_s4 rfl inW1 6 (by decide) (TT_cons kw_97) rfl (by decide +kernel) rfl rfl (fun _ _ => Nat.le_of_ble_eq_true rfl) (fun _ _ => rfl) dX1_begin_29 ?_
  refine G_aload_n hΓ 0 dX1_begin_32 rfl ?_
  refine G_iconst (v := 0) hΓ dX1_begin_33 (by decide) ?_
  refine F_put hΓ (t := 4) (i := i) (ci := 4) (C := RX1) (T := TX1) (N := 17) (fs1 (gl Γ) i) (f := (upd (upd (upd (upd (upd f 2 0) 3 0) 4 1) 5 0) 6 0)) (f' := (upd (upd (upd (upd (upd (upd f 2 0) 3 0) 4 1) 5 0) 6 0) 7 0)) (σ' := (qLis σ i h (upd (upd (upd (upd (upd (upd f 2 0) 3 0) 4 1) 5 0) 6 0) 7 0) o u1 u2 u3)) (ty := .int) (v := .int 0) tyX1 tyX1_ok nmX1 (FLi hF (t := 4) hii) (fun _ _ _ => rfl) qLis_g4 qLis_s4 rfl inW1 7 (by decide) (TT_cons kw_98) rfl (by decide +kernel) rfl rfl (fun _ _ => Nat.le_of_ble_eq_true rfl) (fun _ _ => rfl) dX1_begin_34 ?_
  refine G_aload_n hΓ 0 dX1_begin_37 rfl ?_
  refine G_lconst (v := 0) hΓ dX1_begin_38 (by decide) ?_
  refine F_putJ hΓ (t := 4) (i := i) (ci := 4) (C := RX1) (T := TX1) (N := 17) (fs1 (gl Γ) i) (g := h) (g' := 0) (σ' := (qLis σ i 0 (upd (upd (upd (upd (upd (upd f 2 0) 3 0) 4 1) 5 0) 6 0) 7 0) o u1 u2 u3)) (ty := .long) (v := .long 0) tyX1 tyX1_ok nmX1 (FLi hF (t := 4) hii) (fun _ _ _ => rfl) qLis_h qLis_sh rfl inW1 8 (by decide) (TT_cons kw_99) rfl (by decide +kernel) rfl rfl (fun _ _ => Nat.le_of_ble_eq_true rfl) (fun _ _ => rfl) dX1_begin_39 ?_
  refine G_aload_n hΓ 0 dX1_begin_42 rfl ?_
  refine G_iconst (v := 0) hΓ dX1_begin_43 (by decide) ?_
  refine F_put hΓ (t := 4) (i := i) (ci := 4) (C := RX1) (T := TX1) (N := 17) (fs1 (gl Γ) i) (f := (upd (upd (upd (upd (upd (upd f 2 0) 3 0) 4 1) 5 0) 6 0) 7 0)) (f' := (upd (upd (upd (upd (upd (upd (upd f 2 0) 3 0) 4 1) 5 0) 6 0) 7 0) 9 0)) (σ' := (qLis σ i 0 (upd (upd (upd (upd (upd (upd (upd f 2 0) 3 0) 4 1) 5 0) 6 0) 7 0) 9 0) o u1 u2 u3)) (ty := .boolean) (v := .int 0) tyX1 tyX1_ok nmX1 (FLi hF (t := 4) hii) (fun _ _ _ => rfl) qLis_g4 qLis_s4 rfl inW1 9 (by decide) (TT_cons kw_100) rfl (by decide +kernel) rfl (fit_z rfl) (fun _ _ => Nat.le_of_ble_eq_true rfl) (fun _ _ => rfl) dX1_begin_44 ?_
  refine G_aload_n hΓ 0 dX1_begin_47 rfl ?_
  refine G_iconst (v := 0) hΓ dX1_begin_48 (by decide) ?_
  refine F_put hΓ (t := 4) (i := i) (ci := 4) (C := RX1) (T := TX1) (N := 17) (fs1 (gl Γ) i) (f := (upd (upd (upd (upd (upd (upd (upd f 2 0) 3 0) 4 1) 5 0) 6 0) 7 0) 9 0)) (f' := (upd (upd (upd (upd (upd (upd (upd (upd f 2 0) 3 0) 4 1) 5 0) 6 0) 7 0) 9 0) 10 0)) (σ' := (qLis σ i 0 (upd (upd (upd (upd (upd (upd (upd (upd f 2 0) 3 0) 4 1) 5 0) 6 0) 7 0) 9 0) 10 0) o u1 u2 u3)) (ty := .boolean) (v := .int 0) tyX1 tyX1_ok nmX1 (FLi hF (t := 4) hii) (fun _ _ _ => rfl) qLis_g4 qLis_s4 rfl inW1 10 (by decide) (TT_cons kw_101) rfl (by decide +kernel) rfl (fit_z rfl) (fun _ _ => Nat.le_of_ble_eq_true rfl) (fun _ _ => rfl) dX1_begin_49 ?_
  refine G_aload_n hΓ 0 dX1_begin_52 rfl ?_
  refine G_bipush (v := 41) hΓ dX1_begin_53 (by decide) ?_
  refine F_put hΓ (t := 4) (i := i) (ci := 4) (C := RX1) (T := TX1) (N := 17) (fs1 (gl Γ) i) (f := (upd (upd (upd (upd (upd (upd (upd (upd f 2 0) 3 0) 4 1) 5 0) 6 0) 7 0) 9 0) 10 0)) (f' := (upd (upd (upd (upd (upd (upd (upd (upd (upd f 2 0) 3 0) 4 1) 5 0) 6 0) 7 0) 9 0) 10 0) 11 41)) (σ' := (qLis σ i 0 (upd (upd (upd (upd (upd (upd (upd (upd (upd f 2 0) 3 0) 4 1) 5 0) 6 0) 7 0) 9 0) 10 0) 11 41) o u1 u2 u3)) (ty := .int) (v := .int 41) tyX1 tyX1_ok nmX1 (FLi hF (t := 4) hii) (fun _ _ _ => rfl) qLis_g4 qLis_s4 rfl inW1 11 (by decide) (TT_cons kw_102) rfl (by decide +kernel) rfl rfl (fun _ _ => Nat.le_of_ble_eq_true rfl) (fun _ _ => rfl) dX1_begin_55 ?_
  refine G_aload_n hΓ 0 dX1_begin_58 rfl ?_
  refine G_ldc hΓ (v := 1000000) (TT_cons kw_693) dX1_begin_59 ?_
  refine F_put hΓ (t := 4) (i := i) (ci := 4) (C := RX1) (T := TX1) (N := 17) (fs1 (gl Γ) i) (f := (upd (upd (upd (upd (upd (upd (upd (upd (upd f 2 0) 3 0) 4 1) 5 0) 6 0) 7 0) 9 0) 10 0) 11 41)) (f' := (upd (upd (upd (upd (upd (upd (upd (upd (upd (upd f 2 0) 3 0) 4 1) 5 0) 6 0) 7 0) 9 0) 10 0) 11 41) 12 1000000)) (σ' := (qLis σ i 0 (upd (upd (upd (upd (upd (upd (upd (upd (upd (upd f 2 0) 3 0) 4 1) 5 0) 6 0) 7 0) 9 0) 10 0) 11 41) 12 1000000) o u1 u2 u3)) (ty := .int) (v := .int 1000000) tyX1 tyX1_ok nmX1 (FLi hF (t := 4) hii) (fun _ _ _ => rfl) qLis_g4 qLis_s4 rfl inW1 12 (by decide) (TT_cons kw_103) rfl (by decide +kernel) rfl rfl (fun _ _ => Nat.le_of_ble_eq_true rfl) (fun _ _ => rfl) dX1_begin_61 ?_
  refine G_aload_n hΓ 0 dX1_begin_64 rfl ?_
  refine G_ldc hΓ (v := 1000000) (TT_cons kw_693) dX1_begin_65 ?_
  refine F_put hΓ (t := 4) (i := i) (ci := 4) (C := RX1) (T := TX1) (N := 17) (fs1 (gl Γ) i) (f := (upd (upd (upd (upd (upd (upd (upd (upd (upd (upd f 2 0) 3 0) 4 1) 5 0) 6 0) 7 0) 9 0) 10 0) 11 41) 12 1000000)) (f' := (upd (upd (upd (upd (upd (upd (upd (upd (upd (upd (upd f 2 0) 3 0) 4 1) 5 0) 6 0) 7 0) 9 0) 10 0) 11 41) 12 1000000) 13 1000000)) (σ' := (qLis σ i 0 (upd (upd (upd (upd (upd (upd (upd (upd (upd (upd (upd f 2 0) 3 0) 4 1) 5 0) 6 0) 7 0) 9 0) 10 0) 11 41) 12 1000000) 13 1000000) o u1 u2 u3)) (ty := .int) (v := .int 1000000) tyX1 tyX1_ok nmX1 (FLi hF (t := 4) hii) (fun _ _ _ => rfl) qLis_g4 qLis_s4 rfl inW1 13 (by decide) (TT_cons kw_104) rfl (by decide +kernel) rfl rfl (fun _ _ => Nat.le_of_ble_eq_true rfl) (fun _ _ => rfl) dX1_begin_67 ?_
  refine G_aload_n hΓ 0 dX1_begin_70 rfl ?_
  refine G_iconst (v := 0) hΓ dX1_begin_71 (by decide) ?_
  refine F_put hΓ (t := 4) (i := i) (ci := 4) (C := RX1) (T := TX1) (N := 17) (fs1 (gl Γ) i) (f := (upd (upd (upd (upd (upd (upd (upd (upd (upd (upd (upd f 2 0) 3 0) 4 1) 5 0) 6 0) 7 0) 9 0) 10 0) 11 41) 12 1000000) 13 1000000)) (f' := (upd (upd (upd (upd (upd (upd (upd (upd (upd (upd (upd (upd f 2 0) 3 0) 4 1) 5 0) 6 0) 7 0) 9 0) 10 0) 11 41) 12 1000000) 13 1000000) 14 0)) (σ' := (qLis σ i 0 (upd (upd (upd (upd (upd (upd (upd (upd (upd (upd (upd (upd f 2 0) 3 0) 4 1) 5 0) 6 0) 7 0) 9 0) 10 0) 11 41) 12 1000000) 13 1000000) 14 0) o u1 u2 u3)) (ty := .int) (v := .int 0) tyX1 tyX1_ok nmX1 (FLi hF (t := 4) hii) (fun _ _ _ => rfl) qLis_g4 qLis_s4 rfl inW1 14 (by decide) (TT_cons kw_105) rfl (by decide +kernel) rfl rfl (fun _ _ => Nat.le_of_ble_eq_true rfl) (fun _ _ => rfl) dX1_begin_72 ?_
  refine G_aload_n hΓ 0 dX1_begin_75 rfl ?_
  refine G_iconst (v := 0) hΓ dX1_begin_76 (by decide) ?_
  refine F_put hΓ (t := 4) (i := i) (ci := 4) (C := RX1) (T := TX1) (N := 17) (fs1 (gl Γ) i) (f := (upd (upd (upd (upd (upd (upd (upd (upd (upd (upd (upd (upd f 2 0) 3 0) 4 1) 5 0) 6 0) 7 0) 9 0) 10 0) 11 41) 12 1000000) 13 1000000) 14 0)) (f' := (upd (upd (upd (upd (upd (upd (upd (upd (upd (upd (upd (upd (upd f 2 0) 3 0) 4 1) 5 0) 6 0) 7 0) 9 0) 10 0) 11 41) 12 1000000) 13 1000000) 14 0) 15 0)) (σ' := (qLis σ i 0 (upd (upd (upd (upd (upd (upd (upd (upd (upd (upd (upd (upd (upd f 2 0) 3 0) 4 1) 5 0) 6 0) 7 0) 9 0) 10 0) 11 41) 12 1000000) 13 1000000) 14 0) 15 0) o u1 u2 u3)) (ty := .int) (v := .int 0) tyX1 tyX1_ok nmX1 (FLi hF (t := 4) hii) (fun _ _ _ => rfl) qLis_g4 qLis_s4 rfl inW1 15 (by decide) (TT_cons kw_107) rfl (by decide +kernel) rfl rfl (fun _ _ => Nat.le_of_ble_eq_true rfl) (fun _ _ => rfl) dX1_begin_77 ?_
  refine G_aload_n hΓ 0 dX1_begin_80 rfl ?_
  refine G_iconst (v := 0) hΓ dX1_begin_81 (by decide) ?_
  refine F_put hΓ (t := 4) (i := i) (ci := 4) (C := RX1) (T := TX1) (N := 17) (fs1 (gl Γ) i) (f := (upd (upd (upd (upd (upd (upd (upd (upd (upd (upd (upd (upd (upd f 2 0) 3 0) 4 1) 5 0) 6 0) 7 0) 9 0) 10 0) 11 41) 12 1000000) 13 1000000) 14 0) 15 0)) (f' := (upd (upd (upd (upd (upd (upd (upd (upd (upd (upd (upd (upd (upd (upd f 2 0) 3 0) 4 1) 5 0) 6 0) 7 0) 9 0) 10 0) 11 41) 12 1000000) 13 1000000) 14 0) 15 0) 16 0)) (σ' := (qLis σ i 0 (upd (upd (upd (upd (upd (upd (upd (upd (upd (upd (upd (upd (upd (upd f 2 0) 3 0) 4 1) 5 0) 6 0) 7 0) 9 0) 10 0) 11 41) 12 1000000) 13 1000000) 14 0) 15 0) 16 0) o u1 u2 u3)) (ty := .boolean) (v := .int 0) tyX1 tyX1_ok nmX1 (FLi hF (t := 4) hii) (fun _ _ _ => rfl) qLis_g4 qLis_s4 rfl inW1 16 (by decide) (TT_cons kw_108) rfl (by decide +kernel) rfl (fit_z rfl) (fun _ _ => Nat.le_of_ble_eq_true rfl) (fun _ _ => rfl) dX1_begin_82 ?_
  cases hf
  exact G_vret hΓ hE dX1_begin_85
theorem dX1_hearStuffBit_0 : decode cX1_hearStuffBit 0 = .ok (.iload_n 1, 1) := by decide +kernel
theorem dX1_hearStuffBit_1 : decode cX1_hearStuffBit 1 = .ok (.aload_n 0, 1) := by decide +kernel
theorem dX1_hearStuffBit_2 : decode cX1_hearStuffBit 2 = .ok (.getfield 32, 3) := by decide +kernel
theorem dX1_hearStuffBit_5 : decode cX1_hearStuffBit 5 = .ok (.if_icmp .ne 5, 3) := by decide +kernel
theorem dX1_hearStuffBit_8 : decode cX1_hearStuffBit 8 = .ok (.iconst 1, 1) := by decide +kernel
theorem dX1_hearStuffBit_9 : decode cX1_hearStuffBit 9 = .ok (.ireturn, 1) := by decide +kernel
theorem dX1_hearStuffBit_10 : decode cX1_hearStuffBit 10 = .ok (.aload_n 0, 1) := by decide +kernel
theorem dX1_hearStuffBit_11 : decode cX1_hearStuffBit 11 = .ok (.iload_n 1, 1) := by decide +kernel
theorem dX1_hearStuffBit_12 : decode cX1_hearStuffBit 12 = .ok (.putfield 32, 3) := by decide +kernel
theorem dX1_hearStuffBit_15 : decode cX1_hearStuffBit 15 = .ok (.aload_n 0, 1) := by decide +kernel
theorem dX1_hearStuffBit_16 : decode cX1_hearStuffBit 16 = .ok (.iconst 1, 1) := by decide +kernel
theorem dX1_hearStuffBit_17 : decode cX1_hearStuffBit 17 = .ok (.putfield 35, 3) := by decide +kernel
theorem dX1_hearStuffBit_20 : decode cX1_hearStuffBit 20 = .ok (.aload_n 0, 1) := by decide +kernel
theorem dX1_hearStuffBit_21 : decode cX1_hearStuffBit 21 = .ok (.dup, 1) := by decide +kernel
theorem dX1_hearStuffBit_22 : decode cX1_hearStuffBit 22 = .ok (.getfield 38, 3) := by decide +kernel
theorem dX1_hearStuffBit_25 : decode cX1_hearStuffBit 25 = .ok (.iconst 1, 1) := by decide +kernel
theorem dX1_hearStuffBit_26 : decode cX1_hearStuffBit 26 = .ok (.iadd, 1) := by decide +kernel
theorem dX1_hearStuffBit_27 : decode cX1_hearStuffBit 27 = .ok (.putfield 38, 3) := by decide +kernel
theorem dX1_hearStuffBit_30 : decode cX1_hearStuffBit 30 = .ok (.aload_n 0, 1) := by decide +kernel
theorem dX1_hearStuffBit_31 : decode cX1_hearStuffBit 31 = .ok (.getfield 12, 3) := by decide +kernel
theorem dX1_hearStuffBit_34 : decode cX1_hearStuffBit 34 = .ok (.iload_n 1, 1) := by decide +kernel
theorem dX1_hearStuffBit_35 : decode cX1_hearStuffBit 35 = .ok (.invokevirtual 88, 3) := by decide +kernel
theorem dX1_hearStuffBit_38 : decode cX1_hearStuffBit 38 = .ok (.aload_n 0, 1) := by decide +kernel
theorem dX1_hearStuffBit_39 : decode cX1_hearStuffBit 39 = .ok (.getfield 41, 3) := by decide +kernel
theorem dX1_hearStuffBit_42 : decode cX1_hearStuffBit 42 = .ok (.aload_n 0, 1) := by decide +kernel
theorem dX1_hearStuffBit_43 : decode cX1_hearStuffBit 43 = .ok (.getfield 62, 3) := by decide +kernel
theorem dX1_hearStuffBit_46 : decode cX1_hearStuffBit 46 = .ok (.if_icmp .ne 8, 3) := by decide +kernel
theorem dX1_hearStuffBit_49 : decode cX1_hearStuffBit 49 = .ok (.aload_n 0, 1) := by decide +kernel
theorem dX1_hearStuffBit_50 : decode cX1_hearStuffBit 50 = .ok (.iconst 2, 1) := by decide +kernel
theorem dX1_hearStuffBit_51 : decode cX1_hearStuffBit 51 = .ok (.putfield 25, 3) := by decide +kernel
theorem dX1_hearStuffBit_54 : decode cX1_hearStuffBit 54 = .ok (.iconst (-1), 1) := by decide +kernel
theorem dX1_hearStuffBit_55 : decode cX1_hearStuffBit 55 = .ok (.ireturn, 1) := by decide +kernel
noncomputable def f_X1_hearStuffBit  (f : Nat → Int32) (b : Nat → Int32) (c : Nat → Int32) (p1 : Int32) : Option ((Nat → Int32) × (Nat → Int32) × (Nat → Int32) × Int32) := if p1 = (f 4) then some (f, b, c, 1) else bd (f_X4_addOther b c p1) (fun ⟨u1, u2⟩ => jn (α := Nat → Int32) (fun x4 => some (x4, u1, u2, (-1))) (fun k5 => if (f 7) = (f 13) then k5 (upd (upd (upd (upd f 4 p1) 5 1) 6 ((f 6) + 1)) 2 2) else k5 (upd (upd (upd f 4 p1) 5 1) 6 ((f 6) + 1))))
set_option maxHeartbeats 4000000 in
set_option maxRecDepth 100000 in
theorem c_X1_hearStuffBit (l : Launch) (Λ : LY) (hF : FL Λ) (σ : CS) (i : Nat) (h : Int64) (f : Nat → Int32) (o : Nat → Int32) (a : Nat → Int32) (b : Nat → Int32) (c : Nat → Int32) (p1 : Int32) (hii : i < 32)  {f' : Nat → Int32} {b' : Nat → Int32} {c' : Nat → Int32} {r9 : Int32} (hf : f_X1_hearStuffBit f b c p1 = some (f', b', c', r9)) : CM l yX1_hearStuffBit (.code yX1_hearStuffBit cX1_hearStuffBit 2 (some .int) :: TT) ({ frames := 2, cells := 0, slots := 0, locals := 43 }) Λ [.ref (ya Λ 4 i), .int p1] (qLis σ i h f o a b c) (qLis σ i h f' o a b' c') (some (.int r9)) := by
  refine CM_intro (own := RX1) (by decide) rfl (Nat.le_of_ble_eq_true rfl) ?_
  intro Γ hg hl hΓ hE
  subst hg; subst hl
  show GG Γ (0, 0) (qLis σ i h f o a b c) 0 [(0, .ref (ya (gl Γ) 4 i)), (1, .int p1)] []
  unfold f_X1_hearStuffBit at hf
  refine G_iload_n hΓ 1 dX1_hearStuffBit_0 rfl ?_
  refine G_aload_n hΓ 0 dX1_hearStuffBit_1 rfl ?_
  refine F_get hΓ (t := 4) (i := i) (ci := 4) (C := RX1) (T := TX1) (N := 17) (fs1 (gl Γ) i) (v := .int (f 4)) (FLi hF (t := 4) hii) (fun _ _ _ => rfl) qLis_g4 rfl rfl rfl inW1 4 (by decide) (TT_cons kw_95) rfl dX1_hearStuffBit_2 ?_
  refine G_icmp_ne hΓ (tgt := 10) dX1_hearStuffBit_5 (by decide) (fun hc8 => ?_) (fun hc8 => ?_)
  · rw [if_neg hc8] at hf
    refine G_aload_n hΓ 0 dX1_hearStuffBit_10 rfl ?_
    refine G_iload_n hΓ 1 dX1_hearStuffBit_11 rfl ?_
    refine F_put hΓ (t := 4) (i := i) (ci := 4) (C := RX1) (T := TX1) (N := 17) (fs1 (gl Γ) i) (f := f) (f' := (upd f 4 p1)) (σ' := (qLis σ i h (upd f 4 p1) o a b c)) (ty := .int) (v := .int p1) tyX1 tyX1_ok nmX1 (FLi hF (t := 4) hii) (fun _ _ _ => rfl) qLis_g4 qLis_s4 rfl inW1 4 (by decide) (TT_cons kw_95) rfl (by decide +kernel) rfl rfl (fun _ _ => Nat.le_of_ble_eq_true rfl) (fun _ _ => rfl) dX1_hearStuffBit_12 ?_
    refine G_aload_n hΓ 0 dX1_hearStuffBit_15 rfl ?_
    refine G_iconst (v := 1) hΓ dX1_hearStuffBit_16 (by decide) ?_
    refine F_put hΓ (t := 4) (i := i) (ci := 4) (C := RX1) (T := TX1) (N := 17) (fs1 (gl Γ) i) (f := (upd f 4 p1)) (f' := (upd (upd f 4 p1) 5 1)) (σ' := (qLis σ i h (upd (upd f 4 p1) 5 1) o a b c)) (ty := .int) (v := .int 1) tyX1 tyX1_ok nmX1 (FLi hF (t := 4) hii) (fun _ _ _ => rfl) qLis_g4 qLis_s4 rfl inW1 5 (by decide) (TT_cons kw_96) rfl (by decide +kernel) rfl rfl (fun _ _ => Nat.le_of_ble_eq_true rfl) (fun _ _ => rfl) dX1_hearStuffBit_17 ?_
    refine G_aload_n hΓ 0 dX1_hearStuffBit_20 rfl ?_
    refine G_dup hΓ dX1_hearStuffBit_21 rfl ?_
    refine F_get hΓ (t := 4) (i := i) (ci := 4) (C := RX1) (T := TX1) (N := 17) (fs1 (gl Γ) i) (v := .int (f 6)) (FLi hF (t := 4) hii) (fun _ _ _ => rfl) qLis_g4 rfl rfl rfl inW1 6 (by decide) (TT_cons kw_97) rfl dX1_hearStuffBit_22 ?_
    refine G_iconst (v := 1) hΓ dX1_hearStuffBit_25 (by decide) ?_
    refine G_iadd hΓ dX1_hearStuffBit_26 ?_
    refine F_put hΓ (t := 4) (i := i) (ci := 4) (C := RX1) (T := TX1) (N := 17) (fs1 (gl Γ) i) (f := (upd (upd f 4 p1) 5 1)) (f' := (upd (upd (upd f 4 p1) 5 1) 6 ((f 6) + 1))) (σ' := (qLis σ i h (upd (upd (upd f 4 p1) 5 1) 6 ((f 6) + 1)) o a b c)) (ty := .int) (v := .int ((f 6) + 1)) tyX1 tyX1_ok nmX1 (FLi hF (t := 4) hii) (fun _ _ _ => rfl) qLis_g4 qLis_s4 rfl inW1 6 (by decide) (TT_cons kw_97) rfl (by decide +kernel) rfl rfl (fun _ _ => Nat.le_of_ble_eq_true rfl) (fun _ _ => rfl) dX1_hearStuffBit_27 ?_
    refine G_aload_n hΓ 0 dX1_hearStuffBit_30 rfl ?_
    refine F_get hΓ (t := 4) (i := i) (ci := 4) (C := RX1) (T := TX1) (N := 17) (fs1 (gl Γ) i) (v := .ref (ya (gl Γ) 6 i)) (FLi hF (t := 4) hii) (fun _ _ _ => rfl) rfl rfl rfl rfl inW1 0 (by decide) (TT_cons kw_90) rfl dX1_hearStuffBit_31 ?_
    refine G_iload_n hΓ 1 dX1_hearStuffBit_34 rfl ?_
    obtain ⟨⟨u1, u2⟩, hc3, hf⟩ := bd_some hf
    try dsimp only at hf
    refine G_callV hΓ (n := 1) (As := [.int p1]) (t := 6) (i := i) (ci := 7) (T := TX4) (N := 3) (FS := fs4 (gl Γ) i) (σ' := (qLis σ i h (upd (upd (upd f 4 p1) 5 1) 6 ((f 6) + 1)) o a u1 u2)) (c_X4_addOther (gL Γ) (gl Γ) hF (qLis σ i h (upd (upd (upd f 4 p1) 5 1) 6 ((f 6) + 1)) o a b c) i a b c p1 (Nat.lt_trans hii (by decide)) hc3) qSum_qLis qSum_qLis kw_706 kw_556 kw_557 kw_4 kw_558 ⟨rfl, by decide, by decide, by decide +kernel⟩ (FLi hF (t := 6) (Nat.lt_trans hii (by decide))) (fun _ _ _ => rfl) rfl rfl rfl ⟨Nat.le_of_ble_eq_true rfl, Nat.le_of_ble_eq_true rfl⟩ rfl (Nat.le_of_ble_eq_true rfl) dX1_hearStuffBit_35 ⟨_, rfl⟩ rfl ?_
    refine G_aload_n hΓ 0 dX1_hearStuffBit_38 rfl ?_
    refine F_get hΓ (t := 4) (i := i) (ci := 4) (C := RX1) (T := TX1) (N := 17) (fs1 (gl Γ) i) (v := .int (f 7)) (FLi hF (t := 4) hii) (fun _ _ _ => rfl) qLis_g4 rfl rfl rfl inW1 7 (by decide) (TT_cons kw_98) rfl dX1_hearStuffBit_39 ?_
    refine G_aload_n hΓ 0 dX1_hearStuffBit_42 rfl ?_
    refine F_get hΓ (t := 4) (i := i) (ci := 4) (C := RX1) (T := TX1) (N := 17) (fs1 (gl Γ) i) (v := .int (f 13)) (FLi hF (t := 4) hii) (fun _ _ _ => rfl) qLis_g4 rfl rfl rfl inW1 13 (by decide) (TT_cons kw_104) rfl dX1_hearStuffBit_43 ?_
    obtain ⟨k5, hk_k5, hf⟩ := jn_eq hf
    try dsimp only at hf
    have K6 : ∀ x4, k5 x4 = some (f', b', c', r9) → GG Γ (0, 0) (qLis σ i h x4 o a u1 u2) 54 [(0, .ref (ya (gl Γ) 4 i)), (1, .int p1)] [] := by
      intro x4 hf
      subst hk_k5
      try dsimp only at hf
      refine G_iconst (v := (-1)) hΓ dX1_hearStuffBit_54 (by decide) ?_
      cases hf
      exact G_iret hΓ hE dX1_hearStuffBit_55
    clear hk_k5
    refine G_icmp_ne hΓ (tgt := 54) dX1_hearStuffBit_46 (by decide) (fun hc7 => ?_) (fun hc7 => ?_)
    · rw [if_neg hc7] at hf
      exact K6 _ hf
    · rw [if_pos hc7] at hf
      refine G_aload_n hΓ 0 dX1_hearStuffBit_49 rfl ?_
      refine G_iconst (v := 2) hΓ dX1_hearStuffBit_50 (by decide) ?_
      refine F_put hΓ (t := 4) (i := i) (ci := 4) (C := RX1) (T := TX1) (N := 17) (fs1 (gl Γ) i) (f := (upd (upd (upd f 4 p1) 5 1) 6 ((f 6) + 1))) (f' := (upd (upd (upd (upd f 4 p1) 5 1) 6 ((f 6) + 1)) 2 2)) (σ' := (qLis σ i h (upd (upd (upd (upd f 4 p1) 5 1) 6 ((f 6) + 1)) 2 2) o a u1 u2)) (ty := .int) (v := .int 2) tyX1 tyX1_ok nmX1 (FLi hF (t := 4) hii) (fun _ _ _ => rfl) qLis_g4 qLis_s4 rfl inW1 2 (by decide) (TT_cons kw_93) rfl (by decide +kernel) rfl rfl (fun _ _ => Nat.le_of_ble_eq_true rfl) (fun _ _ => rfl) dX1_hearStuffBit_51 ?_
      exact K6 _ hf
  · rw [if_pos hc8] at hf
    refine G_iconst (v := 1) hΓ dX1_hearStuffBit_8 (by decide) ?_
    cases hf
    exact G_iret hΓ hE dX1_hearStuffBit_9
theorem dX1_hearHead_0 : decode cX1_hearHead 0 = .ok (.aload_n 0, 1) := by decide +kernel
theorem dX1_hearHead_1 : decode cX1_hearHead 1 = .ok (.aload_n 0, 1) := by decide +kernel
theorem dX1_hearHead_2 : decode cX1_hearHead 2 = .ok (.getfield 44, 3) := by decide +kernel
theorem dX1_hearHead_5 : decode cX1_hearHead 5 = .ok (.iconst 1, 1) := by decide +kernel
theorem dX1_hearHead_6 : decode cX1_hearHead 6 = .ok (.lshl, 1) := by decide +kernel
theorem dX1_hearHead_7 : decode cX1_hearHead 7 = .ok (.iload_n 2, 1) := by decide +kernel
theorem dX1_hearHead_8 : decode cX1_hearHead 8 = .ok (.i2l, 1) := by decide +kernel
theorem dX1_hearHead_9 : decode cX1_hearHead 9 = .ok (.lor, 1) := by decide +kernel
theorem dX1_hearHead_10 : decode cX1_hearHead 10 = .ok (.putfield 44, 3) := by decide +kernel
theorem dX1_hearHead_13 : decode cX1_hearHead 13 = .ok (.iload_n 1, 1) := by decide +kernel
theorem dX1_hearHead_14 : decode cX1_hearHead 14 = .ok (.bipush 13, 2) := by decide +kernel
theorem dX1_hearHead_16 : decode cX1_hearHead 16 = .ok (.if_icmp .ne 17, 3) := by decide +kernel
theorem dX1_hearHead_19 : decode cX1_hearHead 19 = .ok (.aload_n 0, 1) := by decide +kernel
theorem dX1_hearHead_20 : decode cX1_hearHead 20 = .ok (.iload_n 2, 1) := by decide +kernel
theorem dX1_hearHead_21 : decode cX1_hearHead 21 = .ok (.iconst 1, 1) := by decide +kernel
theorem dX1_hearHead_22 : decode cX1_hearHead 22 = .ok (.if_icmp .ne 7, 3) := by decide +kernel
theorem dX1_hearHead_25 : decode cX1_hearHead 25 = .ok (.iconst 1, 1) := by decide +kernel
theorem dX1_hearHead_26 : decode cX1_hearHead 26 = .ok (.goto 4, 3) := by decide +kernel
theorem dX1_hearHead_29 : decode cX1_hearHead 29 = .ok (.iconst 0, 1) := by decide +kernel
theorem dX1_hearHead_30 : decode cX1_hearHead 30 = .ok (.putfield 48, 3) := by decide +kernel
theorem dX1_hearHead_33 : decode cX1_hearHead 33 = .ok (.iload_n 1, 1) := by decide +kernel
theorem dX1_hearHead_34 : decode cX1_hearHead 34 = .ok (.aload_n 0, 1) := by decide +kernel
theorem dX1_hearHead_35 : decode cX1_hearHead 35 = .ok (.getfield 48, 3) := by decide +kernel
theorem dX1_hearHead_38 : decode cX1_hearHead 38 = .ok (.ifCond .eq 8, 3) := by decide +kernel
theorem dX1_hearHead_41 : decode cX1_hearHead 41 = .ok (.bipush 33, 2) := by decide +kernel
theorem dX1_hearHead_43 : decode cX1_hearHead 43 = .ok (.goto 5, 3) := by decide +kernel
theorem dX1_hearHead_46 : decode cX1_hearHead 46 = .ok (.bipush 14, 2) := by decide +kernel
theorem dX1_hearHead_48 : decode cX1_hearHead 48 = .ok (.if_icmp .ne 32, 3) := by decide +kernel
theorem dX1_hearHead_51 : decode cX1_hearHead 51 = .ok (.aload_n 0, 1) := by decide +kernel
theorem dX1_hearHead_52 : decode cX1_hearHead 52 = .ok (.iload_n 2, 1) := by decide +kernel
theorem dX1_hearHead_53 : decode cX1_hearHead 53 = .ok (.iconst 1, 1) := by decide +kernel
theorem dX1_hearHead_54 : decode cX1_hearHead 54 = .ok (.if_icmp .ne 7, 3) := by decide +kernel
theorem dX1_hearHead_57 : decode cX1_hearHead 57 = .ok (.iconst 1, 1) := by decide +kernel
theorem dX1_hearHead_58 : decode cX1_hearHead 58 = .ok (.goto 4, 3) := by decide +kernel
theorem dX1_hearHead_61 : decode cX1_hearHead 61 = .ok (.iconst 0, 1) := by decide +kernel
theorem dX1_hearHead_62 : decode cX1_hearHead 62 = .ok (.putfield 52, 3) := by decide +kernel
theorem dX1_hearHead_65 : decode cX1_hearHead 65 = .ok (.aload_n 0, 1) := by decide +kernel
theorem dX1_hearHead_66 : decode cX1_hearHead 66 = .ok (.aload_n 0, 1) := by decide +kernel
theorem dX1_hearHead_67 : decode cX1_hearHead 67 = .ok (.getfield 48, 3) := by decide +kernel
theorem dX1_hearHead_70 : decode cX1_hearHead 70 = .ok (.aload_n 0, 1) := by decide +kernel
theorem dX1_hearHead_71 : decode cX1_hearHead 71 = .ok (.getfield 52, 3) := by decide +kernel
theorem dX1_hearHead_74 : decode cX1_hearHead 74 = .ok (.invokestatic 105, 3) := by decide +kernel
theorem dX1_hearHead_77 : decode cX1_hearHead 77 = .ok (.putfield 55, 3) := by decide +kernel
theorem dX1_hearHead_80 : decode cX1_hearHead 80 = .ok (.iload_n 1, 1) := by decide +kernel
theorem dX1_hearHead_81 : decode cX1_hearHead 81 = .ok (.aload_n 0, 1) := by decide +kernel
theorem dX1_hearHead_82 : decode cX1_hearHead 82 = .ok (.getfield 55, 3) := by decide +kernel
theorem dX1_hearHead_85 : decode cX1_hearHead 85 = .ok (.iconst 1, 1) := by decide +kernel
theorem dX1_hearHead_86 : decode cX1_hearHead 86 = .ok (.isub, 1) := by decide +kernel
theorem dX1_hearHead_87 : decode cX1_hearHead 87 = .ok (.if_icmp .ne 59, 3) := by decide +kernel
theorem dX1_hearHead_90 : decode cX1_hearHead 90 = .ok (.aload_n 0, 1) := by decide +kernel
theorem dX1_hearHead_91 : decode cX1_hearHead 91 = .ok (.aload_n 0, 1) := by decide +kernel
theorem dX1_hearHead_92 : decode cX1_hearHead 92 = .ok (.invokevirtual 109, 3) := by decide +kernel
theorem dX1_hearHead_95 : decode cX1_hearHead 95 = .ok (.aload_n 0, 1) := by decide +kernel
theorem dX1_hearHead_96 : decode cX1_hearHead 96 = .ok (.invokevirtual 113, 3) := by decide +kernel
theorem dX1_hearHead_99 : decode cX1_hearHead 99 = .ok (.invokestatic 116, 3) := by decide +kernel
theorem dX1_hearHead_102 : decode cX1_hearHead 102 = .ok (.putfield 65, 3) := by decide +kernel
theorem dX1_hearHead_105 : decode cX1_hearHead 105 = .ok (.aload_n 0, 1) := by decide +kernel
theorem dX1_hearHead_106 : decode cX1_hearHead 106 = .ok (.aload_n 0, 1) := by decide +kernel
theorem dX1_hearHead_107 : decode cX1_hearHead 107 = .ok (.getfield 55, 3) := by decide +kernel
theorem dX1_hearHead_110 : decode cX1_hearHead 110 = .ok (.bipush 8, 2) := by decide +kernel
theorem dX1_hearHead_112 : decode cX1_hearHead 112 = .ok (.aload_n 0, 1) := by decide +kernel
theorem dX1_hearHead_113 : decode cX1_hearHead 113 = .ok (.getfield 65, 3) := by decide +kernel
theorem dX1_hearHead_116 : decode cX1_hearHead 116 = .ok (.imul, 1) := by decide +kernel
theorem dX1_hearHead_117 : decode cX1_hearHead 117 = .ok (.iadd, 1) := by decide +kernel
theorem dX1_hearHead_118 : decode cX1_hearHead 118 = .ok (.putfield 59, 3) := by decide +kernel
theorem dX1_hearHead_121 : decode cX1_hearHead 121 = .ok (.aload_n 0, 1) := by decide +kernel
theorem dX1_hearHead_122 : decode cX1_hearHead 122 = .ok (.aload_n 0, 1) := by decide +kernel
theorem dX1_hearHead_123 : decode cX1_hearHead 123 = .ok (.getfield 52, 3) := by decide +kernel
theorem dX1_hearHead_126 : decode cX1_hearHead 126 = .ok (.ifCond .eq 10, 3) := by decide +kernel
theorem dX1_hearHead_129 : decode cX1_hearHead 129 = .ok (.aload_n 0, 1) := by decide +kernel
theorem dX1_hearHead_130 : decode cX1_hearHead 130 = .ok (.getfield 59, 3) := by decide +kernel
theorem dX1_hearHead_133 : decode cX1_hearHead 133 = .ok (.goto 10, 3) := by decide +kernel
theorem dX1_hearHead_136 : decode cX1_hearHead 136 = .ok (.aload_n 0, 1) := by decide +kernel
theorem dX1_hearHead_137 : decode cX1_hearHead 137 = .ok (.getfield 59, 3) := by decide +kernel
theorem dX1_hearHead_140 : decode cX1_hearHead 140 = .ok (.bipush 15, 2) := by decide +kernel
theorem dX1_hearHead_142 : decode cX1_hearHead 142 = .ok (.iadd, 1) := by decide +kernel
theorem dX1_hearHead_143 : decode cX1_hearHead 143 = .ok (.putfield 62, 3) := by decide +kernel
theorem dX1_hearHead_146 : decode cX1_hearHead 146 = .ok (.return_, 1) := by decide +kernel
noncomputable def f_X1_hearHead  (h : Int64) (f : Nat → Int32) (p1 : Int32) (p2 : Int32) : Option (Int64 × (Nat → Int32)) := lt (α := Int64) ((h <<< ((1 : Int32).toInt64 &&& 63)) ||| p2.toInt64) (fun q1 => jn (α := Nat → Int32) (fun x2 => lt (α := Int32) (if (x2 9) = 0 then 14 else 33) (fun x5 => jn (α := Nat → Int32) (fun x9 => jn (α := Nat → Int32) (fun x12 => some (q1, x12)) (fun k13 => if p1 = ((x9 11) - 1) then bd (f_X1_kind q1 x9) (fun u15 => bd (f_X1_code q1) (fun u17 => bd (f_X7_octetsOf u15 u17) (fun u19 => lt (α := Int32) (if (x9 10) = 0 then (((x9 11) + (8 * u19)) + 15) else ((x9 11) + (8 * u19))) (fun x21 => k13 (upd (upd (upd x9 14 u19) 12 ((x9 11) + (8 * u19))) 13 x21))))) else k13 x9)) (fun k10 => if p1 = x5 then lt (α := Int32) (if p2 = 1 then 1 else 0) (fun x26 => bd (f_X7_headLength (x2 9) x26) (fun u30 => k10 (upd (upd x2 10 x26) 11 u30))) else k10 x2))) (fun k3 => if p1 = 13 then lt (α := Int32) (if p2 = 1 then 1 else 0) (fun x33 => k3 (upd f 9 x33)) else k3 f))
set_option maxHeartbeats 4000000 in
set_option maxRecDepth 100000 in
theorem c_X1_hearHead (l : Launch) (Λ : LY) (hF : FL Λ) (σ : CS) (i : Nat) (h : Int64) (f : Nat → Int32) (o : Nat → Int32) (a : Nat → Int32) (b : Nat → Int32) (c : Nat → Int32) (p1 : Int32) (p2 : Int32) (hii : i < 32)  {h' : Int64} {f' : Nat → Int32} (hf : f_X1_hearHead h f p1 p2 = some (h', f')) : CM l yX1_hearHead (.code yX1_hearHead cX1_hearHead 3 none :: TT) ({ frames := 1, cells := 0, slots := 0, locals := 22 }) Λ [.ref (ya Λ 4 i), .int p1, .int p2] (qLis σ i h f o a b c) (qLis σ i h' f' o a b c) (none) := by
  refine CM_intro (own := RX1) (by decide) rfl (Nat.le_of_ble_eq_true rfl) ?_
  intro Γ hg hl hΓ hE
  subst hg; subst hl
  show GG Γ (0, 0) (qLis σ i h f o a b c) 0 [(0, .ref (ya (gl Γ) 4 i)), (1, .int p1), (2, .int p2)] []
  unfold f_X1_hearHead at hf
  refine G_aload_n hΓ 0 dX1_hearHead_0 rfl ?_
  refine G_aload_n hΓ 0 dX1_hearHead_1 rfl ?_
  refine F_get hΓ (t := 4) (i := i) (ci := 4) (C := RX1) (T := TX1) (N := 17) (fs1 (gl Γ) i) (v := .long h) (FLi hF (t := 4) hii) (fun _ _ _ => rfl) rfl qLis_h rfl rfl inW1 8 (by decide) (TT_cons kw_99) rfl dX1_hearHead_2 ?_
  refine G_iconst (v := 1) hΓ dX1_hearHead_5 (by decide) ?_
  refine G_lshl hΓ dX1_hearHead_6 ?_
  refine G_iload_n hΓ 2 dX1_hearHead_7 rfl ?_
  refine G_i2l hΓ dX1_hearHead_8 ?_
  refine G_lor hΓ dX1_hearHead_9 ?_
  obtain ⟨q1, hv_q1, hf⟩ := lt_eq hf
  refine G_topl hv_q1 ?_
  refine F_putJ hΓ (t := 4) (i := i) (ci := 4) (C := RX1) (T := TX1) (N := 17) (fs1 (gl Γ) i) (g := h) (g' := q1) (σ' := (qLis σ i q1 f o a b c)) (ty := .long) (v := .long q1) tyX1 tyX1_ok nmX1 (FLi hF (t := 4) hii) (fun _ _ _ => rfl) qLis_h qLis_sh rfl inW1 8 (by decide) (TT_cons kw_99) rfl (by decide +kernel) rfl rfl (fun _ _ => Nat.le_of_ble_eq_true rfl) (fun _ _ => rfl) dX1_hearHead_10 ?_
  refine G_iload_n hΓ 1 dX1_hearHead_13 rfl ?_
  refine G_bipush (v := 13) hΓ dX1_hearHead_14 (by decide) ?_
  obtain ⟨k3, hk_k3, hf⟩ := jn_eq hf
  try dsimp only at hf
  have K4 : ∀ x2, k3 x2 = some (h', f') → GG Γ (0, 0) (qLis σ i q1 x2 o a b c) 33 [(0, .ref (ya (gl Γ) 4 i)), (1, .int p1), (2, .int p2)] [] := by
    intro x2 hf
    subst hk_k3
    try dsimp only at hf
    refine G_iload_n hΓ 1 dX1_hearHead_33 rfl ?_
    refine G_aload_n hΓ 0 dX1_hearHead_34 rfl ?_
    refine F_get hΓ (t := 4) (i := i) (ci := 4) (C := RX1) (T := TX1) (N := 17) (fs1 (gl Γ) i) (v := .int (x2 9)) (FLi hF (t := 4) hii) (fun _ _ _ => rfl) qLis_g4 rfl rfl rfl inW1 9 (by decide) (TT_cons kw_100) rfl dX1_hearHead_35 ?_
    obtain ⟨x5, he8, hf⟩ := lt_eq hf
    have K6 : GG Γ (0, 0) (qLis σ i q1 x2 o a b c) 48 [(0, .ref (ya (gl Γ) 4 i)), (1, .int p1), (2, .int p2)] [.int x5, .int p1] := by
      obtain ⟨k10, hk_k10, hf⟩ := jn_eq hf
      try dsimp only at hf
      have K11 : ∀ x9, k10 x9 = some (h', f') → GG Γ (0, 0) (qLis σ i q1 x9 o a b c) 80 [(0, .ref (ya (gl Γ) 4 i)), (1, .int p1), (2, .int p2)] [] := by
        intro x9 hf
        subst hk_k10
        try dsimp only at hf
        refine G_iload_n hΓ 1 dX1_hearHead_80 rfl ?_
        refine G_aload_n hΓ 0 dX1_hearHead_81 rfl ?_
        refine F_get hΓ (t := 4) (i := i) (ci := 4) (C := RX1) (T := TX1) (N := 17) (fs1 (gl Γ) i) (v := .int (x9 11)) (FLi hF (t := 4) hii) (fun _ _ _ => rfl) qLis_g4 rfl rfl rfl inW1 11 (by decide) (TT_cons kw_102) rfl dX1_hearHead_82 ?_
        refine G_iconst (v := 1) hΓ dX1_hearHead_85 (by decide) ?_
        refine G_isub hΓ dX1_hearHead_86 ?_
        obtain ⟨k13, hk_k13, hf⟩ := jn_eq hf
        try dsimp only at hf
        have K14 : ∀ x12, k13 x12 = some (h', f') → GG Γ (0, 0) (qLis σ i q1 x12 o a b c) 146 [(0, .ref (ya (gl Γ) 4 i)), (1, .int p1), (2, .int p2)] [] := by
          intro x12 hf
          subst hk_k13
          try dsimp only at hf
          cases hf
          exact G_vret hΓ hE dX1_hearHead_146
        clear hk_k13
        refine G_icmp_ne hΓ (tgt := 146) dX1_hearHead_87 (by decide) (fun hc25 => ?_) (fun hc25 => ?_)
        · rw [if_neg hc25] at hf
          exact K14 _ hf
        · rw [if_pos hc25] at hf
          refine G_aload_n hΓ 0 dX1_hearHead_90 rfl ?_
          refine G_aload_n hΓ 0 dX1_hearHead_91 rfl ?_
          obtain ⟨u15, hc16, hf⟩ := bd_some hf
          refine G_callV hΓ (n := 0) (As := []) (t := 4) (i := i) (ci := 4) (T := TX1) (N := 17) (FS := fs1 (gl Γ) i) (σ' := (qLis σ i q1 x9 o a b c)) (c_X1_kind (gL Γ) (gl Γ) hF (qLis σ i q1 x9 o a b c) i q1 x9  hii qLis_h qLis_g4 hc16) rfl rfl kw_728 kw_729 kw_730 kw_3 kw_731 ⟨rfl, by decide, by decide, by decide +kernel⟩ (FLi hF (t := 4) hii) (fun _ _ _ => rfl) rfl rfl rfl ⟨Nat.le_of_ble_eq_true rfl, Nat.le_of_ble_eq_true rfl⟩ rfl (Nat.le_of_ble_eq_true rfl) dX1_hearHead_92 ⟨_, rfl⟩ rfl ?_
          refine G_aload_n hΓ 0 dX1_hearHead_95 rfl ?_
          obtain ⟨u17, hc18, hf⟩ := bd_some hf
          refine G_callV hΓ (n := 0) (As := []) (t := 4) (i := i) (ci := 4) (T := TX1) (N := 17) (FS := fs1 (gl Γ) i) (σ' := (qLis σ i q1 x9 o a b c)) (c_X1_code (gL Γ) (gl Γ) hF (qLis σ i q1 x9 o a b c) i q1 x9  hii qLis_h qLis_g4 hc18) rfl rfl kw_732 kw_733 kw_734 kw_3 kw_735 ⟨rfl, by decide, by decide, by decide +kernel⟩ (FLi hF (t := 4) hii) (fun _ _ _ => rfl) rfl rfl rfl ⟨Nat.le_of_ble_eq_true rfl, Nat.le_of_ble_eq_true rfl⟩ rfl (Nat.le_of_ble_eq_true rfl) dX1_hearHead_96 ⟨_, rfl⟩ rfl ?_
          obtain ⟨u19, hc20, hf⟩ := bd_some hf
          refine G_callSN hΓ (n := 2) (As := [.int u15, .int u17]) (σ' := (qLis σ i q1 x9 o a b c)) (c_X7_octetsOf (gL Γ) (gl Γ) hF (qLis σ i q1 x9 o a b c)   u15 u17  hc20) rfl rfl 13 (host := "CanBits") rfl kw_505 kw_1 kw_506 ⟨by decide, by decide, by decide +kernel⟩ rfl rfl ⟨Nat.le_of_ble_eq_true rfl, Nat.le_of_ble_eq_true rfl⟩ rfl (Nat.le_of_ble_eq_true rfl) dX1_hearHead_99 ⟨_, rfl⟩ rfl ?_
          refine F_put hΓ (t := 4) (i := i) (ci := 4) (C := RX1) (T := TX1) (N := 17) (fs1 (gl Γ) i) (f := x9) (f' := (upd x9 14 u19)) (σ' := (qLis σ i q1 (upd x9 14 u19) o a b c)) (ty := .int) (v := .int u19) tyX1 tyX1_ok nmX1 (FLi hF (t := 4) hii) (fun _ _ _ => rfl) qLis_g4 qLis_s4 rfl inW1 14 (by decide) (TT_cons kw_105) rfl (by decide +kernel) rfl rfl (fun _ _ => Nat.le_of_ble_eq_true rfl) (fun _ _ => rfl) dX1_hearHead_102 ?_
          refine G_aload_n hΓ 0 dX1_hearHead_105 rfl ?_
          refine G_aload_n hΓ 0 dX1_hearHead_106 rfl ?_
          refine F_get hΓ (t := 4) (i := i) (ci := 4) (C := RX1) (T := TX1) (N := 17) (fs1 (gl Γ) i) (v := .int (x9 11)) (FLi hF (t := 4) hii) (fun _ _ _ => rfl) qLis_g4 rfl rfl rfl inW1 11 (by decide) (TT_cons kw_102) rfl dX1_hearHead_107 ?_
          refine G_bipush (v := 8) hΓ dX1_hearHead_110 (by decide) ?_
          refine G_aload_n hΓ 0 dX1_hearHead_112 rfl ?_
          refine F_get hΓ (t := 4) (i := i) (ci := 4) (C := RX1) (T := TX1) (N := 17) (fs1 (gl Γ) i) (v := .int u19) (FLi hF (t := 4) hii) (fun _ _ _ => rfl) qLis_g4 rfl rfl rfl inW1 14 (by decide) (TT_cons kw_105) rfl dX1_hearHead_113 ?_
          refine G_imul hΓ dX1_hearHead_116 ?_
          refine G_iadd hΓ dX1_hearHead_117 ?_
          refine F_put hΓ (t := 4) (i := i) (ci := 4) (C := RX1) (T := TX1) (N := 17) (fs1 (gl Γ) i) (f := (upd x9 14 u19)) (f' := (upd (upd x9 14 u19) 12 ((x9 11) + (8 * u19)))) (σ' := (qLis σ i q1 (upd (upd x9 14 u19) 12 ((x9 11) + (8 * u19))) o a b c)) (ty := .int) (v := .int ((x9 11) + (8 * u19))) tyX1 tyX1_ok nmX1 (FLi hF (t := 4) hii) (fun _ _ _ => rfl) qLis_g4 qLis_s4 rfl inW1 12 (by decide) (TT_cons kw_103) rfl (by decide +kernel) rfl rfl (fun _ _ => Nat.le_of_ble_eq_true rfl) (fun _ _ => rfl) dX1_hearHead_118 ?_
          refine G_aload_n hΓ 0 dX1_hearHead_121 rfl ?_
          refine G_aload_n hΓ 0 dX1_hearHead_122 rfl ?_
          refine F_get hΓ (t := 4) (i := i) (ci := 4) (C := RX1) (T := TX1) (N := 17) (fs1 (gl Γ) i) (v := .int (x9 10)) (FLi hF (t := 4) hii) (fun _ _ _ => rfl) qLis_g4 rfl rfl rfl inW1 10 (by decide) (TT_cons kw_101) rfl dX1_hearHead_123 ?_
          obtain ⟨x21, he24, hf⟩ := lt_eq hf
          have K22 : GG Γ (0, 0) (qLis σ i q1 (upd (upd x9 14 u19) 12 ((x9 11) + (8 * u19))) o a b c) 143 [(0, .ref (ya (gl Γ) 4 i)), (1, .int p1), (2, .int p2)] [.int x21, .ref (ya (gl Γ) 4 i)] := by
            refine F_put hΓ (t := 4) (i := i) (ci := 4) (C := RX1) (T := TX1) (N := 17) (fs1 (gl Γ) i) (f := (upd (upd x9 14 u19) 12 ((x9 11) + (8 * u19)))) (f' := (upd (upd (upd x9 14 u19) 12 ((x9 11) + (8 * u19))) 13 x21)) (σ' := (qLis σ i q1 (upd (upd (upd x9 14 u19) 12 ((x9 11) + (8 * u19))) 13 x21) o a b c)) (ty := .int) (v := .int x21) tyX1 tyX1_ok nmX1 (FLi hF (t := 4) hii) (fun _ _ _ => rfl) qLis_g4 qLis_s4 rfl inW1 13 (by decide) (TT_cons kw_104) rfl (by decide +kernel) rfl rfl (fun _ _ => Nat.le_of_ble_eq_true rfl) (fun _ _ => rfl) dX1_hearHead_143 ?_
            exact K14 _ hf
          have he := he24
          refine G_if_eq hΓ (tgt := 136) dX1_hearHead_126 (by decide) (fun hc23 => ?_) (fun hc23 => ?_)
          · rw [if_pos hc23] at he
            refine G_aload_n hΓ 0 dX1_hearHead_136 rfl ?_
            refine F_get hΓ (t := 4) (i := i) (ci := 4) (C := RX1) (T := TX1) (N := 17) (fs1 (gl Γ) i) (v := .int ((x9 11) + (8 * u19))) (FLi hF (t := 4) hii) (fun _ _ _ => rfl) qLis_g4 rfl rfl rfl inW1 12 (by decide) (TT_cons kw_103) rfl dX1_hearHead_137 ?_
            refine G_bipush (v := 15) hΓ dX1_hearHead_140 (by decide) ?_
            refine G_iadd hΓ dX1_hearHead_142 ?_
            subst he
            exact K22
          · rw [if_neg hc23] at he
            refine G_aload_n hΓ 0 dX1_hearHead_129 rfl ?_
            refine F_get hΓ (t := 4) (i := i) (ci := 4) (C := RX1) (T := TX1) (N := 17) (fs1 (gl Γ) i) (v := .int ((x9 11) + (8 * u19))) (FLi hF (t := 4) hii) (fun _ _ _ => rfl) qLis_g4 rfl rfl rfl inW1 12 (by decide) (TT_cons kw_103) rfl dX1_hearHead_130 ?_
            refine G_goto hΓ (tgt := 143) dX1_hearHead_133 (by decide) ?_
            subst he
            exact K22
      clear hk_k10
      refine G_icmp_ne hΓ (tgt := 80) dX1_hearHead_48 (by decide) (fun hc32 => ?_) (fun hc32 => ?_)
      · rw [if_neg hc32] at hf
        exact K11 _ hf
      · rw [if_pos hc32] at hf
        refine G_aload_n hΓ 0 dX1_hearHead_51 rfl ?_
        refine G_iload_n hΓ 2 dX1_hearHead_52 rfl ?_
        refine G_iconst (v := 1) hΓ dX1_hearHead_53 (by decide) ?_
        obtain ⟨x26, he29, hf⟩ := lt_eq hf
        have K27 : GG Γ (0, 0) (qLis σ i q1 x2 o a b c) 62 [(0, .ref (ya (gl Γ) 4 i)), (1, .int p1), (2, .int p2)] [.int x26, .ref (ya (gl Γ) 4 i)] := by
          refine F_put hΓ (t := 4) (i := i) (ci := 4) (C := RX1) (T := TX1) (N := 17) (fs1 (gl Γ) i) (f := x2) (f' := (upd x2 10 x26)) (σ' := (qLis σ i q1 (upd x2 10 x26) o a b c)) (ty := .boolean) (v := .int x26) tyX1 tyX1_ok nmX1 (FLi hF (t := 4) hii) (fun _ _ _ => rfl) qLis_g4 qLis_s4 rfl inW1 10 (by decide) (TT_cons kw_101) rfl (by decide +kernel) (by rw [he29]; (repeat' split) <;> rfl) (fit_z (by rw [he29]; (repeat' split) <;> rfl)) (fun _ _ => Nat.le_of_ble_eq_true rfl) (fun _ _ => rfl) dX1_hearHead_62 ?_
          refine G_aload_n hΓ 0 dX1_hearHead_65 rfl ?_
          refine G_aload_n hΓ 0 dX1_hearHead_66 rfl ?_
          refine F_get hΓ (t := 4) (i := i) (ci := 4) (C := RX1) (T := TX1) (N := 17) (fs1 (gl Γ) i) (v := .int (x2 9)) (FLi hF (t := 4) hii) (fun _ _ _ => rfl) qLis_g4 rfl rfl rfl inW1 9 (by decide) (TT_cons kw_100) rfl dX1_hearHead_67 ?_
          refine G_aload_n hΓ 0 dX1_hearHead_70 rfl ?_
          refine F_get hΓ (t := 4) (i := i) (ci := 4) (C := RX1) (T := TX1) (N := 17) (fs1 (gl Γ) i) (v := .int x26) (FLi hF (t := 4) hii) (fun _ _ _ => rfl) qLis_g4 rfl rfl rfl inW1 10 (by decide) (TT_cons kw_101) rfl dX1_hearHead_71 ?_
          obtain ⟨u30, hc31, hf⟩ := bd_some hf
          refine G_callSN hΓ (n := 2) (As := [.int (x2 9), .int x26]) (σ' := (qLis σ i q1 (upd x2 10 x26) o a b c)) (c_X7_headLength (gL Γ) (gl Γ) hF (qLis σ i q1 (upd x2 10 x26) o a b c)   (x2 9) x26  hc31) rfl rfl 12 (host := "CanBits") rfl kw_526 kw_1 kw_527 ⟨by decide, by decide, by decide +kernel⟩ rfl rfl ⟨Nat.le_of_ble_eq_true rfl, Nat.le_of_ble_eq_true rfl⟩ rfl (Nat.le_of_ble_eq_true rfl) dX1_hearHead_74 ⟨_, rfl⟩ rfl ?_
          refine F_put hΓ (t := 4) (i := i) (ci := 4) (C := RX1) (T := TX1) (N := 17) (fs1 (gl Γ) i) (f := (upd x2 10 x26)) (f' := (upd (upd x2 10 x26) 11 u30)) (σ' := (qLis σ i q1 (upd (upd x2 10 x26) 11 u30) o a b c)) (ty := .int) (v := .int u30) tyX1 tyX1_ok nmX1 (FLi hF (t := 4) hii) (fun _ _ _ => rfl) qLis_g4 qLis_s4 rfl inW1 11 (by decide) (TT_cons kw_102) rfl (by decide +kernel) rfl rfl (fun _ _ => Nat.le_of_ble_eq_true rfl) (fun _ _ => rfl) dX1_hearHead_77 ?_
          exact K11 _ hf
        have he := he29
        refine G_icmp_ne hΓ (tgt := 61) dX1_hearHead_54 (by decide) (fun hc28 => ?_) (fun hc28 => ?_)
        · rw [if_neg hc28] at he
          refine G_iconst (v := 0) hΓ dX1_hearHead_61 (by decide) ?_
          subst he
          exact K27
        · rw [if_pos hc28] at he
          refine G_iconst (v := 1) hΓ dX1_hearHead_57 (by decide) ?_
          refine G_goto hΓ (tgt := 62) dX1_hearHead_58 (by decide) ?_
          subst he
          exact K27
    have he := he8
    refine G_if_eq hΓ (tgt := 46) dX1_hearHead_38 (by decide) (fun hc7 => ?_) (fun hc7 => ?_)
    · rw [if_pos hc7] at he
      refine G_bipush (v := 14) hΓ dX1_hearHead_46 (by decide) ?_
      subst he
      exact K6
    · rw [if_neg hc7] at he
      refine G_bipush (v := 33) hΓ dX1_hearHead_41 (by decide) ?_
      refine G_goto hΓ (tgt := 48) dX1_hearHead_43 (by decide) ?_
      subst he
      exact K6
  clear hk_k3
  refine G_icmp_ne hΓ (tgt := 33) dX1_hearHead_16 (by decide) (fun hc37 => ?_) (fun hc37 => ?_)
  · rw [if_neg hc37] at hf
    exact K4 _ hf
  · rw [if_pos hc37] at hf
    refine G_aload_n hΓ 0 dX1_hearHead_19 rfl ?_
    refine G_iload_n hΓ 2 dX1_hearHead_20 rfl ?_
    refine G_iconst (v := 1) hΓ dX1_hearHead_21 (by decide) ?_
    obtain ⟨x33, he36, hf⟩ := lt_eq hf
    have K34 : GG Γ (0, 0) (qLis σ i q1 f o a b c) 30 [(0, .ref (ya (gl Γ) 4 i)), (1, .int p1), (2, .int p2)] [.int x33, .ref (ya (gl Γ) 4 i)] := by
      refine F_put hΓ (t := 4) (i := i) (ci := 4) (C := RX1) (T := TX1) (N := 17) (fs1 (gl Γ) i) (f := f) (f' := (upd f 9 x33)) (σ' := (qLis σ i q1 (upd f 9 x33) o a b c)) (ty := .boolean) (v := .int x33) tyX1 tyX1_ok nmX1 (FLi hF (t := 4) hii) (fun _ _ _ => rfl) qLis_g4 qLis_s4 rfl inW1 9 (by decide) (TT_cons kw_100) rfl (by decide +kernel) (by rw [he36]; (repeat' split) <;> rfl) (fit_z (by rw [he36]; (repeat' split) <;> rfl)) (fun _ _ => Nat.le_of_ble_eq_true rfl) (fun _ _ => rfl) dX1_hearHead_30 ?_
      exact K4 _ hf
    have he := he36
    refine G_icmp_ne hΓ (tgt := 29) dX1_hearHead_22 (by decide) (fun hc35 => ?_) (fun hc35 => ?_)
    · rw [if_neg hc35] at he
      refine G_iconst (v := 0) hΓ dX1_hearHead_29 (by decide) ?_
      subst he
      exact K34
    · rw [if_pos hc35] at he
      refine G_iconst (v := 1) hΓ dX1_hearHead_25 (by decide) ?_
      refine G_goto hΓ (tgt := 30) dX1_hearHead_26 (by decide) ?_
      subst he
      exact K34
theorem dX1_hearOctet_0 : decode cX1_hearOctet 0 = .ok (.iload_n 1, 1) := by decide +kernel
theorem dX1_hearOctet_1 : decode cX1_hearOctet 1 = .ok (.iconst 3, 1) := by decide +kernel
theorem dX1_hearOctet_2 : decode cX1_hearOctet 2 = .ok (.ishr, 1) := by decide +kernel
theorem dX1_hearOctet_3 : decode cX1_hearOctet 3 = .ok (.istore_n 3, 1) := by decide +kernel
theorem dX1_hearOctet_4 : decode cX1_hearOctet 4 = .ok (.iload_n 3, 1) := by decide +kernel
theorem dX1_hearOctet_5 : decode cX1_hearOctet 5 = .ok (.ifCond .lt 29, 3) := by decide +kernel
theorem dX1_hearOctet_8 : decode cX1_hearOctet 8 = .ok (.iload_n 3, 1) := by decide +kernel
theorem dX1_hearOctet_9 : decode cX1_hearOctet 9 = .ok (.bipush 64, 2) := by decide +kernel
theorem dX1_hearOctet_11 : decode cX1_hearOctet 11 = .ok (.if_icmp .ge 23, 3) := by decide +kernel
theorem dX1_hearOctet_14 : decode cX1_hearOctet 14 = .ok (.aload_n 0, 1) := by decide +kernel
theorem dX1_hearOctet_15 : decode cX1_hearOctet 15 = .ok (.getfield 18, 3) := by decide +kernel
theorem dX1_hearOctet_18 : decode cX1_hearOctet 18 = .ok (.iload_n 3, 1) := by decide +kernel
theorem dX1_hearOctet_19 : decode cX1_hearOctet 19 = .ok (.aload_n 0, 1) := by decide +kernel
theorem dX1_hearOctet_20 : decode cX1_hearOctet 20 = .ok (.getfield 18, 3) := by decide +kernel
theorem dX1_hearOctet_23 : decode cX1_hearOctet 23 = .ok (.iload_n 3, 1) := by decide +kernel
theorem dX1_hearOctet_24 : decode cX1_hearOctet 24 = .ok (.iaload, 1) := by decide +kernel
theorem dX1_hearOctet_25 : decode cX1_hearOctet 25 = .ok (.iconst 1, 1) := by decide +kernel
theorem dX1_hearOctet_26 : decode cX1_hearOctet 26 = .ok (.ishl, 1) := by decide +kernel
theorem dX1_hearOctet_27 : decode cX1_hearOctet 27 = .ok (.sipush 255, 3) := by decide +kernel
theorem dX1_hearOctet_30 : decode cX1_hearOctet 30 = .ok (.iand, 1) := by decide +kernel
theorem dX1_hearOctet_31 : decode cX1_hearOctet 31 = .ok (.iload_n 2, 1) := by decide +kernel
theorem dX1_hearOctet_32 : decode cX1_hearOctet 32 = .ok (.ior, 1) := by decide +kernel
theorem dX1_hearOctet_33 : decode cX1_hearOctet 33 = .ok (.iastore, 1) := by decide +kernel
theorem dX1_hearOctet_34 : decode cX1_hearOctet 34 = .ok (.return_, 1) := by decide +kernel
noncomputable def f_X1_hearOctet  (o : Nat → Int32) (p1 : Int32) (p2 : Int32) : Option ((Nat → Int32)) := lt (α := Int32) (p1 >>> ((3 : Int32) &&& 31)) (fun v1 => jn (α := Nat → Int32) (fun x2 => some (x2)) (fun k3 => if v1 < 0 then k3 o else if 64 ≤ v1 then k3 o else gd (vp_in v1 64) (lt (α := Int32) ((((o v1.toNatClampNeg) <<< ((1 : Int32) &&& 31)) &&& 255) ||| p2) (fun v6 => gd (vp_in v1 64) (k3 (upd o v1.toNatClampNeg v6))))))
set_option maxHeartbeats 4000000 in
set_option maxRecDepth 100000 in
theorem c_X1_hearOctet (l : Launch) (Λ : LY) (hF : FL Λ) (σ : CS) (i : Nat) (h : Int64) (f : Nat → Int32) (o : Nat → Int32) (a : Nat → Int32) (b : Nat → Int32) (c : Nat → Int32) (p1 : Int32) (p2 : Int32) (hii : i < 32)  {o' : Nat → Int32} (hf : f_X1_hearOctet o p1 p2 = some o') : CM l yX1_hearOctet (.code yX1_hearOctet cX1_hearOctet 4 none :: TT) ({ frames := 0, cells := 0, slots := 0, locals := 0 }) Λ [.ref (ya Λ 4 i), .int p1, .int p2] (qLis σ i h f o a b c) (qLis σ i h f o' a b c) (none) := by
  refine CM_intro (own := RX1) (by decide) rfl (Nat.le_of_ble_eq_true rfl) ?_
  intro Γ hg hl hΓ hE
  subst hg; subst hl
  show GG Γ (0, 0) (qLis σ i h f o a b c) 0 [(0, .ref (ya (gl Γ) 4 i)), (1, .int p1), (2, .int p2)] []
  unfold f_X1_hearOctet at hf
  refine G_iload_n hΓ 1 dX1_hearOctet_0 rfl ?_
  refine G_iconst (v := 3) hΓ dX1_hearOctet_1 (by decide) ?_
  refine G_ishr hΓ dX1_hearOctet_2 ?_
  obtain ⟨v1, hv_v1, hf⟩ := lt_eq hf
  refine G_topi hv_v1 ?_
  refine G_istore_n hΓ [(3, .int v1), (0, .ref (ya (gl Γ) 4 i)), (1, .int p1), (2, .int p2)] dX1_hearOctet_3 (by decide) rfl ?_
  refine G_iload_n hΓ 0 dX1_hearOctet_4 rfl ?_
  obtain ⟨k3, hk_k3, hf⟩ := jn_eq hf
  try dsimp only at hf
  have K4 : ∀ x2, k3 x2 = some o' → GG Γ (0, 0) (qLis σ i h f x2 a b c) 34 [(3, .int v1), (0, .ref (ya (gl Γ) 4 i)), (1, .int p1), (2, .int p2)] [] := by
    intro x2 hf
    subst hk_k3
    try dsimp only at hf
    cases hf
    exact G_vret hΓ hE dX1_hearOctet_34
  clear hk_k3
  refine G_if_lt hΓ (tgt := 34) dX1_hearOctet_5 (by decide) (fun hc9 => ?_) (fun hc9 => ?_)
  · rw [if_pos hc9] at hf
    exact K4 _ hf
  · rw [if_neg hc9] at hf
    refine G_iload_n hΓ 0 dX1_hearOctet_8 rfl ?_
    refine G_bipush (v := 64) hΓ dX1_hearOctet_9 (by decide) ?_
    refine G_icmp_ge hΓ (tgt := 34) dX1_hearOctet_11 (by decide) (fun hc8 => ?_) (fun hc8 => ?_)
    · rw [if_pos hc8] at hf
      exact K4 _ hf
    · rw [if_neg hc8] at hf
      refine G_aload_n hΓ 1 dX1_hearOctet_14 rfl ?_
      refine F_get hΓ (t := 4) (i := i) (ci := 4) (C := RX1) (T := TX1) (N := 17) (fs1 (gl Γ) i) (v := .ref (ya (gl Γ) 5 i)) (FLi hF (t := 4) hii) (fun _ _ _ => rfl) rfl rfl rfl rfl inW1 1 (by decide) (TT_cons kw_91) rfl dX1_hearOctet_15 ?_
      refine G_iload_n hΓ 0 dX1_hearOctet_18 rfl ?_
      refine G_aload_n hΓ 1 dX1_hearOctet_19 rfl ?_
      refine F_get hΓ (t := 4) (i := i) (ci := 4) (C := RX1) (T := TX1) (N := 17) (fs1 (gl Γ) i) (v := .ref (ya (gl Γ) 5 i)) (FLi hF (t := 4) hii) (fun _ _ _ => rfl) rfl rfl rfl rfl inW1 1 (by decide) (TT_cons kw_91) rfl dX1_hearOctet_20 ?_
      refine G_iload_n hΓ 0 dX1_hearOctet_23 rfl ?_
      obtain ⟨hg5, hf⟩ := gd_some hf
      refine F_ald (G_iald hΓ) (t := 5) (i := i) (f := o) (FLi hF (t := 5) hii) (fun _ _ _ => rfl) qLis_g5 hg5 dX1_hearOctet_24 ?_
      refine G_iconst (v := 1) hΓ dX1_hearOctet_25 (by decide) ?_
      refine G_ishl hΓ dX1_hearOctet_26 ?_
      refine G_sipush (v := 255) hΓ dX1_hearOctet_27 (by decide) ?_
      refine G_iand hΓ dX1_hearOctet_30 ?_
      refine G_iload_n hΓ 3 dX1_hearOctet_31 rfl ?_
      refine G_ior hΓ dX1_hearOctet_32 ?_
      obtain ⟨v6, hv_v6, hf⟩ := lt_eq hf
      refine G_topi hv_v6 ?_
      obtain ⟨hg7, hf⟩ := gd_some hf
      refine F_iast hΓ (t := 5) (i := i) (f := o) (σ' := (qLis σ i h f (upd o v1.toNatClampNeg v6) a b c)) (FLi hF (t := 5) hii) (fun _ _ _ => rfl) qLis_g5 qLis_s5 hg7 dX1_hearOctet_33 ?_
      exact K4 _ hf
theorem dX1_endPlain_0 : decode cX1_endPlain 0 = .ok (.aload_n 0, 1) := by decide +kernel
theorem dX1_endPlain_1 : decode cX1_endPlain 1 = .ok (.getfield 52, 3) := by decide +kernel
theorem dX1_endPlain_4 : decode cX1_endPlain 4 = .ok (.ifCond .eq 9, 3) := by decide +kernel
theorem dX1_endPlain_7 : decode cX1_endPlain 7 = .ok (.aload_n 0, 1) := by decide +kernel
theorem dX1_endPlain_8 : decode cX1_endPlain 8 = .ok (.iconst 1, 1) := by decide +kernel
theorem dX1_endPlain_9 : decode cX1_endPlain 9 = .ok (.putfield 25, 3) := by decide +kernel
theorem dX1_endPlain_12 : decode cX1_endPlain 12 = .ok (.return_, 1) := by decide +kernel
theorem dX1_endPlain_13 : decode cX1_endPlain 13 = .ok (.aload_n 0, 1) := by decide +kernel
theorem dX1_endPlain_14 : decode cX1_endPlain 14 = .ok (.aload_n 0, 1) := by decide +kernel
theorem dX1_endPlain_15 : decode cX1_endPlain 15 = .ok (.getfield 68, 3) := by decide +kernel
theorem dX1_endPlain_18 : decode cX1_endPlain 18 = .ok (.aload_n 0, 1) := by decide +kernel
theorem dX1_endPlain_19 : decode cX1_endPlain 19 = .ok (.getfield 12, 3) := by decide +kernel
theorem dX1_endPlain_22 : decode cX1_endPlain 22 = .ok (.getfield 120, 3) := by decide +kernel
theorem dX1_endPlain_25 : decode cX1_endPlain 25 = .ok (.getfield 124, 3) := by decide +kernel
theorem dX1_endPlain_28 : decode cX1_endPlain 28 = .ok (.if_icmp .ne 7, 3) := by decide +kernel
theorem dX1_endPlain_31 : decode cX1_endPlain 31 = .ok (.iconst 1, 1) := by decide +kernel
theorem dX1_endPlain_32 : decode cX1_endPlain 32 = .ok (.goto 4, 3) := by decide +kernel
theorem dX1_endPlain_35 : decode cX1_endPlain 35 = .ok (.iconst 0, 1) := by decide +kernel
theorem dX1_endPlain_36 : decode cX1_endPlain 36 = .ok (.putfield 71, 3) := by decide +kernel
theorem dX1_endPlain_39 : decode cX1_endPlain 39 = .ok (.aload_n 0, 1) := by decide +kernel
theorem dX1_endPlain_40 : decode cX1_endPlain 40 = .ok (.getfield 35, 3) := by decide +kernel
theorem dX1_endPlain_43 : decode cX1_endPlain 43 = .ok (.iconst 5, 1) := by decide +kernel
theorem dX1_endPlain_44 : decode cX1_endPlain 44 = .ok (.if_icmp .ge 8, 3) := by decide +kernel
theorem dX1_endPlain_47 : decode cX1_endPlain 47 = .ok (.aload_n 0, 1) := by decide +kernel
theorem dX1_endPlain_48 : decode cX1_endPlain 48 = .ok (.iconst 2, 1) := by decide +kernel
theorem dX1_endPlain_49 : decode cX1_endPlain 49 = .ok (.putfield 25, 3) := by decide +kernel
theorem dX1_endPlain_52 : decode cX1_endPlain 52 = .ok (.return_, 1) := by decide +kernel
noncomputable def f_X1_endPlain  (f : Nat → Int32) (a : Nat → Int32)  : Option ((Nat → Int32)) := if (f 10) = 0 then lt (α := Int32) (if (f 15) = (a 3) then 1 else 0) (fun x1 => jn (α := Nat → Int32) (fun x5 => some (x5)) (fun k6 => if 5 ≤ (f 5) then k6 (upd f 16 x1) else k6 (upd (upd f 16 x1) 2 2))) else some ((upd f 2 1))
set_option maxHeartbeats 4000000 in
set_option maxRecDepth 100000 in
theorem c_X1_endPlain (l : Launch) (Λ : LY) (hF : FL Λ) (σ : CS) (i : Nat) (h : Int64) (f : Nat → Int32) (o : Nat → Int32) (a : Nat → Int32) (b : Nat → Int32) (c : Nat → Int32)  (hii : i < 32)  {f' : Nat → Int32} (hf : f_X1_endPlain f a = some f') : CM l yX1_endPlain (.code yX1_endPlain cX1_endPlain 1 none :: TT) ({ frames := 0, cells := 0, slots := 0, locals := 0 }) Λ [.ref (ya Λ 4 i)] (qLis σ i h f o a b c) (qLis σ i h f' o a b c) (none) := by
  refine CM_intro (own := RX1) (by decide) rfl (Nat.le_of_ble_eq_true rfl) ?_
  intro Γ hg hl hΓ hE
  subst hg; subst hl
  show GG Γ (0, 0) (qLis σ i h f o a b c) 0 [(0, .ref (ya (gl Γ) 4 i))] []
  unfold f_X1_endPlain at hf
  refine G_aload_n hΓ 0 dX1_endPlain_0 rfl ?_
  refine F_get hΓ (t := 4) (i := i) (ci := 4) (C := RX1) (T := TX1) (N := 17) (fs1 (gl Γ) i) (v := .int (f 10)) (FLi hF (t := 4) hii) (fun _ _ _ => rfl) qLis_g4 rfl rfl rfl inW1 10 (by decide) (TT_cons kw_101) rfl dX1_endPlain_1 ?_
  refine G_if_eq hΓ (tgt := 13) dX1_endPlain_4 (by decide) (fun hc9 => ?_) (fun hc9 => ?_)
  · rw [if_pos hc9] at hf
    refine G_aload_n hΓ 0 dX1_endPlain_13 rfl ?_
    refine G_aload_n hΓ 0 dX1_endPlain_14 rfl ?_
    refine F_get hΓ (t := 4) (i := i) (ci := 4) (C := RX1) (T := TX1) (N := 17) (fs1 (gl Γ) i) (v := .int (f 15)) (FLi hF (t := 4) hii) (fun _ _ _ => rfl) qLis_g4 rfl rfl rfl inW1 15 (by decide) (TT_cons kw_107) rfl dX1_endPlain_15 ?_
    refine G_aload_n hΓ 0 dX1_endPlain_18 rfl ?_
    refine F_get hΓ (t := 4) (i := i) (ci := 4) (C := RX1) (T := TX1) (N := 17) (fs1 (gl Γ) i) (v := .ref (ya (gl Γ) 6 i)) (FLi hF (t := 4) hii) (fun _ _ _ => rfl) rfl rfl rfl rfl inW1 0 (by decide) (TT_cons kw_90) rfl dX1_endPlain_19 ?_
    refine F_getN hΓ (t := 6) (i := i) (ci := 7) (C := RX4) (T := TX4) (N := 3) (fs4 (gl Γ) i) (v := .ref (ya (gl Γ) 7 i)) (FLi hF (t := 6) (Nat.lt_trans hii (by decide))) (fun _ _ _ => rfl) rfl rfl rfl rfl inW4 0 (by decide) 6 (host := "CanBits") rfl rfl dX1_endPlain_22 ?_
    refine F_getN hΓ (t := 7) (i := i) (ci := 6) (C := RX3) (T := TX3) (N := 4) (fs3 (gl Γ) i) (v := .int (a 3)) (FLi hF (t := 7) (Nat.lt_trans hii (by decide))) (fun _ _ _ => rfl) qLis_g7 rfl rfl rfl inW3 3 (by decide) 3 (host := "CanBits") rfl rfl dX1_endPlain_25 ?_
    obtain ⟨x1, he4, hf⟩ := lt_eq hf
    have K2 : GG Γ (0, 0) (qLis σ i h f o a b c) 36 [(0, .ref (ya (gl Γ) 4 i))] [.int x1, .ref (ya (gl Γ) 4 i)] := by
      refine F_put hΓ (t := 4) (i := i) (ci := 4) (C := RX1) (T := TX1) (N := 17) (fs1 (gl Γ) i) (f := f) (f' := (upd f 16 x1)) (σ' := (qLis σ i h (upd f 16 x1) o a b c)) (ty := .boolean) (v := .int x1) tyX1 tyX1_ok nmX1 (FLi hF (t := 4) hii) (fun _ _ _ => rfl) qLis_g4 qLis_s4 rfl inW1 16 (by decide) (TT_cons kw_108) rfl (by decide +kernel) (by rw [he4]; (repeat' split) <;> rfl) (fit_z (by rw [he4]; (repeat' split) <;> rfl)) (fun _ _ => Nat.le_of_ble_eq_true rfl) (fun _ _ => rfl) dX1_endPlain_36 ?_
      refine G_aload_n hΓ 0 dX1_endPlain_39 rfl ?_
      refine F_get hΓ (t := 4) (i := i) (ci := 4) (C := RX1) (T := TX1) (N := 17) (fs1 (gl Γ) i) (v := .int (f 5)) (FLi hF (t := 4) hii) (fun _ _ _ => rfl) qLis_g4 rfl rfl rfl inW1 5 (by decide) (TT_cons kw_96) rfl dX1_endPlain_40 ?_
      refine G_iconst (v := 5) hΓ dX1_endPlain_43 (by decide) ?_
      obtain ⟨k6, hk_k6, hf⟩ := jn_eq hf
      try dsimp only at hf
      have K7 : ∀ x5, k6 x5 = some f' → GG Γ (0, 0) (qLis σ i h x5 o a b c) 52 [(0, .ref (ya (gl Γ) 4 i))] [] := by
        intro x5 hf
        subst hk_k6
        try dsimp only at hf
        cases hf
        exact G_vret hΓ hE dX1_endPlain_52
      clear hk_k6
      refine G_icmp_ge hΓ (tgt := 52) dX1_endPlain_44 (by decide) (fun hc8 => ?_) (fun hc8 => ?_)
      · rw [if_pos hc8] at hf
        exact K7 _ hf
      · rw [if_neg hc8] at hf
        refine G_aload_n hΓ 0 dX1_endPlain_47 rfl ?_
        refine G_iconst (v := 2) hΓ dX1_endPlain_48 (by decide) ?_
        refine F_put hΓ (t := 4) (i := i) (ci := 4) (C := RX1) (T := TX1) (N := 17) (fs1 (gl Γ) i) (f := (upd f 16 x1)) (f' := (upd (upd f 16 x1) 2 2)) (σ' := (qLis σ i h (upd (upd f 16 x1) 2 2) o a b c)) (ty := .int) (v := .int 2) tyX1 tyX1_ok nmX1 (FLi hF (t := 4) hii) (fun _ _ _ => rfl) qLis_g4 qLis_s4 rfl inW1 2 (by decide) (TT_cons kw_93) rfl (by decide +kernel) rfl rfl (fun _ _ => Nat.le_of_ble_eq_true rfl) (fun _ _ => rfl) dX1_endPlain_49 ?_
        exact K7 _ hf
    have he := he4
    refine G_icmp_ne hΓ (tgt := 35) dX1_endPlain_28 (by decide) (fun hc3 => ?_) (fun hc3 => ?_)
    · rw [if_neg hc3] at he
      refine G_iconst (v := 0) hΓ dX1_endPlain_35 (by decide) ?_
      subst he
      exact K2
    · rw [if_pos hc3] at he
      refine G_iconst (v := 1) hΓ dX1_endPlain_31 (by decide) ?_
      refine G_goto hΓ (tgt := 36) dX1_endPlain_32 (by decide) ?_
      subst he
      exact K2
  · rw [if_neg hc9] at hf
    refine G_aload_n hΓ 0 dX1_endPlain_7 rfl ?_
    refine G_iconst (v := 1) hΓ dX1_endPlain_8 (by decide) ?_
    refine F_put hΓ (t := 4) (i := i) (ci := 4) (C := RX1) (T := TX1) (N := 17) (fs1 (gl Γ) i) (f := f) (f' := (upd f 2 1)) (σ' := (qLis σ i h (upd f 2 1) o a b c)) (ty := .int) (v := .int 1) tyX1 tyX1_ok nmX1 (FLi hF (t := 4) hii) (fun _ _ _ => rfl) qLis_g4 qLis_s4 rfl inW1 2 (by decide) (TT_cons kw_93) rfl (by decide +kernel) rfl rfl (fun _ _ => Nat.le_of_ble_eq_true rfl) (fun _ _ => rfl) dX1_endPlain_9 ?_
    cases hf
    exact G_vret hΓ hE dX1_endPlain_12
theorem dX1_hearPlain_0 : decode cX1_hearPlain 0 = .ok (.aload_n 0, 1) := by decide +kernel
theorem dX1_hearPlain_1 : decode cX1_hearPlain 1 = .ok (.dup, 1) := by decide +kernel
theorem dX1_hearPlain_2 : decode cX1_hearPlain 2 = .ok (.getfield 41, 3) := by decide +kernel
theorem dX1_hearPlain_5 : decode cX1_hearPlain 5 = .ok (.dup_x1, 1) := by decide +kernel
theorem dX1_hearPlain_6 : decode cX1_hearPlain 6 = .ok (.iconst 1, 1) := by decide +kernel
theorem dX1_hearPlain_7 : decode cX1_hearPlain 7 = .ok (.iadd, 1) := by decide +kernel
theorem dX1_hearPlain_8 : decode cX1_hearPlain 8 = .ok (.putfield 41, 3) := by decide +kernel
theorem dX1_hearPlain_11 : decode cX1_hearPlain 11 = .ok (.istore_n 2, 1) := by decide +kernel
theorem dX1_hearPlain_12 : decode cX1_hearPlain 12 = .ok (.iload_n 2, 1) := by decide +kernel
theorem dX1_hearPlain_13 : decode cX1_hearPlain 13 = .ok (.aload_n 0, 1) := by decide +kernel
theorem dX1_hearPlain_14 : decode cX1_hearPlain 14 = .ok (.getfield 59, 3) := by decide +kernel
theorem dX1_hearPlain_17 : decode cX1_hearPlain 17 = .ok (.if_icmp .ge 11, 3) := by decide +kernel
theorem dX1_hearPlain_20 : decode cX1_hearPlain 20 = .ok (.aload_n 0, 1) := by decide +kernel
theorem dX1_hearPlain_21 : decode cX1_hearPlain 21 = .ok (.getfield 12, 3) := by decide +kernel
theorem dX1_hearPlain_24 : decode cX1_hearPlain 24 = .ok (.iload_n 1, 1) := by decide +kernel
theorem dX1_hearPlain_25 : decode cX1_hearPlain 25 = .ok (.invokevirtual 92, 3) := by decide +kernel
theorem dX1_hearPlain_28 : decode cX1_hearPlain 28 = .ok (.iload_n 2, 1) := by decide +kernel
theorem dX1_hearPlain_29 : decode cX1_hearPlain 29 = .ok (.aload_n 0, 1) := by decide +kernel
theorem dX1_hearPlain_30 : decode cX1_hearPlain 30 = .ok (.getfield 55, 3) := by decide +kernel
theorem dX1_hearPlain_33 : decode cX1_hearPlain 33 = .ok (.if_icmp .ge 12, 3) := by decide +kernel
theorem dX1_hearPlain_36 : decode cX1_hearPlain 36 = .ok (.aload_n 0, 1) := by decide +kernel
theorem dX1_hearPlain_37 : decode cX1_hearPlain 37 = .ok (.iload_n 2, 1) := by decide +kernel
theorem dX1_hearPlain_38 : decode cX1_hearPlain 38 = .ok (.iload_n 1, 1) := by decide +kernel
theorem dX1_hearPlain_39 : decode cX1_hearPlain 39 = .ok (.invokevirtual 95, 3) := by decide +kernel
theorem dX1_hearPlain_42 : decode cX1_hearPlain 42 = .ok (.goto 37, 3) := by decide +kernel
theorem dX1_hearPlain_45 : decode cX1_hearPlain 45 = .ok (.iload_n 2, 1) := by decide +kernel
theorem dX1_hearPlain_46 : decode cX1_hearPlain 46 = .ok (.aload_n 0, 1) := by decide +kernel
theorem dX1_hearPlain_47 : decode cX1_hearPlain 47 = .ok (.getfield 59, 3) := by decide +kernel
theorem dX1_hearPlain_50 : decode cX1_hearPlain 50 = .ok (.if_icmp .ge 17, 3) := by decide +kernel
theorem dX1_hearPlain_53 : decode cX1_hearPlain 53 = .ok (.aload_n 0, 1) := by decide +kernel
theorem dX1_hearPlain_54 : decode cX1_hearPlain 54 = .ok (.iload_n 2, 1) := by decide +kernel
theorem dX1_hearPlain_55 : decode cX1_hearPlain 55 = .ok (.aload_n 0, 1) := by decide +kernel
theorem dX1_hearPlain_56 : decode cX1_hearPlain 56 = .ok (.getfield 55, 3) := by decide +kernel
theorem dX1_hearPlain_59 : decode cX1_hearPlain 59 = .ok (.isub, 1) := by decide +kernel
theorem dX1_hearPlain_60 : decode cX1_hearPlain 60 = .ok (.iload_n 1, 1) := by decide +kernel
theorem dX1_hearPlain_61 : decode cX1_hearPlain 61 = .ok (.invokevirtual 99, 3) := by decide +kernel
theorem dX1_hearPlain_64 : decode cX1_hearPlain 64 = .ok (.goto 15, 3) := by decide +kernel
theorem dX1_hearPlain_67 : decode cX1_hearPlain 67 = .ok (.aload_n 0, 1) := by decide +kernel
theorem dX1_hearPlain_68 : decode cX1_hearPlain 68 = .ok (.aload_n 0, 1) := by decide +kernel
theorem dX1_hearPlain_69 : decode cX1_hearPlain 69 = .ok (.getfield 68, 3) := by decide +kernel
theorem dX1_hearPlain_72 : decode cX1_hearPlain 72 = .ok (.iconst 1, 1) := by decide +kernel
theorem dX1_hearPlain_73 : decode cX1_hearPlain 73 = .ok (.ishl, 1) := by decide +kernel
theorem dX1_hearPlain_74 : decode cX1_hearPlain 74 = .ok (.iload_n 1, 1) := by decide +kernel
theorem dX1_hearPlain_75 : decode cX1_hearPlain 75 = .ok (.ior, 1) := by decide +kernel
theorem dX1_hearPlain_76 : decode cX1_hearPlain 76 = .ok (.putfield 68, 3) := by decide +kernel
theorem dX1_hearPlain_79 : decode cX1_hearPlain 79 = .ok (.aload_n 0, 1) := by decide +kernel
theorem dX1_hearPlain_80 : decode cX1_hearPlain 80 = .ok (.getfield 41, 3) := by decide +kernel
theorem dX1_hearPlain_83 : decode cX1_hearPlain 83 = .ok (.aload_n 0, 1) := by decide +kernel
theorem dX1_hearPlain_84 : decode cX1_hearPlain 84 = .ok (.getfield 62, 3) := by decide +kernel
theorem dX1_hearPlain_87 : decode cX1_hearPlain 87 = .ok (.if_icmp .ne 7, 3) := by decide +kernel
theorem dX1_hearPlain_90 : decode cX1_hearPlain 90 = .ok (.aload_n 0, 1) := by decide +kernel
theorem dX1_hearPlain_91 : decode cX1_hearPlain 91 = .ok (.invokevirtual 102, 3) := by decide +kernel
theorem dX1_hearPlain_94 : decode cX1_hearPlain 94 = .ok (.aload_n 0, 1) := by decide +kernel
theorem dX1_hearPlain_95 : decode cX1_hearPlain 95 = .ok (.getfield 52, 3) := by decide +kernel
theorem dX1_hearPlain_98 : decode cX1_hearPlain 98 = .ok (.ifCond .eq 30, 3) := by decide +kernel
theorem dX1_hearPlain_101 : decode cX1_hearPlain 101 = .ok (.iload_n 1, 1) := by decide +kernel
theorem dX1_hearPlain_102 : decode cX1_hearPlain 102 = .ok (.iconst 1, 1) := by decide +kernel
theorem dX1_hearPlain_103 : decode cX1_hearPlain 103 = .ok (.if_icmp .ne 25, 3) := by decide +kernel
theorem dX1_hearPlain_106 : decode cX1_hearPlain 106 = .ok (.iload_n 2, 1) := by decide +kernel
theorem dX1_hearPlain_107 : decode cX1_hearPlain 107 = .ok (.aload_n 0, 1) := by decide +kernel
theorem dX1_hearPlain_108 : decode cX1_hearPlain 108 = .ok (.getfield 48, 3) := by decide +kernel
theorem dX1_hearPlain_111 : decode cX1_hearPlain 111 = .ok (.ifCond .eq 8, 3) := by decide +kernel
theorem dX1_hearPlain_114 : decode cX1_hearPlain 114 = .ok (.bipush 34, 2) := by decide +kernel
theorem dX1_hearPlain_116 : decode cX1_hearPlain 116 = .ok (.goto 5, 3) := by decide +kernel
theorem dX1_hearPlain_119 : decode cX1_hearPlain 119 = .ok (.bipush 15, 2) := by decide +kernel
theorem dX1_hearPlain_121 : decode cX1_hearPlain 121 = .ok (.if_icmp .ne 7, 3) := by decide +kernel
theorem dX1_hearPlain_124 : decode cX1_hearPlain 124 = .ok (.iconst 2, 1) := by decide +kernel
theorem dX1_hearPlain_125 : decode cX1_hearPlain 125 = .ok (.goto 4, 3) := by decide +kernel
theorem dX1_hearPlain_128 : decode cX1_hearPlain 128 = .ok (.iconst (-1), 1) := by decide +kernel
theorem dX1_hearPlain_129 : decode cX1_hearPlain 129 = .ok (.ireturn, 1) := by decide +kernel
noncomputable def f_X1_hearPlain  (h : Int64) (f : Nat → Int32) (o : Nat → Int32) (a : Nat → Int32) (b : Nat → Int32) (c : Nat → Int32) (p1 : Int32) : Option (Int64 × (Nat → Int32) × (Nat → Int32) × (Nat → Int32) × (Nat → Int32) × (Nat → Int32) × Int32) := jn (α := (Nat → Int32) × (Nat → Int32) × (Nat → Int32)) (fun ⟨x1, x2, x3⟩ => jn (α := (Nat → Int32) × (Nat → Int32) × Int64) (fun ⟨x6, x7, x8⟩ => jn (α := Nat → Int32) (fun x11 => jn (α := Int32) (fun x14 => some (x8, x11, x7, x1, x2, x3, x14)) (fun k21 => if (x11 10) = 0 then k21 (-1) else if p1 = 1 then lt (α := Int32) (if (x11 9) = 0 then 15 else 34) (fun x23 => if (f 7) = x23 then k21 2 else k21 (-1)) else k21 (-1))) (fun k12 => if (x6 7) = (x6 13) then bd (f_X1_endPlain x6 x1) (fun u30 => k12 u30) else k12 x6)) (fun k9 => if (f 11) ≤ (f 7) then if (f 12) ≤ (f 7) then lt (α := Int32) (((f 15) <<< ((1 : Int32) &&& 31)) ||| p1) (fun v33 => k9 ((upd (upd f 7 ((f 7) + 1)) 15 v33), o, h)) else bd (f_X1_hearOctet o ((f 7) - (f 11)) p1) (fun u34 => k9 ((upd f 7 ((f 7) + 1)), u34, h)) else bd (f_X1_hearHead h (upd f 7 ((f 7) + 1)) (f 7) p1) (fun ⟨u37, u38⟩ => k9 (u38, o, u37)))) (fun k4 => if (f 12) ≤ (f 7) then k4 (a, b, c) else bd (f_X4_addPlain a b c p1) (fun ⟨u41, u42, u43⟩ => k4 (u41, u42, u43)))
set_option maxHeartbeats 4000000 in
set_option maxRecDepth 100000 in
theorem c_X1_hearPlain (l : Launch) (Λ : LY) (hF : FL Λ) (σ : CS) (i : Nat) (h : Int64) (f : Nat → Int32) (o : Nat → Int32) (a : Nat → Int32) (b : Nat → Int32) (c : Nat → Int32) (p1 : Int32) (hii : i < 32)  {h' : Int64} {f' : Nat → Int32} {o' : Nat → Int32} {a' : Nat → Int32} {b' : Nat → Int32} {c' : Nat → Int32} {r9 : Int32} (hf : f_X1_hearPlain h f o a b c p1 = some (h', f', o', a', b', c', r9)) : CM l yX1_hearPlain (.code yX1_hearPlain cX1_hearPlain 3 (some .int) :: TT) ({ frames := 2, cells := 0, slots := 0, locals := 44 }) Λ [.ref (ya Λ 4 i), .int p1] (qLis σ i h f o a b c) (qLis σ i h' f' o' a' b' c') (some (.int r9)) := by
  refine CM_intro (own := RX1) (by decide) rfl (Nat.le_of_ble_eq_true rfl) ?_
  intro Γ hg hl hΓ hE
  subst hg; subst hl
  show GG Γ (0, 0) (qLis σ i h f o a b c) 0 [(0, .ref (ya (gl Γ) 4 i)), (1, .int p1)] []
  unfold f_X1_hearPlain at hf
  refine G_aload_n hΓ 0 dX1_hearPlain_0 rfl ?_
  refine G_dup hΓ dX1_hearPlain_1 rfl ?_
  refine F_get hΓ (t := 4) (i := i) (ci := 4) (C := RX1) (T := TX1) (N := 17) (fs1 (gl Γ) i) (v := .int (f 7)) (FLi hF (t := 4) hii) (fun _ _ _ => rfl) qLis_g4 rfl rfl rfl inW1 7 (by decide) (TT_cons kw_98) rfl dX1_hearPlain_2 ?_
  refine G_dup_x1 hΓ dX1_hearPlain_5 rfl rfl ?_
  refine G_iconst (v := 1) hΓ dX1_hearPlain_6 (by decide) ?_
  refine G_iadd hΓ dX1_hearPlain_7 ?_
  refine F_put hΓ (t := 4) (i := i) (ci := 4) (C := RX1) (T := TX1) (N := 17) (fs1 (gl Γ) i) (f := f) (f' := (upd f 7 ((f 7) + 1))) (σ' := (qLis σ i h (upd f 7 ((f 7) + 1)) o a b c)) (ty := .int) (v := .int ((f 7) + 1)) tyX1 tyX1_ok nmX1 (FLi hF (t := 4) hii) (fun _ _ _ => rfl) qLis_g4 qLis_s4 rfl inW1 7 (by decide) (TT_cons kw_98) rfl (by decide +kernel) rfl rfl (fun _ _ => Nat.le_of_ble_eq_true rfl) (fun _ _ => rfl) dX1_hearPlain_8 ?_
  refine G_istore_n hΓ [(2, .int (f 7)), (0, .ref (ya (gl Γ) 4 i)), (1, .int p1)] dX1_hearPlain_11 (by decide) rfl ?_
  refine G_iload_n hΓ 0 dX1_hearPlain_12 rfl ?_
  refine G_aload_n hΓ 1 dX1_hearPlain_13 rfl ?_
  refine F_get hΓ (t := 4) (i := i) (ci := 4) (C := RX1) (T := TX1) (N := 17) (fs1 (gl Γ) i) (v := .int (f 12)) (FLi hF (t := 4) hii) (fun _ _ _ => rfl) qLis_g4 rfl rfl rfl inW1 12 (by decide) (TT_cons kw_103) rfl dX1_hearPlain_14 ?_
  obtain ⟨k4, hk_k4, hf⟩ := jn_eq hf
  try dsimp only at hf
  have K5 : ∀ x1 x2 x3, k4 (x1, x2, x3) = some (h', f', o', a', b', c', r9) → GG Γ (0, 0) (qLis σ i h (upd f 7 ((f 7) + 1)) o x1 x2 x3) 28 [(2, .int (f 7)), (0, .ref (ya (gl Γ) 4 i)), (1, .int p1)] [] := by
    intro x1 x2 x3 hf
    subst hk_k4
    try dsimp only at hf
    refine G_iload_n hΓ 0 dX1_hearPlain_28 rfl ?_
    refine G_aload_n hΓ 1 dX1_hearPlain_29 rfl ?_
    refine F_get hΓ (t := 4) (i := i) (ci := 4) (C := RX1) (T := TX1) (N := 17) (fs1 (gl Γ) i) (v := .int (f 11)) (FLi hF (t := 4) hii) (fun _ _ _ => rfl) qLis_g4 rfl rfl rfl inW1 11 (by decide) (TT_cons kw_102) rfl dX1_hearPlain_30 ?_
    obtain ⟨k9, hk_k9, hf⟩ := jn_eq hf
    try dsimp only at hf
    have K10 : ∀ x6 x7 x8, k9 (x6, x7, x8) = some (h', f', o', a', b', c', r9) → GG Γ (0, 0) (qLis σ i x8 x6 x7 x1 x2 x3) 79 [(2, .int (f 7)), (0, .ref (ya (gl Γ) 4 i)), (1, .int p1)] [] := by
      intro x6 x7 x8 hf
      subst hk_k9
      try dsimp only at hf
      refine G_aload_n hΓ 1 dX1_hearPlain_79 rfl ?_
      refine F_get hΓ (t := 4) (i := i) (ci := 4) (C := RX1) (T := TX1) (N := 17) (fs1 (gl Γ) i) (v := .int (x6 7)) (FLi hF (t := 4) hii) (fun _ _ _ => rfl) qLis_g4 rfl rfl rfl inW1 7 (by decide) (TT_cons kw_98) rfl dX1_hearPlain_80 ?_
      refine G_aload_n hΓ 1 dX1_hearPlain_83 rfl ?_
      refine F_get hΓ (t := 4) (i := i) (ci := 4) (C := RX1) (T := TX1) (N := 17) (fs1 (gl Γ) i) (v := .int (x6 13)) (FLi hF (t := 4) hii) (fun _ _ _ => rfl) qLis_g4 rfl rfl rfl inW1 13 (by decide) (TT_cons kw_104) rfl dX1_hearPlain_84 ?_
      obtain ⟨k12, hk_k12, hf⟩ := jn_eq hf
      try dsimp only at hf
      have K13 : ∀ x11, k12 x11 = some (h', f', o', a', b', c', r9) → GG Γ (0, 0) (qLis σ i x8 x11 x7 x1 x2 x3) 94 [(2, .int (f 7)), (0, .ref (ya (gl Γ) 4 i)), (1, .int p1)] [] := by
        intro x11 hf
        subst hk_k12
        try dsimp only at hf
        refine G_aload_n hΓ 1 dX1_hearPlain_94 rfl ?_
        refine F_get hΓ (t := 4) (i := i) (ci := 4) (C := RX1) (T := TX1) (N := 17) (fs1 (gl Γ) i) (v := .int (x11 10)) (FLi hF (t := 4) hii) (fun _ _ _ => rfl) qLis_g4 rfl rfl rfl inW1 10 (by decide) (TT_cons kw_101) rfl dX1_hearPlain_95 ?_
        obtain ⟨k21, hk_k21, hf⟩ := jn_eq hf
        try dsimp only at hf
        have K22 : ∀ x14, k21 x14 = some (h', f', o', a', b', c', r9) → GG Γ (0, 0) (qLis σ i x8 x11 x7 x1 x2 x3) 129 [(2, .int (f 7)), (0, .ref (ya (gl Γ) 4 i)), (1, .int p1)] [.int x14] := by
          intro x14 hf
          subst hk_k21
          try dsimp only at hf
          cases hf
          exact G_iret hΓ hE dX1_hearPlain_129
        clear hk_k21
        refine G_if_eq hΓ (tgt := 128) dX1_hearPlain_98 (by decide) (fun hc29 => ?_) (fun hc29 => ?_)
        · rw [if_pos hc29] at hf
          refine G_iconst (v := (-1)) hΓ dX1_hearPlain_128 (by decide) ?_
          exact K22 _ hf
        · rw [if_neg hc29] at hf
          refine G_iload_n hΓ 2 dX1_hearPlain_101 rfl ?_
          refine G_iconst (v := 1) hΓ dX1_hearPlain_102 (by decide) ?_
          refine G_icmp_ne hΓ (tgt := 128) dX1_hearPlain_103 (by decide) (fun hc28 => ?_) (fun hc28 => ?_)
          · rw [if_neg hc28] at hf
            refine G_iconst (v := (-1)) hΓ dX1_hearPlain_128 (by decide) ?_
            exact K22 _ hf
          · rw [if_pos hc28] at hf
            refine G_iload_n hΓ 0 dX1_hearPlain_106 rfl ?_
            refine G_aload_n hΓ 1 dX1_hearPlain_107 rfl ?_
            refine F_get hΓ (t := 4) (i := i) (ci := 4) (C := RX1) (T := TX1) (N := 17) (fs1 (gl Γ) i) (v := .int (x11 9)) (FLi hF (t := 4) hii) (fun _ _ _ => rfl) qLis_g4 rfl rfl rfl inW1 9 (by decide) (TT_cons kw_100) rfl dX1_hearPlain_108 ?_
            obtain ⟨x23, he26, hf⟩ := lt_eq hf
            have K24 : GG Γ (0, 0) (qLis σ i x8 x11 x7 x1 x2 x3) 121 [(2, .int (f 7)), (0, .ref (ya (gl Γ) 4 i)), (1, .int p1)] [.int x23, .int (f 7)] := by
              refine G_icmp_ne hΓ (tgt := 128) dX1_hearPlain_121 (by decide) (fun hc27 => ?_) (fun hc27 => ?_)
              · rw [if_neg hc27] at hf
                refine G_iconst (v := (-1)) hΓ dX1_hearPlain_128 (by decide) ?_
                exact K22 _ hf
              · rw [if_pos hc27] at hf
                refine G_iconst (v := 2) hΓ dX1_hearPlain_124 (by decide) ?_
                refine G_goto hΓ (tgt := 129) dX1_hearPlain_125 (by decide) ?_
                exact K22 _ hf
            have he := he26
            refine G_if_eq hΓ (tgt := 119) dX1_hearPlain_111 (by decide) (fun hc25 => ?_) (fun hc25 => ?_)
            · rw [if_pos hc25] at he
              refine G_bipush (v := 15) hΓ dX1_hearPlain_119 (by decide) ?_
              subst he
              exact K24
            · rw [if_neg hc25] at he
              refine G_bipush (v := 34) hΓ dX1_hearPlain_114 (by decide) ?_
              refine G_goto hΓ (tgt := 121) dX1_hearPlain_116 (by decide) ?_
              subst he
              exact K24
      clear hk_k12
      refine G_icmp_ne hΓ (tgt := 94) dX1_hearPlain_87 (by decide) (fun hc32 => ?_) (fun hc32 => ?_)
      · rw [if_neg hc32] at hf
        exact K13 _ hf
      · rw [if_pos hc32] at hf
        refine G_aload_n hΓ 1 dX1_hearPlain_90 rfl ?_
        obtain ⟨u30, hc31, hf⟩ := bd_some hf
        refine G_callV hΓ (n := 0) (As := []) (t := 4) (i := i) (ci := 4) (T := TX1) (N := 17) (FS := fs1 (gl Γ) i) (σ' := (qLis σ i x8 u30 x7 x1 x2 x3)) (c_X1_endPlain (gL Γ) (gl Γ) hF σ i x8 x6 x7 x1 x2 x3  hii hc31) rfl rfl kw_741 kw_743 kp_21 kw_3 kw_744 ⟨rfl, by decide, by decide, by decide +kernel⟩ (FLi hF (t := 4) hii) (fun _ _ _ => rfl) rfl rfl rfl ⟨Nat.le_of_ble_eq_true rfl, Nat.le_of_ble_eq_true rfl⟩ rfl (Nat.le_of_ble_eq_true rfl) dX1_hearPlain_91 ⟨_, rfl⟩ rfl ?_
        exact K13 _ hf
    clear hk_k9
    refine G_icmp_ge hΓ (tgt := 45) dX1_hearPlain_33 (by decide) (fun hc40 => ?_) (fun hc40 => ?_)
    · rw [if_pos hc40] at hf
      refine G_iload_n hΓ 0 dX1_hearPlain_45 rfl ?_
      refine G_aload_n hΓ 1 dX1_hearPlain_46 rfl ?_
      refine F_get hΓ (t := 4) (i := i) (ci := 4) (C := RX1) (T := TX1) (N := 17) (fs1 (gl Γ) i) (v := .int (f 12)) (FLi hF (t := 4) hii) (fun _ _ _ => rfl) qLis_g4 rfl rfl rfl inW1 12 (by decide) (TT_cons kw_103) rfl dX1_hearPlain_47 ?_
      refine G_icmp_ge hΓ (tgt := 67) dX1_hearPlain_50 (by decide) (fun hc36 => ?_) (fun hc36 => ?_)
      · rw [if_pos hc36] at hf
        refine G_aload_n hΓ 1 dX1_hearPlain_67 rfl ?_
        refine G_aload_n hΓ 1 dX1_hearPlain_68 rfl ?_
        refine F_get hΓ (t := 4) (i := i) (ci := 4) (C := RX1) (T := TX1) (N := 17) (fs1 (gl Γ) i) (v := .int (f 15)) (FLi hF (t := 4) hii) (fun _ _ _ => rfl) qLis_g4 rfl rfl rfl inW1 15 (by decide) (TT_cons kw_107) rfl dX1_hearPlain_69 ?_
        refine G_iconst (v := 1) hΓ dX1_hearPlain_72 (by decide) ?_
        refine G_ishl hΓ dX1_hearPlain_73 ?_
        refine G_iload_n hΓ 2 dX1_hearPlain_74 rfl ?_
        refine G_ior hΓ dX1_hearPlain_75 ?_
        obtain ⟨v33, hv_v33, hf⟩ := lt_eq hf
        refine G_topi hv_v33 ?_
        refine F_put hΓ (t := 4) (i := i) (ci := 4) (C := RX1) (T := TX1) (N := 17) (fs1 (gl Γ) i) (f := (upd f 7 ((f 7) + 1))) (f' := (upd (upd f 7 ((f 7) + 1)) 15 v33)) (σ' := (qLis σ i h (upd (upd f 7 ((f 7) + 1)) 15 v33) o x1 x2 x3)) (ty := .int) (v := .int v33) tyX1 tyX1_ok nmX1 (FLi hF (t := 4) hii) (fun _ _ _ => rfl) qLis_g4 qLis_s4 rfl inW1 15 (by decide) (TT_cons kw_107) rfl (by decide +kernel) rfl rfl (fun _ _ => Nat.le_of_ble_eq_true rfl) (fun _ _ => rfl) dX1_hearPlain_76 ?_
        exact K10 _ _ _ hf
      · rw [if_neg hc36] at hf
        refine G_aload_n hΓ 1 dX1_hearPlain_53 rfl ?_
        refine G_iload_n hΓ 0 dX1_hearPlain_54 rfl ?_
        refine G_aload_n hΓ 1 dX1_hearPlain_55 rfl ?_
        refine F_get hΓ (t := 4) (i := i) (ci := 4) (C := RX1) (T := TX1) (N := 17) (fs1 (gl Γ) i) (v := .int (f 11)) (FLi hF (t := 4) hii) (fun _ _ _ => rfl) qLis_g4 rfl rfl rfl inW1 11 (by decide) (TT_cons kw_102) rfl dX1_hearPlain_56 ?_
        refine G_isub hΓ dX1_hearPlain_59 ?_
        refine G_iload_n hΓ 2 dX1_hearPlain_60 rfl ?_
        obtain ⟨u34, hc35, hf⟩ := bd_some hf
        refine G_callV hΓ (n := 2) (As := [.int ((f 7) - (f 11)), .int p1]) (t := 4) (i := i) (ci := 4) (T := TX1) (N := 17) (FS := fs1 (gl Γ) i) (σ' := (qLis σ i h (upd f 7 ((f 7) + 1)) u34 x1 x2 x3)) (c_X1_hearOctet (gL Γ) (gl Γ) hF σ i h (upd f 7 ((f 7) + 1)) o x1 x2 x3 ((f 7) - (f 11)) p1 hii hc35) rfl rfl kw_737 kw_739 kp_20 kw_3 kw_740 ⟨rfl, by decide, by decide, by decide +kernel⟩ (FLi hF (t := 4) hii) (fun _ _ _ => rfl) rfl rfl rfl ⟨Nat.le_of_ble_eq_true rfl, Nat.le_of_ble_eq_true rfl⟩ rfl (Nat.le_of_ble_eq_true rfl) dX1_hearPlain_61 ⟨_, rfl⟩ rfl ?_
        refine G_goto hΓ (tgt := 79) dX1_hearPlain_64 (by decide) ?_
        exact K10 _ _ _ hf
    · rw [if_neg hc40] at hf
      refine G_aload_n hΓ 1 dX1_hearPlain_36 rfl ?_
      refine G_iload_n hΓ 0 dX1_hearPlain_37 rfl ?_
      refine G_iload_n hΓ 2 dX1_hearPlain_38 rfl ?_
      obtain ⟨⟨u37, u38⟩, hc39, hf⟩ := bd_some hf
      try dsimp only at hf
      refine G_callV hΓ (n := 2) (As := [.int (f 7), .int p1]) (t := 4) (i := i) (ci := 4) (T := TX1) (N := 17) (FS := fs1 (gl Γ) i) (σ' := (qLis σ i u37 u38 o x1 x2 x3)) (c_X1_hearHead (gL Γ) (gl Γ) hF σ i h (upd f 7 ((f 7) + 1)) o x1 x2 x3 (f 7) p1 hii hc39) rfl rfl kw_723 kw_725 kp_19 kw_3 kw_726 ⟨rfl, by decide, by decide, by decide +kernel⟩ (FLi hF (t := 4) hii) (fun _ _ _ => rfl) rfl rfl rfl ⟨Nat.le_of_ble_eq_true rfl, Nat.le_of_ble_eq_true rfl⟩ rfl (Nat.le_of_ble_eq_true rfl) dX1_hearPlain_39 ⟨_, rfl⟩ rfl ?_
      refine G_goto hΓ (tgt := 79) dX1_hearPlain_42 (by decide) ?_
      exact K10 _ _ _ hf
  clear hk_k4
  refine G_icmp_ge hΓ (tgt := 28) dX1_hearPlain_17 (by decide) (fun hc45 => ?_) (fun hc45 => ?_)
  · rw [if_pos hc45] at hf
    exact K5 _ _ _ hf
  · rw [if_neg hc45] at hf
    refine G_aload_n hΓ 1 dX1_hearPlain_20 rfl ?_
    refine F_get hΓ (t := 4) (i := i) (ci := 4) (C := RX1) (T := TX1) (N := 17) (fs1 (gl Γ) i) (v := .ref (ya (gl Γ) 6 i)) (FLi hF (t := 4) hii) (fun _ _ _ => rfl) rfl rfl rfl rfl inW1 0 (by decide) (TT_cons kw_90) rfl dX1_hearPlain_21 ?_
    refine G_iload_n hΓ 2 dX1_hearPlain_24 rfl ?_
    obtain ⟨⟨u41, u42, u43⟩, hc44, hf⟩ := bd_some hf
    try dsimp only at hf
    refine G_callV hΓ (n := 1) (As := [.int p1]) (t := 6) (i := i) (ci := 7) (T := TX4) (N := 3) (FS := fs4 (gl Γ) i) (σ' := (qLis σ i h (upd f 7 ((f 7) + 1)) o u41 u42 u43)) (c_X4_addPlain (gL Γ) (gl Γ) hF (qLis σ i h (upd f 7 ((f 7) + 1)) o a b c) i a b c p1 (Nat.lt_trans hii (by decide)) hc44) qSum_qLis qSum_qLis kw_722 kw_568 kw_569 kw_4 kw_570 ⟨rfl, by decide, by decide, by decide +kernel⟩ (FLi hF (t := 6) (Nat.lt_trans hii (by decide))) (fun _ _ _ => rfl) rfl rfl rfl ⟨Nat.le_of_ble_eq_true rfl, Nat.le_of_ble_eq_true rfl⟩ rfl (Nat.le_of_ble_eq_true rfl) dX1_hearPlain_25 ⟨_, rfl⟩ rfl ?_
    exact K5 _ _ _ hf
theorem dX1_endCount_0 : decode cX1_endCount 0 = .ok (.aload_n 0, 1) := by decide +kernel
theorem dX1_endCount_1 : decode cX1_endCount 1 = .ok (.getfield 68, 3) := by decide +kernel
theorem dX1_endCount_4 : decode cX1_endCount 4 = .ok (.istore_n 1, 1) := by decide +kernel
theorem dX1_endCount_5 : decode cX1_endCount 5 = .ok (.aload_n 0, 1) := by decide +kernel
theorem dX1_endCount_6 : decode cX1_endCount 6 = .ok (.iconst 0, 1) := by decide +kernel
theorem dX1_endCount_7 : decode cX1_endCount 7 = .ok (.putfield 68, 3) := by decide +kernel
theorem dX1_endCount_10 : decode cX1_endCount 10 = .ok (.iload_n 1, 1) := by decide +kernel
theorem dX1_endCount_11 : decode cX1_endCount 11 = .ok (.aload_n 0, 1) := by decide +kernel
theorem dX1_endCount_12 : decode cX1_endCount 12 = .ok (.getfield 38, 3) := by decide +kernel
theorem dX1_endCount_15 : decode cX1_endCount 15 = .ok (.invokestatic 138, 3) := by decide +kernel
theorem dX1_endCount_18 : decode cX1_endCount 18 = .ok (.if_icmp .ne 7, 3) := by decide +kernel
theorem dX1_endCount_21 : decode cX1_endCount 21 = .ok (.iconst (-1), 1) := by decide +kernel
theorem dX1_endCount_22 : decode cX1_endCount 22 = .ok (.goto 4, 3) := by decide +kernel
theorem dX1_endCount_25 : decode cX1_endCount 25 = .ok (.iconst 1, 1) := by decide +kernel
theorem dX1_endCount_26 : decode cX1_endCount 26 = .ok (.ireturn, 1) := by decide +kernel
noncomputable def f_X1_endCount  (f : Nat → Int32)  : Option ((Nat → Int32) × Int32) := bd (f_X7_countOf (f 6)) (fun u1 => lt (α := Int32) (if (f 15) = u1 then (-1) else 1) (fun x3 => some ((upd f 15 0), x3)))
set_option maxHeartbeats 4000000 in
set_option maxRecDepth 100000 in
theorem c_X1_endCount (l : Launch) (Λ : LY) (hF : FL Λ) (σ : CS) (i : Nat) (h : Int64) (f : Nat → Int32) (o : Nat → Int32) (a : Nat → Int32) (b : Nat → Int32) (c : Nat → Int32)  (hii : i < 32)  {f' : Nat → Int32} {r9 : Int32} (hf : f_X1_endCount f = some (f', r9)) : CM l yX1_endCount (.code yX1_endCount cX1_endCount 2 (some .int) :: TT) ({ frames := 2, cells := 0, slots := 0, locals := 42 }) Λ [.ref (ya Λ 4 i)] (qLis σ i h f o a b c) (qLis σ i h f' o a b c) (some (.int r9)) := by
  refine CM_intro (own := RX1) (by decide) rfl (Nat.le_of_ble_eq_true rfl) ?_
  intro Γ hg hl hΓ hE
  subst hg; subst hl
  show GG Γ (0, 0) (qLis σ i h f o a b c) 0 [(0, .ref (ya (gl Γ) 4 i))] []
  unfold f_X1_endCount at hf
  refine G_aload_n hΓ 0 dX1_endCount_0 rfl ?_
  refine F_get hΓ (t := 4) (i := i) (ci := 4) (C := RX1) (T := TX1) (N := 17) (fs1 (gl Γ) i) (v := .int (f 15)) (FLi hF (t := 4) hii) (fun _ _ _ => rfl) qLis_g4 rfl rfl rfl inW1 15 (by decide) (TT_cons kw_107) rfl dX1_endCount_1 ?_
  refine G_istore_n hΓ [(1, .int (f 15)), (0, .ref (ya (gl Γ) 4 i))] dX1_endCount_4 (by decide) rfl ?_
  refine G_aload_n hΓ 1 dX1_endCount_5 rfl ?_
  refine G_iconst (v := 0) hΓ dX1_endCount_6 (by decide) ?_
  refine F_put hΓ (t := 4) (i := i) (ci := 4) (C := RX1) (T := TX1) (N := 17) (fs1 (gl Γ) i) (f := f) (f' := (upd f 15 0)) (σ' := (qLis σ i h (upd f 15 0) o a b c)) (ty := .int) (v := .int 0) tyX1 tyX1_ok nmX1 (FLi hF (t := 4) hii) (fun _ _ _ => rfl) qLis_g4 qLis_s4 rfl inW1 15 (by decide) (TT_cons kw_107) rfl (by decide +kernel) rfl rfl (fun _ _ => Nat.le_of_ble_eq_true rfl) (fun _ _ => rfl) dX1_endCount_7 ?_
  refine G_iload_n hΓ 0 dX1_endCount_10 rfl ?_
  refine G_aload_n hΓ 1 dX1_endCount_11 rfl ?_
  refine F_get hΓ (t := 4) (i := i) (ci := 4) (C := RX1) (T := TX1) (N := 17) (fs1 (gl Γ) i) (v := .int (f 6)) (FLi hF (t := 4) hii) (fun _ _ _ => rfl) qLis_g4 rfl rfl rfl inW1 6 (by decide) (TT_cons kw_97) rfl dX1_endCount_12 ?_
  obtain ⟨u1, hc2, hf⟩ := bd_some hf
  refine G_callSN hΓ (n := 1) (As := [.int (f 6)]) (σ' := (qLis σ i h (upd f 15 0) o a b c)) (c_X7_countOf (gL Γ) (gl Γ) hF (qLis σ i h (upd f 15 0) o a b c)   (f 6)  hc2) rfl rfl 11 (host := "CanBits") rfl kw_580 kw_1 kw_581 ⟨by decide, by decide, by decide +kernel⟩ rfl rfl ⟨Nat.le_of_ble_eq_true rfl, Nat.le_of_ble_eq_true rfl⟩ rfl (Nat.le_of_ble_eq_true rfl) dX1_endCount_15 ⟨_, rfl⟩ rfl ?_
  obtain ⟨x3, he6, hf⟩ := lt_eq hf
  have K4 : GG Γ (0, 0) (qLis σ i h (upd f 15 0) o a b c) 26 [(1, .int (f 15)), (0, .ref (ya (gl Γ) 4 i))] [.int x3] := by
    cases hf
    exact G_iret hΓ hE dX1_endCount_26
  have he := he6
  refine G_icmp_ne hΓ (tgt := 25) dX1_endCount_18 (by decide) (fun hc5 => ?_) (fun hc5 => ?_)
  · rw [if_neg hc5] at he
    refine G_iconst (v := 1) hΓ dX1_endCount_25 (by decide) ?_
    subst he
    exact K4
  · rw [if_pos hc5] at he
    refine G_iconst (v := (-1)) hΓ dX1_endCount_21 (by decide) ?_
    refine G_goto hΓ (tgt := 26) dX1_endCount_22 (by decide) ?_
    subst he
    exact K4
theorem dX1_hearFixed_0 : decode cX1_hearFixed 0 = .ok (.aload_n 0, 1) := by decide +kernel
theorem dX1_hearFixed_1 : decode cX1_hearFixed 1 = .ok (.dup, 1) := by decide +kernel
theorem dX1_hearFixed_2 : decode cX1_hearFixed 2 = .ok (.getfield 29, 3) := by decide +kernel
theorem dX1_hearFixed_5 : decode cX1_hearFixed 5 = .ok (.dup_x1, 1) := by decide +kernel
theorem dX1_hearFixed_6 : decode cX1_hearFixed 6 = .ok (.iconst 1, 1) := by decide +kernel
theorem dX1_hearFixed_7 : decode cX1_hearFixed 7 = .ok (.iadd, 1) := by decide +kernel
theorem dX1_hearFixed_8 : decode cX1_hearFixed 8 = .ok (.putfield 29, 3) := by decide +kernel
theorem dX1_hearFixed_11 : decode cX1_hearFixed 11 = .ok (.istore_n 2, 1) := by decide +kernel
theorem dX1_hearFixed_12 : decode cX1_hearFixed 12 = .ok (.iload_n 2, 1) := by decide +kernel
theorem dX1_hearFixed_13 : decode cX1_hearFixed 13 = .ok (.iconst 5, 1) := by decide +kernel
theorem dX1_hearFixed_14 : decode cX1_hearFixed 14 = .ok (.irem, 1) := by decide +kernel
theorem dX1_hearFixed_15 : decode cX1_hearFixed 15 = .ok (.ifCond .ne 7, 3) := by decide +kernel
theorem dX1_hearFixed_18 : decode cX1_hearFixed 18 = .ok (.iconst 1, 1) := by decide +kernel
theorem dX1_hearFixed_19 : decode cX1_hearFixed 19 = .ok (.goto 4, 3) := by decide +kernel
theorem dX1_hearFixed_22 : decode cX1_hearFixed 22 = .ok (.iconst 0, 1) := by decide +kernel
theorem dX1_hearFixed_23 : decode cX1_hearFixed 23 = .ok (.istore_n 3, 1) := by decide +kernel
theorem dX1_hearFixed_24 : decode cX1_hearFixed 24 = .ok (.iload_n 3, 1) := by decide +kernel
theorem dX1_hearFixed_25 : decode cX1_hearFixed 25 = .ok (.ifCond .eq 13, 3) := by decide +kernel
theorem dX1_hearFixed_28 : decode cX1_hearFixed 28 = .ok (.iload_n 1, 1) := by decide +kernel
theorem dX1_hearFixed_29 : decode cX1_hearFixed 29 = .ok (.aload_n 0, 1) := by decide +kernel
theorem dX1_hearFixed_30 : decode cX1_hearFixed 30 = .ok (.getfield 32, 3) := by decide +kernel
theorem dX1_hearFixed_33 : decode cX1_hearFixed 33 = .ok (.if_icmp .ne 5, 3) := by decide +kernel
theorem dX1_hearFixed_36 : decode cX1_hearFixed 36 = .ok (.iconst 1, 1) := by decide +kernel
theorem dX1_hearFixed_37 : decode cX1_hearFixed 37 = .ok (.ireturn, 1) := by decide +kernel
theorem dX1_hearFixed_38 : decode cX1_hearFixed 38 = .ok (.aload_n 0, 1) := by decide +kernel
theorem dX1_hearFixed_39 : decode cX1_hearFixed 39 = .ok (.iload_n 1, 1) := by decide +kernel
theorem dX1_hearFixed_40 : decode cX1_hearFixed 40 = .ok (.putfield 32, 3) := by decide +kernel
theorem dX1_hearFixed_43 : decode cX1_hearFixed 43 = .ok (.iload_n 3, 1) := by decide +kernel
theorem dX1_hearFixed_44 : decode cX1_hearFixed 44 = .ok (.ifCond .eq 5, 3) := by decide +kernel
theorem dX1_hearFixed_47 : decode cX1_hearFixed 47 = .ok (.iconst (-1), 1) := by decide +kernel
theorem dX1_hearFixed_48 : decode cX1_hearFixed 48 = .ok (.ireturn, 1) := by decide +kernel
theorem dX1_hearFixed_49 : decode cX1_hearFixed 49 = .ok (.aload_n 0, 1) := by decide +kernel
theorem dX1_hearFixed_50 : decode cX1_hearFixed 50 = .ok (.aload_n 0, 1) := by decide +kernel
theorem dX1_hearFixed_51 : decode cX1_hearFixed 51 = .ok (.getfield 68, 3) := by decide +kernel
theorem dX1_hearFixed_54 : decode cX1_hearFixed 54 = .ok (.iconst 1, 1) := by decide +kernel
theorem dX1_hearFixed_55 : decode cX1_hearFixed 55 = .ok (.ishl, 1) := by decide +kernel
theorem dX1_hearFixed_56 : decode cX1_hearFixed 56 = .ok (.iload_n 1, 1) := by decide +kernel
theorem dX1_hearFixed_57 : decode cX1_hearFixed 57 = .ok (.ior, 1) := by decide +kernel
theorem dX1_hearFixed_58 : decode cX1_hearFixed 58 = .ok (.putfield 68, 3) := by decide +kernel
theorem dX1_hearFixed_61 : decode cX1_hearFixed 61 = .ok (.iload_n 2, 1) := by decide +kernel
theorem dX1_hearFixed_62 : decode cX1_hearFixed 62 = .ok (.iconst 5, 1) := by decide +kernel
theorem dX1_hearFixed_63 : decode cX1_hearFixed 63 = .ok (.if_icmp .ge 25, 3) := by decide +kernel
theorem dX1_hearFixed_66 : decode cX1_hearFixed 66 = .ok (.aload_n 0, 1) := by decide +kernel
theorem dX1_hearFixed_67 : decode cX1_hearFixed 67 = .ok (.getfield 12, 3) := by decide +kernel
theorem dX1_hearFixed_70 : decode cX1_hearFixed 70 = .ok (.iload_n 1, 1) := by decide +kernel
theorem dX1_hearFixed_71 : decode cX1_hearFixed 71 = .ok (.invokevirtual 88, 3) := by decide +kernel
theorem dX1_hearFixed_74 : decode cX1_hearFixed 74 = .ok (.iload_n 2, 1) := by decide +kernel
theorem dX1_hearFixed_75 : decode cX1_hearFixed 75 = .ok (.iconst 4, 1) := by decide +kernel
theorem dX1_hearFixed_76 : decode cX1_hearFixed 76 = .ok (.if_icmp .ne 10, 3) := by decide +kernel
theorem dX1_hearFixed_79 : decode cX1_hearFixed 79 = .ok (.aload_n 0, 1) := by decide +kernel
theorem dX1_hearFixed_80 : decode cX1_hearFixed 80 = .ok (.invokevirtual 129, 3) := by decide +kernel
theorem dX1_hearFixed_83 : decode cX1_hearFixed 83 = .ok (.goto 4, 3) := by decide +kernel
theorem dX1_hearFixed_86 : decode cX1_hearFixed 86 = .ok (.iconst (-1), 1) := by decide +kernel
theorem dX1_hearFixed_87 : decode cX1_hearFixed 87 = .ok (.ireturn, 1) := by decide +kernel
theorem dX1_hearFixed_88 : decode cX1_hearFixed 88 = .ok (.iconst 4, 1) := by decide +kernel
theorem dX1_hearFixed_89 : decode cX1_hearFixed 89 = .ok (.aload_n 0, 1) := by decide +kernel
theorem dX1_hearFixed_90 : decode cX1_hearFixed 90 = .ok (.getfield 65, 3) := by decide +kernel
theorem dX1_hearFixed_93 : decode cX1_hearFixed 93 = .ok (.invokestatic 132, 3) := by decide +kernel
theorem dX1_hearFixed_96 : decode cX1_hearFixed 96 = .ok (.iadd, 1) := by decide +kernel
theorem dX1_hearFixed_97 : decode cX1_hearFixed 97 = .ok (.istore 4, 2) := by decide +kernel
theorem dX1_hearFixed_99 : decode cX1_hearFixed 99 = .ok (.iload_n 2, 1) := by decide +kernel
theorem dX1_hearFixed_100 : decode cX1_hearFixed 100 = .ok (.iload 4, 2) := by decide +kernel
theorem dX1_hearFixed_102 : decode cX1_hearFixed 102 = .ok (.iload 4, 2) := by decide +kernel
theorem dX1_hearFixed_104 : decode cX1_hearFixed 104 = .ok (.iconst 1, 1) := by decide +kernel
theorem dX1_hearFixed_105 : decode cX1_hearFixed 105 = .ok (.isub, 1) := by decide +kernel
theorem dX1_hearFixed_106 : decode cX1_hearFixed 106 = .ok (.iconst 4, 1) := by decide +kernel
theorem dX1_hearFixed_107 : decode cX1_hearFixed 107 = .ok (.idiv, 1) := by decide +kernel
theorem dX1_hearFixed_108 : decode cX1_hearFixed 108 = .ok (.iadd, 1) := by decide +kernel
theorem dX1_hearFixed_109 : decode cX1_hearFixed 109 = .ok (.if_icmp .ne 40, 3) := by decide +kernel
theorem dX1_hearFixed_112 : decode cX1_hearFixed 112 = .ok (.aload_n 0, 1) := by decide +kernel
theorem dX1_hearFixed_113 : decode cX1_hearFixed 113 = .ok (.aload_n 0, 1) := by decide +kernel
theorem dX1_hearFixed_114 : decode cX1_hearFixed 114 = .ok (.getfield 68, 3) := by decide +kernel
theorem dX1_hearFixed_117 : decode cX1_hearFixed 117 = .ok (.aload_n 0, 1) := by decide +kernel
theorem dX1_hearFixed_118 : decode cX1_hearFixed 118 = .ok (.getfield 12, 3) := by decide +kernel
theorem dX1_hearFixed_121 : decode cX1_hearFixed 121 = .ok (.aload_n 0, 1) := by decide +kernel
theorem dX1_hearFixed_122 : decode cX1_hearFixed 122 = .ok (.getfield 65, 3) := by decide +kernel
theorem dX1_hearFixed_125 : decode cX1_hearFixed 125 = .ok (.invokevirtual 135, 3) := by decide +kernel
theorem dX1_hearFixed_128 : decode cX1_hearFixed 128 = .ok (.if_icmp .ne 7, 3) := by decide +kernel
theorem dX1_hearFixed_131 : decode cX1_hearFixed 131 = .ok (.iconst 1, 1) := by decide +kernel
theorem dX1_hearFixed_132 : decode cX1_hearFixed 132 = .ok (.goto 4, 3) := by decide +kernel
theorem dX1_hearFixed_135 : decode cX1_hearFixed 135 = .ok (.iconst 0, 1) := by decide +kernel
theorem dX1_hearFixed_136 : decode cX1_hearFixed 136 = .ok (.putfield 71, 3) := by decide +kernel
theorem dX1_hearFixed_139 : decode cX1_hearFixed 139 = .ok (.aload_n 0, 1) := by decide +kernel
theorem dX1_hearFixed_140 : decode cX1_hearFixed 140 = .ok (.iconst 2, 1) := by decide +kernel
theorem dX1_hearFixed_141 : decode cX1_hearFixed 141 = .ok (.putfield 25, 3) := by decide +kernel
theorem dX1_hearFixed_144 : decode cX1_hearFixed 144 = .ok (.aload_n 0, 1) := by decide +kernel
theorem dX1_hearFixed_145 : decode cX1_hearFixed 145 = .ok (.iconst 0, 1) := by decide +kernel
theorem dX1_hearFixed_146 : decode cX1_hearFixed 146 = .ok (.putfield 29, 3) := by decide +kernel
theorem dX1_hearFixed_149 : decode cX1_hearFixed 149 = .ok (.iconst (-1), 1) := by decide +kernel
theorem dX1_hearFixed_150 : decode cX1_hearFixed 150 = .ok (.ireturn, 1) := by decide +kernel
noncomputable def f_X1_hearFixed  (f : Nat → Int32) (b : Nat → Int32) (c : Nat → Int32) (p1 : Int32) : Option ((Nat → Int32) × (Nat → Int32) × (Nat → Int32) × Int32) := lt (α := Int32) (if ((f 3) - (f 3) / 5 * 5) = 0 then 1 else 0) (fun x1 => if x1 = 0 then if x1 = 0 then lt (α := Int32) (((f 15) <<< ((1 : Int32) &&& 31)) ||| p1) (fun v5 => if 5 ≤ (f 3) then bd (f_X4_flexibleWidth (f 14)) (fun u6 => jn (α := Nat → Int32) (fun x8 => some (x8, b, c, (-1))) (fun k9 => if (f 3) = ((4 + u6) + (((4 + u6) - 1) / 4)) then bd (f_X4_ofFlexible b c (f 14)) (fun u11 => lt (α := Int32) (if v5 = u11 then 1 else 0) (fun x13 => k9 (upd (upd (upd (upd (upd (upd f 3 ((f 3) + 1)) 4 p1) 15 v5) 16 x13) 2 2) 3 0))) else k9 (upd (upd (upd f 3 ((f 3) + 1)) 4 p1) 15 v5))) else bd (f_X4_addOther b c p1) (fun ⟨u18, u19⟩ => jn (α := Int32 × (Nat → Int32)) (fun ⟨x21, x22⟩ => some (x22, u18, u19, x21)) (fun k23 => if (f 3) = 4 then bd (f_X1_endCount (upd (upd (upd f 3 ((f 3) + 1)) 4 p1) 15 v5)) (fun ⟨u25, u26⟩ => k23 (u26, u25)) else k23 ((-1), (upd (upd (upd f 3 ((f 3) + 1)) 4 p1) 15 v5))))) else some ((upd (upd f 3 ((f 3) + 1)) 4 p1), b, c, (-1)) else if p1 = (f 4) then some ((upd f 3 ((f 3) + 1)), b, c, 1) else if x1 = 0 then lt (α := Int32) (((f 15) <<< ((1 : Int32) &&& 31)) ||| p1) (fun v31 => if 5 ≤ (f 3) then bd (f_X4_flexibleWidth (f 14)) (fun u32 => jn (α := Nat → Int32) (fun x34 => some (x34, b, c, (-1))) (fun k35 => if (f 3) = ((4 + u32) + (((4 + u32) - 1) / 4)) then bd (f_X4_ofFlexible b c (f 14)) (fun u37 => lt (α := Int32) (if v31 = u37 then 1 else 0) (fun x39 => k35 (upd (upd (upd (upd (upd (upd f 3 ((f 3) + 1)) 4 p1) 15 v31) 16 x39) 2 2) 3 0))) else k35 (upd (upd (upd f 3 ((f 3) + 1)) 4 p1) 15 v31))) else bd (f_X4_addOther b c p1) (fun ⟨u44, u45⟩ => jn (α := Int32 × (Nat → Int32)) (fun ⟨x47, x48⟩ => some (x48, u44, u45, x47)) (fun k49 => if (f 3) = 4 then bd (f_X1_endCount (upd (upd (upd f 3 ((f 3) + 1)) 4 p1) 15 v31)) (fun ⟨u51, u52⟩ => k49 (u52, u51)) else k49 ((-1), (upd (upd (upd f 3 ((f 3) + 1)) 4 p1) 15 v31))))) else some ((upd (upd f 3 ((f 3) + 1)) 4 p1), b, c, (-1)))
set_option maxHeartbeats 4000000 in
set_option maxRecDepth 100000 in
theorem c_X1_hearFixed (l : Launch) (Λ : LY) (hF : FL Λ) (σ : CS) (i : Nat) (h : Int64) (f : Nat → Int32) (o : Nat → Int32) (a : Nat → Int32) (b : Nat → Int32) (c : Nat → Int32) (p1 : Int32) (hii : i < 32)  {f' : Nat → Int32} {b' : Nat → Int32} {c' : Nat → Int32} {r9 : Int32} (hf : f_X1_hearFixed f b c p1 = some (f', b', c', r9)) : CM l yX1_hearFixed (.code yX1_hearFixed cX1_hearFixed 5 (some .int) :: TT) ({ frames := 3, cells := 0, slots := 0, locals := 63 }) Λ [.ref (ya Λ 4 i), .int p1] (qLis σ i h f o a b c) (qLis σ i h f' o a b' c') (some (.int r9)) := by
  refine CM_intro (own := RX1) (by decide) rfl (Nat.le_of_ble_eq_true rfl) ?_
  intro Γ hg hl hΓ hE
  subst hg; subst hl
  show GG Γ (0, 0) (qLis σ i h f o a b c) 0 [(0, .ref (ya (gl Γ) 4 i)), (1, .int p1)] []
  unfold f_X1_hearFixed at hf
  refine G_aload_n hΓ 0 dX1_hearFixed_0 rfl ?_
  refine G_dup hΓ dX1_hearFixed_1 rfl ?_
  refine F_get hΓ (t := 4) (i := i) (ci := 4) (C := RX1) (T := TX1) (N := 17) (fs1 (gl Γ) i) (v := .int (f 3)) (FLi hF (t := 4) hii) (fun _ _ _ => rfl) qLis_g4 rfl rfl rfl inW1 3 (by decide) (TT_cons kw_94) rfl dX1_hearFixed_2 ?_
  refine G_dup_x1 hΓ dX1_hearFixed_5 rfl rfl ?_
  refine G_iconst (v := 1) hΓ dX1_hearFixed_6 (by decide) ?_
  refine G_iadd hΓ dX1_hearFixed_7 ?_
  refine F_put hΓ (t := 4) (i := i) (ci := 4) (C := RX1) (T := TX1) (N := 17) (fs1 (gl Γ) i) (f := f) (f' := (upd f 3 ((f 3) + 1))) (σ' := (qLis σ i h (upd f 3 ((f 3) + 1)) o a b c)) (ty := .int) (v := .int ((f 3) + 1)) tyX1 tyX1_ok nmX1 (FLi hF (t := 4) hii) (fun _ _ _ => rfl) qLis_g4 qLis_s4 rfl inW1 3 (by decide) (TT_cons kw_94) rfl (by decide +kernel) rfl rfl (fun _ _ => Nat.le_of_ble_eq_true rfl) (fun _ _ => rfl) dX1_hearFixed_8 ?_
  refine G_istore_n hΓ [(2, .int (f 3)), (0, .ref (ya (gl Γ) 4 i)), (1, .int p1)] dX1_hearFixed_11 (by decide) rfl ?_
  refine G_iload_n hΓ 0 dX1_hearFixed_12 rfl ?_
  refine G_iconst (v := 5) hΓ dX1_hearFixed_13 (by decide) ?_
  refine G_irem hΓ dX1_hearFixed_14 (by decide) ?_
  obtain ⟨x1, he4, hf⟩ := lt_eq hf
  have K2 : GG Γ (0, 0) (qLis σ i h (upd f 3 ((f 3) + 1)) o a b c) 23 [(2, .int (f 3)), (0, .ref (ya (gl Γ) 4 i)), (1, .int p1)] [.int x1] := by
    refine G_istore_n hΓ [(3, .int x1), (2, .int (f 3)), (0, .ref (ya (gl Γ) 4 i)), (1, .int p1)] dX1_hearFixed_23 (by decide) rfl ?_
    refine G_iload_n hΓ 0 dX1_hearFixed_24 rfl ?_
    refine G_if_eq hΓ (tgt := 38) dX1_hearFixed_25 (by decide) (fun hc58 => ?_) (fun hc58 => ?_)
    · rw [if_pos hc58] at hf
      refine G_aload_n hΓ 2 dX1_hearFixed_38 rfl ?_
      refine G_iload_n hΓ 3 dX1_hearFixed_39 rfl ?_
      refine F_put hΓ (t := 4) (i := i) (ci := 4) (C := RX1) (T := TX1) (N := 17) (fs1 (gl Γ) i) (f := (upd f 3 ((f 3) + 1))) (f' := (upd (upd f 3 ((f 3) + 1)) 4 p1)) (σ' := (qLis σ i h (upd (upd f 3 ((f 3) + 1)) 4 p1) o a b c)) (ty := .int) (v := .int p1) tyX1 tyX1_ok nmX1 (FLi hF (t := 4) hii) (fun _ _ _ => rfl) qLis_g4 qLis_s4 rfl inW1 4 (by decide) (TT_cons kw_95) rfl (by decide +kernel) rfl rfl (fun _ _ => Nat.le_of_ble_eq_true rfl) (fun _ _ => rfl) dX1_hearFixed_40 ?_
      refine G_iload_n hΓ 0 dX1_hearFixed_43 rfl ?_
      refine G_if_eq hΓ (tgt := 49) dX1_hearFixed_44 (by decide) (fun hc30 => ?_) (fun hc30 => ?_)
      · rw [if_pos hc30] at hf
        refine G_aload_n hΓ 2 dX1_hearFixed_49 rfl ?_
        refine G_aload_n hΓ 2 dX1_hearFixed_50 rfl ?_
        refine F_get hΓ (t := 4) (i := i) (ci := 4) (C := RX1) (T := TX1) (N := 17) (fs1 (gl Γ) i) (v := .int (f 15)) (FLi hF (t := 4) hii) (fun _ _ _ => rfl) qLis_g4 rfl rfl rfl inW1 15 (by decide) (TT_cons kw_107) rfl dX1_hearFixed_51 ?_
        refine G_iconst (v := 1) hΓ dX1_hearFixed_54 (by decide) ?_
        refine G_ishl hΓ dX1_hearFixed_55 ?_
        refine G_iload_n hΓ 3 dX1_hearFixed_56 rfl ?_
        refine G_ior hΓ dX1_hearFixed_57 ?_
        obtain ⟨v5, hv_v5, hf⟩ := lt_eq hf
        refine G_topi hv_v5 ?_
        refine F_put hΓ (t := 4) (i := i) (ci := 4) (C := RX1) (T := TX1) (N := 17) (fs1 (gl Γ) i) (f := (upd (upd f 3 ((f 3) + 1)) 4 p1)) (f' := (upd (upd (upd f 3 ((f 3) + 1)) 4 p1) 15 v5)) (σ' := (qLis σ i h (upd (upd (upd f 3 ((f 3) + 1)) 4 p1) 15 v5) o a b c)) (ty := .int) (v := .int v5) tyX1 tyX1_ok nmX1 (FLi hF (t := 4) hii) (fun _ _ _ => rfl) qLis_g4 qLis_s4 rfl inW1 15 (by decide) (TT_cons kw_107) rfl (by decide +kernel) rfl rfl (fun _ _ => Nat.le_of_ble_eq_true rfl) (fun _ _ => rfl) dX1_hearFixed_58 ?_
        refine G_iload_n hΓ 1 dX1_hearFixed_61 rfl ?_
        refine G_iconst (v := 5) hΓ dX1_hearFixed_62 (by decide) ?_
        refine G_icmp_ge hΓ (tgt := 88) dX1_hearFixed_63 (by decide) (fun hc29 => ?_) (fun hc29 => ?_)
        · rw [if_pos hc29] at hf
          refine G_iconst (v := 4) hΓ dX1_hearFixed_88 (by decide) ?_
          refine G_aload_n hΓ 2 dX1_hearFixed_89 rfl ?_
          refine F_get hΓ (t := 4) (i := i) (ci := 4) (C := RX1) (T := TX1) (N := 17) (fs1 (gl Γ) i) (v := .int (f 14)) (FLi hF (t := 4) hii) (fun _ _ _ => rfl) qLis_g4 rfl rfl rfl inW1 14 (by decide) (TT_cons kw_105) rfl dX1_hearFixed_90 ?_
          obtain ⟨u6, hc7, hf⟩ := bd_some hf
          refine G_callS hΓ (n := 1) (As := [.int (f 14)]) (σ' := (qLis σ i h (upd (upd (upd f 3 ((f 3) + 1)) 4 p1) 15 v5) o a b c)) (c_X4_flexibleWidth (gL Γ) (gl Γ) hF (qLis σ i h (upd (upd (upd f 3 ((f 3) + 1)) 4 p1) 15 v5) o a b c)   (f 14)  hc7) rfl rfl kw_712 kw_589 kw_4 kw_590 ⟨by decide, by decide, by decide +kernel⟩ rfl rfl ⟨Nat.le_of_ble_eq_true rfl, Nat.le_of_ble_eq_true rfl⟩ rfl (Nat.le_of_ble_eq_true rfl) dX1_hearFixed_93 ⟨_, rfl⟩ rfl ?_
          refine G_iadd hΓ dX1_hearFixed_96 ?_
          refine G_istore hΓ [(4, .int (4 + u6)), (3, .int x1), (2, .int (f 3)), (0, .ref (ya (gl Γ) 4 i)), (1, .int p1)] dX1_hearFixed_97 (by decide) rfl ?_
          refine G_iload_n hΓ 2 dX1_hearFixed_99 rfl ?_
          refine G_iload hΓ 0 dX1_hearFixed_100 rfl ?_
          refine G_iload hΓ 0 dX1_hearFixed_102 rfl ?_
          refine G_iconst (v := 1) hΓ dX1_hearFixed_104 (by decide) ?_
          refine G_isub hΓ dX1_hearFixed_105 ?_
          refine G_iconst (v := 4) hΓ dX1_hearFixed_106 (by decide) ?_
          refine G_idiv hΓ dX1_hearFixed_107 (by decide) ?_
          refine G_iadd hΓ dX1_hearFixed_108 ?_
          obtain ⟨k9, hk_k9, hf⟩ := jn_eq hf
          try dsimp only at hf
          have K10 : ∀ x8, k9 x8 = some (f', b', c', r9) → GG Γ (0, 0) (qLis σ i h x8 o a b c) 149 [(4, .int (4 + u6)), (3, .int x1), (2, .int (f 3)), (0, .ref (ya (gl Γ) 4 i)), (1, .int p1)] [] := by
            intro x8 hf
            subst hk_k9
            try dsimp only at hf
            refine G_iconst (v := (-1)) hΓ dX1_hearFixed_149 (by decide) ?_
            cases hf
            exact G_iret hΓ hE dX1_hearFixed_150
          clear hk_k9
          refine G_icmp_ne hΓ (tgt := 149) dX1_hearFixed_109 (by decide) (fun hc17 => ?_) (fun hc17 => ?_)
          · rw [if_neg hc17] at hf
            exact K10 _ hf
          · rw [if_pos hc17] at hf
            refine G_aload_n hΓ 3 dX1_hearFixed_112 rfl ?_
            refine G_aload_n hΓ 3 dX1_hearFixed_113 rfl ?_
            refine F_get hΓ (t := 4) (i := i) (ci := 4) (C := RX1) (T := TX1) (N := 17) (fs1 (gl Γ) i) (v := .int v5) (FLi hF (t := 4) hii) (fun _ _ _ => rfl) qLis_g4 rfl rfl rfl inW1 15 (by decide) (TT_cons kw_107) rfl dX1_hearFixed_114 ?_
            refine G_aload_n hΓ 3 dX1_hearFixed_117 rfl ?_
            refine F_get hΓ (t := 4) (i := i) (ci := 4) (C := RX1) (T := TX1) (N := 17) (fs1 (gl Γ) i) (v := .ref (ya (gl Γ) 6 i)) (FLi hF (t := 4) hii) (fun _ _ _ => rfl) rfl rfl rfl rfl inW1 0 (by decide) (TT_cons kw_90) rfl dX1_hearFixed_118 ?_
            refine G_aload_n hΓ 3 dX1_hearFixed_121 rfl ?_
            refine F_get hΓ (t := 4) (i := i) (ci := 4) (C := RX1) (T := TX1) (N := 17) (fs1 (gl Γ) i) (v := .int (f 14)) (FLi hF (t := 4) hii) (fun _ _ _ => rfl) qLis_g4 rfl rfl rfl inW1 14 (by decide) (TT_cons kw_105) rfl dX1_hearFixed_122 ?_
            obtain ⟨u11, hc12, hf⟩ := bd_some hf
            refine G_callV hΓ (n := 1) (As := [.int (f 14)]) (t := 6) (i := i) (ci := 7) (T := TX4) (N := 3) (FS := fs4 (gl Γ) i) (σ' := (qLis σ i h (upd (upd (upd f 3 ((f 3) + 1)) 4 p1) 15 v5) o a b c)) (c_X4_ofFlexible (gL Γ) (gl Γ) hF (qLis σ i h (upd (upd (upd f 3 ((f 3) + 1)) 4 p1) 15 v5) o a b c) i a b c (f 14) (Nat.lt_trans hii (by decide)) hc12) qSum_qLis qSum_qLis kw_713 kw_592 kw_593 kw_4 kw_594 ⟨rfl, by decide, by decide, by decide +kernel⟩ (FLi hF (t := 6) (Nat.lt_trans hii (by decide))) (fun _ _ _ => rfl) rfl rfl rfl ⟨Nat.le_of_ble_eq_true rfl, Nat.le_of_ble_eq_true rfl⟩ rfl (Nat.le_of_ble_eq_true rfl) dX1_hearFixed_125 ⟨_, rfl⟩ rfl ?_
            obtain ⟨x13, he16, hf⟩ := lt_eq hf
            have K14 : GG Γ (0, 0) (qLis σ i h (upd (upd (upd f 3 ((f 3) + 1)) 4 p1) 15 v5) o a b c) 136 [(4, .int (4 + u6)), (3, .int x1), (2, .int (f 3)), (0, .ref (ya (gl Γ) 4 i)), (1, .int p1)] [.int x13, .ref (ya (gl Γ) 4 i)] := by
              refine F_put hΓ (t := 4) (i := i) (ci := 4) (C := RX1) (T := TX1) (N := 17) (fs1 (gl Γ) i) (f := (upd (upd (upd f 3 ((f 3) + 1)) 4 p1) 15 v5)) (f' := (upd (upd (upd (upd f 3 ((f 3) + 1)) 4 p1) 15 v5) 16 x13)) (σ' := (qLis σ i h (upd (upd (upd (upd f 3 ((f 3) + 1)) 4 p1) 15 v5) 16 x13) o a b c)) (ty := .boolean) (v := .int x13) tyX1 tyX1_ok nmX1 (FLi hF (t := 4) hii) (fun _ _ _ => rfl) qLis_g4 qLis_s4 rfl inW1 16 (by decide) (TT_cons kw_108) rfl (by decide +kernel) (by rw [he16]; (repeat' split) <;> rfl) (fit_z (by rw [he16]; (repeat' split) <;> rfl)) (fun _ _ => Nat.le_of_ble_eq_true rfl) (fun _ _ => rfl) dX1_hearFixed_136 ?_
              refine G_aload_n hΓ 3 dX1_hearFixed_139 rfl ?_
              refine G_iconst (v := 2) hΓ dX1_hearFixed_140 (by decide) ?_
              refine F_put hΓ (t := 4) (i := i) (ci := 4) (C := RX1) (T := TX1) (N := 17) (fs1 (gl Γ) i) (f := (upd (upd (upd (upd f 3 ((f 3) + 1)) 4 p1) 15 v5) 16 x13)) (f' := (upd (upd (upd (upd (upd f 3 ((f 3) + 1)) 4 p1) 15 v5) 16 x13) 2 2)) (σ' := (qLis σ i h (upd (upd (upd (upd (upd f 3 ((f 3) + 1)) 4 p1) 15 v5) 16 x13) 2 2) o a b c)) (ty := .int) (v := .int 2) tyX1 tyX1_ok nmX1 (FLi hF (t := 4) hii) (fun _ _ _ => rfl) qLis_g4 qLis_s4 rfl inW1 2 (by decide) (TT_cons kw_93) rfl (by decide +kernel) rfl rfl (fun _ _ => Nat.le_of_ble_eq_true rfl) (fun _ _ => rfl) dX1_hearFixed_141 ?_
              refine G_aload_n hΓ 3 dX1_hearFixed_144 rfl ?_
              refine G_iconst (v := 0) hΓ dX1_hearFixed_145 (by decide) ?_
              refine F_put hΓ (t := 4) (i := i) (ci := 4) (C := RX1) (T := TX1) (N := 17) (fs1 (gl Γ) i) (f := (upd (upd (upd (upd (upd f 3 ((f 3) + 1)) 4 p1) 15 v5) 16 x13) 2 2)) (f' := (upd (upd (upd (upd (upd (upd f 3 ((f 3) + 1)) 4 p1) 15 v5) 16 x13) 2 2) 3 0)) (σ' := (qLis σ i h (upd (upd (upd (upd (upd (upd f 3 ((f 3) + 1)) 4 p1) 15 v5) 16 x13) 2 2) 3 0) o a b c)) (ty := .int) (v := .int 0) tyX1 tyX1_ok nmX1 (FLi hF (t := 4) hii) (fun _ _ _ => rfl) qLis_g4 qLis_s4 rfl inW1 3 (by decide) (TT_cons kw_94) rfl (by decide +kernel) rfl rfl (fun _ _ => Nat.le_of_ble_eq_true rfl) (fun _ _ => rfl) dX1_hearFixed_146 ?_
              exact K10 _ hf
            have he := he16
            refine G_icmp_ne hΓ (tgt := 135) dX1_hearFixed_128 (by decide) (fun hc15 => ?_) (fun hc15 => ?_)
            · rw [if_neg hc15] at he
              refine G_iconst (v := 0) hΓ dX1_hearFixed_135 (by decide) ?_
              subst he
              exact K14
            · rw [if_pos hc15] at he
              refine G_iconst (v := 1) hΓ dX1_hearFixed_131 (by decide) ?_
              refine G_goto hΓ (tgt := 136) dX1_hearFixed_132 (by decide) ?_
              subst he
              exact K14
        · rw [if_neg hc29] at hf
          refine G_aload_n hΓ 2 dX1_hearFixed_66 rfl ?_
          refine F_get hΓ (t := 4) (i := i) (ci := 4) (C := RX1) (T := TX1) (N := 17) (fs1 (gl Γ) i) (v := .ref (ya (gl Γ) 6 i)) (FLi hF (t := 4) hii) (fun _ _ _ => rfl) rfl rfl rfl rfl inW1 0 (by decide) (TT_cons kw_90) rfl dX1_hearFixed_67 ?_
          refine G_iload_n hΓ 3 dX1_hearFixed_70 rfl ?_
          obtain ⟨⟨u18, u19⟩, hc20, hf⟩ := bd_some hf
          try dsimp only at hf
          refine G_callV hΓ (n := 1) (As := [.int p1]) (t := 6) (i := i) (ci := 7) (T := TX4) (N := 3) (FS := fs4 (gl Γ) i) (σ' := (qLis σ i h (upd (upd (upd f 3 ((f 3) + 1)) 4 p1) 15 v5) o a u18 u19)) (c_X4_addOther (gL Γ) (gl Γ) hF (qLis σ i h (upd (upd (upd f 3 ((f 3) + 1)) 4 p1) 15 v5) o a b c) i a b c p1 (Nat.lt_trans hii (by decide)) hc20) qSum_qLis qSum_qLis kw_706 kw_556 kw_557 kw_4 kw_558 ⟨rfl, by decide, by decide, by decide +kernel⟩ (FLi hF (t := 6) (Nat.lt_trans hii (by decide))) (fun _ _ _ => rfl) rfl rfl rfl ⟨Nat.le_of_ble_eq_true rfl, Nat.le_of_ble_eq_true rfl⟩ rfl (Nat.le_of_ble_eq_true rfl) dX1_hearFixed_71 ⟨_, rfl⟩ rfl ?_
          refine G_iload_n hΓ 1 dX1_hearFixed_74 rfl ?_
          refine G_iconst (v := 4) hΓ dX1_hearFixed_75 (by decide) ?_
          obtain ⟨k23, hk_k23, hf⟩ := jn_eq hf
          try dsimp only at hf
          have K24 : ∀ x21 x22, k23 (x21, x22) = some (f', b', c', r9) → GG Γ (0, 0) (qLis σ i h x22 o a u18 u19) 87 [(3, .int x1), (2, .int (f 3)), (0, .ref (ya (gl Γ) 4 i)), (1, .int p1)] [.int x21] := by
            intro x21 x22 hf
            subst hk_k23
            try dsimp only at hf
            cases hf
            exact G_iret hΓ hE dX1_hearFixed_87
          clear hk_k23
          refine G_icmp_ne hΓ (tgt := 86) dX1_hearFixed_76 (by decide) (fun hc28 => ?_) (fun hc28 => ?_)
          · rw [if_neg hc28] at hf
            refine G_iconst (v := (-1)) hΓ dX1_hearFixed_86 (by decide) ?_
            exact K24 _ _ hf
          · rw [if_pos hc28] at hf
            refine G_aload_n hΓ 2 dX1_hearFixed_79 rfl ?_
            obtain ⟨⟨u25, u26⟩, hc27, hf⟩ := bd_some hf
            try dsimp only at hf
            refine G_callV hΓ (n := 0) (As := []) (t := 4) (i := i) (ci := 4) (T := TX1) (N := 17) (FS := fs1 (gl Γ) i) (σ' := (qLis σ i h u25 o a u18 u19)) (c_X1_endCount (gL Γ) (gl Γ) hF σ i h (upd (upd (upd f 3 ((f 3) + 1)) 4 p1) 15 v5) o a u18 u19  hii hc27) rfl rfl kw_707 kw_709 kp_16 kw_3 kw_710 ⟨rfl, by decide, by decide, by decide +kernel⟩ (FLi hF (t := 4) hii) (fun _ _ _ => rfl) rfl rfl rfl ⟨Nat.le_of_ble_eq_true rfl, Nat.le_of_ble_eq_true rfl⟩ rfl (Nat.le_of_ble_eq_true rfl) dX1_hearFixed_80 ⟨_, rfl⟩ rfl ?_
            refine G_goto hΓ (tgt := 87) dX1_hearFixed_83 (by decide) ?_
            exact K24 _ _ hf
      · rw [if_neg hc30] at hf
        refine G_iconst (v := (-1)) hΓ dX1_hearFixed_47 (by decide) ?_
        cases hf
        exact G_iret hΓ hE dX1_hearFixed_48
    · rw [if_neg hc58] at hf
      refine G_iload_n hΓ 3 dX1_hearFixed_28 rfl ?_
      refine G_aload_n hΓ 2 dX1_hearFixed_29 rfl ?_
      refine F_get hΓ (t := 4) (i := i) (ci := 4) (C := RX1) (T := TX1) (N := 17) (fs1 (gl Γ) i) (v := .int (f 4)) (FLi hF (t := 4) hii) (fun _ _ _ => rfl) qLis_g4 rfl rfl rfl inW1 4 (by decide) (TT_cons kw_95) rfl dX1_hearFixed_30 ?_
      refine G_icmp_ne hΓ (tgt := 38) dX1_hearFixed_33 (by decide) (fun hc57 => ?_) (fun hc57 => ?_)
      · rw [if_neg hc57] at hf
        refine G_aload_n hΓ 2 dX1_hearFixed_38 rfl ?_
        refine G_iload_n hΓ 3 dX1_hearFixed_39 rfl ?_
        refine F_put hΓ (t := 4) (i := i) (ci := 4) (C := RX1) (T := TX1) (N := 17) (fs1 (gl Γ) i) (f := (upd f 3 ((f 3) + 1))) (f' := (upd (upd f 3 ((f 3) + 1)) 4 p1)) (σ' := (qLis σ i h (upd (upd f 3 ((f 3) + 1)) 4 p1) o a b c)) (ty := .int) (v := .int p1) tyX1 tyX1_ok nmX1 (FLi hF (t := 4) hii) (fun _ _ _ => rfl) qLis_g4 qLis_s4 rfl inW1 4 (by decide) (TT_cons kw_95) rfl (by decide +kernel) rfl rfl (fun _ _ => Nat.le_of_ble_eq_true rfl) (fun _ _ => rfl) dX1_hearFixed_40 ?_
        refine G_iload_n hΓ 0 dX1_hearFixed_43 rfl ?_
        refine G_if_eq hΓ (tgt := 49) dX1_hearFixed_44 (by decide) (fun hc56 => ?_) (fun hc56 => ?_)
        · rw [if_pos hc56] at hf
          refine G_aload_n hΓ 2 dX1_hearFixed_49 rfl ?_
          refine G_aload_n hΓ 2 dX1_hearFixed_50 rfl ?_
          refine F_get hΓ (t := 4) (i := i) (ci := 4) (C := RX1) (T := TX1) (N := 17) (fs1 (gl Γ) i) (v := .int (f 15)) (FLi hF (t := 4) hii) (fun _ _ _ => rfl) qLis_g4 rfl rfl rfl inW1 15 (by decide) (TT_cons kw_107) rfl dX1_hearFixed_51 ?_
          refine G_iconst (v := 1) hΓ dX1_hearFixed_54 (by decide) ?_
          refine G_ishl hΓ dX1_hearFixed_55 ?_
          refine G_iload_n hΓ 3 dX1_hearFixed_56 rfl ?_
          refine G_ior hΓ dX1_hearFixed_57 ?_
          obtain ⟨v31, hv_v31, hf⟩ := lt_eq hf
          refine G_topi hv_v31 ?_
          refine F_put hΓ (t := 4) (i := i) (ci := 4) (C := RX1) (T := TX1) (N := 17) (fs1 (gl Γ) i) (f := (upd (upd f 3 ((f 3) + 1)) 4 p1)) (f' := (upd (upd (upd f 3 ((f 3) + 1)) 4 p1) 15 v31)) (σ' := (qLis σ i h (upd (upd (upd f 3 ((f 3) + 1)) 4 p1) 15 v31) o a b c)) (ty := .int) (v := .int v31) tyX1 tyX1_ok nmX1 (FLi hF (t := 4) hii) (fun _ _ _ => rfl) qLis_g4 qLis_s4 rfl inW1 15 (by decide) (TT_cons kw_107) rfl (by decide +kernel) rfl rfl (fun _ _ => Nat.le_of_ble_eq_true rfl) (fun _ _ => rfl) dX1_hearFixed_58 ?_
          refine G_iload_n hΓ 1 dX1_hearFixed_61 rfl ?_
          refine G_iconst (v := 5) hΓ dX1_hearFixed_62 (by decide) ?_
          refine G_icmp_ge hΓ (tgt := 88) dX1_hearFixed_63 (by decide) (fun hc55 => ?_) (fun hc55 => ?_)
          · rw [if_pos hc55] at hf
            refine G_iconst (v := 4) hΓ dX1_hearFixed_88 (by decide) ?_
            refine G_aload_n hΓ 2 dX1_hearFixed_89 rfl ?_
            refine F_get hΓ (t := 4) (i := i) (ci := 4) (C := RX1) (T := TX1) (N := 17) (fs1 (gl Γ) i) (v := .int (f 14)) (FLi hF (t := 4) hii) (fun _ _ _ => rfl) qLis_g4 rfl rfl rfl inW1 14 (by decide) (TT_cons kw_105) rfl dX1_hearFixed_90 ?_
            obtain ⟨u32, hc33, hf⟩ := bd_some hf
            refine G_callS hΓ (n := 1) (As := [.int (f 14)]) (σ' := (qLis σ i h (upd (upd (upd f 3 ((f 3) + 1)) 4 p1) 15 v31) o a b c)) (c_X4_flexibleWidth (gL Γ) (gl Γ) hF (qLis σ i h (upd (upd (upd f 3 ((f 3) + 1)) 4 p1) 15 v31) o a b c)   (f 14)  hc33) rfl rfl kw_712 kw_589 kw_4 kw_590 ⟨by decide, by decide, by decide +kernel⟩ rfl rfl ⟨Nat.le_of_ble_eq_true rfl, Nat.le_of_ble_eq_true rfl⟩ rfl (Nat.le_of_ble_eq_true rfl) dX1_hearFixed_93 ⟨_, rfl⟩ rfl ?_
            refine G_iadd hΓ dX1_hearFixed_96 ?_
            refine G_istore hΓ [(4, .int (4 + u32)), (3, .int x1), (2, .int (f 3)), (0, .ref (ya (gl Γ) 4 i)), (1, .int p1)] dX1_hearFixed_97 (by decide) rfl ?_
            refine G_iload_n hΓ 2 dX1_hearFixed_99 rfl ?_
            refine G_iload hΓ 0 dX1_hearFixed_100 rfl ?_
            refine G_iload hΓ 0 dX1_hearFixed_102 rfl ?_
            refine G_iconst (v := 1) hΓ dX1_hearFixed_104 (by decide) ?_
            refine G_isub hΓ dX1_hearFixed_105 ?_
            refine G_iconst (v := 4) hΓ dX1_hearFixed_106 (by decide) ?_
            refine G_idiv hΓ dX1_hearFixed_107 (by decide) ?_
            refine G_iadd hΓ dX1_hearFixed_108 ?_
            obtain ⟨k35, hk_k35, hf⟩ := jn_eq hf
            try dsimp only at hf
            have K36 : ∀ x34, k35 x34 = some (f', b', c', r9) → GG Γ (0, 0) (qLis σ i h x34 o a b c) 149 [(4, .int (4 + u32)), (3, .int x1), (2, .int (f 3)), (0, .ref (ya (gl Γ) 4 i)), (1, .int p1)] [] := by
              intro x34 hf
              subst hk_k35
              try dsimp only at hf
              refine G_iconst (v := (-1)) hΓ dX1_hearFixed_149 (by decide) ?_
              cases hf
              exact G_iret hΓ hE dX1_hearFixed_150
            clear hk_k35
            refine G_icmp_ne hΓ (tgt := 149) dX1_hearFixed_109 (by decide) (fun hc43 => ?_) (fun hc43 => ?_)
            · rw [if_neg hc43] at hf
              exact K36 _ hf
            · rw [if_pos hc43] at hf
              refine G_aload_n hΓ 3 dX1_hearFixed_112 rfl ?_
              refine G_aload_n hΓ 3 dX1_hearFixed_113 rfl ?_
              refine F_get hΓ (t := 4) (i := i) (ci := 4) (C := RX1) (T := TX1) (N := 17) (fs1 (gl Γ) i) (v := .int v31) (FLi hF (t := 4) hii) (fun _ _ _ => rfl) qLis_g4 rfl rfl rfl inW1 15 (by decide) (TT_cons kw_107) rfl dX1_hearFixed_114 ?_
              refine G_aload_n hΓ 3 dX1_hearFixed_117 rfl ?_
              refine F_get hΓ (t := 4) (i := i) (ci := 4) (C := RX1) (T := TX1) (N := 17) (fs1 (gl Γ) i) (v := .ref (ya (gl Γ) 6 i)) (FLi hF (t := 4) hii) (fun _ _ _ => rfl) rfl rfl rfl rfl inW1 0 (by decide) (TT_cons kw_90) rfl dX1_hearFixed_118 ?_
              refine G_aload_n hΓ 3 dX1_hearFixed_121 rfl ?_
              refine F_get hΓ (t := 4) (i := i) (ci := 4) (C := RX1) (T := TX1) (N := 17) (fs1 (gl Γ) i) (v := .int (f 14)) (FLi hF (t := 4) hii) (fun _ _ _ => rfl) qLis_g4 rfl rfl rfl inW1 14 (by decide) (TT_cons kw_105) rfl dX1_hearFixed_122 ?_
              obtain ⟨u37, hc38, hf⟩ := bd_some hf
              refine G_callV hΓ (n := 1) (As := [.int (f 14)]) (t := 6) (i := i) (ci := 7) (T := TX4) (N := 3) (FS := fs4 (gl Γ) i) (σ' := (qLis σ i h (upd (upd (upd f 3 ((f 3) + 1)) 4 p1) 15 v31) o a b c)) (c_X4_ofFlexible (gL Γ) (gl Γ) hF (qLis σ i h (upd (upd (upd f 3 ((f 3) + 1)) 4 p1) 15 v31) o a b c) i a b c (f 14) (Nat.lt_trans hii (by decide)) hc38) qSum_qLis qSum_qLis kw_713 kw_592 kw_593 kw_4 kw_594 ⟨rfl, by decide, by decide, by decide +kernel⟩ (FLi hF (t := 6) (Nat.lt_trans hii (by decide))) (fun _ _ _ => rfl) rfl rfl rfl ⟨Nat.le_of_ble_eq_true rfl, Nat.le_of_ble_eq_true rfl⟩ rfl (Nat.le_of_ble_eq_true rfl) dX1_hearFixed_125 ⟨_, rfl⟩ rfl ?_
              obtain ⟨x39, he42, hf⟩ := lt_eq hf
              have K40 : GG Γ (0, 0) (qLis σ i h (upd (upd (upd f 3 ((f 3) + 1)) 4 p1) 15 v31) o a b c) 136 [(4, .int (4 + u32)), (3, .int x1), (2, .int (f 3)), (0, .ref (ya (gl Γ) 4 i)), (1, .int p1)] [.int x39, .ref (ya (gl Γ) 4 i)] := by
                refine F_put hΓ (t := 4) (i := i) (ci := 4) (C := RX1) (T := TX1) (N := 17) (fs1 (gl Γ) i) (f := (upd (upd (upd f 3 ((f 3) + 1)) 4 p1) 15 v31)) (f' := (upd (upd (upd (upd f 3 ((f 3) + 1)) 4 p1) 15 v31) 16 x39)) (σ' := (qLis σ i h (upd (upd (upd (upd f 3 ((f 3) + 1)) 4 p1) 15 v31) 16 x39) o a b c)) (ty := .boolean) (v := .int x39) tyX1 tyX1_ok nmX1 (FLi hF (t := 4) hii) (fun _ _ _ => rfl) qLis_g4 qLis_s4 rfl inW1 16 (by decide) (TT_cons kw_108) rfl (by decide +kernel) (by rw [he42]; (repeat' split) <;> rfl) (fit_z (by rw [he42]; (repeat' split) <;> rfl)) (fun _ _ => Nat.le_of_ble_eq_true rfl) (fun _ _ => rfl) dX1_hearFixed_136 ?_
                refine G_aload_n hΓ 3 dX1_hearFixed_139 rfl ?_
                refine G_iconst (v := 2) hΓ dX1_hearFixed_140 (by decide) ?_
                refine F_put hΓ (t := 4) (i := i) (ci := 4) (C := RX1) (T := TX1) (N := 17) (fs1 (gl Γ) i) (f := (upd (upd (upd (upd f 3 ((f 3) + 1)) 4 p1) 15 v31) 16 x39)) (f' := (upd (upd (upd (upd (upd f 3 ((f 3) + 1)) 4 p1) 15 v31) 16 x39) 2 2)) (σ' := (qLis σ i h (upd (upd (upd (upd (upd f 3 ((f 3) + 1)) 4 p1) 15 v31) 16 x39) 2 2) o a b c)) (ty := .int) (v := .int 2) tyX1 tyX1_ok nmX1 (FLi hF (t := 4) hii) (fun _ _ _ => rfl) qLis_g4 qLis_s4 rfl inW1 2 (by decide) (TT_cons kw_93) rfl (by decide +kernel) rfl rfl (fun _ _ => Nat.le_of_ble_eq_true rfl) (fun _ _ => rfl) dX1_hearFixed_141 ?_
                refine G_aload_n hΓ 3 dX1_hearFixed_144 rfl ?_
                refine G_iconst (v := 0) hΓ dX1_hearFixed_145 (by decide) ?_
                refine F_put hΓ (t := 4) (i := i) (ci := 4) (C := RX1) (T := TX1) (N := 17) (fs1 (gl Γ) i) (f := (upd (upd (upd (upd (upd f 3 ((f 3) + 1)) 4 p1) 15 v31) 16 x39) 2 2)) (f' := (upd (upd (upd (upd (upd (upd f 3 ((f 3) + 1)) 4 p1) 15 v31) 16 x39) 2 2) 3 0)) (σ' := (qLis σ i h (upd (upd (upd (upd (upd (upd f 3 ((f 3) + 1)) 4 p1) 15 v31) 16 x39) 2 2) 3 0) o a b c)) (ty := .int) (v := .int 0) tyX1 tyX1_ok nmX1 (FLi hF (t := 4) hii) (fun _ _ _ => rfl) qLis_g4 qLis_s4 rfl inW1 3 (by decide) (TT_cons kw_94) rfl (by decide +kernel) rfl rfl (fun _ _ => Nat.le_of_ble_eq_true rfl) (fun _ _ => rfl) dX1_hearFixed_146 ?_
                exact K36 _ hf
              have he := he42
              refine G_icmp_ne hΓ (tgt := 135) dX1_hearFixed_128 (by decide) (fun hc41 => ?_) (fun hc41 => ?_)
              · rw [if_neg hc41] at he
                refine G_iconst (v := 0) hΓ dX1_hearFixed_135 (by decide) ?_
                subst he
                exact K40
              · rw [if_pos hc41] at he
                refine G_iconst (v := 1) hΓ dX1_hearFixed_131 (by decide) ?_
                refine G_goto hΓ (tgt := 136) dX1_hearFixed_132 (by decide) ?_
                subst he
                exact K40
          · rw [if_neg hc55] at hf
            refine G_aload_n hΓ 2 dX1_hearFixed_66 rfl ?_
            refine F_get hΓ (t := 4) (i := i) (ci := 4) (C := RX1) (T := TX1) (N := 17) (fs1 (gl Γ) i) (v := .ref (ya (gl Γ) 6 i)) (FLi hF (t := 4) hii) (fun _ _ _ => rfl) rfl rfl rfl rfl inW1 0 (by decide) (TT_cons kw_90) rfl dX1_hearFixed_67 ?_
            refine G_iload_n hΓ 3 dX1_hearFixed_70 rfl ?_
            obtain ⟨⟨u44, u45⟩, hc46, hf⟩ := bd_some hf
            try dsimp only at hf
            refine G_callV hΓ (n := 1) (As := [.int p1]) (t := 6) (i := i) (ci := 7) (T := TX4) (N := 3) (FS := fs4 (gl Γ) i) (σ' := (qLis σ i h (upd (upd (upd f 3 ((f 3) + 1)) 4 p1) 15 v31) o a u44 u45)) (c_X4_addOther (gL Γ) (gl Γ) hF (qLis σ i h (upd (upd (upd f 3 ((f 3) + 1)) 4 p1) 15 v31) o a b c) i a b c p1 (Nat.lt_trans hii (by decide)) hc46) qSum_qLis qSum_qLis kw_706 kw_556 kw_557 kw_4 kw_558 ⟨rfl, by decide, by decide, by decide +kernel⟩ (FLi hF (t := 6) (Nat.lt_trans hii (by decide))) (fun _ _ _ => rfl) rfl rfl rfl ⟨Nat.le_of_ble_eq_true rfl, Nat.le_of_ble_eq_true rfl⟩ rfl (Nat.le_of_ble_eq_true rfl) dX1_hearFixed_71 ⟨_, rfl⟩ rfl ?_
            refine G_iload_n hΓ 1 dX1_hearFixed_74 rfl ?_
            refine G_iconst (v := 4) hΓ dX1_hearFixed_75 (by decide) ?_
            obtain ⟨k49, hk_k49, hf⟩ := jn_eq hf
            try dsimp only at hf
            have K50 : ∀ x47 x48, k49 (x47, x48) = some (f', b', c', r9) → GG Γ (0, 0) (qLis σ i h x48 o a u44 u45) 87 [(3, .int x1), (2, .int (f 3)), (0, .ref (ya (gl Γ) 4 i)), (1, .int p1)] [.int x47] := by
              intro x47 x48 hf
              subst hk_k49
              try dsimp only at hf
              cases hf
              exact G_iret hΓ hE dX1_hearFixed_87
            clear hk_k49
            refine G_icmp_ne hΓ (tgt := 86) dX1_hearFixed_76 (by decide) (fun hc54 => ?_) (fun hc54 => ?_)
            · rw [if_neg hc54] at hf
              refine G_iconst (v := (-1)) hΓ dX1_hearFixed_86 (by decide) ?_
              exact K50 _ _ hf
            · rw [if_pos hc54] at hf
              refine G_aload_n hΓ 2 dX1_hearFixed_79 rfl ?_
              obtain ⟨⟨u51, u52⟩, hc53, hf⟩ := bd_some hf
              try dsimp only at hf
              refine G_callV hΓ (n := 0) (As := []) (t := 4) (i := i) (ci := 4) (T := TX1) (N := 17) (FS := fs1 (gl Γ) i) (σ' := (qLis σ i h u51 o a u44 u45)) (c_X1_endCount (gL Γ) (gl Γ) hF σ i h (upd (upd (upd f 3 ((f 3) + 1)) 4 p1) 15 v31) o a u44 u45  hii hc53) rfl rfl kw_707 kw_709 kp_16 kw_3 kw_710 ⟨rfl, by decide, by decide, by decide +kernel⟩ (FLi hF (t := 4) hii) (fun _ _ _ => rfl) rfl rfl rfl ⟨Nat.le_of_ble_eq_true rfl, Nat.le_of_ble_eq_true rfl⟩ rfl (Nat.le_of_ble_eq_true rfl) dX1_hearFixed_80 ⟨_, rfl⟩ rfl ?_
              refine G_goto hΓ (tgt := 87) dX1_hearFixed_83 (by decide) ?_
              exact K50 _ _ hf
        · rw [if_neg hc56] at hf
          refine G_iconst (v := (-1)) hΓ dX1_hearFixed_47 (by decide) ?_
          cases hf
          exact G_iret hΓ hE dX1_hearFixed_48
      · rw [if_pos hc57] at hf
        refine G_iconst (v := 1) hΓ dX1_hearFixed_36 (by decide) ?_
        cases hf
        exact G_iret hΓ hE dX1_hearFixed_37
  have he := he4
  refine G_if_ne hΓ (tgt := 22) dX1_hearFixed_15 (by decide) (fun hc3 => ?_) (fun hc3 => ?_)
  · rw [if_neg hc3] at he
    refine G_iconst (v := 0) hΓ dX1_hearFixed_22 (by decide) ?_
    subst he
    exact K2
  · rw [if_pos hc3] at he
    refine G_iconst (v := 1) hΓ dX1_hearFixed_18 (by decide) ?_
    refine G_goto hΓ (tgt := 23) dX1_hearFixed_19 (by decide) ?_
    subst he
    exact K2
theorem dX1_hearTail_0 : decode cX1_hearTail 0 = .ok (.aload_n 0, 1) := by decide +kernel
theorem dX1_hearTail_1 : decode cX1_hearTail 1 = .ok (.dup, 1) := by decide +kernel
theorem dX1_hearTail_2 : decode cX1_hearTail 2 = .ok (.getfield 29, 3) := by decide +kernel
theorem dX1_hearTail_5 : decode cX1_hearTail 5 = .ok (.dup_x1, 1) := by decide +kernel
theorem dX1_hearTail_6 : decode cX1_hearTail 6 = .ok (.iconst 1, 1) := by decide +kernel
theorem dX1_hearTail_7 : decode cX1_hearTail 7 = .ok (.iadd, 1) := by decide +kernel
theorem dX1_hearTail_8 : decode cX1_hearTail 8 = .ok (.putfield 29, 3) := by decide +kernel
theorem dX1_hearTail_11 : decode cX1_hearTail 11 = .ok (.istore_n 2, 1) := by decide +kernel
theorem dX1_hearTail_12 : decode cX1_hearTail 12 = .ok (.iload_n 2, 1) := by decide +kernel
theorem dX1_hearTail_13 : decode cX1_hearTail 13 = .ok (.iconst 1, 1) := by decide +kernel
theorem dX1_hearTail_14 : decode cX1_hearTail 14 = .ok (.if_icmp .ne 5, 3) := by decide +kernel
theorem dX1_hearTail_17 : decode cX1_hearTail 17 = .ok (.iconst (-1), 1) := by decide +kernel
theorem dX1_hearTail_18 : decode cX1_hearTail 18 = .ok (.ireturn, 1) := by decide +kernel
theorem dX1_hearTail_19 : decode cX1_hearTail 19 = .ok (.iload_n 1, 1) := by decide +kernel
theorem dX1_hearTail_20 : decode cX1_hearTail 20 = .ok (.ifCond .ne 15, 3) := by decide +kernel
theorem dX1_hearTail_23 : decode cX1_hearTail 23 = .ok (.iload_n 2, 1) := by decide +kernel
theorem dX1_hearTail_24 : decode cX1_hearTail 24 = .ok (.bipush 9, 2) := by decide +kernel
theorem dX1_hearTail_26 : decode cX1_hearTail 26 = .ok (.if_icmp .ne 7, 3) := by decide +kernel
theorem dX1_hearTail_29 : decode cX1_hearTail 29 = .ok (.iconst 5, 1) := by decide +kernel
theorem dX1_hearTail_30 : decode cX1_hearTail 30 = .ok (.goto 4, 3) := by decide +kernel
theorem dX1_hearTail_33 : decode cX1_hearTail 33 = .ok (.iconst 2, 1) := by decide +kernel
theorem dX1_hearTail_34 : decode cX1_hearTail 34 = .ok (.ireturn, 1) := by decide +kernel
theorem dX1_hearTail_35 : decode cX1_hearTail 35 = .ok (.iload_n 2, 1) := by decide +kernel
theorem dX1_hearTail_36 : decode cX1_hearTail 36 = .ok (.iconst 2, 1) := by decide +kernel
theorem dX1_hearTail_37 : decode cX1_hearTail 37 = .ok (.if_icmp .ne 12, 3) := by decide +kernel
theorem dX1_hearTail_40 : decode cX1_hearTail 40 = .ok (.aload_n 0, 1) := by decide +kernel
theorem dX1_hearTail_41 : decode cX1_hearTail 41 = .ok (.getfield 71, 3) := by decide +kernel
theorem dX1_hearTail_44 : decode cX1_hearTail 44 = .ok (.ifCond .ne 5, 3) := by decide +kernel
theorem dX1_hearTail_47 : decode cX1_hearTail 47 = .ok (.iconst 3, 1) := by decide +kernel
theorem dX1_hearTail_48 : decode cX1_hearTail 48 = .ok (.ireturn, 1) := by decide +kernel
theorem dX1_hearTail_49 : decode cX1_hearTail 49 = .ok (.iload_n 2, 1) := by decide +kernel
theorem dX1_hearTail_50 : decode cX1_hearTail 50 = .ok (.bipush 8, 2) := by decide +kernel
theorem dX1_hearTail_52 : decode cX1_hearTail 52 = .ok (.if_icmp .ne 8, 3) := by decide +kernel
theorem dX1_hearTail_55 : decode cX1_hearTail 55 = .ok (.bipush 7, 2) := by decide +kernel
theorem dX1_hearTail_57 : decode cX1_hearTail 57 = .ok (.goto 15, 3) := by decide +kernel
theorem dX1_hearTail_60 : decode cX1_hearTail 60 = .ok (.iload_n 2, 1) := by decide +kernel
theorem dX1_hearTail_61 : decode cX1_hearTail 61 = .ok (.bipush 9, 2) := by decide +kernel
theorem dX1_hearTail_63 : decode cX1_hearTail 63 = .ok (.if_icmp .ne 8, 3) := by decide +kernel
theorem dX1_hearTail_66 : decode cX1_hearTail 66 = .ok (.bipush 8, 2) := by decide +kernel
theorem dX1_hearTail_68 : decode cX1_hearTail 68 = .ok (.goto 4, 3) := by decide +kernel
theorem dX1_hearTail_71 : decode cX1_hearTail 71 = .ok (.iconst (-1), 1) := by decide +kernel
theorem dX1_hearTail_72 : decode cX1_hearTail 72 = .ok (.ireturn, 1) := by decide +kernel
noncomputable def f_X1_hearTail  (f : Nat → Int32) (p1 : Int32) : Option ((Nat → Int32) × Int32) := if (f 3) = 1 then some ((upd f 3 ((f 3) + 1)), (-1)) else if p1 = 0 then lt (α := Int32) (if (f 3) = 9 then 5 else 2) (fun x13 => some ((upd f 3 ((f 3) + 1)), x13)) else if (f 3) = 2 then if (f 16) = 0 then some ((upd f 3 ((f 3) + 1)), 3) else lt (α := Int32) (if (f 3) = 8 then 7 else if (f 3) = 9 then 8 else (-1)) (fun x6 => some ((upd f 3 ((f 3) + 1)), x6)) else lt (α := Int32) (if (f 3) = 8 then 7 else if (f 3) = 9 then 8 else (-1)) (fun x1 => some ((upd f 3 ((f 3) + 1)), x1))
set_option maxHeartbeats 4000000 in
set_option maxRecDepth 100000 in
theorem c_X1_hearTail (l : Launch) (Λ : LY) (hF : FL Λ) (σ : CS) (i : Nat) (h : Int64) (f : Nat → Int32) (o : Nat → Int32) (a : Nat → Int32) (b : Nat → Int32) (c : Nat → Int32) (p1 : Int32) (hii : i < 32)  {f' : Nat → Int32} {r9 : Int32} (hf : f_X1_hearTail f p1 = some (f', r9)) : CM l yX1_hearTail (.code yX1_hearTail cX1_hearTail 3 (some .int) :: TT) ({ frames := 0, cells := 0, slots := 0, locals := 0 }) Λ [.ref (ya Λ 4 i), .int p1] (qLis σ i h f o a b c) (qLis σ i h f' o a b c) (some (.int r9)) := by
  refine CM_intro (own := RX1) (by decide) rfl (Nat.le_of_ble_eq_true rfl) ?_
  intro Γ hg hl hΓ hE
  subst hg; subst hl
  show GG Γ (0, 0) (qLis σ i h f o a b c) 0 [(0, .ref (ya (gl Γ) 4 i)), (1, .int p1)] []
  unfold f_X1_hearTail at hf
  refine G_aload_n hΓ 0 dX1_hearTail_0 rfl ?_
  refine G_dup hΓ dX1_hearTail_1 rfl ?_
  refine F_get hΓ (t := 4) (i := i) (ci := 4) (C := RX1) (T := TX1) (N := 17) (fs1 (gl Γ) i) (v := .int (f 3)) (FLi hF (t := 4) hii) (fun _ _ _ => rfl) qLis_g4 rfl rfl rfl inW1 3 (by decide) (TT_cons kw_94) rfl dX1_hearTail_2 ?_
  refine G_dup_x1 hΓ dX1_hearTail_5 rfl rfl ?_
  refine G_iconst (v := 1) hΓ dX1_hearTail_6 (by decide) ?_
  refine G_iadd hΓ dX1_hearTail_7 ?_
  refine F_put hΓ (t := 4) (i := i) (ci := 4) (C := RX1) (T := TX1) (N := 17) (fs1 (gl Γ) i) (f := f) (f' := (upd f 3 ((f 3) + 1))) (σ' := (qLis σ i h (upd f 3 ((f 3) + 1)) o a b c)) (ty := .int) (v := .int ((f 3) + 1)) tyX1 tyX1_ok nmX1 (FLi hF (t := 4) hii) (fun _ _ _ => rfl) qLis_g4 qLis_s4 rfl inW1 3 (by decide) (TT_cons kw_94) rfl (by decide +kernel) rfl rfl (fun _ _ => Nat.le_of_ble_eq_true rfl) (fun _ _ => rfl) dX1_hearTail_8 ?_
  refine G_istore_n hΓ [(2, .int (f 3)), (0, .ref (ya (gl Γ) 4 i)), (1, .int p1)] dX1_hearTail_11 (by decide) rfl ?_
  refine G_iload_n hΓ 0 dX1_hearTail_12 rfl ?_
  refine G_iconst (v := 1) hΓ dX1_hearTail_13 (by decide) ?_
  refine G_icmp_ne hΓ (tgt := 19) dX1_hearTail_14 (by decide) (fun hc18 => ?_) (fun hc18 => ?_)
  · rw [if_neg hc18] at hf
    refine G_iload_n hΓ 2 dX1_hearTail_19 rfl ?_
    refine G_if_ne hΓ (tgt := 35) dX1_hearTail_20 (by decide) (fun hc17 => ?_) (fun hc17 => ?_)
    · rw [if_neg hc17] at hf
      refine G_iload_n hΓ 0 dX1_hearTail_35 rfl ?_
      refine G_iconst (v := 2) hΓ dX1_hearTail_36 (by decide) ?_
      refine G_icmp_ne hΓ (tgt := 49) dX1_hearTail_37 (by decide) (fun hc12 => ?_) (fun hc12 => ?_)
      · rw [if_neg hc12] at hf
        refine G_iload_n hΓ 0 dX1_hearTail_49 rfl ?_
        refine G_bipush (v := 8) hΓ dX1_hearTail_50 (by decide) ?_
        obtain ⟨x1, he5, hf⟩ := lt_eq hf
        have K2 : GG Γ (0, 0) (qLis σ i h (upd f 3 ((f 3) + 1)) o a b c) 72 [(2, .int (f 3)), (0, .ref (ya (gl Γ) 4 i)), (1, .int p1)] [.int x1] := by
          cases hf
          exact G_iret hΓ hE dX1_hearTail_72
        have he := he5
        refine G_icmp_ne hΓ (tgt := 60) dX1_hearTail_52 (by decide) (fun hc4 => ?_) (fun hc4 => ?_)
        · rw [if_neg hc4] at he
          refine G_iload_n hΓ 0 dX1_hearTail_60 rfl ?_
          refine G_bipush (v := 9) hΓ dX1_hearTail_61 (by decide) ?_
          refine G_icmp_ne hΓ (tgt := 71) dX1_hearTail_63 (by decide) (fun hc3 => ?_) (fun hc3 => ?_)
          · rw [if_neg hc3] at he
            refine G_iconst (v := (-1)) hΓ dX1_hearTail_71 (by decide) ?_
            subst he
            exact K2
          · rw [if_pos hc3] at he
            refine G_bipush (v := 8) hΓ dX1_hearTail_66 (by decide) ?_
            refine G_goto hΓ (tgt := 72) dX1_hearTail_68 (by decide) ?_
            subst he
            exact K2
        · rw [if_pos hc4] at he
          refine G_bipush (v := 7) hΓ dX1_hearTail_55 (by decide) ?_
          refine G_goto hΓ (tgt := 72) dX1_hearTail_57 (by decide) ?_
          subst he
          exact K2
      · rw [if_pos hc12] at hf
        refine G_aload_n hΓ 1 dX1_hearTail_40 rfl ?_
        refine F_get hΓ (t := 4) (i := i) (ci := 4) (C := RX1) (T := TX1) (N := 17) (fs1 (gl Γ) i) (v := .int (f 16)) (FLi hF (t := 4) hii) (fun _ _ _ => rfl) qLis_g4 rfl rfl rfl inW1 16 (by decide) (TT_cons kw_108) rfl dX1_hearTail_41 ?_
        refine G_if_ne hΓ (tgt := 49) dX1_hearTail_44 (by decide) (fun hc11 => ?_) (fun hc11 => ?_)
        · rw [if_neg hc11] at hf
          refine G_iload_n hΓ 0 dX1_hearTail_49 rfl ?_
          refine G_bipush (v := 8) hΓ dX1_hearTail_50 (by decide) ?_
          obtain ⟨x6, he10, hf⟩ := lt_eq hf
          have K7 : GG Γ (0, 0) (qLis σ i h (upd f 3 ((f 3) + 1)) o a b c) 72 [(2, .int (f 3)), (0, .ref (ya (gl Γ) 4 i)), (1, .int p1)] [.int x6] := by
            cases hf
            exact G_iret hΓ hE dX1_hearTail_72
          have he := he10
          refine G_icmp_ne hΓ (tgt := 60) dX1_hearTail_52 (by decide) (fun hc9 => ?_) (fun hc9 => ?_)
          · rw [if_neg hc9] at he
            refine G_iload_n hΓ 0 dX1_hearTail_60 rfl ?_
            refine G_bipush (v := 9) hΓ dX1_hearTail_61 (by decide) ?_
            refine G_icmp_ne hΓ (tgt := 71) dX1_hearTail_63 (by decide) (fun hc8 => ?_) (fun hc8 => ?_)
            · rw [if_neg hc8] at he
              refine G_iconst (v := (-1)) hΓ dX1_hearTail_71 (by decide) ?_
              subst he
              exact K7
            · rw [if_pos hc8] at he
              refine G_bipush (v := 8) hΓ dX1_hearTail_66 (by decide) ?_
              refine G_goto hΓ (tgt := 72) dX1_hearTail_68 (by decide) ?_
              subst he
              exact K7
          · rw [if_pos hc9] at he
            refine G_bipush (v := 7) hΓ dX1_hearTail_55 (by decide) ?_
            refine G_goto hΓ (tgt := 72) dX1_hearTail_57 (by decide) ?_
            subst he
            exact K7
        · rw [if_pos hc11] at hf
          refine G_iconst (v := 3) hΓ dX1_hearTail_47 (by decide) ?_
          cases hf
          exact G_iret hΓ hE dX1_hearTail_48
    · rw [if_pos hc17] at hf
      refine G_iload_n hΓ 0 dX1_hearTail_23 rfl ?_
      refine G_bipush (v := 9) hΓ dX1_hearTail_24 (by decide) ?_
      obtain ⟨x13, he16, hf⟩ := lt_eq hf
      have K14 : GG Γ (0, 0) (qLis σ i h (upd f 3 ((f 3) + 1)) o a b c) 34 [(2, .int (f 3)), (0, .ref (ya (gl Γ) 4 i)), (1, .int p1)] [.int x13] := by
        cases hf
        exact G_iret hΓ hE dX1_hearTail_34
      have he := he16
      refine G_icmp_ne hΓ (tgt := 33) dX1_hearTail_26 (by decide) (fun hc15 => ?_) (fun hc15 => ?_)
      · rw [if_neg hc15] at he
        refine G_iconst (v := 2) hΓ dX1_hearTail_33 (by decide) ?_
        subst he
        exact K14
      · rw [if_pos hc15] at he
        refine G_iconst (v := 5) hΓ dX1_hearTail_29 (by decide) ?_
        refine G_goto hΓ (tgt := 34) dX1_hearTail_30 (by decide) ?_
        subst he
        exact K14
  · rw [if_pos hc18] at hf
    refine G_iconst (v := (-1)) hΓ dX1_hearTail_17 (by decide) ?_
    cases hf
    exact G_iret hΓ hE dX1_hearTail_18
theorem dX1_hear_0 : decode cX1_hear 0 = .ok (.aload_n 0, 1) := by decide +kernel
theorem dX1_hear_1 : decode cX1_hear 1 = .ok (.getfield 25, 3) := by decide +kernel
theorem dX1_hear_4 : decode cX1_hear 4 = .ok (.iconst 2, 1) := by decide +kernel
theorem dX1_hear_5 : decode cX1_hear 5 = .ok (.if_icmp .ne 9, 3) := by decide +kernel
theorem dX1_hear_8 : decode cX1_hear 8 = .ok (.aload_n 0, 1) := by decide +kernel
theorem dX1_hear_9 : decode cX1_hear 9 = .ok (.iload_n 1, 1) := by decide +kernel
theorem dX1_hear_10 : decode cX1_hear 10 = .ok (.invokevirtual 75, 3) := by decide +kernel
theorem dX1_hear_13 : decode cX1_hear 13 = .ok (.ireturn, 1) := by decide +kernel
theorem dX1_hear_14 : decode cX1_hear 14 = .ok (.aload_n 0, 1) := by decide +kernel
theorem dX1_hear_15 : decode cX1_hear 15 = .ok (.getfield 25, 3) := by decide +kernel
theorem dX1_hear_18 : decode cX1_hear 18 = .ok (.iconst 1, 1) := by decide +kernel
theorem dX1_hear_19 : decode cX1_hear 19 = .ok (.if_icmp .ne 9, 3) := by decide +kernel
theorem dX1_hear_22 : decode cX1_hear 22 = .ok (.aload_n 0, 1) := by decide +kernel
theorem dX1_hear_23 : decode cX1_hear 23 = .ok (.iload_n 1, 1) := by decide +kernel
theorem dX1_hear_24 : decode cX1_hear 24 = .ok (.invokevirtual 79, 3) := by decide +kernel
theorem dX1_hear_27 : decode cX1_hear 27 = .ok (.ireturn, 1) := by decide +kernel
theorem dX1_hear_28 : decode cX1_hear 28 = .ok (.aload_n 0, 1) := by decide +kernel
theorem dX1_hear_29 : decode cX1_hear 29 = .ok (.getfield 35, 3) := by decide +kernel
theorem dX1_hear_32 : decode cX1_hear 32 = .ok (.iconst 5, 1) := by decide +kernel
theorem dX1_hear_33 : decode cX1_hear 33 = .ok (.if_icmp .ne 9, 3) := by decide +kernel
theorem dX1_hear_36 : decode cX1_hear 36 = .ok (.aload_n 0, 1) := by decide +kernel
theorem dX1_hear_37 : decode cX1_hear 37 = .ok (.iload_n 1, 1) := by decide +kernel
theorem dX1_hear_38 : decode cX1_hear 38 = .ok (.invokevirtual 82, 3) := by decide +kernel
theorem dX1_hear_41 : decode cX1_hear 41 = .ok (.ireturn, 1) := by decide +kernel
theorem dX1_hear_42 : decode cX1_hear 42 = .ok (.aload_n 0, 1) := by decide +kernel
theorem dX1_hear_43 : decode cX1_hear 43 = .ok (.iload_n 1, 1) := by decide +kernel
theorem dX1_hear_44 : decode cX1_hear 44 = .ok (.aload_n 0, 1) := by decide +kernel
theorem dX1_hear_45 : decode cX1_hear 45 = .ok (.getfield 32, 3) := by decide +kernel
theorem dX1_hear_48 : decode cX1_hear 48 = .ok (.if_icmp .ne 12, 3) := by decide +kernel
theorem dX1_hear_51 : decode cX1_hear 51 = .ok (.aload_n 0, 1) := by decide +kernel
theorem dX1_hear_52 : decode cX1_hear 52 = .ok (.getfield 35, 3) := by decide +kernel
theorem dX1_hear_55 : decode cX1_hear 55 = .ok (.iconst 1, 1) := by decide +kernel
theorem dX1_hear_56 : decode cX1_hear 56 = .ok (.iadd, 1) := by decide +kernel
theorem dX1_hear_57 : decode cX1_hear 57 = .ok (.goto 4, 3) := by decide +kernel
theorem dX1_hear_60 : decode cX1_hear 60 = .ok (.iconst 1, 1) := by decide +kernel
theorem dX1_hear_61 : decode cX1_hear 61 = .ok (.putfield 35, 3) := by decide +kernel
theorem dX1_hear_64 : decode cX1_hear 64 = .ok (.aload_n 0, 1) := by decide +kernel
theorem dX1_hear_65 : decode cX1_hear 65 = .ok (.iload_n 1, 1) := by decide +kernel
theorem dX1_hear_66 : decode cX1_hear 66 = .ok (.putfield 32, 3) := by decide +kernel
theorem dX1_hear_69 : decode cX1_hear 69 = .ok (.aload_n 0, 1) := by decide +kernel
theorem dX1_hear_70 : decode cX1_hear 70 = .ok (.iload_n 1, 1) := by decide +kernel
theorem dX1_hear_71 : decode cX1_hear 71 = .ok (.invokevirtual 85, 3) := by decide +kernel
theorem dX1_hear_74 : decode cX1_hear 74 = .ok (.ireturn, 1) := by decide +kernel
noncomputable def f_X1_hear  (h : Int64) (f : Nat → Int32) (o : Nat → Int32) (a : Nat → Int32) (b : Nat → Int32) (c : Nat → Int32) (p1 : Int32) : Option (Int64 × (Nat → Int32) × (Nat → Int32) × (Nat → Int32) × (Nat → Int32) × (Nat → Int32) × Int32) := if (f 2) = 2 then bd (f_X1_hearTail f p1) (fun ⟨u25, u26⟩ => some (h, u25, o, a, b, c, u26)) else if (f 2) = 1 then bd (f_X1_hearFixed f b c p1) (fun ⟨u19, u20, u21, u22⟩ => some (h, u19, o, a, u20, u21, u22)) else if (f 5) = 5 then bd (f_X1_hearStuffBit f b c p1) (fun ⟨u13, u14, u15, u16⟩ => some (h, u13, o, a, u14, u15, u16)) else lt (α := Int32) (if p1 = (f 4) then ((f 5) + 1) else 1) (fun x1 => bd (f_X1_hearPlain h (upd (upd f 5 x1) 4 p1) o a b c p1) (fun ⟨u5, u6, u7, u8, u9, u10, u11⟩ => some (u5, u6, u7, u8, u9, u10, u11)))
set_option maxHeartbeats 4000000 in
set_option maxRecDepth 100000 in
theorem c_X1_hear (l : Launch) (Λ : LY) (hF : FL Λ) (σ : CS) (i : Nat) (h : Int64) (f : Nat → Int32) (o : Nat → Int32) (a : Nat → Int32) (b : Nat → Int32) (c : Nat → Int32) (p1 : Int32) (hii : i < 32)  {h' : Int64} {f' : Nat → Int32} {o' : Nat → Int32} {a' : Nat → Int32} {b' : Nat → Int32} {c' : Nat → Int32} {r9 : Int32} (hf : f_X1_hear h f o a b c p1 = some (h', f', o', a', b', c', r9)) : CM l yX1_hear (.code yX1_hear cX1_hear 2 (some .int) :: TT) ({ frames := 4, cells := 0, slots := 0, locals := 87 }) Λ [.ref (ya Λ 4 i), .int p1] (qLis σ i h f o a b c) (qLis σ i h' f' o' a' b' c') (some (.int r9)) := by
  refine CM_intro (own := RX1) (by decide) rfl (Nat.le_of_ble_eq_true rfl) ?_
  intro Γ hg hl hΓ hE
  subst hg; subst hl
  show GG Γ (0, 0) (qLis σ i h f o a b c) 0 [(0, .ref (ya (gl Γ) 4 i)), (1, .int p1)] []
  unfold f_X1_hear at hf
  refine G_aload_n hΓ 0 dX1_hear_0 rfl ?_
  refine F_get hΓ (t := 4) (i := i) (ci := 4) (C := RX1) (T := TX1) (N := 17) (fs1 (gl Γ) i) (v := .int (f 2)) (FLi hF (t := 4) hii) (fun _ _ _ => rfl) qLis_g4 rfl rfl rfl inW1 2 (by decide) (TT_cons kw_93) rfl dX1_hear_1 ?_
  refine G_iconst (v := 2) hΓ dX1_hear_4 (by decide) ?_
  refine G_icmp_ne hΓ (tgt := 14) dX1_hear_5 (by decide) (fun hc28 => ?_) (fun hc28 => ?_)
  · rw [if_neg hc28] at hf
    refine G_aload_n hΓ 0 dX1_hear_14 rfl ?_
    refine F_get hΓ (t := 4) (i := i) (ci := 4) (C := RX1) (T := TX1) (N := 17) (fs1 (gl Γ) i) (v := .int (f 2)) (FLi hF (t := 4) hii) (fun _ _ _ => rfl) qLis_g4 rfl rfl rfl inW1 2 (by decide) (TT_cons kw_93) rfl dX1_hear_15 ?_
    refine G_iconst (v := 1) hΓ dX1_hear_18 (by decide) ?_
    refine G_icmp_ne hΓ (tgt := 28) dX1_hear_19 (by decide) (fun hc24 => ?_) (fun hc24 => ?_)
    · rw [if_neg hc24] at hf
      refine G_aload_n hΓ 0 dX1_hear_28 rfl ?_
      refine F_get hΓ (t := 4) (i := i) (ci := 4) (C := RX1) (T := TX1) (N := 17) (fs1 (gl Γ) i) (v := .int (f 5)) (FLi hF (t := 4) hii) (fun _ _ _ => rfl) qLis_g4 rfl rfl rfl inW1 5 (by decide) (TT_cons kw_96) rfl dX1_hear_29 ?_
      refine G_iconst (v := 5) hΓ dX1_hear_32 (by decide) ?_
      refine G_icmp_ne hΓ (tgt := 42) dX1_hear_33 (by decide) (fun hc18 => ?_) (fun hc18 => ?_)
      · rw [if_neg hc18] at hf
        refine G_aload_n hΓ 0 dX1_hear_42 rfl ?_
        refine G_iload_n hΓ 1 dX1_hear_43 rfl ?_
        refine G_aload_n hΓ 0 dX1_hear_44 rfl ?_
        refine F_get hΓ (t := 4) (i := i) (ci := 4) (C := RX1) (T := TX1) (N := 17) (fs1 (gl Γ) i) (v := .int (f 4)) (FLi hF (t := 4) hii) (fun _ _ _ => rfl) qLis_g4 rfl rfl rfl inW1 4 (by decide) (TT_cons kw_95) rfl dX1_hear_45 ?_
        obtain ⟨x1, he4, hf⟩ := lt_eq hf
        have K2 : GG Γ (0, 0) (qLis σ i h f o a b c) 61 [(0, .ref (ya (gl Γ) 4 i)), (1, .int p1)] [.int x1, .ref (ya (gl Γ) 4 i)] := by
          refine F_put hΓ (t := 4) (i := i) (ci := 4) (C := RX1) (T := TX1) (N := 17) (fs1 (gl Γ) i) (f := f) (f' := (upd f 5 x1)) (σ' := (qLis σ i h (upd f 5 x1) o a b c)) (ty := .int) (v := .int x1) tyX1 tyX1_ok nmX1 (FLi hF (t := 4) hii) (fun _ _ _ => rfl) qLis_g4 qLis_s4 rfl inW1 5 (by decide) (TT_cons kw_96) rfl (by decide +kernel) rfl rfl (fun _ _ => Nat.le_of_ble_eq_true rfl) (fun _ _ => rfl) dX1_hear_61 ?_
          refine G_aload_n hΓ 0 dX1_hear_64 rfl ?_
          refine G_iload_n hΓ 1 dX1_hear_65 rfl ?_
          refine F_put hΓ (t := 4) (i := i) (ci := 4) (C := RX1) (T := TX1) (N := 17) (fs1 (gl Γ) i) (f := (upd f 5 x1)) (f' := (upd (upd f 5 x1) 4 p1)) (σ' := (qLis σ i h (upd (upd f 5 x1) 4 p1) o a b c)) (ty := .int) (v := .int p1) tyX1 tyX1_ok nmX1 (FLi hF (t := 4) hii) (fun _ _ _ => rfl) qLis_g4 qLis_s4 rfl inW1 4 (by decide) (TT_cons kw_95) rfl (by decide +kernel) rfl rfl (fun _ _ => Nat.le_of_ble_eq_true rfl) (fun _ _ => rfl) dX1_hear_66 ?_
          refine G_aload_n hΓ 0 dX1_hear_69 rfl ?_
          refine G_iload_n hΓ 1 dX1_hear_70 rfl ?_
          obtain ⟨⟨u5, u6, u7, u8, u9, u10, u11⟩, hc12, hf⟩ := bd_some hf
          try dsimp only at hf
          refine G_callV hΓ (n := 1) (As := [.int p1]) (t := 4) (i := i) (ci := 4) (T := TX1) (N := 17) (FS := fs1 (gl Γ) i) (σ' := (qLis σ i u5 u6 u7 u8 u9 u10)) (c_X1_hearPlain (gL Γ) (gl Γ) hF σ i h (upd (upd f 5 x1) 4 p1) o a b c p1 hii hc12) rfl rfl kw_718 kw_720 kp_18 kw_3 kw_721 ⟨rfl, by decide, by decide, by decide +kernel⟩ (FLi hF (t := 4) hii) (fun _ _ _ => rfl) rfl rfl rfl ⟨Nat.le_of_ble_eq_true rfl, Nat.le_of_ble_eq_true rfl⟩ rfl (Nat.le_of_ble_eq_true rfl) dX1_hear_71 ⟨_, rfl⟩ rfl ?_
          cases hf
          exact G_iret hΓ hE dX1_hear_74
        have he := he4
        refine G_icmp_ne hΓ (tgt := 60) dX1_hear_48 (by decide) (fun hc3 => ?_) (fun hc3 => ?_)
        · rw [if_neg hc3] at he
          refine G_iconst (v := 1) hΓ dX1_hear_60 (by decide) ?_
          subst he
          exact K2
        · rw [if_pos hc3] at he
          refine G_aload_n hΓ 0 dX1_hear_51 rfl ?_
          refine F_get hΓ (t := 4) (i := i) (ci := 4) (C := RX1) (T := TX1) (N := 17) (fs1 (gl Γ) i) (v := .int (f 5)) (FLi hF (t := 4) hii) (fun _ _ _ => rfl) qLis_g4 rfl rfl rfl inW1 5 (by decide) (TT_cons kw_96) rfl dX1_hear_52 ?_
          refine G_iconst (v := 1) hΓ dX1_hear_55 (by decide) ?_
          refine G_iadd hΓ dX1_hear_56 ?_
          refine G_goto hΓ (tgt := 61) dX1_hear_57 (by decide) ?_
          subst he
          exact K2
      · rw [if_pos hc18] at hf
        refine G_aload_n hΓ 0 dX1_hear_36 rfl ?_
        refine G_iload_n hΓ 1 dX1_hear_37 rfl ?_
        obtain ⟨⟨u13, u14, u15, u16⟩, hc17, hf⟩ := bd_some hf
        try dsimp only at hf
        refine G_callV hΓ (n := 1) (As := [.int p1]) (t := 4) (i := i) (ci := 4) (T := TX1) (N := 17) (FS := fs1 (gl Γ) i) (σ' := (qLis σ i h u13 o a u14 u15)) (c_X1_hearStuffBit (gL Γ) (gl Γ) hF σ i h f o a b c p1 hii hc17) rfl rfl kw_714 kw_716 kp_17 kw_3 kw_717 ⟨rfl, by decide, by decide, by decide +kernel⟩ (FLi hF (t := 4) hii) (fun _ _ _ => rfl) rfl rfl rfl ⟨Nat.le_of_ble_eq_true rfl, Nat.le_of_ble_eq_true rfl⟩ rfl (Nat.le_of_ble_eq_true rfl) dX1_hear_38 ⟨_, rfl⟩ rfl ?_
        cases hf
        exact G_iret hΓ hE dX1_hear_41
    · rw [if_pos hc24] at hf
      refine G_aload_n hΓ 0 dX1_hear_22 rfl ?_
      refine G_iload_n hΓ 1 dX1_hear_23 rfl ?_
      obtain ⟨⟨u19, u20, u21, u22⟩, hc23, hf⟩ := bd_some hf
      try dsimp only at hf
      refine G_callV hΓ (n := 1) (As := [.int p1]) (t := 4) (i := i) (ci := 4) (T := TX1) (N := 17) (FS := fs1 (gl Γ) i) (σ' := (qLis σ i h u19 o a u20 u21)) (c_X1_hearFixed (gL Γ) (gl Γ) hF σ i h f o a b c p1 hii hc23) rfl rfl kw_702 kw_704 kp_15 kw_3 kw_705 ⟨rfl, by decide, by decide, by decide +kernel⟩ (FLi hF (t := 4) hii) (fun _ _ _ => rfl) rfl rfl rfl ⟨Nat.le_of_ble_eq_true rfl, Nat.le_of_ble_eq_true rfl⟩ rfl (Nat.le_of_ble_eq_true rfl) dX1_hear_24 ⟨_, rfl⟩ rfl ?_
      cases hf
      exact G_iret hΓ hE dX1_hear_27
  · rw [if_pos hc28] at hf
    refine G_aload_n hΓ 0 dX1_hear_8 rfl ?_
    refine G_iload_n hΓ 1 dX1_hear_9 rfl ?_
    obtain ⟨⟨u25, u26⟩, hc27, hf⟩ := bd_some hf
    try dsimp only at hf
    refine G_callV hΓ (n := 1) (As := [.int p1]) (t := 4) (i := i) (ci := 4) (T := TX1) (N := 17) (FS := fs1 (gl Γ) i) (σ' := (qLis σ i h u25 o a b c)) (c_X1_hearTail (gL Γ) (gl Γ) hF σ i h f o a b c p1 hii hc27) rfl rfl kw_698 kw_700 kp_14 kw_3 kw_701 ⟨rfl, by decide, by decide, by decide +kernel⟩ (FLi hF (t := 4) hii) (fun _ _ _ => rfl) rfl rfl rfl ⟨Nat.le_of_ble_eq_true rfl, Nat.le_of_ble_eq_true rfl⟩ rfl (Nat.le_of_ble_eq_true rfl) dX1_hear_10 ⟨_, rfl⟩ rfl ?_
    cases hf
    exact G_iret hΓ hE dX1_hear_13
