theorem dJ6_bitCount_0f7a4_0 : decode cJ6_bitCount_0f7a4 0 = .ok (.iload_n 0, 1) := by decide +kernel
theorem dJ6_bitCount_0f7a4_1 : decode cJ6_bitCount_0f7a4 1 = .ok (.iload_n 0, 1) := by decide +kernel
theorem dJ6_bitCount_0f7a4_2 : decode cJ6_bitCount_0f7a4 2 = .ok (.iconst 1, 1) := by decide +kernel
theorem dJ6_bitCount_0f7a4_3 : decode cJ6_bitCount_0f7a4 3 = .ok (.iushr, 1) := by decide +kernel
theorem dJ6_bitCount_0f7a4_4 : decode cJ6_bitCount_0f7a4 4 = .ok (.ldc_w 265, 3) := by decide +kernel
theorem dJ6_bitCount_0f7a4_7 : decode cJ6_bitCount_0f7a4 7 = .ok (.iand, 1) := by decide +kernel
theorem dJ6_bitCount_0f7a4_8 : decode cJ6_bitCount_0f7a4 8 = .ok (.isub, 1) := by decide +kernel
theorem dJ6_bitCount_0f7a4_9 : decode cJ6_bitCount_0f7a4 9 = .ok (.istore_n 0, 1) := by decide +kernel
theorem dJ6_bitCount_0f7a4_10 : decode cJ6_bitCount_0f7a4 10 = .ok (.iload_n 0, 1) := by decide +kernel
theorem dJ6_bitCount_0f7a4_11 : decode cJ6_bitCount_0f7a4 11 = .ok (.ldc_w 266, 3) := by decide +kernel
theorem dJ6_bitCount_0f7a4_14 : decode cJ6_bitCount_0f7a4 14 = .ok (.iand, 1) := by decide +kernel
theorem dJ6_bitCount_0f7a4_15 : decode cJ6_bitCount_0f7a4 15 = .ok (.iload_n 0, 1) := by decide +kernel
theorem dJ6_bitCount_0f7a4_16 : decode cJ6_bitCount_0f7a4 16 = .ok (.iconst 2, 1) := by decide +kernel
theorem dJ6_bitCount_0f7a4_17 : decode cJ6_bitCount_0f7a4 17 = .ok (.iushr, 1) := by decide +kernel
theorem dJ6_bitCount_0f7a4_18 : decode cJ6_bitCount_0f7a4 18 = .ok (.ldc_w 266, 3) := by decide +kernel
theorem dJ6_bitCount_0f7a4_21 : decode cJ6_bitCount_0f7a4 21 = .ok (.iand, 1) := by decide +kernel
theorem dJ6_bitCount_0f7a4_22 : decode cJ6_bitCount_0f7a4 22 = .ok (.iadd, 1) := by decide +kernel
theorem dJ6_bitCount_0f7a4_23 : decode cJ6_bitCount_0f7a4 23 = .ok (.istore_n 0, 1) := by decide +kernel
theorem dJ6_bitCount_0f7a4_24 : decode cJ6_bitCount_0f7a4 24 = .ok (.iload_n 0, 1) := by decide +kernel
theorem dJ6_bitCount_0f7a4_25 : decode cJ6_bitCount_0f7a4 25 = .ok (.iload_n 0, 1) := by decide +kernel
theorem dJ6_bitCount_0f7a4_26 : decode cJ6_bitCount_0f7a4 26 = .ok (.iconst 4, 1) := by decide +kernel
theorem dJ6_bitCount_0f7a4_27 : decode cJ6_bitCount_0f7a4 27 = .ok (.iushr, 1) := by decide +kernel
theorem dJ6_bitCount_0f7a4_28 : decode cJ6_bitCount_0f7a4 28 = .ok (.iadd, 1) := by decide +kernel
theorem dJ6_bitCount_0f7a4_29 : decode cJ6_bitCount_0f7a4 29 = .ok (.ldc_w 267, 3) := by decide +kernel
theorem dJ6_bitCount_0f7a4_32 : decode cJ6_bitCount_0f7a4 32 = .ok (.iand, 1) := by decide +kernel
theorem dJ6_bitCount_0f7a4_33 : decode cJ6_bitCount_0f7a4 33 = .ok (.istore_n 0, 1) := by decide +kernel
theorem dJ6_bitCount_0f7a4_34 : decode cJ6_bitCount_0f7a4 34 = .ok (.iload_n 0, 1) := by decide +kernel
theorem dJ6_bitCount_0f7a4_35 : decode cJ6_bitCount_0f7a4 35 = .ok (.iload_n 0, 1) := by decide +kernel
theorem dJ6_bitCount_0f7a4_36 : decode cJ6_bitCount_0f7a4 36 = .ok (.bipush 8, 2) := by decide +kernel
theorem dJ6_bitCount_0f7a4_38 : decode cJ6_bitCount_0f7a4 38 = .ok (.iushr, 1) := by decide +kernel
theorem dJ6_bitCount_0f7a4_39 : decode cJ6_bitCount_0f7a4 39 = .ok (.iadd, 1) := by decide +kernel
theorem dJ6_bitCount_0f7a4_40 : decode cJ6_bitCount_0f7a4 40 = .ok (.istore_n 0, 1) := by decide +kernel
theorem dJ6_bitCount_0f7a4_41 : decode cJ6_bitCount_0f7a4 41 = .ok (.iload_n 0, 1) := by decide +kernel
theorem dJ6_bitCount_0f7a4_42 : decode cJ6_bitCount_0f7a4 42 = .ok (.iload_n 0, 1) := by decide +kernel
theorem dJ6_bitCount_0f7a4_43 : decode cJ6_bitCount_0f7a4 43 = .ok (.bipush 16, 2) := by decide +kernel
theorem dJ6_bitCount_0f7a4_45 : decode cJ6_bitCount_0f7a4 45 = .ok (.iushr, 1) := by decide +kernel
theorem dJ6_bitCount_0f7a4_46 : decode cJ6_bitCount_0f7a4 46 = .ok (.iadd, 1) := by decide +kernel
theorem dJ6_bitCount_0f7a4_47 : decode cJ6_bitCount_0f7a4 47 = .ok (.istore_n 0, 1) := by decide +kernel
theorem dJ6_bitCount_0f7a4_48 : decode cJ6_bitCount_0f7a4 48 = .ok (.iload_n 0, 1) := by decide +kernel
theorem dJ6_bitCount_0f7a4_49 : decode cJ6_bitCount_0f7a4 49 = .ok (.bipush 63, 2) := by decide +kernel
theorem dJ6_bitCount_0f7a4_51 : decode cJ6_bitCount_0f7a4 51 = .ok (.iand, 1) := by decide +kernel
theorem dJ6_bitCount_0f7a4_52 : decode cJ6_bitCount_0f7a4 52 = .ok (.ireturn, 1) := by decide +kernel
noncomputable def f_J6_bitCount_0f7a4   (p1 : Int32) : Option (Int32) := lt (α := Int32) (p1 - (((p1.toUInt32 >>> ((1 : Int32).toUInt32 &&& Int32.toUInt32 31)).toInt32) &&& 1431655765)) (fun v1 => lt (α := Int32) ((v1 &&& 858993459) + (((v1.toUInt32 >>> ((2 : Int32).toUInt32 &&& Int32.toUInt32 31)).toInt32) &&& 858993459)) (fun v2 => lt (α := Int32) ((v2 + ((v2.toUInt32 >>> ((4 : Int32).toUInt32 &&& Int32.toUInt32 31)).toInt32)) &&& 252645135) (fun v3 => lt (α := Int32) (v3 + ((v3.toUInt32 >>> ((8 : Int32).toUInt32 &&& Int32.toUInt32 31)).toInt32)) (fun v4 => lt (α := Int32) (v4 + ((v4.toUInt32 >>> ((16 : Int32).toUInt32 &&& Int32.toUInt32 31)).toInt32)) (fun v5 => some (v5 &&& 63))))))
set_option maxHeartbeats 4000000 in
set_option maxRecDepth 100000 in
theorem c_J6_bitCount_0f7a4 (l : Launch) (Λ : LY) (hF : FL Λ) (σ : CS)   (p1 : Int32)   {r9 : Int32} (hf : f_J6_bitCount_0f7a4 p1 = some r9) : CM l yJ6_bitCount_0f7a4 (.code yJ6_bitCount_0f7a4 cJ6_bitCount_0f7a4 1 (some .int) :: TT) ({ frames := 0, cells := 0, slots := 0, locals := 0 }) Λ [.int p1] σ σ (some (.int r9)) := by
  refine CM_intro (own := RJ6) (by decide) rfl (Nat.le_of_ble_eq_true rfl) ?_
  intro Γ hg hl hΓ hE
  subst hg; subst hl
  show GG Γ (0, 0) σ 0 [(0, .int p1)] []
  unfold f_J6_bitCount_0f7a4 at hf
  refine G_iload_n hΓ 0 dJ6_bitCount_0f7a4_0 rfl ?_
  refine G_iload_n hΓ 0 dJ6_bitCount_0f7a4_1 rfl ?_
  refine G_iconst (v := 1) hΓ dJ6_bitCount_0f7a4_2 (by decide) ?_
  refine G_iushr hΓ dJ6_bitCount_0f7a4_3 ?_
  refine G_ldcw hΓ (v := 1431655765) (TT_cons kw_585) dJ6_bitCount_0f7a4_4 ?_
  refine G_iand hΓ dJ6_bitCount_0f7a4_7 ?_
  refine G_isub hΓ dJ6_bitCount_0f7a4_8 ?_
  obtain ⟨v1, hv_v1, hf⟩ := lt_eq hf
  refine G_topi hv_v1 ?_
  refine G_istore_n hΓ [(0, .int v1)] dJ6_bitCount_0f7a4_9 (by decide) rfl ?_
  refine G_iload_n hΓ 0 dJ6_bitCount_0f7a4_10 rfl ?_
  refine G_ldcw hΓ (v := 858993459) (TT_cons kw_586) dJ6_bitCount_0f7a4_11 ?_
  refine G_iand hΓ dJ6_bitCount_0f7a4_14 ?_
  refine G_iload_n hΓ 0 dJ6_bitCount_0f7a4_15 rfl ?_
  refine G_iconst (v := 2) hΓ dJ6_bitCount_0f7a4_16 (by decide) ?_
  refine G_iushr hΓ dJ6_bitCount_0f7a4_17 ?_
  refine G_ldcw hΓ (v := 858993459) (TT_cons kw_586) dJ6_bitCount_0f7a4_18 ?_
  refine G_iand hΓ dJ6_bitCount_0f7a4_21 ?_
  refine G_iadd hΓ dJ6_bitCount_0f7a4_22 ?_
  obtain ⟨v2, hv_v2, hf⟩ := lt_eq hf
  refine G_topi hv_v2 ?_
  refine G_istore_n hΓ [(0, .int v2)] dJ6_bitCount_0f7a4_23 (by decide) rfl ?_
  refine G_iload_n hΓ 0 dJ6_bitCount_0f7a4_24 rfl ?_
  refine G_iload_n hΓ 0 dJ6_bitCount_0f7a4_25 rfl ?_
  refine G_iconst (v := 4) hΓ dJ6_bitCount_0f7a4_26 (by decide) ?_
  refine G_iushr hΓ dJ6_bitCount_0f7a4_27 ?_
  refine G_iadd hΓ dJ6_bitCount_0f7a4_28 ?_
  refine G_ldcw hΓ (v := 252645135) (TT_cons kw_587) dJ6_bitCount_0f7a4_29 ?_
  refine G_iand hΓ dJ6_bitCount_0f7a4_32 ?_
  obtain ⟨v3, hv_v3, hf⟩ := lt_eq hf
  refine G_topi hv_v3 ?_
  refine G_istore_n hΓ [(0, .int v3)] dJ6_bitCount_0f7a4_33 (by decide) rfl ?_
  refine G_iload_n hΓ 0 dJ6_bitCount_0f7a4_34 rfl ?_
  refine G_iload_n hΓ 0 dJ6_bitCount_0f7a4_35 rfl ?_
  refine G_bipush (v := 8) hΓ dJ6_bitCount_0f7a4_36 (by decide) ?_
  refine G_iushr hΓ dJ6_bitCount_0f7a4_38 ?_
  refine G_iadd hΓ dJ6_bitCount_0f7a4_39 ?_
  obtain ⟨v4, hv_v4, hf⟩ := lt_eq hf
  refine G_topi hv_v4 ?_
  refine G_istore_n hΓ [(0, .int v4)] dJ6_bitCount_0f7a4_40 (by decide) rfl ?_
  refine G_iload_n hΓ 0 dJ6_bitCount_0f7a4_41 rfl ?_
  refine G_iload_n hΓ 0 dJ6_bitCount_0f7a4_42 rfl ?_
  refine G_bipush (v := 16) hΓ dJ6_bitCount_0f7a4_43 (by decide) ?_
  refine G_iushr hΓ dJ6_bitCount_0f7a4_45 ?_
  refine G_iadd hΓ dJ6_bitCount_0f7a4_46 ?_
  obtain ⟨v5, hv_v5, hf⟩ := lt_eq hf
  refine G_topi hv_v5 ?_
  refine G_istore_n hΓ [(0, .int v5)] dJ6_bitCount_0f7a4_47 (by decide) rfl ?_
  refine G_iload_n hΓ 0 dJ6_bitCount_0f7a4_48 rfl ?_
  refine G_bipush (v := 63) hΓ dJ6_bitCount_0f7a4_49 (by decide) ?_
  refine G_iand hΓ dJ6_bitCount_0f7a4_51 ?_
  cases hf
  exact G_iret hΓ hE dJ6_bitCount_0f7a4_52
theorem dX7_isLong_0 : decode cX7_isLong 0 = .ok (.iload_n 0, 1) := by decide +kernel
theorem dX7_isLong_1 : decode cX7_isLong 1 = .ok (.iconst 1, 1) := by decide +kernel
theorem dX7_isLong_2 : decode cX7_isLong 2 = .ok (.if_icmp .eq 13, 3) := by decide +kernel
theorem dX7_isLong_5 : decode cX7_isLong 5 = .ok (.iload_n 0, 1) := by decide +kernel
theorem dX7_isLong_6 : decode cX7_isLong 6 = .ok (.iconst 3, 1) := by decide +kernel
theorem dX7_isLong_7 : decode cX7_isLong 7 = .ok (.if_icmp .eq 8, 3) := by decide +kernel
theorem dX7_isLong_10 : decode cX7_isLong 10 = .ok (.iload_n 0, 1) := by decide +kernel
theorem dX7_isLong_11 : decode cX7_isLong 11 = .ok (.iconst 5, 1) := by decide +kernel
theorem dX7_isLong_12 : decode cX7_isLong 12 = .ok (.if_icmp .ne 7, 3) := by decide +kernel
theorem dX7_isLong_15 : decode cX7_isLong 15 = .ok (.iconst 1, 1) := by decide +kernel
theorem dX7_isLong_16 : decode cX7_isLong 16 = .ok (.goto 4, 3) := by decide +kernel
theorem dX7_isLong_19 : decode cX7_isLong 19 = .ok (.iconst 0, 1) := by decide +kernel
theorem dX7_isLong_20 : decode cX7_isLong 20 = .ok (.ireturn, 1) := by decide +kernel
noncomputable def f_X7_isLong   (p1 : Int32) : Option (Int32) := lt (α := Int32) (if p1 = 1 then 1 else if p1 = 3 then 1 else if p1 = 5 then 1 else 0) (fun x1 => some (x1))
set_option maxHeartbeats 4000000 in
set_option maxRecDepth 100000 in
theorem c_X7_isLong (l : Launch) (Λ : LY) (hF : FL Λ) (σ : CS)   (p1 : Int32)   {r9 : Int32} (hf : f_X7_isLong p1 = some r9) : CM l yX7_isLong (.code yX7_isLong cX7_isLong 1 (some .boolean) :: TT) ({ frames := 0, cells := 0, slots := 0, locals := 0 }) Λ [.int p1] σ σ (some (.int r9)) := by
  refine CM_intro (own := RX7) (by decide) rfl (Nat.le_of_ble_eq_true rfl) ?_
  intro Γ hg hl hΓ hE
  subst hg; subst hl
  show GG Γ (0, 0) σ 0 [(0, .int p1)] []
  unfold f_X7_isLong at hf
  refine G_iload_n hΓ 0 dX7_isLong_0 rfl ?_
  refine G_iconst (v := 1) hΓ dX7_isLong_1 (by decide) ?_
  obtain ⟨x1, he6, hf⟩ := lt_eq hf
  have K2 : GG Γ (0, 0) σ 20 [(0, .int p1)] [.int x1] := by
    cases hf
    exact G_zret hΓ (by rw [he6]; (repeat' split) <;> rfl) hE dX7_isLong_20
  have he := he6
  refine G_icmp_eq hΓ (tgt := 15) dX7_isLong_2 (by decide) (fun hc5 => ?_) (fun hc5 => ?_)
  · rw [if_pos hc5] at he
    refine G_iconst (v := 1) hΓ dX7_isLong_15 (by decide) ?_
    refine G_goto hΓ (tgt := 20) dX7_isLong_16 (by decide) ?_
    subst he
    exact K2
  · rw [if_neg hc5] at he
    refine G_iload_n hΓ 0 dX7_isLong_5 rfl ?_
    refine G_iconst (v := 3) hΓ dX7_isLong_6 (by decide) ?_
    refine G_icmp_eq hΓ (tgt := 15) dX7_isLong_7 (by decide) (fun hc4 => ?_) (fun hc4 => ?_)
    · rw [if_pos hc4] at he
      refine G_iconst (v := 1) hΓ dX7_isLong_15 (by decide) ?_
      refine G_goto hΓ (tgt := 20) dX7_isLong_16 (by decide) ?_
      subst he
      exact K2
    · rw [if_neg hc4] at he
      refine G_iload_n hΓ 0 dX7_isLong_10 rfl ?_
      refine G_iconst (v := 5) hΓ dX7_isLong_11 (by decide) ?_
      refine G_icmp_ne hΓ (tgt := 19) dX7_isLong_12 (by decide) (fun hc3 => ?_) (fun hc3 => ?_)
      · rw [if_neg hc3] at he
        refine G_iconst (v := 0) hΓ dX7_isLong_19 (by decide) ?_
        subst he
        exact K2
      · rw [if_pos hc3] at he
        refine G_iconst (v := 1) hΓ dX7_isLong_15 (by decide) ?_
        refine G_goto hΓ (tgt := 20) dX7_isLong_16 (by decide) ?_
        subst he
        exact K2
theorem dX7_isFlexible_0 : decode cX7_isFlexible 0 = .ok (.iload_n 0, 1) := by decide +kernel
theorem dX7_isFlexible_1 : decode cX7_isFlexible 1 = .ok (.iconst 2, 1) := by decide +kernel
theorem dX7_isFlexible_2 : decode cX7_isFlexible 2 = .ok (.if_icmp .eq 8, 3) := by decide +kernel
theorem dX7_isFlexible_5 : decode cX7_isFlexible 5 = .ok (.iload_n 0, 1) := by decide +kernel
theorem dX7_isFlexible_6 : decode cX7_isFlexible 6 = .ok (.iconst 3, 1) := by decide +kernel
theorem dX7_isFlexible_7 : decode cX7_isFlexible 7 = .ok (.if_icmp .ne 7, 3) := by decide +kernel
theorem dX7_isFlexible_10 : decode cX7_isFlexible 10 = .ok (.iconst 1, 1) := by decide +kernel
theorem dX7_isFlexible_11 : decode cX7_isFlexible 11 = .ok (.goto 4, 3) := by decide +kernel
theorem dX7_isFlexible_14 : decode cX7_isFlexible 14 = .ok (.iconst 0, 1) := by decide +kernel
theorem dX7_isFlexible_15 : decode cX7_isFlexible 15 = .ok (.ireturn, 1) := by decide +kernel
noncomputable def f_X7_isFlexible   (p1 : Int32) : Option (Int32) := lt (α := Int32) (if p1 = 2 then 1 else if p1 = 3 then 1 else 0) (fun x1 => some (x1))
set_option maxHeartbeats 4000000 in
set_option maxRecDepth 100000 in
theorem c_X7_isFlexible (l : Launch) (Λ : LY) (hF : FL Λ) (σ : CS)   (p1 : Int32)   {r9 : Int32} (hf : f_X7_isFlexible p1 = some r9) : CM l yX7_isFlexible (.code yX7_isFlexible cX7_isFlexible 1 (some .boolean) :: TT) ({ frames := 0, cells := 0, slots := 0, locals := 0 }) Λ [.int p1] σ σ (some (.int r9)) := by
  refine CM_intro (own := RX7) (by decide) rfl (Nat.le_of_ble_eq_true rfl) ?_
  intro Γ hg hl hΓ hE
  subst hg; subst hl
  show GG Γ (0, 0) σ 0 [(0, .int p1)] []
  unfold f_X7_isFlexible at hf
  refine G_iload_n hΓ 0 dX7_isFlexible_0 rfl ?_
  refine G_iconst (v := 2) hΓ dX7_isFlexible_1 (by decide) ?_
  obtain ⟨x1, he5, hf⟩ := lt_eq hf
  have K2 : GG Γ (0, 0) σ 15 [(0, .int p1)] [.int x1] := by
    cases hf
    exact G_zret hΓ (by rw [he5]; (repeat' split) <;> rfl) hE dX7_isFlexible_15
  have he := he5
  refine G_icmp_eq hΓ (tgt := 10) dX7_isFlexible_2 (by decide) (fun hc4 => ?_) (fun hc4 => ?_)
  · rw [if_pos hc4] at he
    refine G_iconst (v := 1) hΓ dX7_isFlexible_10 (by decide) ?_
    refine G_goto hΓ (tgt := 15) dX7_isFlexible_11 (by decide) ?_
    subst he
    exact K2
  · rw [if_neg hc4] at he
    refine G_iload_n hΓ 0 dX7_isFlexible_5 rfl ?_
    refine G_iconst (v := 3) hΓ dX7_isFlexible_6 (by decide) ?_
    refine G_icmp_ne hΓ (tgt := 14) dX7_isFlexible_7 (by decide) (fun hc3 => ?_) (fun hc3 => ?_)
    · rw [if_neg hc3] at he
      refine G_iconst (v := 0) hΓ dX7_isFlexible_14 (by decide) ?_
      subst he
      exact K2
    · rw [if_pos hc3] at he
      refine G_iconst (v := 1) hΓ dX7_isFlexible_10 (by decide) ?_
      refine G_goto hΓ (tgt := 15) dX7_isFlexible_11 (by decide) ?_
      subst he
      exact K2
theorem dX7_isRemote_0 : decode cX7_isRemote 0 = .ok (.iload_n 0, 1) := by decide +kernel
theorem dX7_isRemote_1 : decode cX7_isRemote 1 = .ok (.iconst 4, 1) := by decide +kernel
theorem dX7_isRemote_2 : decode cX7_isRemote 2 = .ok (.if_icmp .eq 8, 3) := by decide +kernel
theorem dX7_isRemote_5 : decode cX7_isRemote 5 = .ok (.iload_n 0, 1) := by decide +kernel
theorem dX7_isRemote_6 : decode cX7_isRemote 6 = .ok (.iconst 5, 1) := by decide +kernel
theorem dX7_isRemote_7 : decode cX7_isRemote 7 = .ok (.if_icmp .ne 7, 3) := by decide +kernel
theorem dX7_isRemote_10 : decode cX7_isRemote 10 = .ok (.iconst 1, 1) := by decide +kernel
theorem dX7_isRemote_11 : decode cX7_isRemote 11 = .ok (.goto 4, 3) := by decide +kernel
theorem dX7_isRemote_14 : decode cX7_isRemote 14 = .ok (.iconst 0, 1) := by decide +kernel
theorem dX7_isRemote_15 : decode cX7_isRemote 15 = .ok (.ireturn, 1) := by decide +kernel
noncomputable def f_X7_isRemote   (p1 : Int32) : Option (Int32) := lt (α := Int32) (if p1 = 4 then 1 else if p1 = 5 then 1 else 0) (fun x1 => some (x1))
set_option maxHeartbeats 4000000 in
set_option maxRecDepth 100000 in
theorem c_X7_isRemote (l : Launch) (Λ : LY) (hF : FL Λ) (σ : CS)   (p1 : Int32)   {r9 : Int32} (hf : f_X7_isRemote p1 = some r9) : CM l yX7_isRemote (.code yX7_isRemote cX7_isRemote 1 (some .boolean) :: TT) ({ frames := 0, cells := 0, slots := 0, locals := 0 }) Λ [.int p1] σ σ (some (.int r9)) := by
  refine CM_intro (own := RX7) (by decide) rfl (Nat.le_of_ble_eq_true rfl) ?_
  intro Γ hg hl hΓ hE
  subst hg; subst hl
  show GG Γ (0, 0) σ 0 [(0, .int p1)] []
  unfold f_X7_isRemote at hf
  refine G_iload_n hΓ 0 dX7_isRemote_0 rfl ?_
  refine G_iconst (v := 4) hΓ dX7_isRemote_1 (by decide) ?_
  obtain ⟨x1, he5, hf⟩ := lt_eq hf
  have K2 : GG Γ (0, 0) σ 15 [(0, .int p1)] [.int x1] := by
    cases hf
    exact G_zret hΓ (by rw [he5]; (repeat' split) <;> rfl) hE dX7_isRemote_15
  have he := he5
  refine G_icmp_eq hΓ (tgt := 10) dX7_isRemote_2 (by decide) (fun hc4 => ?_) (fun hc4 => ?_)
  · rw [if_pos hc4] at he
    refine G_iconst (v := 1) hΓ dX7_isRemote_10 (by decide) ?_
    refine G_goto hΓ (tgt := 15) dX7_isRemote_11 (by decide) ?_
    subst he
    exact K2
  · rw [if_neg hc4] at he
    refine G_iload_n hΓ 0 dX7_isRemote_5 rfl ?_
    refine G_iconst (v := 5) hΓ dX7_isRemote_6 (by decide) ?_
    refine G_icmp_ne hΓ (tgt := 14) dX7_isRemote_7 (by decide) (fun hc3 => ?_) (fun hc3 => ?_)
    · rw [if_neg hc3] at he
      refine G_iconst (v := 0) hΓ dX7_isRemote_14 (by decide) ?_
      subst he
      exact K2
    · rw [if_pos hc3] at he
      refine G_iconst (v := 1) hΓ dX7_isRemote_10 (by decide) ?_
      refine G_goto hΓ (tgt := 15) dX7_isRemote_11 (by decide) ?_
      subst he
      exact K2
theorem dX7_octetsOf_0 : decode cX7_octetsOf 0 = .ok (.iload_n 0, 1) := by decide +kernel
theorem dX7_octetsOf_1 : decode cX7_octetsOf 1 = .ok (.iconst 3, 1) := by decide +kernel
theorem dX7_octetsOf_2 : decode cX7_octetsOf 2 = .ok (.if_icmp .le 5, 3) := by decide +kernel
theorem dX7_octetsOf_5 : decode cX7_octetsOf 5 = .ok (.iconst 0, 1) := by decide +kernel
theorem dX7_octetsOf_6 : decode cX7_octetsOf 6 = .ok (.ireturn, 1) := by decide +kernel
theorem dX7_octetsOf_7 : decode cX7_octetsOf 7 = .ok (.iload_n 1, 1) := by decide +kernel
theorem dX7_octetsOf_8 : decode cX7_octetsOf 8 = .ok (.bipush 9, 2) := by decide +kernel
theorem dX7_octetsOf_10 : decode cX7_octetsOf 10 = .ok (.if_icmp .ge 5, 3) := by decide +kernel
theorem dX7_octetsOf_13 : decode cX7_octetsOf 13 = .ok (.iload_n 1, 1) := by decide +kernel
theorem dX7_octetsOf_14 : decode cX7_octetsOf 14 = .ok (.ireturn, 1) := by decide +kernel
theorem dX7_octetsOf_15 : decode cX7_octetsOf 15 = .ok (.iload_n 1, 1) := by decide +kernel
theorem dX7_octetsOf_16 : decode cX7_octetsOf 16 = .ok (.bipush 9, 2) := by decide +kernel
theorem dX7_octetsOf_18 : decode cX7_octetsOf 18 = .ok (.isub, 1) := by decide +kernel
theorem dX7_octetsOf_19 : decode cX7_octetsOf 19 = .ok (.istore_n 2, 1) := by decide +kernel
theorem dX7_octetsOf_20 : decode cX7_octetsOf 20 = .ok (.iload_n 0, 1) := by decide +kernel
theorem dX7_octetsOf_21 : decode cX7_octetsOf 21 = .ok (.iconst 1, 1) := by decide +kernel
theorem dX7_octetsOf_22 : decode cX7_octetsOf 22 = .ok (.if_icmp .le 19, 3) := by decide +kernel
theorem dX7_octetsOf_25 : decode cX7_octetsOf 25 = .ok (.iload_n 2, 1) := by decide +kernel
theorem dX7_octetsOf_26 : decode cX7_octetsOf 26 = .ok (.getstatic 275, 3) := by decide +kernel
theorem dX7_octetsOf_29 : decode cX7_octetsOf 29 = .ok (.arraylength, 1) := by decide +kernel
theorem dX7_octetsOf_30 : decode cX7_octetsOf 30 = .ok (.if_icmp .ge 11, 3) := by decide +kernel
theorem dX7_octetsOf_33 : decode cX7_octetsOf 33 = .ok (.getstatic 275, 3) := by decide +kernel
theorem dX7_octetsOf_36 : decode cX7_octetsOf 36 = .ok (.iload_n 2, 1) := by decide +kernel
theorem dX7_octetsOf_37 : decode cX7_octetsOf 37 = .ok (.iaload, 1) := by decide +kernel
theorem dX7_octetsOf_38 : decode cX7_octetsOf 38 = .ok (.goto 5, 3) := by decide +kernel
theorem dX7_octetsOf_41 : decode cX7_octetsOf 41 = .ok (.bipush 8, 2) := by decide +kernel
theorem dX7_octetsOf_43 : decode cX7_octetsOf 43 = .ok (.ireturn, 1) := by decide +kernel
noncomputable def f_X7_octetsOf   (p1 : Int32) (p2 : Int32) : Option (Int32) := if p1 ≤ 3 then if 9 ≤ p2 then jn (α := Int32) (fun x1 => some (x1)) (fun k3 => if p1 ≤ 1 then k3 8 else if 7 ≤ (p2 - 9) then k3 8 else gd (vp_in (p2 - 9) 7) (k3 (flx (p2 - 9).toNatClampNeg))) else some (p2) else some (0)
set_option maxHeartbeats 4000000 in
set_option maxRecDepth 100000 in
theorem c_X7_octetsOf (l : Launch) (Λ : LY) (hF : FL Λ) (σ : CS)   (p1 : Int32) (p2 : Int32)   {r9 : Int32} (hf : f_X7_octetsOf p1 p2 = some r9) : CM l yX7_octetsOf (.code yX7_octetsOf cX7_octetsOf 3 (some .int) :: TT) ({ frames := 0, cells := 0, slots := 0, locals := 0 }) Λ [.int p1, .int p2] σ σ (some (.int r9)) := by
  refine CM_intro (own := RX7) (by decide) rfl (Nat.le_of_ble_eq_true rfl) ?_
  intro Γ hg hl hΓ hE
  subst hg; subst hl
  show GG Γ (0, 0) σ 0 [(0, .int p1), (1, .int p2)] []
  unfold f_X7_octetsOf at hf
  refine G_iload_n hΓ 0 dX7_octetsOf_0 rfl ?_
  refine G_iconst (v := 3) hΓ dX7_octetsOf_1 (by decide) ?_
  refine G_icmp_le hΓ (tgt := 7) dX7_octetsOf_2 (by decide) (fun hc11 => ?_) (fun hc11 => ?_)
  · rw [if_pos hc11] at hf
    refine G_iload_n hΓ 1 dX7_octetsOf_7 rfl ?_
    refine G_bipush (v := 9) hΓ dX7_octetsOf_8 (by decide) ?_
    refine G_icmp_ge hΓ (tgt := 15) dX7_octetsOf_10 (by decide) (fun hc10 => ?_) (fun hc10 => ?_)
    · rw [if_pos hc10] at hf
      refine G_iload_n hΓ 1 dX7_octetsOf_15 rfl ?_
      refine G_bipush (v := 9) hΓ dX7_octetsOf_16 (by decide) ?_
      refine G_isub hΓ dX7_octetsOf_18 ?_
      refine G_istore_n hΓ [(2, .int (p2 - 9)), (0, .int p1), (1, .int p2)] dX7_octetsOf_19 (by decide) rfl ?_
      refine G_iload_n hΓ 1 dX7_octetsOf_20 rfl ?_
      refine G_iconst (v := 1) hΓ dX7_octetsOf_21 (by decide) ?_
      obtain ⟨k3, hk_k3, hf⟩ := jn_eq hf
      try dsimp only at hf
      have K4 : ∀ x1, k3 x1 = some r9 → GG Γ (0, 0) σ 43 [(2, .int (p2 - 9)), (0, .int p1), (1, .int p2)] [.int x1] := by
        intro x1 hf
        subst hk_k3
        try dsimp only at hf
        cases hf
        exact G_iret hΓ hE dX7_octetsOf_43
      clear hk_k3
      refine G_icmp_le hΓ (tgt := 41) dX7_octetsOf_22 (by decide) (fun hc9 => ?_) (fun hc9 => ?_)
      · rw [if_pos hc9] at hf
        refine G_bipush (v := 8) hΓ dX7_octetsOf_41 (by decide) ?_
        exact K4 _ hf
      · rw [if_neg hc9] at hf
        refine G_iload_n hΓ 0 dX7_octetsOf_25 rfl ?_
        refine G_flx hΓ (TT_cons kw_507) dX7_octetsOf_26 (fun tb5 htb5 => ?_)
        refine G_flxn hΓ htb5 dX7_octetsOf_29 ?_
        refine G_icmp_ge hΓ (tgt := 41) dX7_octetsOf_30 (by decide) (fun hc8 => ?_) (fun hc8 => ?_)
        · rw [if_pos hc8] at hf
          refine G_bipush (v := 8) hΓ dX7_octetsOf_41 (by decide) ?_
          exact K4 _ hf
        · rw [if_neg hc8] at hf
          refine G_flx hΓ (TT_cons kw_507) dX7_octetsOf_33 (fun tb6 htb6 => ?_)
          refine G_iload_n hΓ 0 dX7_octetsOf_36 rfl ?_
          obtain ⟨hg7, hf⟩ := gd_some hf
          refine G_flxi hΓ htb6 hg7 dX7_octetsOf_37 ?_
          refine G_goto hΓ (tgt := 43) dX7_octetsOf_38 (by decide) ?_
          exact K4 _ hf
    · rw [if_neg hc10] at hf
      refine G_iload_n hΓ 1 dX7_octetsOf_13 rfl ?_
      cases hf
      exact G_iret hΓ hE dX7_octetsOf_14
  · rw [if_neg hc11] at hf
    refine G_iconst (v := 0) hΓ dX7_octetsOf_5 (by decide) ?_
    cases hf
    exact G_iret hΓ hE dX7_octetsOf_6
theorem dX7_headLength_0 : decode cX7_headLength 0 = .ok (.iload_n 0, 1) := by decide +kernel
theorem dX7_headLength_1 : decode cX7_headLength 1 = .ok (.ifCond .eq 17, 3) := by decide +kernel
theorem dX7_headLength_4 : decode cX7_headLength 4 = .ok (.iload_n 1, 1) := by decide +kernel
theorem dX7_headLength_5 : decode cX7_headLength 5 = .ok (.ifCond .eq 8, 3) := by decide +kernel
theorem dX7_headLength_8 : decode cX7_headLength 8 = .ok (.bipush 41, 2) := by decide +kernel
theorem dX7_headLength_10 : decode cX7_headLength 10 = .ok (.goto 19, 3) := by decide +kernel
theorem dX7_headLength_13 : decode cX7_headLength 13 = .ok (.bipush 39, 2) := by decide +kernel
theorem dX7_headLength_15 : decode cX7_headLength 15 = .ok (.goto 14, 3) := by decide +kernel
theorem dX7_headLength_18 : decode cX7_headLength 18 = .ok (.iload_n 1, 1) := by decide +kernel
theorem dX7_headLength_19 : decode cX7_headLength 19 = .ok (.ifCond .eq 8, 3) := by decide +kernel
theorem dX7_headLength_22 : decode cX7_headLength 22 = .ok (.bipush 22, 2) := by decide +kernel
theorem dX7_headLength_24 : decode cX7_headLength 24 = .ok (.goto 5, 3) := by decide +kernel
theorem dX7_headLength_27 : decode cX7_headLength 27 = .ok (.bipush 19, 2) := by decide +kernel
theorem dX7_headLength_29 : decode cX7_headLength 29 = .ok (.ireturn, 1) := by decide +kernel
noncomputable def f_X7_headLength   (p1 : Int32) (p2 : Int32) : Option (Int32) := lt (α := Int32) (if p1 = 0 then if p2 = 0 then 19 else 22 else if p2 = 0 then 39 else 41) (fun x1 => some (x1))
set_option maxHeartbeats 4000000 in
set_option maxRecDepth 100000 in
theorem c_X7_headLength (l : Launch) (Λ : LY) (hF : FL Λ) (σ : CS)   (p1 : Int32) (p2 : Int32)   {r9 : Int32} (hf : f_X7_headLength p1 p2 = some r9) : CM l yX7_headLength (.code yX7_headLength cX7_headLength 2 (some .int) :: TT) ({ frames := 0, cells := 0, slots := 0, locals := 0 }) Λ [.int p1, .int p2] σ σ (some (.int r9)) := by
  refine CM_intro (own := RX7) (by decide) rfl (Nat.le_of_ble_eq_true rfl) ?_
  intro Γ hg hl hΓ hE
  subst hg; subst hl
  show GG Γ (0, 0) σ 0 [(0, .int p1), (1, .int p2)] []
  unfold f_X7_headLength at hf
  refine G_iload_n hΓ 0 dX7_headLength_0 rfl ?_
  obtain ⟨x1, he6, hf⟩ := lt_eq hf
  have K2 : GG Γ (0, 0) σ 29 [(0, .int p1), (1, .int p2)] [.int x1] := by
    cases hf
    exact G_iret hΓ hE dX7_headLength_29
  have he := he6
  refine G_if_eq hΓ (tgt := 18) dX7_headLength_1 (by decide) (fun hc5 => ?_) (fun hc5 => ?_)
  · rw [if_pos hc5] at he
    refine G_iload_n hΓ 1 dX7_headLength_18 rfl ?_
    refine G_if_eq hΓ (tgt := 27) dX7_headLength_19 (by decide) (fun hc3 => ?_) (fun hc3 => ?_)
    · rw [if_pos hc3] at he
      refine G_bipush (v := 19) hΓ dX7_headLength_27 (by decide) ?_
      subst he
      exact K2
    · rw [if_neg hc3] at he
      refine G_bipush (v := 22) hΓ dX7_headLength_22 (by decide) ?_
      refine G_goto hΓ (tgt := 29) dX7_headLength_24 (by decide) ?_
      subst he
      exact K2
  · rw [if_neg hc5] at he
    refine G_iload_n hΓ 1 dX7_headLength_4 rfl ?_
    refine G_if_eq hΓ (tgt := 13) dX7_headLength_5 (by decide) (fun hc4 => ?_) (fun hc4 => ?_)
    · rw [if_pos hc4] at he
      refine G_bipush (v := 39) hΓ dX7_headLength_13 (by decide) ?_
      refine G_goto hΓ (tgt := 29) dX7_headLength_15 (by decide) ?_
      subst he
      exact K2
    · rw [if_neg hc4] at he
      refine G_bipush (v := 41) hΓ dX7_headLength_8 (by decide) ?_
      refine G_goto hΓ (tgt := 29) dX7_headLength_10 (by decide) ?_
      subst he
      exact K2
theorem dX7_headOf_0 : decode cX7_headOf 0 = .ok (.iload_n 1, 1) := by decide +kernel
theorem dX7_headOf_1 : decode cX7_headOf 1 = .ok (.invokestatic 69, 3) := by decide +kernel
theorem dX7_headOf_4 : decode cX7_headOf 4 = .ok (.istore_n 3, 1) := by decide +kernel
theorem dX7_headOf_5 : decode cX7_headOf 5 = .ok (.iload_n 1, 1) := by decide +kernel
theorem dX7_headOf_6 : decode cX7_headOf 6 = .ok (.invokestatic 278, 3) := by decide +kernel
theorem dX7_headOf_9 : decode cX7_headOf 9 = .ok (.istore 4, 2) := by decide +kernel
theorem dX7_headOf_11 : decode cX7_headOf 11 = .ok (.iload_n 1, 1) := by decide +kernel
theorem dX7_headOf_12 : decode cX7_headOf 12 = .ok (.invokestatic 281, 3) := by decide +kernel
theorem dX7_headOf_15 : decode cX7_headOf 15 = .ok (.ifCond .eq 7, 3) := by decide +kernel
theorem dX7_headOf_18 : decode cX7_headOf 18 = .ok (.lconst 1, 1) := by decide +kernel
theorem dX7_headOf_19 : decode cX7_headOf 19 = .ok (.goto 4, 3) := by decide +kernel
theorem dX7_headOf_22 : decode cX7_headOf 22 = .ok (.lconst 0, 1) := by decide +kernel
theorem dX7_headOf_23 : decode cX7_headOf 23 = .ok (.lstore 5, 2) := by decide +kernel
theorem dX7_headOf_25 : decode cX7_headOf 25 = .ok (.iload_n 3, 1) := by decide +kernel
theorem dX7_headOf_26 : decode cX7_headOf 26 = .ok (.ifCond .eq 42, 3) := by decide +kernel
theorem dX7_headOf_29 : decode cX7_headOf 29 = .ok (.iload_n 0, 1) := by decide +kernel
theorem dX7_headOf_30 : decode cX7_headOf 30 = .ok (.bipush 18, 2) := by decide +kernel
theorem dX7_headOf_32 : decode cX7_headOf 32 = .ok (.ishr, 1) := by decide +kernel
theorem dX7_headOf_33 : decode cX7_headOf 33 = .ok (.i2l, 1) := by decide +kernel
theorem dX7_headOf_34 : decode cX7_headOf 34 = .ok (.lstore 9, 2) := by decide +kernel
theorem dX7_headOf_36 : decode cX7_headOf 36 = .ok (.iload_n 0, 1) := by decide +kernel
theorem dX7_headOf_37 : decode cX7_headOf 37 = .ok (.ldc_w 284, 3) := by decide +kernel
theorem dX7_headOf_40 : decode cX7_headOf 40 = .ok (.iand, 1) := by decide +kernel
theorem dX7_headOf_41 : decode cX7_headOf 41 = .ok (.i2l, 1) := by decide +kernel
theorem dX7_headOf_42 : decode cX7_headOf 42 = .ok (.lstore 11, 2) := by decide +kernel
theorem dX7_headOf_44 : decode cX7_headOf 44 = .ok (.lload 9, 2) := by decide +kernel
theorem dX7_headOf_46 : decode cX7_headOf 46 = .ok (.iconst 2, 1) := by decide +kernel
theorem dX7_headOf_47 : decode cX7_headOf 47 = .ok (.lshl, 1) := by decide +kernel
theorem dX7_headOf_48 : decode cX7_headOf 48 = .ok (.ldc2_w 285, 3) := by decide +kernel
theorem dX7_headOf_51 : decode cX7_headOf 51 = .ok (.lor, 1) := by decide +kernel
theorem dX7_headOf_52 : decode cX7_headOf 52 = .ok (.bipush 19, 2) := by decide +kernel
theorem dX7_headOf_54 : decode cX7_headOf 54 = .ok (.lshl, 1) := by decide +kernel
theorem dX7_headOf_55 : decode cX7_headOf 55 = .ok (.lload 11, 2) := by decide +kernel
theorem dX7_headOf_57 : decode cX7_headOf 57 = .ok (.iconst 1, 1) := by decide +kernel
theorem dX7_headOf_58 : decode cX7_headOf 58 = .ok (.lshl, 1) := by decide +kernel
theorem dX7_headOf_59 : decode cX7_headOf 59 = .ok (.lor, 1) := by decide +kernel
theorem dX7_headOf_60 : decode cX7_headOf 60 = .ok (.lload 5, 2) := by decide +kernel
theorem dX7_headOf_62 : decode cX7_headOf 62 = .ok (.lor, 1) := by decide +kernel
theorem dX7_headOf_63 : decode cX7_headOf 63 = .ok (.lstore 7, 2) := by decide +kernel
theorem dX7_headOf_65 : decode cX7_headOf 65 = .ok (.goto 14, 3) := by decide +kernel
theorem dX7_headOf_68 : decode cX7_headOf 68 = .ok (.iload_n 0, 1) := by decide +kernel
theorem dX7_headOf_69 : decode cX7_headOf 69 = .ok (.i2l, 1) := by decide +kernel
theorem dX7_headOf_70 : decode cX7_headOf 70 = .ok (.iconst 1, 1) := by decide +kernel
theorem dX7_headOf_71 : decode cX7_headOf 71 = .ok (.lshl, 1) := by decide +kernel
theorem dX7_headOf_72 : decode cX7_headOf 72 = .ok (.lload 5, 2) := by decide +kernel
theorem dX7_headOf_74 : decode cX7_headOf 74 = .ok (.lor, 1) := by decide +kernel
theorem dX7_headOf_75 : decode cX7_headOf 75 = .ok (.iconst 1, 1) := by decide +kernel
theorem dX7_headOf_76 : decode cX7_headOf 76 = .ok (.lshl, 1) := by decide +kernel
theorem dX7_headOf_77 : decode cX7_headOf 77 = .ok (.lstore 7, 2) := by decide +kernel
theorem dX7_headOf_79 : decode cX7_headOf 79 = .ok (.iload 4, 2) := by decide +kernel
theorem dX7_headOf_81 : decode cX7_headOf 81 = .ok (.ifCond .eq 16, 3) := by decide +kernel
theorem dX7_headOf_84 : decode cX7_headOf 84 = .ok (.lload 7, 2) := by decide +kernel
theorem dX7_headOf_86 : decode cX7_headOf 86 = .ok (.iconst 4, 1) := by decide +kernel
theorem dX7_headOf_87 : decode cX7_headOf 87 = .ok (.lshl, 1) := by decide +kernel
theorem dX7_headOf_88 : decode cX7_headOf 88 = .ok (.ldc2_w 287, 3) := by decide +kernel
theorem dX7_headOf_91 : decode cX7_headOf 91 = .ok (.lor, 1) := by decide +kernel
theorem dX7_headOf_92 : decode cX7_headOf 92 = .ok (.lstore 7, 2) := by decide +kernel
theorem dX7_headOf_94 : decode cX7_headOf 94 = .ok (.goto 17, 3) := by decide +kernel
theorem dX7_headOf_97 : decode cX7_headOf 97 = .ok (.lload 7, 2) := by decide +kernel
theorem dX7_headOf_99 : decode cX7_headOf 99 = .ok (.iload_n 3, 1) := by decide +kernel
theorem dX7_headOf_100 : decode cX7_headOf 100 = .ok (.ifCond .eq 7, 3) := by decide +kernel
theorem dX7_headOf_103 : decode cX7_headOf 103 = .ok (.iconst 2, 1) := by decide +kernel
theorem dX7_headOf_104 : decode cX7_headOf 104 = .ok (.goto 4, 3) := by decide +kernel
theorem dX7_headOf_107 : decode cX7_headOf 107 = .ok (.iconst 1, 1) := by decide +kernel
theorem dX7_headOf_108 : decode cX7_headOf 108 = .ok (.lshl, 1) := by decide +kernel
theorem dX7_headOf_109 : decode cX7_headOf 109 = .ok (.lstore 7, 2) := by decide +kernel
theorem dX7_headOf_111 : decode cX7_headOf 111 = .ok (.lload 7, 2) := by decide +kernel
theorem dX7_headOf_113 : decode cX7_headOf 113 = .ok (.iconst 4, 1) := by decide +kernel
theorem dX7_headOf_114 : decode cX7_headOf 114 = .ok (.lshl, 1) := by decide +kernel
theorem dX7_headOf_115 : decode cX7_headOf 115 = .ok (.iload_n 2, 1) := by decide +kernel
theorem dX7_headOf_116 : decode cX7_headOf 116 = .ok (.i2l, 1) := by decide +kernel
theorem dX7_headOf_117 : decode cX7_headOf 117 = .ok (.lor, 1) := by decide +kernel
theorem dX7_headOf_118 : decode cX7_headOf 118 = .ok (.bipush 41, 2) := by decide +kernel
theorem dX7_headOf_120 : decode cX7_headOf 120 = .ok (.iload_n 3, 1) := by decide +kernel
theorem dX7_headOf_121 : decode cX7_headOf 121 = .ok (.iload 4, 2) := by decide +kernel
theorem dX7_headOf_123 : decode cX7_headOf 123 = .ok (.invokestatic 289, 3) := by decide +kernel
theorem dX7_headOf_126 : decode cX7_headOf 126 = .ok (.isub, 1) := by decide +kernel
theorem dX7_headOf_127 : decode cX7_headOf 127 = .ok (.lshl, 1) := by decide +kernel
theorem dX7_headOf_128 : decode cX7_headOf 128 = .ok (.lreturn, 1) := by decide +kernel
noncomputable def f_X7_headOf   (p1 : Int32) (p2 : Int32) (p3 : Int32) : Option (Int64) := bd (f_X7_isLong p2) (fun u1 => bd (f_X7_isFlexible p2) (fun u3 => bd (f_X7_isRemote p2) (fun u5 => lt (α := Int64) (if u5 = 0 then 0 else 1) (fun x7 => lt (α := Int64) (if u1 = 0 then (((p1.toInt64 <<< ((1 : Int32).toInt64 &&& 63)) ||| x7) <<< ((1 : Int32).toInt64 &&& 63)) else (((((((p1 >>> ((18 : Int32) &&& 31)).toInt64) <<< ((2 : Int32).toInt64 &&& 63)) ||| 3) <<< ((19 : Int32).toInt64 &&& 63)) ||| (((p1 &&& 262143).toInt64) <<< ((1 : Int32).toInt64 &&& 63))) ||| x7)) (fun x11 => jn (α := Int64) (fun x15 => bd (f_X7_headLength u1 u3) (fun u23 => some (((x15 <<< ((4 : Int32).toInt64 &&& 63)) ||| p3.toInt64) <<< ((41 - u23).toInt64 &&& 63)))) (fun k21 => if u3 = 0 then lt (α := Int32) (if u1 = 0 then 1 else 2) (fun x25 => lt (α := Int64) (x11 <<< (x25.toInt64 &&& 63)) (fun q29 => k21 q29)) else lt (α := Int64) ((x11 <<< ((4 : Int32).toInt64 &&& 63)) ||| 8) (fun q30 => k21 q30)))))))
set_option maxHeartbeats 4000000 in
set_option maxRecDepth 100000 in
theorem c_X7_headOf (l : Launch) (Λ : LY) (hF : FL Λ) (σ : CS)   (p1 : Int32) (p2 : Int32) (p3 : Int32)   {r9 : Int64} (hf : f_X7_headOf p1 p2 p3 = some r9) : CM l yX7_headOf (.code yX7_headOf cX7_headOf 13 (some .long) :: TT) ({ frames := 1, cells := 0, slots := 0, locals := 21 }) Λ [.int p1, .int p2, .int p3] σ σ (some (.long r9)) := by
  refine CM_intro (own := RX7) (by decide) rfl (Nat.le_of_ble_eq_true rfl) ?_
  intro Γ hg hl hΓ hE
  subst hg; subst hl
  show GG Γ (0, 0) σ 0 [(0, .int p1), (1, .int p2), (2, .int p3)] []
  unfold f_X7_headOf at hf
  refine G_iload_n hΓ 1 dX7_headOf_0 rfl ?_
  obtain ⟨u1, hc2, hf⟩ := bd_some hf
  refine G_callS hΓ (n := 1) (As := [.int p2]) (σ' := σ) (c_X7_isLong (gL Γ) (gl Γ) hF σ   p2  hc2) rfl rfl kw_482 kw_483 kw_1 kw_484 ⟨by decide, by decide, by decide +kernel⟩ rfl rfl ⟨Nat.le_of_ble_eq_true rfl, Nat.le_of_ble_eq_true rfl⟩ rfl (Nat.le_of_ble_eq_true rfl) dX7_headOf_1 ⟨_, rfl⟩ rfl ?_
  refine G_istore_n hΓ [(3, .int u1), (0, .int p1), (1, .int p2), (2, .int p3)] dX7_headOf_4 (by decide) rfl ?_
  refine G_iload_n hΓ 2 dX7_headOf_5 rfl ?_
  obtain ⟨u3, hc4, hf⟩ := bd_some hf
  refine G_callS hΓ (n := 1) (As := [.int p2]) (σ' := σ) (c_X7_isFlexible (gL Γ) (gl Γ) hF σ   p2  hc4) rfl rfl kw_516 kw_517 kw_1 kw_518 ⟨by decide, by decide, by decide +kernel⟩ rfl rfl ⟨Nat.le_of_ble_eq_true rfl, Nat.le_of_ble_eq_true rfl⟩ rfl (Nat.le_of_ble_eq_true rfl) dX7_headOf_6 ⟨_, rfl⟩ rfl ?_
  refine G_istore hΓ [(4, .int u3), (3, .int u1), (0, .int p1), (1, .int p2), (2, .int p3)] dX7_headOf_9 (by decide) rfl ?_
  refine G_iload_n hΓ 3 dX7_headOf_11 rfl ?_
  obtain ⟨u5, hc6, hf⟩ := bd_some hf
  refine G_callS hΓ (n := 1) (As := [.int p2]) (σ' := σ) (c_X7_isRemote (gL Γ) (gl Γ) hF σ   p2  hc6) rfl rfl kw_519 kw_520 kw_1 kw_521 ⟨by decide, by decide, by decide +kernel⟩ rfl rfl ⟨Nat.le_of_ble_eq_true rfl, Nat.le_of_ble_eq_true rfl⟩ rfl (Nat.le_of_ble_eq_true rfl) dX7_headOf_12 ⟨_, rfl⟩ rfl ?_
  obtain ⟨x7, he10, hf⟩ := lt_eq hf
  have K8 : GG Γ (0, 0) σ 23 [(4, .int u3), (3, .int u1), (0, .int p1), (1, .int p2), (2, .int p3)] [.long x7] := by
    refine G_lstore hΓ [(5, .long x7), (4, .int u3), (3, .int u1), (0, .int p1), (1, .int p2), (2, .int p3)] dX7_headOf_23 (by decide) rfl ?_
    refine G_iload_n hΓ 2 dX7_headOf_25 rfl ?_
    obtain ⟨x11, he14, hf⟩ := lt_eq hf
    have K12 : GG Γ (0, 0) σ 79 [(7, .long x11), (5, .long x7), (4, .int u3), (3, .int u1), (0, .int p1), (1, .int p2), (2, .int p3)] [] := by
      refine G_iload hΓ 2 dX7_headOf_79 rfl ?_
      obtain ⟨k21, hk_k21, hf⟩ := jn_eq hf
      try dsimp only at hf
      have K22 : ∀ x15, k21 x15 = some r9 → GG Γ (0, 0) σ 111 [(7, .long x15), (5, .long x7), (4, .int u3), (3, .int u1), (0, .int p1), (1, .int p2), (2, .int p3)] [] := by
        intro x15 hf
        subst hk_k21
        try dsimp only at hf
        refine G_lload hΓ 0 dX7_headOf_111 rfl ?_
        refine G_iconst (v := 4) hΓ dX7_headOf_113 (by decide) ?_
        refine G_lshl hΓ dX7_headOf_114 ?_
        refine G_iload_n hΓ 6 dX7_headOf_115 rfl ?_
        refine G_i2l hΓ dX7_headOf_116 ?_
        refine G_lor hΓ dX7_headOf_117 ?_
        refine G_bipush (v := 41) hΓ dX7_headOf_118 (by decide) ?_
        refine G_iload_n hΓ 3 dX7_headOf_120 rfl ?_
        refine G_iload hΓ 2 dX7_headOf_121 rfl ?_
        obtain ⟨u23, hc24, hf⟩ := bd_some hf
        refine G_callS hΓ (n := 2) (As := [.int u1, .int u3]) (σ' := σ) (c_X7_headLength (gL Γ) (gl Γ) hF σ   u1 u3  hc24) rfl rfl kw_525 kw_526 kw_1 kw_527 ⟨by decide, by decide, by decide +kernel⟩ rfl rfl ⟨Nat.le_of_ble_eq_true rfl, Nat.le_of_ble_eq_true rfl⟩ rfl (Nat.le_of_ble_eq_true rfl) dX7_headOf_123 ⟨_, rfl⟩ rfl ?_
        refine G_isub hΓ dX7_headOf_126 ?_
        refine G_lshl hΓ dX7_headOf_127 ?_
        cases hf
        exact G_lret hΓ hE dX7_headOf_128
      clear hk_k21
      refine G_if_eq hΓ (tgt := 97) dX7_headOf_81 (by decide) (fun hc31 => ?_) (fun hc31 => ?_)
      · rw [if_pos hc31] at hf
        refine G_lload hΓ 0 dX7_headOf_97 rfl ?_
        refine G_iload_n hΓ 3 dX7_headOf_99 rfl ?_
        obtain ⟨x25, he28, hf⟩ := lt_eq hf
        have K26 : GG Γ (0, 0) σ 108 [(7, .long x11), (5, .long x7), (4, .int u3), (3, .int u1), (0, .int p1), (1, .int p2), (2, .int p3)] [.int x25, .long x11] := by
          refine G_lshl hΓ dX7_headOf_108 ?_
          obtain ⟨q29, hv_q29, hf⟩ := lt_eq hf
          refine G_topl hv_q29 ?_
          refine G_lstore hΓ [(7, .long q29), (5, .long x7), (4, .int u3), (3, .int u1), (0, .int p1), (1, .int p2), (2, .int p3)] dX7_headOf_109 (by decide) rfl ?_
          exact K22 _ hf
        have he := he28
        refine G_if_eq hΓ (tgt := 107) dX7_headOf_100 (by decide) (fun hc27 => ?_) (fun hc27 => ?_)
        · rw [if_pos hc27] at he
          refine G_iconst (v := 1) hΓ dX7_headOf_107 (by decide) ?_
          subst he
          exact K26
        · rw [if_neg hc27] at he
          refine G_iconst (v := 2) hΓ dX7_headOf_103 (by decide) ?_
          refine G_goto hΓ (tgt := 108) dX7_headOf_104 (by decide) ?_
          subst he
          exact K26
      · rw [if_neg hc31] at hf
        refine G_lload hΓ 0 dX7_headOf_84 rfl ?_
        refine G_iconst (v := 4) hΓ dX7_headOf_86 (by decide) ?_
        refine G_lshl hΓ dX7_headOf_87 ?_
        refine G_ldc2 hΓ (v := 8) (TT_cons kw_524) dX7_headOf_88 ?_
        refine G_lor hΓ dX7_headOf_91 ?_
        obtain ⟨q30, hv_q30, hf⟩ := lt_eq hf
        refine G_topl hv_q30 ?_
        refine G_lstore hΓ [(7, .long q30), (5, .long x7), (4, .int u3), (3, .int u1), (0, .int p1), (1, .int p2), (2, .int p3)] dX7_headOf_92 (by decide) rfl ?_
        refine G_goto hΓ (tgt := 111) dX7_headOf_94 (by decide) ?_
        exact K22 _ hf
    have he := he14
    refine G_if_eq hΓ (tgt := 68) dX7_headOf_26 (by decide) (fun hc13 => ?_) (fun hc13 => ?_)
    · rw [if_pos hc13] at he
      refine G_iload_n hΓ 3 dX7_headOf_68 rfl ?_
      refine G_i2l hΓ dX7_headOf_69 ?_
      refine G_iconst (v := 1) hΓ dX7_headOf_70 (by decide) ?_
      refine G_lshl hΓ dX7_headOf_71 ?_
      refine G_lload hΓ 0 dX7_headOf_72 rfl ?_
      refine G_lor hΓ dX7_headOf_74 ?_
      refine G_iconst (v := 1) hΓ dX7_headOf_75 (by decide) ?_
      refine G_lshl hΓ dX7_headOf_76 ?_
      refine G_lstore hΓ [(7, .long (((p1.toInt64 <<< ((1 : Int32).toInt64 &&& 63)) ||| x7) <<< ((1 : Int32).toInt64 &&& 63))), (5, .long x7), (4, .int u3), (3, .int u1), (0, .int p1), (1, .int p2), (2, .int p3)] dX7_headOf_77 (by decide) rfl ?_
      subst he
      exact K12
    · rw [if_neg hc13] at he
      refine G_iload_n hΓ 3 dX7_headOf_29 rfl ?_
      refine G_bipush (v := 18) hΓ dX7_headOf_30 (by decide) ?_
      refine G_ishr hΓ dX7_headOf_32 ?_
      refine G_i2l hΓ dX7_headOf_33 ?_
      refine G_lstore hΓ [(9, .long ((p1 >>> ((18 : Int32) &&& 31)).toInt64)), (5, .long x7), (4, .int u3), (3, .int u1), (0, .int p1), (1, .int p2), (2, .int p3)] dX7_headOf_34 (by decide) rfl ?_
      refine G_iload_n hΓ 4 dX7_headOf_36 rfl ?_
      refine G_ldcw hΓ (v := 262143) (TT_cons kw_522) dX7_headOf_37 ?_
      refine G_iand hΓ dX7_headOf_40 ?_
      refine G_i2l hΓ dX7_headOf_41 ?_
      refine G_lstore hΓ [(11, .long ((p1 &&& 262143).toInt64)), (9, .long ((p1 >>> ((18 : Int32) &&& 31)).toInt64)), (5, .long x7), (4, .int u3), (3, .int u1), (0, .int p1), (1, .int p2), (2, .int p3)] dX7_headOf_42 (by decide) rfl ?_
      refine G_lload hΓ 1 dX7_headOf_44 rfl ?_
      refine G_iconst (v := 2) hΓ dX7_headOf_46 (by decide) ?_
      refine G_lshl hΓ dX7_headOf_47 ?_
      refine G_ldc2 hΓ (v := 3) (TT_cons kw_523) dX7_headOf_48 ?_
      refine G_lor hΓ dX7_headOf_51 ?_
      refine G_bipush (v := 19) hΓ dX7_headOf_52 (by decide) ?_
      refine G_lshl hΓ dX7_headOf_54 ?_
      refine G_lload hΓ 0 dX7_headOf_55 rfl ?_
      refine G_iconst (v := 1) hΓ dX7_headOf_57 (by decide) ?_
      refine G_lshl hΓ dX7_headOf_58 ?_
      refine G_lor hΓ dX7_headOf_59 ?_
      refine G_lload hΓ 2 dX7_headOf_60 rfl ?_
      refine G_lor hΓ dX7_headOf_62 ?_
      refine G_lstore hΓ [(7, .long (((((((p1 >>> ((18 : Int32) &&& 31)).toInt64) <<< ((2 : Int32).toInt64 &&& 63)) ||| 3) <<< ((19 : Int32).toInt64 &&& 63)) ||| (((p1 &&& 262143).toInt64) <<< ((1 : Int32).toInt64 &&& 63))) ||| x7)), (11, .long ((p1 &&& 262143).toInt64)), (9, .long ((p1 >>> ((18 : Int32) &&& 31)).toInt64)), (5, .long x7), (4, .int u3), (3, .int u1), (0, .int p1), (1, .int p2), (2, .int p3)] dX7_headOf_63 (by decide) rfl ?_
      refine G_goto hΓ (tgt := 79) dX7_headOf_65 (by decide) ?_
      subst he
      exact G_loc [0, 3, 4, 5, 6, 7, 8] rfl (K12)
  have he := he10
  refine G_if_eq hΓ (tgt := 22) dX7_headOf_15 (by decide) (fun hc9 => ?_) (fun hc9 => ?_)
  · rw [if_pos hc9] at he
    refine G_lconst (v := 0) hΓ dX7_headOf_22 (by decide) ?_
    subst he
    exact K8
  · rw [if_neg hc9] at he
    refine G_lconst (v := 1) hΓ dX7_headOf_18 (by decide) ?_
    refine G_goto hΓ (tgt := 23) dX7_headOf_19 (by decide) ?_
    subst he
    exact K8
theorem dX7_countOf_0 : decode cX7_countOf 0 = .ok (.iload_n 0, 1) := by decide +kernel
theorem dX7_countOf_1 : decode cX7_countOf 1 = .ok (.bipush 7, 2) := by decide +kernel
theorem dX7_countOf_3 : decode cX7_countOf 3 = .ok (.iand, 1) := by decide +kernel
theorem dX7_countOf_4 : decode cX7_countOf 4 = .ok (.istore_n 1, 1) := by decide +kernel
theorem dX7_countOf_5 : decode cX7_countOf 5 = .ok (.iload_n 1, 1) := by decide +kernel
theorem dX7_countOf_6 : decode cX7_countOf 6 = .ok (.iload_n 1, 1) := by decide +kernel
theorem dX7_countOf_7 : decode cX7_countOf 7 = .ok (.iconst 1, 1) := by decide +kernel
theorem dX7_countOf_8 : decode cX7_countOf 8 = .ok (.ishr, 1) := by decide +kernel
theorem dX7_countOf_9 : decode cX7_countOf 9 = .ok (.ixor, 1) := by decide +kernel
theorem dX7_countOf_10 : decode cX7_countOf 10 = .ok (.istore_n 2, 1) := by decide +kernel
theorem dX7_countOf_11 : decode cX7_countOf 11 = .ok (.iload_n 2, 1) := by decide +kernel
theorem dX7_countOf_12 : decode cX7_countOf 12 = .ok (.iconst 1, 1) := by decide +kernel
theorem dX7_countOf_13 : decode cX7_countOf 13 = .ok (.ishl, 1) := by decide +kernel
theorem dX7_countOf_14 : decode cX7_countOf 14 = .ok (.iload_n 2, 1) := by decide +kernel
theorem dX7_countOf_15 : decode cX7_countOf 15 = .ok (.invokestatic 293, 3) := by decide +kernel
theorem dX7_countOf_18 : decode cX7_countOf 18 = .ok (.iconst 1, 1) := by decide +kernel
theorem dX7_countOf_19 : decode cX7_countOf 19 = .ok (.iand, 1) := by decide +kernel
theorem dX7_countOf_20 : decode cX7_countOf 20 = .ok (.ior, 1) := by decide +kernel
theorem dX7_countOf_21 : decode cX7_countOf 21 = .ok (.ireturn, 1) := by decide +kernel
noncomputable def f_X7_countOf   (p1 : Int32) : Option (Int32) := lt (α := Int32) ((p1 &&& 7) ^^^ ((p1 &&& 7) >>> ((1 : Int32) &&& 31))) (fun v1 => bd (f_J6_bitCount_0f7a4 v1) (fun u2 => some ((v1 <<< ((1 : Int32) &&& 31)) ||| (u2 &&& 1))))
set_option maxHeartbeats 4000000 in
set_option maxRecDepth 100000 in
theorem c_X7_countOf (l : Launch) (Λ : LY) (hF : FL Λ) (σ : CS)   (p1 : Int32)   {r9 : Int32} (hf : f_X7_countOf p1 = some r9) : CM l yX7_countOf (.code yX7_countOf cX7_countOf 3 (some .int) :: TT) ({ frames := 1, cells := 0, slots := 0, locals := 20 }) Λ [.int p1] σ σ (some (.int r9)) := by
  refine CM_intro (own := RX7) (by decide) rfl (Nat.le_of_ble_eq_true rfl) ?_
  intro Γ hg hl hΓ hE
  subst hg; subst hl
  show GG Γ (0, 0) σ 0 [(0, .int p1)] []
  unfold f_X7_countOf at hf
  refine G_iload_n hΓ 0 dX7_countOf_0 rfl ?_
  refine G_bipush (v := 7) hΓ dX7_countOf_1 (by decide) ?_
  refine G_iand hΓ dX7_countOf_3 ?_
  refine G_istore_n hΓ [(1, .int (p1 &&& 7)), (0, .int p1)] dX7_countOf_4 (by decide) rfl ?_
  refine G_iload_n hΓ 0 dX7_countOf_5 rfl ?_
  refine G_iload_n hΓ 0 dX7_countOf_6 rfl ?_
  refine G_iconst (v := 1) hΓ dX7_countOf_7 (by decide) ?_
  refine G_ishr hΓ dX7_countOf_8 ?_
  refine G_ixor hΓ dX7_countOf_9 ?_
  obtain ⟨v1, hv_v1, hf⟩ := lt_eq hf
  refine G_topi hv_v1 ?_
  refine G_istore_n hΓ [(2, .int v1), (1, .int (p1 &&& 7)), (0, .int p1)] dX7_countOf_10 (by decide) rfl ?_
  refine G_iload_n hΓ 0 dX7_countOf_11 rfl ?_
  refine G_iconst (v := 1) hΓ dX7_countOf_12 (by decide) ?_
  refine G_ishl hΓ dX7_countOf_13 ?_
  refine G_iload_n hΓ 0 dX7_countOf_14 rfl ?_
  obtain ⟨u2, hc3, hf⟩ := bd_some hf
  refine G_callS hΓ (n := 1) (As := [.int v1]) (σ' := σ) (c_J6_bitCount_0f7a4 (gL Γ) (gl Γ) hF σ   v1  hc3) rfl rfl kw_582 kw_583 kw_19 kw_584 ⟨by decide, by decide, by decide +kernel⟩ rfl rfl ⟨Nat.le_of_ble_eq_true rfl, Nat.le_of_ble_eq_true rfl⟩ rfl (Nat.le_of_ble_eq_true rfl) dX7_countOf_15 ⟨_, rfl⟩ rfl ?_
  refine G_iconst (v := 1) hΓ dX7_countOf_18 (by decide) ?_
  refine G_iand hΓ dX7_countOf_19 ?_
  refine G_ior hΓ dX7_countOf_20 ?_
  cases hf
  exact G_iret hΓ hE dX7_countOf_21
