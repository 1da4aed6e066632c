theorem dX7_needThing_0 : decode cX7_needThing 0 = .ok (.iload_n 0, 1) := by decide +kernel
theorem dX7_needThing_1 : decode cX7_needThing 1 = .ok (.ifCond .lt 8, 3) := by decide +kernel
theorem dX7_needThing_4 : decode cX7_needThing 4 = .ok (.iload_n 0, 1) := by decide +kernel
theorem dX7_needThing_5 : decode cX7_needThing 5 = .ok (.iload_n 1, 1) := by decide +kernel
theorem dX7_needThing_6 : decode cX7_needThing 6 = .ok (.if_icmp .lt 13, 3) := by decide +kernel
theorem dX7_needThing_9 : decode cX7_needThing 9 = .ok (.new 123, 3) := by decide +kernel
theorem dX7_needThing_12 : decode cX7_needThing 12 = .ok (.dup, 1) := by decide +kernel
theorem dX7_needThing_13 : decode cX7_needThing 13 = .ok (.ldc 255, 2) := by decide +kernel
theorem dX7_needThing_15 : decode cX7_needThing 15 = .ok (.invokespecial 127, 3) := by decide +kernel
theorem dX7_needThing_18 : decode cX7_needThing 18 = .ok (.athrow, 1) := by decide +kernel
theorem dX7_needThing_19 : decode cX7_needThing 19 = .ok (.return_, 1) := by decide +kernel
noncomputable def f_X7_needThing  (s : CS) (p1 : Int32) (p2 : Int32) : Option (Nat ⊕ (Unit)) := if p1 < 0 then some (.inl 1) else if p1 < p2 then some (.inr ()) else some (.inl 1)
set_option maxHeartbeats 4000000 in
set_option maxRecDepth 100000 in
theorem c_X7_needThing (l : Launch) (Λ : LY) (hF : FL Λ) (σ : CS)  (s : CS) (p1 : Int32) (p2 : Int32)    (hf : f_X7_needThing s p1 p2 = some (.inr ())) : CM l yX7_needThing (.code yX7_needThing cX7_needThing 2 none :: TT) ({ frames := 0, cells := 0, slots := 0, locals := 0 }) Λ [.int p1, .int p2] (qC σ s) (qC σ s) (none) := by
  refine CM_intro (own := RX7) (by decide) rfl (Nat.le_of_ble_eq_true rfl) ?_
  intro Γ hg hl hΓ hE
  subst hg; subst hl
  show GG Γ (0, 0) (qC σ s) 0 [(0, .int p1), (1, .int p2)] []
  unfold f_X7_needThing at hf
  refine G_iload_n hΓ 0 dX7_needThing_0 rfl ?_
  refine G_if_lt hΓ (tgt := 9) dX7_needThing_1 (by decide) (fun hc2 => ?_) (fun hc2 => ?_)
  · rw [if_pos hc2] at hf
    cases hf
  · rw [if_neg hc2] at hf
    refine G_iload_n hΓ 0 dX7_needThing_4 rfl ?_
    refine G_iload_n hΓ 1 dX7_needThing_5 rfl ?_
    refine G_icmp_lt hΓ (tgt := 19) dX7_needThing_6 (by decide) (fun hc1 => ?_) (fun hc1 => ?_)
    · rw [if_pos hc1] at hf
      cases hf
      exact G_vret hΓ hE dX7_needThing_19
    · rw [if_neg hc1] at hf
      cases hf
set_option maxHeartbeats 4000000 in
set_option maxRecDepth 100000 in
theorem t_X7_needThing (l : Launch) (hst : l.stackTraces = false) (Λ : LY) (hF : FL Λ) (σ : CS)  (s : CS) (p1 : Int32) (p2 : Int32)   {e9 : Nat} (hf : f_X7_needThing s p1 p2 = some (.inl e9)) : CT l yX7_needThing (.code yX7_needThing cX7_needThing 2 none :: TT) ({ frames := 7, cells := 1, slots := 6, locals := 120 }) Λ [.int p1, .int p2] (qC σ s) (xn e9) := by
  refine CT_intro hst (own := RX7) (by decide) rfl (Nat.le_of_ble_eq_true rfl) rfl rfl ?_
  intro Γ hg hl hΓ hT
  subst hg; subst hl
  show GG Γ (0, 0) (qC σ s) 0 [(0, .int p1), (1, .int p2)] []
  unfold f_X7_needThing at hf
  refine G_iload_n hΓ 0 dX7_needThing_0 rfl ?_
  refine G_if_lt hΓ (tgt := 9) dX7_needThing_1 (by decide) (fun hc2 => ?_) (fun hc2 => ?_)
  · rw [if_pos hc2] at hf
    cases hf
    exact G_throw hΓ hT (names := ["java/lang/RuntimeException", "java/lang/Exception"]) (by decide) (by decide) kw_468 kw_16 17 rfl at_1 3 rfl ao_1 dX7_needThing_9 dX7_needThing_12 dX7_needThing_13 dX7_needThing_15 dX7_needThing_18 (by decide) (Nat.le_of_ble_eq_true rfl)
  · rw [if_neg hc2] at hf
    refine G_iload_n hΓ 0 dX7_needThing_4 rfl ?_
    refine G_iload_n hΓ 1 dX7_needThing_5 rfl ?_
    refine G_icmp_lt hΓ (tgt := 19) dX7_needThing_6 (by decide) (fun hc1 => ?_) (fun hc1 => ?_)
    · rw [if_pos hc1] at hf
      cases hf
    · rw [if_neg hc1] at hf
      cases hf
      exact G_throw hΓ hT (names := ["java/lang/RuntimeException", "java/lang/Exception"]) (by decide) (by decide) kw_468 kw_16 17 rfl at_1 3 rfl ao_1 dX7_needThing_9 dX7_needThing_12 dX7_needThing_13 dX7_needThing_15 dX7_needThing_18 (by decide) (Nat.le_of_ble_eq_true rfl)
theorem dX7_needWhat_0 : decode cX7_needWhat 0 = .ok (.iload_n 0, 1) := by decide +kernel
theorem dX7_needWhat_1 : decode cX7_needWhat 1 = .ok (.ifCond .lt 8, 3) := by decide +kernel
theorem dX7_needWhat_4 : decode cX7_needWhat 4 = .ok (.iload_n 0, 1) := by decide +kernel
theorem dX7_needWhat_5 : decode cX7_needWhat 5 = .ok (.iload_n 1, 1) := by decide +kernel
theorem dX7_needWhat_6 : decode cX7_needWhat 6 = .ok (.if_icmp .le 14, 3) := by decide +kernel
theorem dX7_needWhat_9 : decode cX7_needWhat 9 = .ok (.new 52, 3) := by decide +kernel
theorem dX7_needWhat_12 : decode cX7_needWhat 12 = .ok (.dup, 1) := by decide +kernel
theorem dX7_needWhat_13 : decode cX7_needWhat 13 = .ok (.ldc_w 257, 3) := by decide +kernel
theorem dX7_needWhat_16 : decode cX7_needWhat 16 = .ok (.invokespecial 56, 3) := by decide +kernel
theorem dX7_needWhat_19 : decode cX7_needWhat 19 = .ok (.athrow, 1) := by decide +kernel
theorem dX7_needWhat_20 : decode cX7_needWhat 20 = .ok (.return_, 1) := by decide +kernel
noncomputable def f_X7_needWhat  (s : CS) (p1 : Int32) (p2 : Int32) : Option (Nat ⊕ (Unit)) := if p1 < 0 then some (.inl 2) else if p1 ≤ p2 then some (.inr ()) else some (.inl 2)
set_option maxHeartbeats 4000000 in
set_option maxRecDepth 100000 in
theorem c_X7_needWhat (l : Launch) (Λ : LY) (hF : FL Λ) (σ : CS)  (s : CS) (p1 : Int32) (p2 : Int32)    (hf : f_X7_needWhat s p1 p2 = some (.inr ())) : CM l yX7_needWhat (.code yX7_needWhat cX7_needWhat 2 none :: TT) ({ frames := 0, cells := 0, slots := 0, locals := 0 }) Λ [.int p1, .int p2] (qC σ s) (qC σ s) (none) := by
  refine CM_intro (own := RX7) (by decide) rfl (Nat.le_of_ble_eq_true rfl) ?_
  intro Γ hg hl hΓ hE
  subst hg; subst hl
  show GG Γ (0, 0) (qC σ s) 0 [(0, .int p1), (1, .int p2)] []
  unfold f_X7_needWhat at hf
  refine G_iload_n hΓ 0 dX7_needWhat_0 rfl ?_
  refine G_if_lt hΓ (tgt := 9) dX7_needWhat_1 (by decide) (fun hc2 => ?_) (fun hc2 => ?_)
  · rw [if_pos hc2] at hf
    cases hf
  · rw [if_neg hc2] at hf
    refine G_iload_n hΓ 0 dX7_needWhat_4 rfl ?_
    refine G_iload_n hΓ 1 dX7_needWhat_5 rfl ?_
    refine G_icmp_le hΓ (tgt := 20) dX7_needWhat_6 (by decide) (fun hc1 => ?_) (fun hc1 => ?_)
    · rw [if_pos hc1] at hf
      cases hf
      exact G_vret hΓ hE dX7_needWhat_20
    · rw [if_neg hc1] at hf
      cases hf
set_option maxHeartbeats 4000000 in
set_option maxRecDepth 100000 in
theorem t_X7_needWhat (l : Launch) (hst : l.stackTraces = false) (Λ : LY) (hF : FL Λ) (σ : CS)  (s : CS) (p1 : Int32) (p2 : Int32)   {e9 : Nat} (hf : f_X7_needWhat s p1 p2 = some (.inl e9)) : CT l yX7_needWhat (.code yX7_needWhat cX7_needWhat 2 none :: TT) ({ frames := 7, cells := 1, slots := 6, locals := 120 }) Λ [.int p1, .int p2] (qC σ s) (xn e9) := by
  refine CT_intro hst (own := RX7) (by decide) rfl (Nat.le_of_ble_eq_true rfl) rfl rfl ?_
  intro Γ hg hl hΓ hT
  subst hg; subst hl
  show GG Γ (0, 0) (qC σ s) 0 [(0, .int p1), (1, .int p2)] []
  unfold f_X7_needWhat at hf
  refine G_iload_n hΓ 0 dX7_needWhat_0 rfl ?_
  refine G_if_lt hΓ (tgt := 9) dX7_needWhat_1 (by decide) (fun hc2 => ?_) (fun hc2 => ?_)
  · rw [if_pos hc2] at hf
    cases hf
    exact G_throwW hΓ hT (names := ["java/lang/RuntimeException", "java/lang/Exception"]) (by decide) (by decide) kw_418 kw_15 18 rfl at_2 1 rfl ao_2 dX7_needWhat_9 dX7_needWhat_12 dX7_needWhat_13 dX7_needWhat_16 dX7_needWhat_19 (by decide) (Nat.le_of_ble_eq_true rfl)
  · rw [if_neg hc2] at hf
    refine G_iload_n hΓ 0 dX7_needWhat_4 rfl ?_
    refine G_iload_n hΓ 1 dX7_needWhat_5 rfl ?_
    refine G_icmp_le hΓ (tgt := 20) dX7_needWhat_6 (by decide) (fun hc1 => ?_) (fun hc1 => ?_)
    · rw [if_pos hc1] at hf
      cases hf
    · rw [if_neg hc1] at hf
      cases hf
      exact G_throwW hΓ hT (names := ["java/lang/RuntimeException", "java/lang/Exception"]) (by decide) (by decide) kw_418 kw_15 18 rfl at_2 1 rfl ao_2 dX7_needWhat_9 dX7_needWhat_12 dX7_needWhat_13 dX7_needWhat_16 dX7_needWhat_19 (by decide) (Nat.le_of_ble_eq_true rfl)
theorem dX7_needNode_0 : decode cX7_needNode 0 = .ok (.iload_n 1, 1) := by decide +kernel
theorem dX7_needNode_1 : decode cX7_needNode 1 = .ok (.ifCond .lt 11, 3) := by decide +kernel
theorem dX7_needNode_4 : decode cX7_needNode 4 = .ok (.iload_n 1, 1) := by decide +kernel
theorem dX7_needNode_5 : decode cX7_needNode 5 = .ok (.aload_n 0, 1) := by decide +kernel
theorem dX7_needNode_6 : decode cX7_needNode 6 = .ok (.getfield 179, 3) := by decide +kernel
theorem dX7_needNode_9 : decode cX7_needNode 9 = .ok (.if_icmp .lt 13, 3) := by decide +kernel
theorem dX7_needNode_12 : decode cX7_needNode 12 = .ok (.new 123, 3) := by decide +kernel
theorem dX7_needNode_15 : decode cX7_needNode 15 = .ok (.dup, 1) := by decide +kernel
theorem dX7_needNode_16 : decode cX7_needNode 16 = .ok (.ldc 251, 2) := by decide +kernel
theorem dX7_needNode_18 : decode cX7_needNode 18 = .ok (.invokespecial 127, 3) := by decide +kernel
theorem dX7_needNode_21 : decode cX7_needNode 21 = .ok (.athrow, 1) := by decide +kernel
theorem dX7_needNode_22 : decode cX7_needNode 22 = .ok (.return_, 1) := by decide +kernel
noncomputable def f_X7_needNode  (s : CS) (p1 : Int32) : Option (Nat ⊕ (Unit)) := if p1 < 0 then some (.inl 1) else if p1 < (s.1 0 0 8) then some (.inr ()) else some (.inl 1)
set_option maxHeartbeats 4000000 in
set_option maxRecDepth 100000 in
theorem c_X7_needNode (l : Launch) (Λ : LY) (hF : FL Λ) (σ : CS)  (s : CS) (p1 : Int32)    (hf : f_X7_needNode s p1 = some (.inr ())) : CM l yX7_needNode (.code yX7_needNode cX7_needNode 2 none :: TT) ({ frames := 0, cells := 0, slots := 0, locals := 0 }) Λ [.ref (ya Λ 0 0), .int p1] (qC σ s) (qC σ s) (none) := by
  refine CM_intro (own := RX7) (by decide) rfl (Nat.le_of_ble_eq_true rfl) ?_
  intro Γ hg hl hΓ hE
  subst hg; subst hl
  show GG Γ (0, 0) (qC σ s) 0 [(0, .ref (ya (gl Γ) 0 0)), (1, .int p1)] []
  unfold f_X7_needNode at hf
  refine G_iload_n hΓ 1 dX7_needNode_0 rfl ?_
  refine G_if_lt hΓ (tgt := 12) dX7_needNode_1 (by decide) (fun hc2 => ?_) (fun hc2 => ?_)
  · rw [if_pos hc2] at hf
    cases hf
  · rw [if_neg hc2] at hf
    refine G_iload_n hΓ 1 dX7_needNode_4 rfl ?_
    refine G_aload_n hΓ 0 dX7_needNode_5 rfl ?_
    refine F_get hΓ (t := 0) (i := 0) (ci := 10) (C := RX7) (T := TX7) (N := 14) (fs7 (gl Γ) 0) (v := .int (s.1 0 0 8)) (FLi hF (t := 0) (by decide)) (fun _ _ _ => rfl) rfl rfl rfl rfl inW7 8 (by decide) (TT_cons kw_299) rfl dX7_needNode_6 ?_
    refine G_icmp_lt hΓ (tgt := 22) dX7_needNode_9 (by decide) (fun hc1 => ?_) (fun hc1 => ?_)
    · rw [if_pos hc1] at hf
      cases hf
      exact G_vret hΓ hE dX7_needNode_22
    · rw [if_neg hc1] at hf
      cases hf
set_option maxHeartbeats 4000000 in
set_option maxRecDepth 100000 in
theorem t_X7_needNode (l : Launch) (hst : l.stackTraces = false) (Λ : LY) (hF : FL Λ) (σ : CS)  (s : CS) (p1 : Int32)   {e9 : Nat} (hf : f_X7_needNode s p1 = some (.inl e9)) : CT l yX7_needNode (.code yX7_needNode cX7_needNode 2 none :: TT) ({ frames := 7, cells := 1, slots := 6, locals := 120 }) Λ [.ref (ya Λ 0 0), .int p1] (qC σ s) (xn e9) := by
  refine CT_intro hst (own := RX7) (by decide) rfl (Nat.le_of_ble_eq_true rfl) rfl rfl ?_
  intro Γ hg hl hΓ hT
  subst hg; subst hl
  show GG Γ (0, 0) (qC σ s) 0 [(0, .ref (ya (gl Γ) 0 0)), (1, .int p1)] []
  unfold f_X7_needNode at hf
  refine G_iload_n hΓ 1 dX7_needNode_0 rfl ?_
  refine G_if_lt hΓ (tgt := 12) dX7_needNode_1 (by decide) (fun hc2 => ?_) (fun hc2 => ?_)
  · rw [if_pos hc2] at hf
    cases hf
    exact G_throw hΓ hT (names := ["java/lang/RuntimeException", "java/lang/Exception"]) (by decide) (by decide) kw_468 kw_16 2 rfl at_1 3 rfl ao_1 dX7_needNode_12 dX7_needNode_15 dX7_needNode_16 dX7_needNode_18 dX7_needNode_21 (by decide) (Nat.le_of_ble_eq_true rfl)
  · rw [if_neg hc2] at hf
    refine G_iload_n hΓ 1 dX7_needNode_4 rfl ?_
    refine G_aload_n hΓ 0 dX7_needNode_5 rfl ?_
    refine F_get hΓ (t := 0) (i := 0) (ci := 10) (C := RX7) (T := TX7) (N := 14) (fs7 (gl Γ) 0) (v := .int (s.1 0 0 8)) (FLi hF (t := 0) (by decide)) (fun _ _ _ => rfl) rfl rfl rfl rfl inW7 8 (by decide) (TT_cons kw_299) rfl dX7_needNode_6 ?_
    refine G_icmp_lt hΓ (tgt := 22) dX7_needNode_9 (by decide) (fun hc1 => ?_) (fun hc1 => ?_)
    · rw [if_pos hc1] at hf
      cases hf
    · rw [if_neg hc1] at hf
      cases hf
      exact G_throw hΓ hT (names := ["java/lang/RuntimeException", "java/lang/Exception"]) (by decide) (by decide) kw_468 kw_16 2 rfl at_1 3 rfl ao_1 dX7_needNode_12 dX7_needNode_15 dX7_needNode_16 dX7_needNode_18 dX7_needNode_21 (by decide) (Nat.le_of_ble_eq_true rfl)
theorem dX7_needFrame_0 : decode cX7_needFrame 0 = .ok (.iload_n 1, 1) := by decide +kernel
theorem dX7_needFrame_1 : decode cX7_needFrame 1 = .ok (.ifCond .lt 11, 3) := by decide +kernel
theorem dX7_needFrame_4 : decode cX7_needFrame 4 = .ok (.iload_n 1, 1) := by decide +kernel
theorem dX7_needFrame_5 : decode cX7_needFrame 5 = .ok (.aload_n 0, 1) := by decide +kernel
theorem dX7_needFrame_6 : decode cX7_needFrame 6 = .ok (.getfield 78, 3) := by decide +kernel
theorem dX7_needFrame_9 : decode cX7_needFrame 9 = .ok (.if_icmp .lt 13, 3) := by decide +kernel
theorem dX7_needFrame_12 : decode cX7_needFrame 12 = .ok (.new 123, 3) := by decide +kernel
theorem dX7_needFrame_15 : decode cX7_needFrame 15 = .ok (.dup, 1) := by decide +kernel
theorem dX7_needFrame_16 : decode cX7_needFrame 16 = .ok (.ldc 253, 2) := by decide +kernel
theorem dX7_needFrame_18 : decode cX7_needFrame 18 = .ok (.invokespecial 127, 3) := by decide +kernel
theorem dX7_needFrame_21 : decode cX7_needFrame 21 = .ok (.athrow, 1) := by decide +kernel
theorem dX7_needFrame_22 : decode cX7_needFrame 22 = .ok (.return_, 1) := by decide +kernel
noncomputable def f_X7_needFrame  (s : CS) (p1 : Int32) : Option (Nat ⊕ (Unit)) := if p1 < 0 then some (.inl 1) else if p1 < (s.1 0 0 9) then some (.inr ()) else some (.inl 1)
set_option maxHeartbeats 4000000 in
set_option maxRecDepth 100000 in
theorem c_X7_needFrame (l : Launch) (Λ : LY) (hF : FL Λ) (σ : CS)  (s : CS) (p1 : Int32)    (hf : f_X7_needFrame s p1 = some (.inr ())) : CM l yX7_needFrame (.code yX7_needFrame cX7_needFrame 2 none :: TT) ({ frames := 0, cells := 0, slots := 0, locals := 0 }) Λ [.ref (ya Λ 0 0), .int p1] (qC σ s) (qC σ s) (none) := by
  refine CM_intro (own := RX7) (by decide) rfl (Nat.le_of_ble_eq_true rfl) ?_
  intro Γ hg hl hΓ hE
  subst hg; subst hl
  show GG Γ (0, 0) (qC σ s) 0 [(0, .ref (ya (gl Γ) 0 0)), (1, .int p1)] []
  unfold f_X7_needFrame at hf
  refine G_iload_n hΓ 1 dX7_needFrame_0 rfl ?_
  refine G_if_lt hΓ (tgt := 12) dX7_needFrame_1 (by decide) (fun hc2 => ?_) (fun hc2 => ?_)
  · rw [if_pos hc2] at hf
    cases hf
  · rw [if_neg hc2] at hf
    refine G_iload_n hΓ 1 dX7_needFrame_4 rfl ?_
    refine G_aload_n hΓ 0 dX7_needFrame_5 rfl ?_
    refine F_get hΓ (t := 0) (i := 0) (ci := 10) (C := RX7) (T := TX7) (N := 14) (fs7 (gl Γ) 0) (v := .int (s.1 0 0 9)) (FLi hF (t := 0) (by decide)) (fun _ _ _ => rfl) rfl rfl rfl rfl inW7 9 (by decide) (TT_cons kw_300) rfl dX7_needFrame_6 ?_
    refine G_icmp_lt hΓ (tgt := 22) dX7_needFrame_9 (by decide) (fun hc1 => ?_) (fun hc1 => ?_)
    · rw [if_pos hc1] at hf
      cases hf
      exact G_vret hΓ hE dX7_needFrame_22
    · rw [if_neg hc1] at hf
      cases hf
set_option maxHeartbeats 4000000 in
set_option maxRecDepth 100000 in
theorem t_X7_needFrame (l : Launch) (hst : l.stackTraces = false) (Λ : LY) (hF : FL Λ) (σ : CS)  (s : CS) (p1 : Int32)   {e9 : Nat} (hf : f_X7_needFrame s p1 = some (.inl e9)) : CT l yX7_needFrame (.code yX7_needFrame cX7_needFrame 2 none :: TT) ({ frames := 7, cells := 1, slots := 6, locals := 120 }) Λ [.ref (ya Λ 0 0), .int p1] (qC σ s) (xn e9) := by
  refine CT_intro hst (own := RX7) (by decide) rfl (Nat.le_of_ble_eq_true rfl) rfl rfl ?_
  intro Γ hg hl hΓ hT
  subst hg; subst hl
  show GG Γ (0, 0) (qC σ s) 0 [(0, .ref (ya (gl Γ) 0 0)), (1, .int p1)] []
  unfold f_X7_needFrame at hf
  refine G_iload_n hΓ 1 dX7_needFrame_0 rfl ?_
  refine G_if_lt hΓ (tgt := 12) dX7_needFrame_1 (by decide) (fun hc2 => ?_) (fun hc2 => ?_)
  · rw [if_pos hc2] at hf
    cases hf
    exact G_throw hΓ hT (names := ["java/lang/RuntimeException", "java/lang/Exception"]) (by decide) (by decide) kw_468 kw_16 7 rfl at_1 3 rfl ao_1 dX7_needFrame_12 dX7_needFrame_15 dX7_needFrame_16 dX7_needFrame_18 dX7_needFrame_21 (by decide) (Nat.le_of_ble_eq_true rfl)
  · rw [if_neg hc2] at hf
    refine G_iload_n hΓ 1 dX7_needFrame_4 rfl ?_
    refine G_aload_n hΓ 0 dX7_needFrame_5 rfl ?_
    refine F_get hΓ (t := 0) (i := 0) (ci := 10) (C := RX7) (T := TX7) (N := 14) (fs7 (gl Γ) 0) (v := .int (s.1 0 0 9)) (FLi hF (t := 0) (by decide)) (fun _ _ _ => rfl) rfl rfl rfl rfl inW7 9 (by decide) (TT_cons kw_300) rfl dX7_needFrame_6 ?_
    refine G_icmp_lt hΓ (tgt := 22) dX7_needFrame_9 (by decide) (fun hc1 => ?_) (fun hc1 => ?_)
    · rw [if_pos hc1] at hf
      cases hf
    · rw [if_neg hc1] at hf
      cases hf
      exact G_throw hΓ hT (names := ["java/lang/RuntimeException", "java/lang/Exception"]) (by decide) (by decide) kw_468 kw_16 7 rfl at_1 3 rfl ao_1 dX7_needFrame_12 dX7_needFrame_15 dX7_needFrame_16 dX7_needFrame_18 dX7_needFrame_21 (by decide) (Nat.le_of_ble_eq_true rfl)
theorem dX7_nodes_0 : decode cX7_nodes 0 = .ok (.iload_n 1, 1) := by decide +kernel
theorem dX7_nodes_1 : decode cX7_nodes 1 = .ok (.bipush 32, 2) := by decide +kernel
theorem dX7_nodes_3 : decode cX7_nodes 3 = .ok (.if_icmp .le 13, 3) := by decide +kernel
theorem dX7_nodes_6 : decode cX7_nodes 6 = .ok (.new 52, 3) := by decide +kernel
theorem dX7_nodes_9 : decode cX7_nodes 9 = .ok (.dup, 1) := by decide +kernel
theorem dX7_nodes_10 : decode cX7_nodes 10 = .ok (.ldc 54, 2) := by decide +kernel
theorem dX7_nodes_12 : decode cX7_nodes 12 = .ok (.invokespecial 56, 3) := by decide +kernel
theorem dX7_nodes_15 : decode cX7_nodes 15 = .ok (.athrow, 1) := by decide +kernel
theorem dX7_nodes_16 : decode cX7_nodes 16 = .ok (.iload_n 1, 1) := by decide +kernel
theorem dX7_nodes_17 : decode cX7_nodes 17 = .ok (.ifCond .ge 13, 3) := by decide +kernel
theorem dX7_nodes_20 : decode cX7_nodes 20 = .ok (.new 59, 3) := by decide +kernel
theorem dX7_nodes_23 : decode cX7_nodes 23 = .ok (.dup, 1) := by decide +kernel
theorem dX7_nodes_24 : decode cX7_nodes 24 = .ok (.ldc 61, 2) := by decide +kernel
theorem dX7_nodes_26 : decode cX7_nodes 26 = .ok (.invokespecial 63, 3) := by decide +kernel
theorem dX7_nodes_29 : decode cX7_nodes 29 = .ok (.athrow, 1) := by decide +kernel
theorem dX7_nodes_30 : decode cX7_nodes 30 = .ok (.aload_n 0, 1) := by decide +kernel
theorem dX7_nodes_31 : decode cX7_nodes 31 = .ok (.iload_n 1, 1) := by decide +kernel
theorem dX7_nodes_32 : decode cX7_nodes 32 = .ok (.invokevirtual 48, 3) := by decide +kernel
theorem dX7_nodes_35 : decode cX7_nodes 35 = .ok (.return_, 1) := by decide +kernel
noncomputable def f_X7_nodes  (s : CS) (p1 : Int32) : Option (Nat ⊕ (CS)) := if p1 ≤ 32 then if 0 ≤ p1 then bd (f_X7_begin s p1) (fun u1 => some (.inr (u1))) else some (.inl 4) else some (.inl 2)
set_option maxHeartbeats 4000000 in
set_option maxRecDepth 100000 in
theorem c_X7_nodes (l : Launch) (Λ : LY) (hF : FL Λ) (σ : CS)  (s : CS) (p1 : Int32)   {s' : CS} (hf : f_X7_nodes s p1 = some (.inr s')) : CM l yX7_nodes (.code yX7_nodes cX7_nodes 2 none :: TT) ({ frames := 3, cells := 0, slots := 0, locals := 63 }) Λ [.ref (ya Λ 0 0), .int p1] (qC σ s) (qC σ s') (none) := by
  refine CM_intro (own := RX7) (by decide) rfl (Nat.le_of_ble_eq_true rfl) ?_
  intro Γ hg hl hΓ hE
  subst hg; subst hl
  show GG Γ (0, 0) (qC σ s) 0 [(0, .ref (ya (gl Γ) 0 0)), (1, .int p1)] []
  unfold f_X7_nodes at hf
  refine G_iload_n hΓ 1 dX7_nodes_0 rfl ?_
  refine G_bipush (v := 32) hΓ dX7_nodes_1 (by decide) ?_
  refine G_icmp_le hΓ (tgt := 16) dX7_nodes_3 (by decide) (fun hc4 => ?_) (fun hc4 => ?_)
  · rw [if_pos hc4] at hf
    refine G_iload_n hΓ 1 dX7_nodes_16 rfl ?_
    refine G_if_ge hΓ (tgt := 30) dX7_nodes_17 (by decide) (fun hc3 => ?_) (fun hc3 => ?_)
    · rw [if_pos hc3] at hf
      refine G_aload_n hΓ 0 dX7_nodes_30 rfl ?_
      refine G_iload_n hΓ 1 dX7_nodes_31 rfl ?_
      obtain ⟨u1, hc2, hf⟩ := bd_some hf
      refine G_callV hΓ (n := 1) (As := [.int p1]) (t := 0) (i := 0) (ci := 10) (T := TX7) (N := 14) (FS := fs7 (gl Γ) 0) (σ' := (qC σ u1)) (c_X7_begin (gL Γ) (gl Γ) hF σ  s p1  hc2) rfl rfl kw_275 kw_277 kp_0 kw_1 kw_278 ⟨rfl, by decide, by decide, by decide +kernel⟩ (FLi hF (t := 0) (by decide)) (fun _ _ _ => rfl) rfl rfl rfl ⟨Nat.le_of_ble_eq_true rfl, Nat.le_of_ble_eq_true rfl⟩ rfl (Nat.le_of_ble_eq_true rfl) dX7_nodes_32 ⟨_, rfl⟩ rfl ?_
      cases hf
      exact G_vret hΓ hE dX7_nodes_35
    · rw [if_neg hc3] at hf
      cases hf
  · rw [if_neg hc4] at hf
    cases hf
set_option maxHeartbeats 4000000 in
set_option maxRecDepth 100000 in
theorem t_X7_nodes (l : Launch) (hst : l.stackTraces = false) (Λ : LY) (hF : FL Λ) (σ : CS)  (s : CS) (p1 : Int32)   {e9 : Nat} (hf : f_X7_nodes s p1 = some (.inl e9)) : CT l yX7_nodes (.code yX7_nodes cX7_nodes 2 none :: TT) ({ frames := 7, cells := 1, slots := 6, locals := 120 }) Λ [.ref (ya Λ 0 0), .int p1] (qC σ s) (xn e9) := by
  refine CT_intro hst (own := RX7) (by decide) rfl (Nat.le_of_ble_eq_true rfl) rfl rfl ?_
  intro Γ hg hl hΓ hT
  subst hg; subst hl
  show GG Γ (0, 0) (qC σ s) 0 [(0, .ref (ya (gl Γ) 0 0)), (1, .int p1)] []
  unfold f_X7_nodes at hf
  refine G_iload_n hΓ 1 dX7_nodes_0 rfl ?_
  refine G_bipush (v := 32) hΓ dX7_nodes_1 (by decide) ?_
  refine G_icmp_le hΓ (tgt := 16) dX7_nodes_3 (by decide) (fun hc4 => ?_) (fun hc4 => ?_)
  · rw [if_pos hc4] at hf
    refine G_iload_n hΓ 1 dX7_nodes_16 rfl ?_
    refine G_if_ge hΓ (tgt := 30) dX7_nodes_17 (by decide) (fun hc3 => ?_) (fun hc3 => ?_)
    · rw [if_pos hc3] at hf
      refine G_aload_n hΓ 0 dX7_nodes_30 rfl ?_
      refine G_iload_n hΓ 1 dX7_nodes_31 rfl ?_
      obtain ⟨u1, hc2, hf⟩ := bd_some hf
      refine G_callV hΓ (n := 1) (As := [.int p1]) (t := 0) (i := 0) (ci := 10) (T := TX7) (N := 14) (FS := fs7 (gl Γ) 0) (σ' := (qC σ u1)) (c_X7_begin (gL Γ) (gl Γ) hF σ  s p1  hc2) rfl rfl kw_275 kw_277 kp_0 kw_1 kw_278 ⟨rfl, by decide, by decide, by decide +kernel⟩ (FLi hF (t := 0) (by decide)) (fun _ _ _ => rfl) rfl rfl rfl ⟨Nat.le_of_ble_eq_true rfl, Nat.le_of_ble_eq_true rfl⟩ rfl (Nat.le_of_ble_eq_true rfl) dX7_nodes_32 ⟨_, rfl⟩ rfl ?_
      cases hf
    · rw [if_neg hc3] at hf
      cases hf
      exact G_throw hΓ hT (names := ["java/lang/RuntimeException", "java/lang/Exception"]) (by decide) (by decide) kw_434 kw_13 1 rfl at_4 0 rfl ao_4 dX7_nodes_20 dX7_nodes_23 dX7_nodes_24 dX7_nodes_26 dX7_nodes_29 (by decide) (Nat.le_of_ble_eq_true rfl)
  · rw [if_neg hc4] at hf
    cases hf
    exact G_throw hΓ hT (names := ["java/lang/RuntimeException", "java/lang/Exception"]) (by decide) (by decide) kw_418 kw_15 0 rfl at_2 1 rfl ao_2 dX7_nodes_6 dX7_nodes_9 dX7_nodes_10 dX7_nodes_12 dX7_nodes_15 (by decide) (Nat.le_of_ble_eq_true rfl)
theorem dX7_stuffed_0 : decode cX7_stuffed 0 = .ok (.aload_n 0, 1) := by decide +kernel
theorem dX7_stuffed_1 : decode cX7_stuffed 1 = .ok (.iload_n 1, 1) := by decide +kernel
theorem dX7_stuffed_2 : decode cX7_stuffed 2 = .ok (.invokevirtual 117, 3) := by decide +kernel
theorem dX7_stuffed_5 : decode cX7_stuffed 5 = .ok (.aload_n 0, 1) := by decide +kernel
theorem dX7_stuffed_6 : decode cX7_stuffed 6 = .ok (.getfield 18, 3) := by decide +kernel
theorem dX7_stuffed_9 : decode cX7_stuffed 9 = .ok (.iload_n 1, 1) := by decide +kernel
theorem dX7_stuffed_10 : decode cX7_stuffed 10 = .ok (.aaload, 1) := by decide +kernel
theorem dX7_stuffed_11 : decode cX7_stuffed 11 = .ok (.getfield 146, 3) := by decide +kernel
theorem dX7_stuffed_14 : decode cX7_stuffed 14 = .ok (.ireturn, 1) := by decide +kernel
noncomputable def f_X7_stuffed  (s : CS) (p1 : Int32) : Option (Nat ⊕ (Int32)) := bx (f_X7_needFrame s p1) (fun _ => gd (vp_in p1 200) (some (.inr (s.1 13 p1.toNatClampNeg 2))))
set_option maxHeartbeats 4000000 in
set_option maxRecDepth 100000 in
theorem c_X7_stuffed (l : Launch) (Λ : LY) (hF : FL Λ) (σ : CS)  (s : CS) (p1 : Int32)   {r9 : Int32} (hf : f_X7_stuffed s p1 = some (.inr r9)) : CM l yX7_stuffed (.code yX7_stuffed cX7_stuffed 2 (some .int) :: TT) ({ frames := 1, cells := 0, slots := 0, locals := 21 }) Λ [.ref (ya Λ 0 0), .int p1] (qC σ s) (qC σ s) (some (.int r9)) := by
  refine CM_intro (own := RX7) (by decide) rfl (Nat.le_of_ble_eq_true rfl) ?_
  intro Γ hg hl hΓ hE
  subst hg; subst hl
  show GG Γ (0, 0) (qC σ s) 0 [(0, .ref (ya (gl Γ) 0 0)), (1, .int p1)] []
  unfold f_X7_stuffed at hf
  refine G_aload_n hΓ 0 dX7_stuffed_0 rfl ?_
  refine G_iload_n hΓ 1 dX7_stuffed_1 rfl ?_
  obtain ⟨_, hc1, hf⟩ := bx_r hf
  refine G_callV hΓ (n := 1) (As := [.int p1]) (t := 0) (i := 0) (ci := 10) (T := TX7) (N := 14) (FS := fs7 (gl Γ) 0) (σ' := (qC σ s)) (c_X7_needFrame (gL Γ) (gl Γ) hF σ  s p1  hc1) rfl rfl kw_610 kw_612 kp_10 kw_1 kw_613 ⟨rfl, by decide, by decide, by decide +kernel⟩ (FLi hF (t := 0) (by decide)) (fun _ _ _ => rfl) rfl rfl rfl ⟨Nat.le_of_ble_eq_true rfl, Nat.le_of_ble_eq_true rfl⟩ rfl (Nat.le_of_ble_eq_true rfl) dX7_stuffed_2 ⟨_, rfl⟩ rfl ?_
  refine G_aload_n hΓ 0 dX7_stuffed_5 rfl ?_
  refine F_get hΓ (t := 0) (i := 0) (ci := 10) (C := RX7) (T := TX7) (N := 14) (fs7 (gl Γ) 0) (v := .ref (ya (gl Γ) 2 0)) (FLi hF (t := 0) (by decide)) (fun _ _ _ => rfl) rfl rfl rfl rfl inW7 1 (by decide) (TT_cons kw_292) rfl dX7_stuffed_6 ?_
  refine G_iload_n hΓ 1 dX7_stuffed_9 rfl ?_
  obtain ⟨hg3, hf⟩ := gd_some hf
  refine F_aaF hΓ (FLi hF (t := 2) (by decide)) hg3 dX7_stuffed_10 ?_
  refine F_getN hΓ (t := 13) (i := p1.toNatClampNeg) (ci := 3) (C := RX0) (T := TX0) (N := 9) (fs0 (gl Γ) p1.toNatClampNeg) (v := .int (s.1 13 p1.toNatClampNeg 2)) (FLi hF (t := 13) (vp_lt hg3)) (fun _ _ _ => rfl) rfl rfl rfl rfl inW0 2 (by decide) 22 (host := "CanBits") rfl rfl dX7_stuffed_11 ?_
  cases hf
  exact G_iret hΓ hE dX7_stuffed_14
set_option maxHeartbeats 4000000 in
set_option maxRecDepth 100000 in
theorem t_X7_stuffed (l : Launch) (hst : l.stackTraces = false) (Λ : LY) (hF : FL Λ) (σ : CS)  (s : CS) (p1 : Int32)   {e9 : Nat} (hf : f_X7_stuffed s p1 = some (.inl e9)) : CT l yX7_stuffed (.code yX7_stuffed cX7_stuffed 2 (some .int) :: TT) ({ frames := 8, cells := 1, slots := 6, locals := 141 }) Λ [.ref (ya Λ 0 0), .int p1] (qC σ s) (xn e9) := by
  refine CT_intro hst (own := RX7) (by decide) rfl (Nat.le_of_ble_eq_true rfl) rfl rfl ?_
  intro Γ hg hl hΓ hT
  subst hg; subst hl
  show GG Γ (0, 0) (qC σ s) 0 [(0, .ref (ya (gl Γ) 0 0)), (1, .int p1)] []
  unfold f_X7_stuffed at hf
  refine G_aload_n hΓ 0 dX7_stuffed_0 rfl ?_
  refine G_iload_n hΓ 1 dX7_stuffed_1 rfl ?_
  rcases bx_l hf with hcx2 | ⟨_, hc1, hf⟩
  · exact G_callVX hΓ hT (n := 1) (As := [.int p1]) (t := 0) (i := 0) (ci := 10) (T := TX7) (N := 14) (FS := fs7 (gl Γ) 0) (t_X7_needFrame (gL Γ) hst (gl Γ) hF σ  s p1  hcx2) kw_610 kw_612 kp_10 kw_1 kw_613 ⟨rfl, by decide, by decide, by decide +kernel⟩ (FLi hF (t := 0) (by decide)) (fun _ _ _ => rfl) rfl rfl rfl ⟨Nat.le_of_ble_eq_true rfl, Nat.le_of_ble_eq_true rfl⟩ rfl (Nat.le_of_ble_eq_true rfl) dX7_stuffed_2
  refine G_callV hΓ (n := 1) (As := [.int p1]) (t := 0) (i := 0) (ci := 10) (T := TX7) (N := 14) (FS := fs7 (gl Γ) 0) (σ' := (qC σ s)) (c_X7_needFrame (gL Γ) (gl Γ) hF σ  s p1  hc1) rfl rfl kw_610 kw_612 kp_10 kw_1 kw_613 ⟨rfl, by decide, by decide, by decide +kernel⟩ (FLi hF (t := 0) (by decide)) (fun _ _ _ => rfl) rfl rfl rfl ⟨Nat.le_of_ble_eq_true rfl, Nat.le_of_ble_eq_true rfl⟩ rfl (Nat.le_of_ble_eq_true rfl) dX7_stuffed_2 ⟨_, rfl⟩ rfl ?_
  refine G_aload_n hΓ 0 dX7_stuffed_5 rfl ?_
  refine F_get hΓ (t := 0) (i := 0) (ci := 10) (C := RX7) (T := TX7) (N := 14) (fs7 (gl Γ) 0) (v := .ref (ya (gl Γ) 2 0)) (FLi hF (t := 0) (by decide)) (fun _ _ _ => rfl) rfl rfl rfl rfl inW7 1 (by decide) (TT_cons kw_292) rfl dX7_stuffed_6 ?_
  refine G_iload_n hΓ 1 dX7_stuffed_9 rfl ?_
  obtain ⟨hg3, hf⟩ := gd_some hf
  refine F_aaF hΓ (FLi hF (t := 2) (by decide)) hg3 dX7_stuffed_10 ?_
  refine F_getN hΓ (t := 13) (i := p1.toNatClampNeg) (ci := 3) (C := RX0) (T := TX0) (N := 9) (fs0 (gl Γ) p1.toNatClampNeg) (v := .int (s.1 13 p1.toNatClampNeg 2)) (FLi hF (t := 13) (vp_lt hg3)) (fun _ _ _ => rfl) rfl rfl rfl rfl inW0 2 (by decide) 22 (host := "CanBits") rfl rfl dX7_stuffed_11 ?_
  cases hf
theorem dX7_filter_0 : decode cX7_filter 0 = .ok (.aload_n 0, 1) := by decide +kernel
theorem dX7_filter_1 : decode cX7_filter 1 = .ok (.iload_n 1, 1) := by decide +kernel
theorem dX7_filter_2 : decode cX7_filter 2 = .ok (.invokevirtual 64, 3) := by decide +kernel
theorem dX7_filter_5 : decode cX7_filter 5 = .ok (.aload_n 0, 1) := by decide +kernel
theorem dX7_filter_6 : decode cX7_filter 6 = .ok (.getfield 11, 3) := by decide +kernel
theorem dX7_filter_9 : decode cX7_filter 9 = .ok (.iload_n 1, 1) := by decide +kernel
theorem dX7_filter_10 : decode cX7_filter 10 = .ok (.aaload, 1) := by decide +kernel
theorem dX7_filter_11 : decode cX7_filter 11 = .ok (.iload_n 2, 1) := by decide +kernel
theorem dX7_filter_12 : decode cX7_filter 12 = .ok (.putfield 149, 3) := by decide +kernel
theorem dX7_filter_15 : decode cX7_filter 15 = .ok (.aload_n 0, 1) := by decide +kernel
theorem dX7_filter_16 : decode cX7_filter 16 = .ok (.getfield 11, 3) := by decide +kernel
theorem dX7_filter_19 : decode cX7_filter 19 = .ok (.iload_n 1, 1) := by decide +kernel
theorem dX7_filter_20 : decode cX7_filter 20 = .ok (.aaload, 1) := by decide +kernel
theorem dX7_filter_21 : decode cX7_filter 21 = .ok (.iload_n 3, 1) := by decide +kernel
theorem dX7_filter_22 : decode cX7_filter 22 = .ok (.putfield 152, 3) := by decide +kernel
theorem dX7_filter_25 : decode cX7_filter 25 = .ok (.return_, 1) := by decide +kernel
noncomputable def f_X7_filter  (s : CS) (p1 : Int32) (p2 : Int32) (p3 : Int32) : Option (Nat ⊕ (CS)) := bx (f_X7_needNode s p1) (fun _ => gd (vp_in p1 32) (lt (α := CS) (sZ s 3 p1.toNatClampNeg (upd (s.1 3 p1.toNatClampNeg) 4 p2)) (fun s4 => gd (vp_in p1 32) (lt (α := CS) (sZ s4 3 p1.toNatClampNeg (upd (s4.1 3 p1.toNatClampNeg) 5 p3)) (fun s6 => some (.inr (s6)))))))
set_option maxHeartbeats 4000000 in
set_option maxRecDepth 100000 in
theorem c_X7_filter (l : Launch) (Λ : LY) (hF : FL Λ) (σ : CS)  (s : CS) (p1 : Int32) (p2 : Int32) (p3 : Int32)   {s' : CS} (hf : f_X7_filter s p1 p2 p3 = some (.inr s')) : CM l yX7_filter (.code yX7_filter cX7_filter 4 none :: TT) ({ frames := 1, cells := 0, slots := 0, locals := 21 }) Λ [.ref (ya Λ 0 0), .int p1, .int p2, .int p3] (qC σ s) (qC σ s') (none) := by
  refine CM_intro (own := RX7) (by decide) rfl (Nat.le_of_ble_eq_true rfl) ?_
  intro Γ hg hl hΓ hE
  subst hg; subst hl
  show GG Γ (0, 0) (qC σ s) 0 [(0, .ref (ya (gl Γ) 0 0)), (1, .int p1), (2, .int p2), (3, .int p3)] []
  unfold f_X7_filter at hf
  refine G_aload_n hΓ 0 dX7_filter_0 rfl ?_
  refine G_iload_n hΓ 1 dX7_filter_1 rfl ?_
  obtain ⟨_, hc1, hf⟩ := bx_r hf
  refine G_callV hΓ (n := 1) (As := [.int p1]) (t := 0) (i := 0) (ci := 10) (T := TX7) (N := 14) (FS := fs7 (gl Γ) 0) (σ' := (qC σ s)) (c_X7_needNode (gL Γ) (gl Γ) hF σ  s p1  hc1) rfl rfl kw_464 kw_466 kp_3 kw_1 kw_467 ⟨rfl, by decide, by decide, by decide +kernel⟩ (FLi hF (t := 0) (by decide)) (fun _ _ _ => rfl) rfl rfl rfl ⟨Nat.le_of_ble_eq_true rfl, Nat.le_of_ble_eq_true rfl⟩ rfl (Nat.le_of_ble_eq_true rfl) dX7_filter_2 ⟨_, rfl⟩ rfl ?_
  refine G_aload_n hΓ 0 dX7_filter_5 rfl ?_
  refine F_get hΓ (t := 0) (i := 0) (ci := 10) (C := RX7) (T := TX7) (N := 14) (fs7 (gl Γ) 0) (v := .ref (ya (gl Γ) 1 0)) (FLi hF (t := 0) (by decide)) (fun _ _ _ => rfl) rfl rfl rfl rfl inW7 0 (by decide) (TT_cons kw_291) rfl dX7_filter_6 ?_
  refine G_iload_n hΓ 1 dX7_filter_9 rfl ?_
  obtain ⟨hg3, hf⟩ := gd_some hf
  refine F_aaN hΓ (FLi hF (t := 1) (by decide)) hg3 dX7_filter_10 ?_
  refine G_iload_n hΓ 2 dX7_filter_11 rfl ?_
  obtain ⟨s4, hv_s4, hf⟩ := lt_eq hf
  refine F_putN hΓ (t := 3) (i := p1.toNatClampNeg) (ci := 5) (C := RX2) (T := TX2) (N := 10) (fs2 (gl Γ) p1.toNatClampNeg) (f := (s.1 3 p1.toNatClampNeg)) (f' := (upd (s.1 3 p1.toNatClampNeg) 4 p2)) (σ' := (qC σ s4)) (ty := .int) (v := .int p2) tyX2 tyX2_ok nmX2 (FLi hF (t := 3) (vp_lt hg3)) (fun _ _ _ => rfl) rfl ((qC_s (by decide)).trans (congrArg (qC σ) hv_s4.symm)) rfl inW2 4 (by decide) 14 (host := "CanBits") rfl rfl (by decide +kernel) rfl rfl (fun _ _ => Nat.le_of_ble_eq_true rfl) (fun _ _ => rfl) dX7_filter_12 ?_
  refine G_aload_n hΓ 0 dX7_filter_15 rfl ?_
  refine F_get hΓ (t := 0) (i := 0) (ci := 10) (C := RX7) (T := TX7) (N := 14) (fs7 (gl Γ) 0) (v := .ref (ya (gl Γ) 1 0)) (FLi hF (t := 0) (by decide)) (fun _ _ _ => rfl) rfl rfl rfl rfl inW7 0 (by decide) (TT_cons kw_291) rfl dX7_filter_16 ?_
  refine G_iload_n hΓ 1 dX7_filter_19 rfl ?_
  obtain ⟨hg5, hf⟩ := gd_some hf
  refine F_aaN hΓ (FLi hF (t := 1) (by decide)) hg5 dX7_filter_20 ?_
  refine G_iload_n hΓ 3 dX7_filter_21 rfl ?_
  obtain ⟨s6, hv_s6, hf⟩ := lt_eq hf
  refine F_putN hΓ (t := 3) (i := p1.toNatClampNeg) (ci := 5) (C := RX2) (T := TX2) (N := 10) (fs2 (gl Γ) p1.toNatClampNeg) (f := (s4.1 3 p1.toNatClampNeg)) (f' := (upd (s4.1 3 p1.toNatClampNeg) 5 p3)) (σ' := (qC σ s6)) (ty := .int) (v := .int p3) tyX2 tyX2_ok nmX2 (FLi hF (t := 3) (vp_lt hg5)) (fun _ _ _ => rfl) rfl ((qC_s (by decide)).trans (congrArg (qC σ) hv_s6.symm)) rfl inW2 5 (by decide) 15 (host := "CanBits") rfl rfl (by decide +kernel) rfl rfl (fun _ _ => Nat.le_of_ble_eq_true rfl) (fun _ _ => rfl) dX7_filter_22 ?_
  cases hf
  exact G_vret hΓ hE dX7_filter_25
set_option maxHeartbeats 4000000 in
set_option maxRecDepth 100000 in
theorem t_X7_filter (l : Launch) (hst : l.stackTraces = false) (Λ : LY) (hF : FL Λ) (σ : CS)  (s : CS) (p1 : Int32) (p2 : Int32) (p3 : Int32)   {e9 : Nat} (hf : f_X7_filter s p1 p2 p3 = some (.inl e9)) : CT l yX7_filter (.code yX7_filter cX7_filter 4 none :: TT) ({ frames := 8, cells := 1, slots := 6, locals := 141 }) Λ [.ref (ya Λ 0 0), .int p1, .int p2, .int p3] (qC σ s) (xn e9) := by
  refine CT_intro hst (own := RX7) (by decide) rfl (Nat.le_of_ble_eq_true rfl) rfl rfl ?_
  intro Γ hg hl hΓ hT
  subst hg; subst hl
  show GG Γ (0, 0) (qC σ s) 0 [(0, .ref (ya (gl Γ) 0 0)), (1, .int p1), (2, .int p2), (3, .int p3)] []
  unfold f_X7_filter at hf
  refine G_aload_n hΓ 0 dX7_filter_0 rfl ?_
  refine G_iload_n hΓ 1 dX7_filter_1 rfl ?_
  rcases bx_l hf with hcx2 | ⟨_, hc1, hf⟩
  · exact G_callVX hΓ hT (n := 1) (As := [.int p1]) (t := 0) (i := 0) (ci := 10) (T := TX7) (N := 14) (FS := fs7 (gl Γ) 0) (t_X7_needNode (gL Γ) hst (gl Γ) hF σ  s p1  hcx2) kw_464 kw_466 kp_3 kw_1 kw_467 ⟨rfl, by decide, by decide, by decide +kernel⟩ (FLi hF (t := 0) (by decide)) (fun _ _ _ => rfl) rfl rfl rfl ⟨Nat.le_of_ble_eq_true rfl, Nat.le_of_ble_eq_true rfl⟩ rfl (Nat.le_of_ble_eq_true rfl) dX7_filter_2
  refine G_callV hΓ (n := 1) (As := [.int p1]) (t := 0) (i := 0) (ci := 10) (T := TX7) (N := 14) (FS := fs7 (gl Γ) 0) (σ' := (qC σ s)) (c_X7_needNode (gL Γ) (gl Γ) hF σ  s p1  hc1) rfl rfl kw_464 kw_466 kp_3 kw_1 kw_467 ⟨rfl, by decide, by decide, by decide +kernel⟩ (FLi hF (t := 0) (by decide)) (fun _ _ _ => rfl) rfl rfl rfl ⟨Nat.le_of_ble_eq_true rfl, Nat.le_of_ble_eq_true rfl⟩ rfl (Nat.le_of_ble_eq_true rfl) dX7_filter_2 ⟨_, rfl⟩ rfl ?_
  refine G_aload_n hΓ 0 dX7_filter_5 rfl ?_
  refine F_get hΓ (t := 0) (i := 0) (ci := 10) (C := RX7) (T := TX7) (N := 14) (fs7 (gl Γ) 0) (v := .ref (ya (gl Γ) 1 0)) (FLi hF (t := 0) (by decide)) (fun _ _ _ => rfl) rfl rfl rfl rfl inW7 0 (by decide) (TT_cons kw_291) rfl dX7_filter_6 ?_
  refine G_iload_n hΓ 1 dX7_filter_9 rfl ?_
  obtain ⟨hg3, hf⟩ := gd_some hf
  refine F_aaN hΓ (FLi hF (t := 1) (by decide)) hg3 dX7_filter_10 ?_
  refine G_iload_n hΓ 2 dX7_filter_11 rfl ?_
  obtain ⟨s4, hv_s4, hf⟩ := lt_eq hf
  refine F_putN hΓ (t := 3) (i := p1.toNatClampNeg) (ci := 5) (C := RX2) (T := TX2) (N := 10) (fs2 (gl Γ) p1.toNatClampNeg) (f := (s.1 3 p1.toNatClampNeg)) (f' := (upd (s.1 3 p1.toNatClampNeg) 4 p2)) (σ' := (qC σ s4)) (ty := .int) (v := .int p2) tyX2 tyX2_ok nmX2 (FLi hF (t := 3) (vp_lt hg3)) (fun _ _ _ => rfl) rfl ((qC_s (by decide)).trans (congrArg (qC σ) hv_s4.symm)) rfl inW2 4 (by decide) 14 (host := "CanBits") rfl rfl (by decide +kernel) rfl rfl (fun _ _ => Nat.le_of_ble_eq_true rfl) (fun _ _ => rfl) dX7_filter_12 ?_
  refine G_aload_n hΓ 0 dX7_filter_15 rfl ?_
  refine F_get hΓ (t := 0) (i := 0) (ci := 10) (C := RX7) (T := TX7) (N := 14) (fs7 (gl Γ) 0) (v := .ref (ya (gl Γ) 1 0)) (FLi hF (t := 0) (by decide)) (fun _ _ _ => rfl) rfl rfl rfl rfl inW7 0 (by decide) (TT_cons kw_291) rfl dX7_filter_16 ?_
  refine G_iload_n hΓ 1 dX7_filter_19 rfl ?_
  obtain ⟨hg5, hf⟩ := gd_some hf
  refine F_aaN hΓ (FLi hF (t := 1) (by decide)) hg5 dX7_filter_20 ?_
  refine G_iload_n hΓ 3 dX7_filter_21 rfl ?_
  obtain ⟨s6, hv_s6, hf⟩ := lt_eq hf
  refine F_putN hΓ (t := 3) (i := p1.toNatClampNeg) (ci := 5) (C := RX2) (T := TX2) (N := 10) (fs2 (gl Γ) p1.toNatClampNeg) (f := (s4.1 3 p1.toNatClampNeg)) (f' := (upd (s4.1 3 p1.toNatClampNeg) 5 p3)) (σ' := (qC σ s6)) (ty := .int) (v := .int p3) tyX2 tyX2_ok nmX2 (FLi hF (t := 3) (vp_lt hg5)) (fun _ _ _ => rfl) rfl ((qC_s (by decide)).trans (congrArg (qC σ) hv_s6.symm)) rfl inW2 5 (by decide) 15 (host := "CanBits") rfl rfl (by decide +kernel) rfl rfl (fun _ _ => Nat.le_of_ble_eq_true rfl) (fun _ _ => rfl) dX7_filter_22 ?_
  cases hf
theorem dX7_flip_0 : decode cX7_flip 0 = .ok (.aload_n 0, 1) := by decide +kernel
theorem dX7_flip_1 : decode cX7_flip 1 = .ok (.iload_n 1, 1) := by decide +kernel
theorem dX7_flip_2 : decode cX7_flip 2 = .ok (.invokevirtual 64, 3) := by decide +kernel
theorem dX7_flip_5 : decode cX7_flip 5 = .ok (.iload_n 2, 1) := by decide +kernel
theorem dX7_flip_6 : decode cX7_flip 6 = .ok (.aload_n 0, 1) := by decide +kernel
theorem dX7_flip_7 : decode cX7_flip 7 = .ok (.getfield 155, 3) := by decide +kernel
theorem dX7_flip_10 : decode cX7_flip 10 = .ok (.if_icmp .lt 10, 3) := by decide +kernel
theorem dX7_flip_13 : decode cX7_flip 13 = .ok (.iload_n 2, 1) := by decide +kernel
theorem dX7_flip_14 : decode cX7_flip 14 = .ok (.sipush 20000, 3) := by decide +kernel
theorem dX7_flip_17 : decode cX7_flip 17 = .ok (.if_icmp .lt 13, 3) := by decide +kernel
theorem dX7_flip_20 : decode cX7_flip 20 = .ok (.new 52, 3) := by decide +kernel
theorem dX7_flip_23 : decode cX7_flip 23 = .ok (.dup, 1) := by decide +kernel
theorem dX7_flip_24 : decode cX7_flip 24 = .ok (.ldc 158, 2) := by decide +kernel
theorem dX7_flip_26 : decode cX7_flip 26 = .ok (.invokespecial 56, 3) := by decide +kernel
theorem dX7_flip_29 : decode cX7_flip 29 = .ok (.athrow, 1) := by decide +kernel
theorem dX7_flip_30 : decode cX7_flip 30 = .ok (.aload_n 0, 1) := by decide +kernel
theorem dX7_flip_31 : decode cX7_flip 31 = .ok (.getfield 34, 3) := by decide +kernel
theorem dX7_flip_34 : decode cX7_flip 34 = .ok (.iload_n 2, 1) := by decide +kernel
theorem dX7_flip_35 : decode cX7_flip 35 = .ok (.dup2, 1) := by decide +kernel
theorem dX7_flip_36 : decode cX7_flip 36 = .ok (.iaload, 1) := by decide +kernel
theorem dX7_flip_37 : decode cX7_flip 37 = .ok (.iconst 1, 1) := by decide +kernel
theorem dX7_flip_38 : decode cX7_flip 38 = .ok (.iload_n 1, 1) := by decide +kernel
theorem dX7_flip_39 : decode cX7_flip 39 = .ok (.ishl, 1) := by decide +kernel
theorem dX7_flip_40 : decode cX7_flip 40 = .ok (.ior, 1) := by decide +kernel
theorem dX7_flip_41 : decode cX7_flip 41 = .ok (.iastore, 1) := by decide +kernel
theorem dX7_flip_42 : decode cX7_flip 42 = .ok (.aload_n 0, 1) := by decide +kernel
theorem dX7_flip_43 : decode cX7_flip 43 = .ok (.aload_n 0, 1) := by decide +kernel
theorem dX7_flip_44 : decode cX7_flip 44 = .ok (.getfield 160, 3) := by decide +kernel
theorem dX7_flip_47 : decode cX7_flip 47 = .ok (.iload_n 2, 1) := by decide +kernel
theorem dX7_flip_48 : decode cX7_flip 48 = .ok (.iconst 1, 1) := by decide +kernel
theorem dX7_flip_49 : decode cX7_flip 49 = .ok (.iadd, 1) := by decide +kernel
theorem dX7_flip_50 : decode cX7_flip 50 = .ok (.invokestatic 163, 3) := by decide +kernel
theorem dX7_flip_53 : decode cX7_flip 53 = .ok (.putfield 160, 3) := by decide +kernel
theorem dX7_flip_56 : decode cX7_flip 56 = .ok (.return_, 1) := by decide +kernel
noncomputable def f_X7_flip  (s : CS) (p1 : Int32) (p2 : Int32) : Option (Nat ⊕ (CS)) := bx (f_X7_needNode s p1) (fun _ => if p2 < (s.1 0 0 13) then some (.inl 2) else if p2 < 20000 then gd (vp_in p2 20000) (lt (α := Int32) ((s.1 17 1 p2.toNatClampNeg) ||| ((1 : Int32) <<< (p1 &&& 31))) (fun v4 => gd (vp_in p2 20000) (lt (α := CS) (sZ s 17 1 (upd (s.1 17 1) p2.toNatClampNeg v4)) (fun s6 => lt (α := Int32) (if (s6.1 0 0 12) < (p2 + 1) then (p2 + 1) else (s6.1 0 0 12)) (fun v7 => lt (α := CS) (sZ s6 0 0 (upd (s6.1 0 0) 12 v7)) (fun s8 => some (.inr (s8)))))))) else some (.inl 2))
set_option maxHeartbeats 4000000 in
set_option maxRecDepth 100000 in
theorem c_X7_flip (l : Launch) (Λ : LY) (hF : FL Λ) (σ : CS)  (s : CS) (p1 : Int32) (p2 : Int32)   {s' : CS} (hf : f_X7_flip s p1 p2 = some (.inr s')) : CM l yX7_flip (.code yX7_flip cX7_flip 3 none :: TT) ({ frames := 1, cells := 0, slots := 0, locals := 21 }) Λ [.ref (ya Λ 0 0), .int p1, .int p2] (qC σ s) (qC σ s') (none) := by
  refine CM_intro (own := RX7) (by decide) rfl (Nat.le_of_ble_eq_true rfl) ?_
  intro Γ hg hl hΓ hE
  subst hg; subst hl
  show GG Γ (0, 0) (qC σ s) 0 [(0, .ref (ya (gl Γ) 0 0)), (1, .int p1), (2, .int p2)] []
  unfold f_X7_flip at hf
  refine G_aload_n hΓ 0 dX7_flip_0 rfl ?_
  refine G_iload_n hΓ 1 dX7_flip_1 rfl ?_
  obtain ⟨_, hc1, hf⟩ := bx_r hf
  refine G_callV hΓ (n := 1) (As := [.int p1]) (t := 0) (i := 0) (ci := 10) (T := TX7) (N := 14) (FS := fs7 (gl Γ) 0) (σ' := (qC σ s)) (c_X7_needNode (gL Γ) (gl Γ) hF σ  s p1  hc1) rfl rfl kw_464 kw_466 kp_3 kw_1 kw_467 ⟨rfl, by decide, by decide, by decide +kernel⟩ (FLi hF (t := 0) (by decide)) (fun _ _ _ => rfl) rfl rfl rfl ⟨Nat.le_of_ble_eq_true rfl, Nat.le_of_ble_eq_true rfl⟩ rfl (Nat.le_of_ble_eq_true rfl) dX7_flip_2 ⟨_, rfl⟩ rfl ?_
  refine G_iload_n hΓ 2 dX7_flip_5 rfl ?_
  refine G_aload_n hΓ 0 dX7_flip_6 rfl ?_
  refine F_get hΓ (t := 0) (i := 0) (ci := 10) (C := RX7) (T := TX7) (N := 14) (fs7 (gl Γ) 0) (v := .int (s.1 0 0 13)) (FLi hF (t := 0) (by decide)) (fun _ _ _ => rfl) rfl rfl rfl rfl inW7 13 (by decide) (TT_cons kw_304) rfl dX7_flip_7 ?_
  refine G_icmp_lt hΓ (tgt := 20) dX7_flip_10 (by decide) (fun hc10 => ?_) (fun hc10 => ?_)
  · rw [if_pos hc10] at hf
    cases hf
  · rw [if_neg hc10] at hf
    refine G_iload_n hΓ 2 dX7_flip_13 rfl ?_
    refine G_sipush (v := 20000) hΓ dX7_flip_14 (by decide) ?_
    refine G_icmp_lt hΓ (tgt := 30) dX7_flip_17 (by decide) (fun hc9 => ?_) (fun hc9 => ?_)
    · rw [if_pos hc9] at hf
      refine G_aload_n hΓ 0 dX7_flip_30 rfl ?_
      refine F_get hΓ (t := 0) (i := 0) (ci := 10) (C := RX7) (T := TX7) (N := 14) (fs7 (gl Γ) 0) (v := .ref (ya (gl Γ) 17 1)) (FLi hF (t := 0) (by decide)) (fun _ _ _ => rfl) rfl rfl rfl rfl inW7 4 (by decide) (TT_cons kw_295) rfl dX7_flip_31 ?_
      refine G_iload_n hΓ 2 dX7_flip_34 rfl ?_
      refine G_dup2 hΓ dX7_flip_35 rfl rfl ?_
      obtain ⟨hg3, hf⟩ := gd_some hf
      refine F_ald (G_iald hΓ) (t := 17) (i := 1) (f := s.1 17 1) (FLi hF (t := 17) (by decide)) (fun _ _ _ => rfl) rfl hg3 dX7_flip_36 ?_
      refine G_iconst (v := 1) hΓ dX7_flip_37 (by decide) ?_
      refine G_iload_n hΓ 1 dX7_flip_38 rfl ?_
      refine G_ishl hΓ dX7_flip_39 ?_
      refine G_ior hΓ dX7_flip_40 ?_
      obtain ⟨v4, hv_v4, hf⟩ := lt_eq hf
      refine G_topi hv_v4 ?_
      obtain ⟨hg5, hf⟩ := gd_some hf
      obtain ⟨s6, hv_s6, hf⟩ := lt_eq hf
      refine F_iast hΓ (t := 17) (i := 1) (f := s.1 17 1) (σ' := (qC σ s6)) (FLi hF (t := 17) (by decide)) (fun _ _ _ => rfl) rfl ((qC_s (by decide)).trans (congrArg (qC σ) hv_s6.symm)) hg5 dX7_flip_41 ?_
      refine G_aload_n hΓ 0 dX7_flip_42 rfl ?_
      refine G_aload_n hΓ 0 dX7_flip_43 rfl ?_
      refine F_get hΓ (t := 0) (i := 0) (ci := 10) (C := RX7) (T := TX7) (N := 14) (fs7 (gl Γ) 0) (v := .int (s6.1 0 0 12)) (FLi hF (t := 0) (by decide)) (fun _ _ _ => rfl) rfl rfl rfl rfl inW7 12 (by decide) (TT_cons kw_303) rfl dX7_flip_44 ?_
      refine G_iload_n hΓ 2 dX7_flip_47 rfl ?_
      refine G_iconst (v := 1) hΓ dX7_flip_48 (by decide) ?_
      refine G_iadd hΓ dX7_flip_49 ?_
      refine G_mmax hΓ kw_644 kw_645 kw_20 kw_646 (by decide) (Nat.le_of_ble_eq_true rfl) dX7_flip_50 ?_
      obtain ⟨v7, hv_v7, hf⟩ := lt_eq hf
      refine G_topi hv_v7 ?_
      obtain ⟨s8, hv_s8, hf⟩ := lt_eq hf
      refine F_put hΓ (t := 0) (i := 0) (ci := 10) (C := RX7) (T := TX7) (N := 14) (fs7 (gl Γ) 0) (f := (s6.1 0 0)) (f' := (upd (s6.1 0 0) 12 v7)) (σ' := (qC σ s8)) (ty := .int) (v := .int v7) tyX7 tyX7_ok nmX7 (FLi hF (t := 0) (by decide)) (fun _ _ _ => rfl) rfl ((qC_s (by decide)).trans (congrArg (qC σ) hv_s8.symm)) rfl inW7 12 (by decide) (TT_cons kw_303) rfl (by decide +kernel) rfl rfl (fun _ _ => Nat.le_of_ble_eq_true rfl) (fun _ _ => rfl) dX7_flip_53 ?_
      cases hf
      exact G_vret hΓ hE dX7_flip_56
    · rw [if_neg hc9] at hf
      cases hf
set_option maxHeartbeats 4000000 in
set_option maxRecDepth 100000 in
theorem t_X7_flip (l : Launch) (hst : l.stackTraces = false) (Λ : LY) (hF : FL Λ) (σ : CS)  (s : CS) (p1 : Int32) (p2 : Int32)   {e9 : Nat} (hf : f_X7_flip s p1 p2 = some (.inl e9)) : CT l yX7_flip (.code yX7_flip cX7_flip 3 none :: TT) ({ frames := 8, cells := 1, slots := 6, locals := 141 }) Λ [.ref (ya Λ 0 0), .int p1, .int p2] (qC σ s) (xn e9) := by
  refine CT_intro hst (own := RX7) (by decide) rfl (Nat.le_of_ble_eq_true rfl) rfl rfl ?_
  intro Γ hg hl hΓ hT
  subst hg; subst hl
  show GG Γ (0, 0) (qC σ s) 0 [(0, .ref (ya (gl Γ) 0 0)), (1, .int p1), (2, .int p2)] []
  unfold f_X7_flip at hf
  refine G_aload_n hΓ 0 dX7_flip_0 rfl ?_
  refine G_iload_n hΓ 1 dX7_flip_1 rfl ?_
  rcases bx_l hf with hcx2 | ⟨_, hc1, hf⟩
  · exact G_callVX hΓ hT (n := 1) (As := [.int p1]) (t := 0) (i := 0) (ci := 10) (T := TX7) (N := 14) (FS := fs7 (gl Γ) 0) (t_X7_needNode (gL Γ) hst (gl Γ) hF σ  s p1  hcx2) kw_464 kw_466 kp_3 kw_1 kw_467 ⟨rfl, by decide, by decide, by decide +kernel⟩ (FLi hF (t := 0) (by decide)) (fun _ _ _ => rfl) rfl rfl rfl ⟨Nat.le_of_ble_eq_true rfl, Nat.le_of_ble_eq_true rfl⟩ rfl (Nat.le_of_ble_eq_true rfl) dX7_flip_2
  refine G_callV hΓ (n := 1) (As := [.int p1]) (t := 0) (i := 0) (ci := 10) (T := TX7) (N := 14) (FS := fs7 (gl Γ) 0) (σ' := (qC σ s)) (c_X7_needNode (gL Γ) (gl Γ) hF σ  s p1  hc1) rfl rfl kw_464 kw_466 kp_3 kw_1 kw_467 ⟨rfl, by decide, by decide, by decide +kernel⟩ (FLi hF (t := 0) (by decide)) (fun _ _ _ => rfl) rfl rfl rfl ⟨Nat.le_of_ble_eq_true rfl, Nat.le_of_ble_eq_true rfl⟩ rfl (Nat.le_of_ble_eq_true rfl) dX7_flip_2 ⟨_, rfl⟩ rfl ?_
  refine G_iload_n hΓ 2 dX7_flip_5 rfl ?_
  refine G_aload_n hΓ 0 dX7_flip_6 rfl ?_
  refine F_get hΓ (t := 0) (i := 0) (ci := 10) (C := RX7) (T := TX7) (N := 14) (fs7 (gl Γ) 0) (v := .int (s.1 0 0 13)) (FLi hF (t := 0) (by decide)) (fun _ _ _ => rfl) rfl rfl rfl rfl inW7 13 (by decide) (TT_cons kw_304) rfl dX7_flip_7 ?_
  refine G_icmp_lt hΓ (tgt := 20) dX7_flip_10 (by decide) (fun hc10 => ?_) (fun hc10 => ?_)
  · rw [if_pos hc10] at hf
    cases hf
    exact G_throw hΓ hT (names := ["java/lang/RuntimeException", "java/lang/Exception"]) (by decide) (by decide) kw_418 kw_15 11 rfl at_2 1 rfl ao_2 dX7_flip_20 dX7_flip_23 dX7_flip_24 dX7_flip_26 dX7_flip_29 (by decide) (Nat.le_of_ble_eq_true rfl)
  · rw [if_neg hc10] at hf
    refine G_iload_n hΓ 2 dX7_flip_13 rfl ?_
    refine G_sipush (v := 20000) hΓ dX7_flip_14 (by decide) ?_
    refine G_icmp_lt hΓ (tgt := 30) dX7_flip_17 (by decide) (fun hc9 => ?_) (fun hc9 => ?_)
    · rw [if_pos hc9] at hf
      refine G_aload_n hΓ 0 dX7_flip_30 rfl ?_
      refine F_get hΓ (t := 0) (i := 0) (ci := 10) (C := RX7) (T := TX7) (N := 14) (fs7 (gl Γ) 0) (v := .ref (ya (gl Γ) 17 1)) (FLi hF (t := 0) (by decide)) (fun _ _ _ => rfl) rfl rfl rfl rfl inW7 4 (by decide) (TT_cons kw_295) rfl dX7_flip_31 ?_
      refine G_iload_n hΓ 2 dX7_flip_34 rfl ?_
      refine G_dup2 hΓ dX7_flip_35 rfl rfl ?_
      obtain ⟨hg3, hf⟩ := gd_some hf
      refine F_ald (G_iald hΓ) (t := 17) (i := 1) (f := s.1 17 1) (FLi hF (t := 17) (by decide)) (fun _ _ _ => rfl) rfl hg3 dX7_flip_36 ?_
      refine G_iconst (v := 1) hΓ dX7_flip_37 (by decide) ?_
      refine G_iload_n hΓ 1 dX7_flip_38 rfl ?_
      refine G_ishl hΓ dX7_flip_39 ?_
      refine G_ior hΓ dX7_flip_40 ?_
      obtain ⟨v4, hv_v4, hf⟩ := lt_eq hf
      refine G_topi hv_v4 ?_
      obtain ⟨hg5, hf⟩ := gd_some hf
      obtain ⟨s6, hv_s6, hf⟩ := lt_eq hf
      refine F_iast hΓ (t := 17) (i := 1) (f := s.1 17 1) (σ' := (qC σ s6)) (FLi hF (t := 17) (by decide)) (fun _ _ _ => rfl) rfl ((qC_s (by decide)).trans (congrArg (qC σ) hv_s6.symm)) hg5 dX7_flip_41 ?_
      refine G_aload_n hΓ 0 dX7_flip_42 rfl ?_
      refine G_aload_n hΓ 0 dX7_flip_43 rfl ?_
      refine F_get hΓ (t := 0) (i := 0) (ci := 10) (C := RX7) (T := TX7) (N := 14) (fs7 (gl Γ) 0) (v := .int (s6.1 0 0 12)) (FLi hF (t := 0) (by decide)) (fun _ _ _ => rfl) rfl rfl rfl rfl inW7 12 (by decide) (TT_cons kw_303) rfl dX7_flip_44 ?_
      refine G_iload_n hΓ 2 dX7_flip_47 rfl ?_
      refine G_iconst (v := 1) hΓ dX7_flip_48 (by decide) ?_
      refine G_iadd hΓ dX7_flip_49 ?_
      refine G_mmax hΓ kw_644 kw_645 kw_20 kw_646 (by decide) (Nat.le_of_ble_eq_true rfl) dX7_flip_50 ?_
      obtain ⟨v7, hv_v7, hf⟩ := lt_eq hf
      refine G_topi hv_v7 ?_
      obtain ⟨s8, hv_s8, hf⟩ := lt_eq hf
      refine F_put hΓ (t := 0) (i := 0) (ci := 10) (C := RX7) (T := TX7) (N := 14) (fs7 (gl Γ) 0) (f := (s6.1 0 0)) (f' := (upd (s6.1 0 0) 12 v7)) (σ' := (qC σ s8)) (ty := .int) (v := .int v7) tyX7 tyX7_ok nmX7 (FLi hF (t := 0) (by decide)) (fun _ _ _ => rfl) rfl ((qC_s (by decide)).trans (congrArg (qC σ) hv_s8.symm)) rfl inW7 12 (by decide) (TT_cons kw_303) rfl (by decide +kernel) rfl rfl (fun _ _ => Nat.le_of_ble_eq_true rfl) (fun _ _ => rfl) dX7_flip_53 ?_
      cases hf
    · rw [if_neg hc9] at hf
      cases hf
      exact G_throw hΓ hT (names := ["java/lang/RuntimeException", "java/lang/Exception"]) (by decide) (by decide) kw_418 kw_15 11 rfl at_2 1 rfl ao_2 dX7_flip_20 dX7_flip_23 dX7_flip_24 dX7_flip_26 dX7_flip_29 (by decide) (Nat.le_of_ble_eq_true rfl)
theorem dX7_bit_0 : decode cX7_bit 0 = .ok (.iload_n 1, 1) := by decide +kernel
theorem dX7_bit_1 : decode cX7_bit 1 = .ok (.ifCond .lt 11, 3) := by decide +kernel
theorem dX7_bit_4 : decode cX7_bit 4 = .ok (.iload_n 1, 1) := by decide +kernel
theorem dX7_bit_5 : decode cX7_bit 5 = .ok (.aload_n 0, 1) := by decide +kernel
theorem dX7_bit_6 : decode cX7_bit 6 = .ok (.getfield 155, 3) := by decide +kernel
theorem dX7_bit_9 : decode cX7_bit 9 = .ok (.if_icmp .lt 13, 3) := by decide +kernel
theorem dX7_bit_12 : decode cX7_bit 12 = .ok (.new 189, 3) := by decide +kernel
theorem dX7_bit_15 : decode cX7_bit 15 = .ok (.dup, 1) := by decide +kernel
theorem dX7_bit_16 : decode cX7_bit 16 = .ok (.ldc 191, 2) := by decide +kernel
theorem dX7_bit_18 : decode cX7_bit 18 = .ok (.invokespecial 193, 3) := by decide +kernel
theorem dX7_bit_21 : decode cX7_bit 21 = .ok (.athrow, 1) := by decide +kernel
theorem dX7_bit_22 : decode cX7_bit 22 = .ok (.aload_n 0, 1) := by decide +kernel
theorem dX7_bit_23 : decode cX7_bit 23 = .ok (.getfield 30, 3) := by decide +kernel
theorem dX7_bit_26 : decode cX7_bit 26 = .ok (.iload_n 1, 1) := by decide +kernel
theorem dX7_bit_27 : decode cX7_bit 27 = .ok (.baload, 1) := by decide +kernel
theorem dX7_bit_28 : decode cX7_bit 28 = .ok (.ireturn, 1) := by decide +kernel
noncomputable def f_X7_bit  (s : CS) (p1 : Int32) : Option (Nat ⊕ (Int32)) := if p1 < 0 then some (.inl 5) else if p1 < (s.1 0 0 13) then gd (vp_in p1 20000) (some (.inr (s.1 17 0 p1.toNatClampNeg))) else some (.inl 5)
set_option maxHeartbeats 4000000 in
set_option maxRecDepth 100000 in
theorem c_X7_bit (l : Launch) (Λ : LY) (hF : FL Λ) (σ : CS)  (s : CS) (p1 : Int32)   {r9 : Int32} (hf : f_X7_bit s p1 = some (.inr r9)) : CM l yX7_bit (.code yX7_bit cX7_bit 2 (some .int) :: TT) ({ frames := 0, cells := 0, slots := 0, locals := 0 }) Λ [.ref (ya Λ 0 0), .int p1] (qC σ s) (qC σ s) (some (.int r9)) := by
  refine CM_intro (own := RX7) (by decide) rfl (Nat.le_of_ble_eq_true rfl) ?_
  intro Γ hg hl hΓ hE
  subst hg; subst hl
  show GG Γ (0, 0) (qC σ s) 0 [(0, .ref (ya (gl Γ) 0 0)), (1, .int p1)] []
  unfold f_X7_bit at hf
  refine G_iload_n hΓ 1 dX7_bit_0 rfl ?_
  refine G_if_lt hΓ (tgt := 12) dX7_bit_1 (by decide) (fun hc3 => ?_) (fun hc3 => ?_)
  · rw [if_pos hc3] at hf
    cases hf
  · rw [if_neg hc3] at hf
    refine G_iload_n hΓ 1 dX7_bit_4 rfl ?_
    refine G_aload_n hΓ 0 dX7_bit_5 rfl ?_
    refine F_get hΓ (t := 0) (i := 0) (ci := 10) (C := RX7) (T := TX7) (N := 14) (fs7 (gl Γ) 0) (v := .int (s.1 0 0 13)) (FLi hF (t := 0) (by decide)) (fun _ _ _ => rfl) rfl rfl rfl rfl inW7 13 (by decide) (TT_cons kw_304) rfl dX7_bit_6 ?_
    refine G_icmp_lt hΓ (tgt := 22) dX7_bit_9 (by decide) (fun hc2 => ?_) (fun hc2 => ?_)
    · rw [if_pos hc2] at hf
      refine G_aload_n hΓ 0 dX7_bit_22 rfl ?_
      refine F_get hΓ (t := 0) (i := 0) (ci := 10) (C := RX7) (T := TX7) (N := 14) (fs7 (gl Γ) 0) (v := .ref (ya (gl Γ) 17 0)) (FLi hF (t := 0) (by decide)) (fun _ _ _ => rfl) rfl rfl rfl rfl inW7 3 (by decide) (TT_cons kw_294) rfl dX7_bit_23 ?_
      refine G_iload_n hΓ 1 dX7_bit_26 rfl ?_
      obtain ⟨hg1, hf⟩ := gd_some hf
      refine F_ald (G_bald hΓ) (t := 17) (i := 0) (f := s.1 17 0) (FLi hF (t := 17) (by decide)) (fun _ _ _ => rfl) rfl hg1 dX7_bit_27 ?_
      cases hf
      exact G_iret hΓ hE dX7_bit_28
    · rw [if_neg hc2] at hf
      cases hf
set_option maxHeartbeats 4000000 in
set_option maxRecDepth 100000 in
theorem t_X7_bit (l : Launch) (hst : l.stackTraces = false) (Λ : LY) (hF : FL Λ) (σ : CS)  (s : CS) (p1 : Int32)   {e9 : Nat} (hf : f_X7_bit s p1 = some (.inl e9)) : CT l yX7_bit (.code yX7_bit cX7_bit 2 (some .int) :: TT) ({ frames := 8, cells := 1, slots := 6, locals := 120 }) Λ [.ref (ya Λ 0 0), .int p1] (qC σ s) (xn e9) := by
  refine CT_intro hst (own := RX7) (by decide) rfl (Nat.le_of_ble_eq_true rfl) rfl rfl ?_
  intro Γ hg hl hΓ hT
  subst hg; subst hl
  show GG Γ (0, 0) (qC σ s) 0 [(0, .ref (ya (gl Γ) 0 0)), (1, .int p1)] []
  unfold f_X7_bit at hf
  refine G_iload_n hΓ 1 dX7_bit_0 rfl ?_
  refine G_if_lt hΓ (tgt := 12) dX7_bit_1 (by decide) (fun hc3 => ?_) (fun hc3 => ?_)
  · rw [if_pos hc3] at hf
    cases hf
    exact G_throw hΓ hT (names := ["java/lang/IndexOutOfBoundsException", "java/lang/RuntimeException", "java/lang/Exception"]) (by decide) (by decide) kw_797 kw_17 14 rfl at_5 2 rfl ao_5 dX7_bit_12 dX7_bit_15 dX7_bit_16 dX7_bit_18 dX7_bit_21 (by decide) (Nat.le_of_ble_eq_true rfl)
  · rw [if_neg hc3] at hf
    refine G_iload_n hΓ 1 dX7_bit_4 rfl ?_
    refine G_aload_n hΓ 0 dX7_bit_5 rfl ?_
    refine F_get hΓ (t := 0) (i := 0) (ci := 10) (C := RX7) (T := TX7) (N := 14) (fs7 (gl Γ) 0) (v := .int (s.1 0 0 13)) (FLi hF (t := 0) (by decide)) (fun _ _ _ => rfl) rfl rfl rfl rfl inW7 13 (by decide) (TT_cons kw_304) rfl dX7_bit_6 ?_
    refine G_icmp_lt hΓ (tgt := 22) dX7_bit_9 (by decide) (fun hc2 => ?_) (fun hc2 => ?_)
    · rw [if_pos hc2] at hf
      refine G_aload_n hΓ 0 dX7_bit_22 rfl ?_
      refine F_get hΓ (t := 0) (i := 0) (ci := 10) (C := RX7) (T := TX7) (N := 14) (fs7 (gl Γ) 0) (v := .ref (ya (gl Γ) 17 0)) (FLi hF (t := 0) (by decide)) (fun _ _ _ => rfl) rfl rfl rfl rfl inW7 3 (by decide) (TT_cons kw_294) rfl dX7_bit_23 ?_
      refine G_iload_n hΓ 1 dX7_bit_26 rfl ?_
      obtain ⟨hg1, hf⟩ := gd_some hf
      refine F_ald (G_bald hΓ) (t := 17) (i := 0) (f := s.1 17 0) (FLi hF (t := 17) (by decide)) (fun _ _ _ => rfl) rfl hg1 dX7_bit_27 ?_
      cases hf
    · rw [if_neg hc2] at hf
      cases hf
      exact G_throw hΓ hT (names := ["java/lang/IndexOutOfBoundsException", "java/lang/RuntimeException", "java/lang/Exception"]) (by decide) (by decide) kw_797 kw_17 14 rfl at_5 2 rfl ao_5 dX7_bit_12 dX7_bit_15 dX7_bit_16 dX7_bit_18 dX7_bit_21 (by decide) (Nat.le_of_ble_eq_true rfl)
theorem dX7_state_0 : decode cX7_state 0 = .ok (.aload_n 0, 1) := by decide +kernel
theorem dX7_state_1 : decode cX7_state 1 = .ok (.iload_n 1, 1) := by decide +kernel
theorem dX7_state_2 : decode cX7_state 2 = .ok (.invokevirtual 64, 3) := by decide +kernel
theorem dX7_state_5 : decode cX7_state 5 = .ok (.aload_n 0, 1) := by decide +kernel
theorem dX7_state_6 : decode cX7_state 6 = .ok (.getfield 11, 3) := by decide +kernel
theorem dX7_state_9 : decode cX7_state 9 = .ok (.iload_n 1, 1) := by decide +kernel
theorem dX7_state_10 : decode cX7_state 10 = .ok (.aaload, 1) := by decide +kernel
theorem dX7_state_11 : decode cX7_state 11 = .ok (.getfield 224, 3) := by decide +kernel
theorem dX7_state_14 : decode cX7_state 14 = .ok (.ireturn, 1) := by decide +kernel
noncomputable def f_X7_state  (s : CS) (p1 : Int32) : Option (Nat ⊕ (Int32)) := bx (f_X7_needNode s p1) (fun _ => gd (vp_in p1 32) (some (.inr (s.1 3 p1.toNatClampNeg 2))))
set_option maxHeartbeats 4000000 in
set_option maxRecDepth 100000 in
theorem c_X7_state (l : Launch) (Λ : LY) (hF : FL Λ) (σ : CS)  (s : CS) (p1 : Int32)   {r9 : Int32} (hf : f_X7_state s p1 = some (.inr r9)) : CM l yX7_state (.code yX7_state cX7_state 2 (some .int) :: TT) ({ frames := 1, cells := 0, slots := 0, locals := 21 }) Λ [.ref (ya Λ 0 0), .int p1] (qC σ s) (qC σ s) (some (.int r9)) := by
  refine CM_intro (own := RX7) (by decide) rfl (Nat.le_of_ble_eq_true rfl) ?_
  intro Γ hg hl hΓ hE
  subst hg; subst hl
  show GG Γ (0, 0) (qC σ s) 0 [(0, .ref (ya (gl Γ) 0 0)), (1, .int p1)] []
  unfold f_X7_state at hf
  refine G_aload_n hΓ 0 dX7_state_0 rfl ?_
  refine G_iload_n hΓ 1 dX7_state_1 rfl ?_
  obtain ⟨_, hc1, hf⟩ := bx_r hf
  refine G_callV hΓ (n := 1) (As := [.int p1]) (t := 0) (i := 0) (ci := 10) (T := TX7) (N := 14) (FS := fs7 (gl Γ) 0) (σ' := (qC σ s)) (c_X7_needNode (gL Γ) (gl Γ) hF σ  s p1  hc1) rfl rfl kw_464 kw_466 kp_3 kw_1 kw_467 ⟨rfl, by decide, by decide, by decide +kernel⟩ (FLi hF (t := 0) (by decide)) (fun _ _ _ => rfl) rfl rfl rfl ⟨Nat.le_of_ble_eq_true rfl, Nat.le_of_ble_eq_true rfl⟩ rfl (Nat.le_of_ble_eq_true rfl) dX7_state_2 ⟨_, rfl⟩ rfl ?_
  refine G_aload_n hΓ 0 dX7_state_5 rfl ?_
  refine F_get hΓ (t := 0) (i := 0) (ci := 10) (C := RX7) (T := TX7) (N := 14) (fs7 (gl Γ) 0) (v := .ref (ya (gl Γ) 1 0)) (FLi hF (t := 0) (by decide)) (fun _ _ _ => rfl) rfl rfl rfl rfl inW7 0 (by decide) (TT_cons kw_291) rfl dX7_state_6 ?_
  refine G_iload_n hΓ 1 dX7_state_9 rfl ?_
  obtain ⟨hg3, hf⟩ := gd_some hf
  refine F_aaN hΓ (FLi hF (t := 1) (by decide)) hg3 dX7_state_10 ?_
  refine F_getN hΓ (t := 3) (i := p1.toNatClampNeg) (ci := 5) (C := RX2) (T := TX2) (N := 10) (fs2 (gl Γ) p1.toNatClampNeg) (v := .int (s.1 3 p1.toNatClampNeg 2)) (FLi hF (t := 3) (vp_lt hg3)) (fun _ _ _ => rfl) rfl rfl rfl rfl inW2 2 (by decide) 13 (host := "CanBits") rfl rfl dX7_state_11 ?_
  cases hf
  exact G_iret hΓ hE dX7_state_14
set_option maxHeartbeats 4000000 in
set_option maxRecDepth 100000 in
theorem t_X7_state (l : Launch) (hst : l.stackTraces = false) (Λ : LY) (hF : FL Λ) (σ : CS)  (s : CS) (p1 : Int32)   {e9 : Nat} (hf : f_X7_state s p1 = some (.inl e9)) : CT l yX7_state (.code yX7_state cX7_state 2 (some .int) :: TT) ({ frames := 8, cells := 1, slots := 6, locals := 141 }) Λ [.ref (ya Λ 0 0), .int p1] (qC σ s) (xn e9) := by
  refine CT_intro hst (own := RX7) (by decide) rfl (Nat.le_of_ble_eq_true rfl) rfl rfl ?_
  intro Γ hg hl hΓ hT
  subst hg; subst hl
  show GG Γ (0, 0) (qC σ s) 0 [(0, .ref (ya (gl Γ) 0 0)), (1, .int p1)] []
  unfold f_X7_state at hf
  refine G_aload_n hΓ 0 dX7_state_0 rfl ?_
  refine G_iload_n hΓ 1 dX7_state_1 rfl ?_
  rcases bx_l hf with hcx2 | ⟨_, hc1, hf⟩
  · exact G_callVX hΓ hT (n := 1) (As := [.int p1]) (t := 0) (i := 0) (ci := 10) (T := TX7) (N := 14) (FS := fs7 (gl Γ) 0) (t_X7_needNode (gL Γ) hst (gl Γ) hF σ  s p1  hcx2) kw_464 kw_466 kp_3 kw_1 kw_467 ⟨rfl, by decide, by decide, by decide +kernel⟩ (FLi hF (t := 0) (by decide)) (fun _ _ _ => rfl) rfl rfl rfl ⟨Nat.le_of_ble_eq_true rfl, Nat.le_of_ble_eq_true rfl⟩ rfl (Nat.le_of_ble_eq_true rfl) dX7_state_2
  refine G_callV hΓ (n := 1) (As := [.int p1]) (t := 0) (i := 0) (ci := 10) (T := TX7) (N := 14) (FS := fs7 (gl Γ) 0) (σ' := (qC σ s)) (c_X7_needNode (gL Γ) (gl Γ) hF σ  s p1  hc1) rfl rfl kw_464 kw_466 kp_3 kw_1 kw_467 ⟨rfl, by decide, by decide, by decide +kernel⟩ (FLi hF (t := 0) (by decide)) (fun _ _ _ => rfl) rfl rfl rfl ⟨Nat.le_of_ble_eq_true rfl, Nat.le_of_ble_eq_true rfl⟩ rfl (Nat.le_of_ble_eq_true rfl) dX7_state_2 ⟨_, rfl⟩ rfl ?_
  refine G_aload_n hΓ 0 dX7_state_5 rfl ?_
  refine F_get hΓ (t := 0) (i := 0) (ci := 10) (C := RX7) (T := TX7) (N := 14) (fs7 (gl Γ) 0) (v := .ref (ya (gl Γ) 1 0)) (FLi hF (t := 0) (by decide)) (fun _ _ _ => rfl) rfl rfl rfl rfl inW7 0 (by decide) (TT_cons kw_291) rfl dX7_state_6 ?_
  refine G_iload_n hΓ 1 dX7_state_9 rfl ?_
  obtain ⟨hg3, hf⟩ := gd_some hf
  refine F_aaN hΓ (FLi hF (t := 1) (by decide)) hg3 dX7_state_10 ?_
  refine F_getN hΓ (t := 3) (i := p1.toNatClampNeg) (ci := 5) (C := RX2) (T := TX2) (N := 10) (fs2 (gl Γ) p1.toNatClampNeg) (v := .int (s.1 3 p1.toNatClampNeg 2)) (FLi hF (t := 3) (vp_lt hg3)) (fun _ _ _ => rfl) rfl rfl rfl rfl inW2 2 (by decide) 13 (host := "CanBits") rfl rfl dX7_state_11 ?_
  cases hf
theorem dX7_waiting_0 : decode cX7_waiting 0 = .ok (.aload_n 0, 1) := by decide +kernel
theorem dX7_waiting_1 : decode cX7_waiting 1 = .ok (.iload_n 1, 1) := by decide +kernel
theorem dX7_waiting_2 : decode cX7_waiting 2 = .ok (.invokevirtual 64, 3) := by decide +kernel
theorem dX7_waiting_5 : decode cX7_waiting 5 = .ok (.aload_n 0, 1) := by decide +kernel
theorem dX7_waiting_6 : decode cX7_waiting 6 = .ok (.getfield 11, 3) := by decide +kernel
theorem dX7_waiting_9 : decode cX7_waiting 9 = .ok (.iload_n 1, 1) := by decide +kernel
theorem dX7_waiting_10 : decode cX7_waiting 10 = .ok (.aaload, 1) := by decide +kernel
theorem dX7_waiting_11 : decode cX7_waiting 11 = .ok (.getfield 106, 3) := by decide +kernel
theorem dX7_waiting_14 : decode cX7_waiting 14 = .ok (.ireturn, 1) := by decide +kernel
noncomputable def f_X7_waiting  (s : CS) (p1 : Int32) : Option (Nat ⊕ (Int32)) := bx (f_X7_needNode s p1) (fun _ => gd (vp_in p1 32) (some (.inr (s.1 3 p1.toNatClampNeg 6))))
set_option maxHeartbeats 4000000 in
set_option maxRecDepth 100000 in
theorem c_X7_waiting (l : Launch) (Λ : LY) (hF : FL Λ) (σ : CS)  (s : CS) (p1 : Int32)   {r9 : Int32} (hf : f_X7_waiting s p1 = some (.inr r9)) : CM l yX7_waiting (.code yX7_waiting cX7_waiting 2 (some .int) :: TT) ({ frames := 1, cells := 0, slots := 0, locals := 21 }) Λ [.ref (ya Λ 0 0), .int p1] (qC σ s) (qC σ s) (some (.int r9)) := by
  refine CM_intro (own := RX7) (by decide) rfl (Nat.le_of_ble_eq_true rfl) ?_
  intro Γ hg hl hΓ hE
  subst hg; subst hl
  show GG Γ (0, 0) (qC σ s) 0 [(0, .ref (ya (gl Γ) 0 0)), (1, .int p1)] []
  unfold f_X7_waiting at hf
  refine G_aload_n hΓ 0 dX7_waiting_0 rfl ?_
  refine G_iload_n hΓ 1 dX7_waiting_1 rfl ?_
  obtain ⟨_, hc1, hf⟩ := bx_r hf
  refine G_callV hΓ (n := 1) (As := [.int p1]) (t := 0) (i := 0) (ci := 10) (T := TX7) (N := 14) (FS := fs7 (gl Γ) 0) (σ' := (qC σ s)) (c_X7_needNode (gL Γ) (gl Γ) hF σ  s p1  hc1) rfl rfl kw_464 kw_466 kp_3 kw_1 kw_467 ⟨rfl, by decide, by decide, by decide +kernel⟩ (FLi hF (t := 0) (by decide)) (fun _ _ _ => rfl) rfl rfl rfl ⟨Nat.le_of_ble_eq_true rfl, Nat.le_of_ble_eq_true rfl⟩ rfl (Nat.le_of_ble_eq_true rfl) dX7_waiting_2 ⟨_, rfl⟩ rfl ?_
  refine G_aload_n hΓ 0 dX7_waiting_5 rfl ?_
  refine F_get hΓ (t := 0) (i := 0) (ci := 10) (C := RX7) (T := TX7) (N := 14) (fs7 (gl Γ) 0) (v := .ref (ya (gl Γ) 1 0)) (FLi hF (t := 0) (by decide)) (fun _ _ _ => rfl) rfl rfl rfl rfl inW7 0 (by decide) (TT_cons kw_291) rfl dX7_waiting_6 ?_
  refine G_iload_n hΓ 1 dX7_waiting_9 rfl ?_
  obtain ⟨hg3, hf⟩ := gd_some hf
  refine F_aaN hΓ (FLi hF (t := 1) (by decide)) hg3 dX7_waiting_10 ?_
  refine F_getN hΓ (t := 3) (i := p1.toNatClampNeg) (ci := 5) (C := RX2) (T := TX2) (N := 10) (fs2 (gl Γ) p1.toNatClampNeg) (v := .int (s.1 3 p1.toNatClampNeg 6)) (FLi hF (t := 3) (vp_lt hg3)) (fun _ _ _ => rfl) rfl rfl rfl rfl inW2 6 (by decide) 16 (host := "CanBits") rfl rfl dX7_waiting_11 ?_
  cases hf
  exact G_iret hΓ hE dX7_waiting_14
set_option maxHeartbeats 4000000 in
set_option maxRecDepth 100000 in
theorem t_X7_waiting (l : Launch) (hst : l.stackTraces = false) (Λ : LY) (hF : FL Λ) (σ : CS)  (s : CS) (p1 : Int32)   {e9 : Nat} (hf : f_X7_waiting s p1 = some (.inl e9)) : CT l yX7_waiting (.code yX7_waiting cX7_waiting 2 (some .int) :: TT) ({ frames := 8, cells := 1, slots := 6, locals := 141 }) Λ [.ref (ya Λ 0 0), .int p1] (qC σ s) (xn e9) := by
  refine CT_intro hst (own := RX7) (by decide) rfl (Nat.le_of_ble_eq_true rfl) rfl rfl ?_
  intro Γ hg hl hΓ hT
  subst hg; subst hl
  show GG Γ (0, 0) (qC σ s) 0 [(0, .ref (ya (gl Γ) 0 0)), (1, .int p1)] []
  unfold f_X7_waiting at hf
  refine G_aload_n hΓ 0 dX7_waiting_0 rfl ?_
  refine G_iload_n hΓ 1 dX7_waiting_1 rfl ?_
  rcases bx_l hf with hcx2 | ⟨_, hc1, hf⟩
  · exact G_callVX hΓ hT (n := 1) (As := [.int p1]) (t := 0) (i := 0) (ci := 10) (T := TX7) (N := 14) (FS := fs7 (gl Γ) 0) (t_X7_needNode (gL Γ) hst (gl Γ) hF σ  s p1  hcx2) kw_464 kw_466 kp_3 kw_1 kw_467 ⟨rfl, by decide, by decide, by decide +kernel⟩ (FLi hF (t := 0) (by decide)) (fun _ _ _ => rfl) rfl rfl rfl ⟨Nat.le_of_ble_eq_true rfl, Nat.le_of_ble_eq_true rfl⟩ rfl (Nat.le_of_ble_eq_true rfl) dX7_waiting_2
  refine G_callV hΓ (n := 1) (As := [.int p1]) (t := 0) (i := 0) (ci := 10) (T := TX7) (N := 14) (FS := fs7 (gl Γ) 0) (σ' := (qC σ s)) (c_X7_needNode (gL Γ) (gl Γ) hF σ  s p1  hc1) rfl rfl kw_464 kw_466 kp_3 kw_1 kw_467 ⟨rfl, by decide, by decide, by decide +kernel⟩ (FLi hF (t := 0) (by decide)) (fun _ _ _ => rfl) rfl rfl rfl ⟨Nat.le_of_ble_eq_true rfl, Nat.le_of_ble_eq_true rfl⟩ rfl (Nat.le_of_ble_eq_true rfl) dX7_waiting_2 ⟨_, rfl⟩ rfl ?_
  refine G_aload_n hΓ 0 dX7_waiting_5 rfl ?_
  refine F_get hΓ (t := 0) (i := 0) (ci := 10) (C := RX7) (T := TX7) (N := 14) (fs7 (gl Γ) 0) (v := .ref (ya (gl Γ) 1 0)) (FLi hF (t := 0) (by decide)) (fun _ _ _ => rfl) rfl rfl rfl rfl inW7 0 (by decide) (TT_cons kw_291) rfl dX7_waiting_6 ?_
  refine G_iload_n hΓ 1 dX7_waiting_9 rfl ?_
  obtain ⟨hg3, hf⟩ := gd_some hf
  refine F_aaN hΓ (FLi hF (t := 1) (by decide)) hg3 dX7_waiting_10 ?_
  refine F_getN hΓ (t := 3) (i := p1.toNatClampNeg) (ci := 5) (C := RX2) (T := TX2) (N := 10) (fs2 (gl Γ) p1.toNatClampNeg) (v := .int (s.1 3 p1.toNatClampNeg 6)) (FLi hF (t := 3) (vp_lt hg3)) (fun _ _ _ => rfl) rfl rfl rfl rfl inW2 6 (by decide) 16 (host := "CanBits") rfl rfl dX7_waiting_11 ?_
  cases hf
theorem dX7_done_0 : decode cX7_done 0 = .ok (.iload_n 1, 1) := by decide +kernel
theorem dX7_done_1 : decode cX7_done 1 = .ok (.iconst (-1), 1) := by decide +kernel
theorem dX7_done_2 : decode cX7_done 2 = .ok (.if_icmp .ne 12, 3) := by decide +kernel
theorem dX7_done_5 : decode cX7_done 5 = .ok (.iload_n 2, 1) := by decide +kernel
theorem dX7_done_6 : decode cX7_done 6 = .ok (.ifCond .ne 8, 3) := by decide +kernel
theorem dX7_done_9 : decode cX7_done 9 = .ok (.aload_n 0, 1) := by decide +kernel
theorem dX7_done_10 : decode cX7_done 10 = .ok (.getfield 172, 3) := by decide +kernel
theorem dX7_done_13 : decode cX7_done 13 = .ok (.ireturn, 1) := by decide +kernel
theorem dX7_done_14 : decode cX7_done 14 = .ok (.iload_n 1, 1) := by decide +kernel
theorem dX7_done_15 : decode cX7_done 15 = .ok (.aload_n 0, 1) := by decide +kernel
theorem dX7_done_16 : decode cX7_done 16 = .ok (.getfield 172, 3) := by decide +kernel
theorem dX7_done_19 : decode cX7_done 19 = .ok (.invokestatic 227, 3) := by decide +kernel
theorem dX7_done_22 : decode cX7_done 22 = .ok (.iload_n 2, 1) := by decide +kernel
theorem dX7_done_23 : decode cX7_done 23 = .ok (.iconst 1, 1) := by decide +kernel
theorem dX7_done_24 : decode cX7_done 24 = .ok (.invokestatic 230, 3) := by decide +kernel
theorem dX7_done_27 : decode cX7_done 27 = .ok (.iload_n 2, 1) := by decide +kernel
theorem dX7_done_28 : decode cX7_done 28 = .ok (.ifCond .ne 12, 3) := by decide +kernel
theorem dX7_done_31 : decode cX7_done 31 = .ok (.aload_n 0, 1) := by decide +kernel
theorem dX7_done_32 : decode cX7_done 32 = .ok (.getfield 38, 3) := by decide +kernel
theorem dX7_done_35 : decode cX7_done 35 = .ok (.iload_n 1, 1) := by decide +kernel
theorem dX7_done_36 : decode cX7_done 36 = .ok (.iaload, 1) := by decide +kernel
theorem dX7_done_37 : decode cX7_done 37 = .ok (.goto 9, 3) := by decide +kernel
theorem dX7_done_40 : decode cX7_done 40 = .ok (.aload_n 0, 1) := by decide +kernel
theorem dX7_done_41 : decode cX7_done 41 = .ok (.getfield 41, 3) := by decide +kernel
theorem dX7_done_44 : decode cX7_done 44 = .ok (.iload_n 1, 1) := by decide +kernel
theorem dX7_done_45 : decode cX7_done 45 = .ok (.iaload, 1) := by decide +kernel
theorem dX7_done_46 : decode cX7_done 46 = .ok (.ireturn, 1) := by decide +kernel
noncomputable def f_X7_done  (s : CS) (p1 : Int32) (p2 : Int32) : Option (Nat ⊕ (Int32)) := if p1 = (-1) then if p2 = 0 then some (.inr (s.1 0 0 10)) else bx (f_X7_needThing s p1 (s.1 0 0 10)) (fun _ => bx (f_X7_needWhat s p2 1) (fun _ => jn (α := Int32) (fun x16 => some (.inr (x16))) (fun k18 => if p2 = 0 then gd (vp_in p1 200) (k18 (s.1 17 2 p1.toNatClampNeg)) else gd (vp_in p1 200) (k18 (s.1 17 3 p1.toNatClampNeg))))) else bx (f_X7_needThing s p1 (s.1 0 0 10)) (fun _ => bx (f_X7_needWhat s p2 1) (fun _ => jn (α := Int32) (fun x5 => some (.inr (x5))) (fun k7 => if p2 = 0 then gd (vp_in p1 200) (k7 (s.1 17 2 p1.toNatClampNeg)) else gd (vp_in p1 200) (k7 (s.1 17 3 p1.toNatClampNeg)))))
set_option maxHeartbeats 4000000 in
set_option maxRecDepth 100000 in
theorem c_X7_done (l : Launch) (Λ : LY) (hF : FL Λ) (σ : CS)  (s : CS) (p1 : Int32) (p2 : Int32)   {r9 : Int32} (hf : f_X7_done s p1 p2 = some (.inr r9)) : CM l yX7_done (.code yX7_done cX7_done 3 (some .int) :: TT) ({ frames := 1, cells := 0, slots := 0, locals := 21 }) Λ [.ref (ya Λ 0 0), .int p1, .int p2] (qC σ s) (qC σ s) (some (.int r9)) := by
  refine CM_intro (own := RX7) (by decide) rfl (Nat.le_of_ble_eq_true rfl) ?_
  intro Γ hg hl hΓ hE
  subst hg; subst hl
  show GG Γ (0, 0) (qC σ s) 0 [(0, .ref (ya (gl Γ) 0 0)), (1, .int p1), (2, .int p2)] []
  unfold f_X7_done at hf
  refine G_iload_n hΓ 1 dX7_done_0 rfl ?_
  refine G_iconst (v := (-1)) hΓ dX7_done_1 (by decide) ?_
  refine G_icmp_ne hΓ (tgt := 14) dX7_done_2 (by decide) (fun hc24 => ?_) (fun hc24 => ?_)
  · rw [if_neg hc24] at hf
    refine G_iload_n hΓ 1 dX7_done_14 rfl ?_
    refine G_aload_n hΓ 0 dX7_done_15 rfl ?_
    refine F_get hΓ (t := 0) (i := 0) (ci := 10) (C := RX7) (T := TX7) (N := 14) (fs7 (gl Γ) 0) (v := .int (s.1 0 0 10)) (FLi hF (t := 0) (by decide)) (fun _ _ _ => rfl) rfl rfl rfl rfl inW7 10 (by decide) (TT_cons kw_301) rfl dX7_done_16 ?_
    obtain ⟨_, hc1, hf⟩ := bx_r hf
    refine G_callS hΓ (n := 2) (As := [.int p1, .int (s.1 0 0 10)]) (σ' := (qC σ s)) (c_X7_needThing (gL Γ) (gl Γ) hF σ  s p1 (s.1 0 0 10)  hc1) rfl rfl kw_832 kw_833 kw_1 kw_834 ⟨by decide, by decide, by decide +kernel⟩ rfl rfl ⟨Nat.le_of_ble_eq_true rfl, Nat.le_of_ble_eq_true rfl⟩ rfl (Nat.le_of_ble_eq_true rfl) dX7_done_19 ⟨_, rfl⟩ rfl ?_
    refine G_iload_n hΓ 2 dX7_done_22 rfl ?_
    refine G_iconst (v := 1) hΓ dX7_done_23 (by decide) ?_
    obtain ⟨_, hc3, hf⟩ := bx_r hf
    refine G_callS hΓ (n := 2) (As := [.int p2, .int 1]) (σ' := (qC σ s)) (c_X7_needWhat (gL Γ) (gl Γ) hF σ  s p2 1  hc3) rfl rfl kw_836 kw_837 kw_1 kw_838 ⟨by decide, by decide, by decide +kernel⟩ rfl rfl ⟨Nat.le_of_ble_eq_true rfl, Nat.le_of_ble_eq_true rfl⟩ rfl (Nat.le_of_ble_eq_true rfl) dX7_done_24 ⟨_, rfl⟩ rfl ?_
    refine G_iload_n hΓ 2 dX7_done_27 rfl ?_
    obtain ⟨k7, hk_k7, hf⟩ := jn_eq hf
    try dsimp only at hf
    have K8 : ∀ x5, k7 x5 = some (.inr r9) → GG Γ (0, 0) (qC σ s) 46 [(0, .ref (ya (gl Γ) 0 0)), (1, .int p1), (2, .int p2)] [.int x5] := by
      intro x5 hf
      subst hk_k7
      try dsimp only at hf
      cases hf
      exact G_iret hΓ hE dX7_done_46
    clear hk_k7
    refine G_if_ne hΓ (tgt := 40) dX7_done_28 (by decide) (fun hc11 => ?_) (fun hc11 => ?_)
    · rw [if_neg hc11] at hf
      refine G_aload_n hΓ 0 dX7_done_40 rfl ?_
      refine F_get hΓ (t := 0) (i := 0) (ci := 10) (C := RX7) (T := TX7) (N := 14) (fs7 (gl Γ) 0) (v := .ref (ya (gl Γ) 17 3)) (FLi hF (t := 0) (by decide)) (fun _ _ _ => rfl) rfl rfl rfl rfl inW7 6 (by decide) (TT_cons kw_297) rfl dX7_done_41 ?_
      refine G_iload_n hΓ 1 dX7_done_44 rfl ?_
      obtain ⟨hg9, hf⟩ := gd_some hf
      refine F_ald (G_iald hΓ) (t := 17) (i := 3) (f := s.1 17 3) (FLi hF (t := 17) (by decide)) (fun _ _ _ => rfl) rfl hg9 dX7_done_45 ?_
      exact K8 _ hf
    · rw [if_pos hc11] at hf
      refine G_aload_n hΓ 0 dX7_done_31 rfl ?_
      refine F_get hΓ (t := 0) (i := 0) (ci := 10) (C := RX7) (T := TX7) (N := 14) (fs7 (gl Γ) 0) (v := .ref (ya (gl Γ) 17 2)) (FLi hF (t := 0) (by decide)) (fun _ _ _ => rfl) rfl rfl rfl rfl inW7 5 (by decide) (TT_cons kw_296) rfl dX7_done_32 ?_
      refine G_iload_n hΓ 1 dX7_done_35 rfl ?_
      obtain ⟨hg10, hf⟩ := gd_some hf
      refine F_ald (G_iald hΓ) (t := 17) (i := 2) (f := s.1 17 2) (FLi hF (t := 17) (by decide)) (fun _ _ _ => rfl) rfl hg10 dX7_done_36 ?_
      refine G_goto hΓ (tgt := 46) dX7_done_37 (by decide) ?_
      exact K8 _ hf
  · rw [if_pos hc24] at hf
    refine G_iload_n hΓ 2 dX7_done_5 rfl ?_
    refine G_if_ne hΓ (tgt := 14) dX7_done_6 (by decide) (fun hc23 => ?_) (fun hc23 => ?_)
    · rw [if_neg hc23] at hf
      refine G_iload_n hΓ 1 dX7_done_14 rfl ?_
      refine G_aload_n hΓ 0 dX7_done_15 rfl ?_
      refine F_get hΓ (t := 0) (i := 0) (ci := 10) (C := RX7) (T := TX7) (N := 14) (fs7 (gl Γ) 0) (v := .int (s.1 0 0 10)) (FLi hF (t := 0) (by decide)) (fun _ _ _ => rfl) rfl rfl rfl rfl inW7 10 (by decide) (TT_cons kw_301) rfl dX7_done_16 ?_
      obtain ⟨_, hc12, hf⟩ := bx_r hf
      refine G_callS hΓ (n := 2) (As := [.int p1, .int (s.1 0 0 10)]) (σ' := (qC σ s)) (c_X7_needThing (gL Γ) (gl Γ) hF σ  s p1 (s.1 0 0 10)  hc12) rfl rfl kw_832 kw_833 kw_1 kw_834 ⟨by decide, by decide, by decide +kernel⟩ rfl rfl ⟨Nat.le_of_ble_eq_true rfl, Nat.le_of_ble_eq_true rfl⟩ rfl (Nat.le_of_ble_eq_true rfl) dX7_done_19 ⟨_, rfl⟩ rfl ?_
      refine G_iload_n hΓ 2 dX7_done_22 rfl ?_
      refine G_iconst (v := 1) hΓ dX7_done_23 (by decide) ?_
      obtain ⟨_, hc14, hf⟩ := bx_r hf
      refine G_callS hΓ (n := 2) (As := [.int p2, .int 1]) (σ' := (qC σ s)) (c_X7_needWhat (gL Γ) (gl Γ) hF σ  s p2 1  hc14) rfl rfl kw_836 kw_837 kw_1 kw_838 ⟨by decide, by decide, by decide +kernel⟩ rfl rfl ⟨Nat.le_of_ble_eq_true rfl, Nat.le_of_ble_eq_true rfl⟩ rfl (Nat.le_of_ble_eq_true rfl) dX7_done_24 ⟨_, rfl⟩ rfl ?_
      refine G_iload_n hΓ 2 dX7_done_27 rfl ?_
      obtain ⟨k18, hk_k18, hf⟩ := jn_eq hf
      try dsimp only at hf
      have K19 : ∀ x16, k18 x16 = some (.inr r9) → GG Γ (0, 0) (qC σ s) 46 [(0, .ref (ya (gl Γ) 0 0)), (1, .int p1), (2, .int p2)] [.int x16] := by
        intro x16 hf
        subst hk_k18
        try dsimp only at hf
        cases hf
        exact G_iret hΓ hE dX7_done_46
      clear hk_k18
      refine G_if_ne hΓ (tgt := 40) dX7_done_28 (by decide) (fun hc22 => ?_) (fun hc22 => ?_)
      · rw [if_neg hc22] at hf
        refine G_aload_n hΓ 0 dX7_done_40 rfl ?_
        refine F_get hΓ (t := 0) (i := 0) (ci := 10) (C := RX7) (T := TX7) (N := 14) (fs7 (gl Γ) 0) (v := .ref (ya (gl Γ) 17 3)) (FLi hF (t := 0) (by decide)) (fun _ _ _ => rfl) rfl rfl rfl rfl inW7 6 (by decide) (TT_cons kw_297) rfl dX7_done_41 ?_
        refine G_iload_n hΓ 1 dX7_done_44 rfl ?_
        obtain ⟨hg20, hf⟩ := gd_some hf
        refine F_ald (G_iald hΓ) (t := 17) (i := 3) (f := s.1 17 3) (FLi hF (t := 17) (by decide)) (fun _ _ _ => rfl) rfl hg20 dX7_done_45 ?_
        exact K19 _ hf
      · rw [if_pos hc22] at hf
        refine G_aload_n hΓ 0 dX7_done_31 rfl ?_
        refine F_get hΓ (t := 0) (i := 0) (ci := 10) (C := RX7) (T := TX7) (N := 14) (fs7 (gl Γ) 0) (v := .ref (ya (gl Γ) 17 2)) (FLi hF (t := 0) (by decide)) (fun _ _ _ => rfl) rfl rfl rfl rfl inW7 5 (by decide) (TT_cons kw_296) rfl dX7_done_32 ?_
        refine G_iload_n hΓ 1 dX7_done_35 rfl ?_
        obtain ⟨hg21, hf⟩ := gd_some hf
        refine F_ald (G_iald hΓ) (t := 17) (i := 2) (f := s.1 17 2) (FLi hF (t := 17) (by decide)) (fun _ _ _ => rfl) rfl hg21 dX7_done_36 ?_
        refine G_goto hΓ (tgt := 46) dX7_done_37 (by decide) ?_
        exact K19 _ hf
    · rw [if_pos hc23] at hf
      refine G_aload_n hΓ 0 dX7_done_9 rfl ?_
      refine F_get hΓ (t := 0) (i := 0) (ci := 10) (C := RX7) (T := TX7) (N := 14) (fs7 (gl Γ) 0) (v := .int (s.1 0 0 10)) (FLi hF (t := 0) (by decide)) (fun _ _ _ => rfl) rfl rfl rfl rfl inW7 10 (by decide) (TT_cons kw_301) rfl dX7_done_10 ?_
      cases hf
      exact G_iret hΓ hE dX7_done_13
set_option maxHeartbeats 4000000 in
set_option maxRecDepth 100000 in
theorem t_X7_done (l : Launch) (hst : l.stackTraces = false) (Λ : LY) (hF : FL Λ) (σ : CS)  (s : CS) (p1 : Int32) (p2 : Int32)   {e9 : Nat} (hf : f_X7_done s p1 p2 = some (.inl e9)) : CT l yX7_done (.code yX7_done cX7_done 3 (some .int) :: TT) ({ frames := 8, cells := 1, slots := 6, locals := 141 }) Λ [.ref (ya Λ 0 0), .int p1, .int p2] (qC σ s) (xn e9) := by
  refine CT_intro hst (own := RX7) (by decide) rfl (Nat.le_of_ble_eq_true rfl) rfl rfl ?_
  intro Γ hg hl hΓ hT
  subst hg; subst hl
  show GG Γ (0, 0) (qC σ s) 0 [(0, .ref (ya (gl Γ) 0 0)), (1, .int p1), (2, .int p2)] []
  unfold f_X7_done at hf
  refine G_iload_n hΓ 1 dX7_done_0 rfl ?_
  refine G_iconst (v := (-1)) hΓ dX7_done_1 (by decide) ?_
  refine G_icmp_ne hΓ (tgt := 14) dX7_done_2 (by decide) (fun hc24 => ?_) (fun hc24 => ?_)
  · rw [if_neg hc24] at hf
    refine G_iload_n hΓ 1 dX7_done_14 rfl ?_
    refine G_aload_n hΓ 0 dX7_done_15 rfl ?_
    refine F_get hΓ (t := 0) (i := 0) (ci := 10) (C := RX7) (T := TX7) (N := 14) (fs7 (gl Γ) 0) (v := .int (s.1 0 0 10)) (FLi hF (t := 0) (by decide)) (fun _ _ _ => rfl) rfl rfl rfl rfl inW7 10 (by decide) (TT_cons kw_301) rfl dX7_done_16 ?_
    rcases bx_l hf with hcx2 | ⟨_, hc1, hf⟩
    · exact G_callSX hΓ hT (n := 2) (As := [.int p1, .int (s.1 0 0 10)]) (t_X7_needThing (gL Γ) hst (gl Γ) hF σ  s p1 (s.1 0 0 10)  hcx2) kw_832 kw_833 kw_1 kw_834 ⟨by decide, by decide, by decide +kernel⟩ rfl rfl ⟨Nat.le_of_ble_eq_true rfl, Nat.le_of_ble_eq_true rfl⟩ rfl (Nat.le_of_ble_eq_true rfl) dX7_done_19
    refine G_callS hΓ (n := 2) (As := [.int p1, .int (s.1 0 0 10)]) (σ' := (qC σ s)) (c_X7_needThing (gL Γ) (gl Γ) hF σ  s p1 (s.1 0 0 10)  hc1) rfl rfl kw_832 kw_833 kw_1 kw_834 ⟨by decide, by decide, by decide +kernel⟩ rfl rfl ⟨Nat.le_of_ble_eq_true rfl, Nat.le_of_ble_eq_true rfl⟩ rfl (Nat.le_of_ble_eq_true rfl) dX7_done_19 ⟨_, rfl⟩ rfl ?_
    refine G_iload_n hΓ 2 dX7_done_22 rfl ?_
    refine G_iconst (v := 1) hΓ dX7_done_23 (by decide) ?_
    rcases bx_l hf with hcx4 | ⟨_, hc3, hf⟩
    · exact G_callSX hΓ hT (n := 2) (As := [.int p2, .int 1]) (t_X7_needWhat (gL Γ) hst (gl Γ) hF σ  s p2 1  hcx4) kw_836 kw_837 kw_1 kw_838 ⟨by decide, by decide, by decide +kernel⟩ rfl rfl ⟨Nat.le_of_ble_eq_true rfl, Nat.le_of_ble_eq_true rfl⟩ rfl (Nat.le_of_ble_eq_true rfl) dX7_done_24
    refine G_callS hΓ (n := 2) (As := [.int p2, .int 1]) (σ' := (qC σ s)) (c_X7_needWhat (gL Γ) (gl Γ) hF σ  s p2 1  hc3) rfl rfl kw_836 kw_837 kw_1 kw_838 ⟨by decide, by decide, by decide +kernel⟩ rfl rfl ⟨Nat.le_of_ble_eq_true rfl, Nat.le_of_ble_eq_true rfl⟩ rfl (Nat.le_of_ble_eq_true rfl) dX7_done_24 ⟨_, rfl⟩ rfl ?_
    refine G_iload_n hΓ 2 dX7_done_27 rfl ?_
    obtain ⟨k7, hk_k7, hf⟩ := jn_eq hf
    try dsimp only at hf
    have K8 : ∀ x5, k7 x5 = some (.inl e9) → GG Γ (0, 0) (qC σ s) 46 [(0, .ref (ya (gl Γ) 0 0)), (1, .int p1), (2, .int p2)] [.int x5] := by
      intro x5 hf
      subst hk_k7
      try dsimp only at hf
      cases hf
    clear hk_k7
    refine G_if_ne hΓ (tgt := 40) dX7_done_28 (by decide) (fun hc11 => ?_) (fun hc11 => ?_)
    · rw [if_neg hc11] at hf
      refine G_aload_n hΓ 0 dX7_done_40 rfl ?_
      refine F_get hΓ (t := 0) (i := 0) (ci := 10) (C := RX7) (T := TX7) (N := 14) (fs7 (gl Γ) 0) (v := .ref (ya (gl Γ) 17 3)) (FLi hF (t := 0) (by decide)) (fun _ _ _ => rfl) rfl rfl rfl rfl inW7 6 (by decide) (TT_cons kw_297) rfl dX7_done_41 ?_
      refine G_iload_n hΓ 1 dX7_done_44 rfl ?_
      obtain ⟨hg9, hf⟩ := gd_some hf
      refine F_ald (G_iald hΓ) (t := 17) (i := 3) (f := s.1 17 3) (FLi hF (t := 17) (by decide)) (fun _ _ _ => rfl) rfl hg9 dX7_done_45 ?_
      exact K8 _ hf
    · rw [if_pos hc11] at hf
      refine G_aload_n hΓ 0 dX7_done_31 rfl ?_
      refine F_get hΓ (t := 0) (i := 0) (ci := 10) (C := RX7) (T := TX7) (N := 14) (fs7 (gl Γ) 0) (v := .ref (ya (gl Γ) 17 2)) (FLi hF (t := 0) (by decide)) (fun _ _ _ => rfl) rfl rfl rfl rfl inW7 5 (by decide) (TT_cons kw_296) rfl dX7_done_32 ?_
      refine G_iload_n hΓ 1 dX7_done_35 rfl ?_
      obtain ⟨hg10, hf⟩ := gd_some hf
      refine F_ald (G_iald hΓ) (t := 17) (i := 2) (f := s.1 17 2) (FLi hF (t := 17) (by decide)) (fun _ _ _ => rfl) rfl hg10 dX7_done_36 ?_
      refine G_goto hΓ (tgt := 46) dX7_done_37 (by decide) ?_
      exact K8 _ hf
  · rw [if_pos hc24] at hf
    refine G_iload_n hΓ 2 dX7_done_5 rfl ?_
    refine G_if_ne hΓ (tgt := 14) dX7_done_6 (by decide) (fun hc23 => ?_) (fun hc23 => ?_)
    · rw [if_neg hc23] at hf
      refine G_iload_n hΓ 1 dX7_done_14 rfl ?_
      refine G_aload_n hΓ 0 dX7_done_15 rfl ?_
      refine F_get hΓ (t := 0) (i := 0) (ci := 10) (C := RX7) (T := TX7) (N := 14) (fs7 (gl Γ) 0) (v := .int (s.1 0 0 10)) (FLi hF (t := 0) (by decide)) (fun _ _ _ => rfl) rfl rfl rfl rfl inW7 10 (by decide) (TT_cons kw_301) rfl dX7_done_16 ?_
      rcases bx_l hf with hcx13 | ⟨_, hc12, hf⟩
      · exact G_callSX hΓ hT (n := 2) (As := [.int p1, .int (s.1 0 0 10)]) (t_X7_needThing (gL Γ) hst (gl Γ) hF σ  s p1 (s.1 0 0 10)  hcx13) kw_832 kw_833 kw_1 kw_834 ⟨by decide, by decide, by decide +kernel⟩ rfl rfl ⟨Nat.le_of_ble_eq_true rfl, Nat.le_of_ble_eq_true rfl⟩ rfl (Nat.le_of_ble_eq_true rfl) dX7_done_19
      refine G_callS hΓ (n := 2) (As := [.int p1, .int (s.1 0 0 10)]) (σ' := (qC σ s)) (c_X7_needThing (gL Γ) (gl Γ) hF σ  s p1 (s.1 0 0 10)  hc12) rfl rfl kw_832 kw_833 kw_1 kw_834 ⟨by decide, by decide, by decide +kernel⟩ rfl rfl ⟨Nat.le_of_ble_eq_true rfl, Nat.le_of_ble_eq_true rfl⟩ rfl (Nat.le_of_ble_eq_true rfl) dX7_done_19 ⟨_, rfl⟩ rfl ?_
      refine G_iload_n hΓ 2 dX7_done_22 rfl ?_
      refine G_iconst (v := 1) hΓ dX7_done_23 (by decide) ?_
      rcases bx_l hf with hcx15 | ⟨_, hc14, hf⟩
      · exact G_callSX hΓ hT (n := 2) (As := [.int p2, .int 1]) (t_X7_needWhat (gL Γ) hst (gl Γ) hF σ  s p2 1  hcx15) kw_836 kw_837 kw_1 kw_838 ⟨by decide, by decide, by decide +kernel⟩ rfl rfl ⟨Nat.le_of_ble_eq_true rfl, Nat.le_of_ble_eq_true rfl⟩ rfl (Nat.le_of_ble_eq_true rfl) dX7_done_24
      refine G_callS hΓ (n := 2) (As := [.int p2, .int 1]) (σ' := (qC σ s)) (c_X7_needWhat (gL Γ) (gl Γ) hF σ  s p2 1  hc14) rfl rfl kw_836 kw_837 kw_1 kw_838 ⟨by decide, by decide, by decide +kernel⟩ rfl rfl ⟨Nat.le_of_ble_eq_true rfl, Nat.le_of_ble_eq_true rfl⟩ rfl (Nat.le_of_ble_eq_true rfl) dX7_done_24 ⟨_, rfl⟩ rfl ?_
      refine G_iload_n hΓ 2 dX7_done_27 rfl ?_
      obtain ⟨k18, hk_k18, hf⟩ := jn_eq hf
      try dsimp only at hf
      have K19 : ∀ x16, k18 x16 = some (.inl e9) → GG Γ (0, 0) (qC σ s) 46 [(0, .ref (ya (gl Γ) 0 0)), (1, .int p1), (2, .int p2)] [.int x16] := by
        intro x16 hf
        subst hk_k18
        try dsimp only at hf
        cases hf
      clear hk_k18
      refine G_if_ne hΓ (tgt := 40) dX7_done_28 (by decide) (fun hc22 => ?_) (fun hc22 => ?_)
      · rw [if_neg hc22] at hf
        refine G_aload_n hΓ 0 dX7_done_40 rfl ?_
        refine F_get hΓ (t := 0) (i := 0) (ci := 10) (C := RX7) (T := TX7) (N := 14) (fs7 (gl Γ) 0) (v := .ref (ya (gl Γ) 17 3)) (FLi hF (t := 0) (by decide)) (fun _ _ _ => rfl) rfl rfl rfl rfl inW7 6 (by decide) (TT_cons kw_297) rfl dX7_done_41 ?_
        refine G_iload_n hΓ 1 dX7_done_44 rfl ?_
        obtain ⟨hg20, hf⟩ := gd_some hf
        refine F_ald (G_iald hΓ) (t := 17) (i := 3) (f := s.1 17 3) (FLi hF (t := 17) (by decide)) (fun _ _ _ => rfl) rfl hg20 dX7_done_45 ?_
        exact K19 _ hf
      · rw [if_pos hc22] at hf
        refine G_aload_n hΓ 0 dX7_done_31 rfl ?_
        refine F_get hΓ (t := 0) (i := 0) (ci := 10) (C := RX7) (T := TX7) (N := 14) (fs7 (gl Γ) 0) (v := .ref (ya (gl Γ) 17 2)) (FLi hF (t := 0) (by decide)) (fun _ _ _ => rfl) rfl rfl rfl rfl inW7 5 (by decide) (TT_cons kw_296) rfl dX7_done_32 ?_
        refine G_iload_n hΓ 1 dX7_done_35 rfl ?_
        obtain ⟨hg21, hf⟩ := gd_some hf
        refine F_ald (G_iald hΓ) (t := 17) (i := 2) (f := s.1 17 2) (FLi hF (t := 17) (by decide)) (fun _ _ _ => rfl) rfl hg21 dX7_done_36 ?_
        refine G_goto hΓ (tgt := 46) dX7_done_37 (by decide) ?_
        exact K19 _ hf
    · rw [if_pos hc23] at hf
      refine G_aload_n hΓ 0 dX7_done_9 rfl ?_
      refine F_get hΓ (t := 0) (i := 0) (ci := 10) (C := RX7) (T := TX7) (N := 14) (fs7 (gl Γ) 0) (v := .int (s.1 0 0 10)) (FLi hF (t := 0) (by decide)) (fun _ _ _ => rfl) rfl rfl rfl rfl inW7 10 (by decide) (TT_cons kw_301) rfl dX7_done_10 ?_
      cases hf
theorem dX7_taken_0 : decode cX7_taken 0 = .ok (.aload_n 0, 1) := by decide +kernel
theorem dX7_taken_1 : decode cX7_taken 1 = .ok (.iload_n 1, 1) := by decide +kernel
theorem dX7_taken_2 : decode cX7_taken 2 = .ok (.invokevirtual 64, 3) := by decide +kernel
theorem dX7_taken_5 : decode cX7_taken 5 = .ok (.aload_n 0, 1) := by decide +kernel
theorem dX7_taken_6 : decode cX7_taken 6 = .ok (.getfield 11, 3) := by decide +kernel
theorem dX7_taken_9 : decode cX7_taken 9 = .ok (.iload_n 1, 1) := by decide +kernel
theorem dX7_taken_10 : decode cX7_taken 10 = .ok (.aaload, 1) := by decide +kernel
theorem dX7_taken_11 : decode cX7_taken 11 = .ok (.getfield 233, 3) := by decide +kernel
theorem dX7_taken_14 : decode cX7_taken 14 = .ok (.astore 4, 2) := by decide +kernel
theorem dX7_taken_16 : decode cX7_taken 16 = .ok (.iload_n 2, 1) := by decide +kernel
theorem dX7_taken_17 : decode cX7_taken 17 = .ok (.iconst (-1), 1) := by decide +kernel
theorem dX7_taken_18 : decode cX7_taken 18 = .ok (.if_icmp .ne 13, 3) := by decide +kernel
theorem dX7_taken_21 : decode cX7_taken 21 = .ok (.iload_n 3, 1) := by decide +kernel
theorem dX7_taken_22 : decode cX7_taken 22 = .ok (.ifCond .ne 9, 3) := by decide +kernel
theorem dX7_taken_25 : decode cX7_taken 25 = .ok (.aload 4, 2) := by decide +kernel
theorem dX7_taken_27 : decode cX7_taken 27 = .ok (.getfield 237, 3) := by decide +kernel
theorem dX7_taken_30 : decode cX7_taken 30 = .ok (.ireturn, 1) := by decide +kernel
theorem dX7_taken_31 : decode cX7_taken 31 = .ok (.iload_n 2, 1) := by decide +kernel
theorem dX7_taken_32 : decode cX7_taken 32 = .ok (.aload 4, 2) := by decide +kernel
theorem dX7_taken_34 : decode cX7_taken 34 = .ok (.getfield 237, 3) := by decide +kernel
theorem dX7_taken_37 : decode cX7_taken 37 = .ok (.invokestatic 227, 3) := by decide +kernel
theorem dX7_taken_40 : decode cX7_taken 40 = .ok (.iload_n 3, 1) := by decide +kernel
theorem dX7_taken_41 : decode cX7_taken 41 = .ok (.iconst 4, 1) := by decide +kernel
theorem dX7_taken_42 : decode cX7_taken 42 = .ok (.invokestatic 230, 3) := by decide +kernel
theorem dX7_taken_45 : decode cX7_taken 45 = .ok (.aload 4, 2) := by decide +kernel
theorem dX7_taken_47 : decode cX7_taken 47 = .ok (.iload_n 2, 1) := by decide +kernel
theorem dX7_taken_48 : decode cX7_taken 48 = .ok (.iload_n 3, 1) := by decide +kernel
theorem dX7_taken_49 : decode cX7_taken 49 = .ok (.invokevirtual 242, 3) := by decide +kernel
theorem dX7_taken_52 : decode cX7_taken 52 = .ok (.ireturn, 1) := by decide +kernel
noncomputable def f_X7_taken  (s : CS) (p1 : Int32) (p2 : Int32) (p3 : Int32) : Option (Nat ⊕ (Int32)) := bx (f_X7_needNode s p1) (fun _ => gd (vp_in p1 32) (if p2 = (-1) then if p3 = 0 then some (.inr (s.1 10 p1.toNatClampNeg 2)) else bx (f_X7_needThing s p2 (s.1 10 p1.toNatClampNeg 2)) (fun _ => bx (f_X7_needWhat s p3 4) (fun _ => bd (f_X5_told (s.1 11 p1.toNatClampNeg) p2 p3) (fun u14 => some (.inr (u14))))) else bx (f_X7_needThing s p2 (s.1 10 p1.toNatClampNeg 2)) (fun _ => bx (f_X7_needWhat s p3 4) (fun _ => bd (f_X5_told (s.1 11 p1.toNatClampNeg) p2 p3) (fun u8 => some (.inr (u8)))))))
set_option maxHeartbeats 4000000 in
set_option maxRecDepth 100000 in
theorem c_X7_taken (l : Launch) (Λ : LY) (hF : FL Λ) (σ : CS)  (s : CS) (p1 : Int32) (p2 : Int32) (p3 : Int32)   {r9 : Int32} (hf : f_X7_taken s p1 p2 p3 = some (.inr r9)) : CM l yX7_taken (.code yX7_taken cX7_taken 5 (some .int) :: TT) ({ frames := 1, cells := 0, slots := 0, locals := 23 }) Λ [.ref (ya Λ 0 0), .int p1, .int p2, .int p3] (qC σ s) (qC σ s) (some (.int r9)) := by
  refine CM_intro (own := RX7) (by decide) rfl (Nat.le_of_ble_eq_true rfl) ?_
  intro Γ hg hl hΓ hE
  subst hg; subst hl
  show GG Γ (0, 0) (qC σ s) 0 [(0, .ref (ya (gl Γ) 0 0)), (1, .int p1), (2, .int p2), (3, .int p3)] []
  unfold f_X7_taken at hf
  refine G_aload_n hΓ 0 dX7_taken_0 rfl ?_
  refine G_iload_n hΓ 1 dX7_taken_1 rfl ?_
  obtain ⟨_, hc1, hf⟩ := bx_r hf
  refine G_callV hΓ (n := 1) (As := [.int p1]) (t := 0) (i := 0) (ci := 10) (T := TX7) (N := 14) (FS := fs7 (gl Γ) 0) (σ' := (qC σ s)) (c_X7_needNode (gL Γ) (gl Γ) hF σ  s p1  hc1) rfl rfl kw_464 kw_466 kp_3 kw_1 kw_467 ⟨rfl, by decide, by decide, by decide +kernel⟩ (FLi hF (t := 0) (by decide)) (fun _ _ _ => rfl) rfl rfl rfl ⟨Nat.le_of_ble_eq_true rfl, Nat.le_of_ble_eq_true rfl⟩ rfl (Nat.le_of_ble_eq_true rfl) dX7_taken_2 ⟨_, rfl⟩ rfl ?_
  refine G_aload_n hΓ 0 dX7_taken_5 rfl ?_
  refine F_get hΓ (t := 0) (i := 0) (ci := 10) (C := RX7) (T := TX7) (N := 14) (fs7 (gl Γ) 0) (v := .ref (ya (gl Γ) 1 0)) (FLi hF (t := 0) (by decide)) (fun _ _ _ => rfl) rfl rfl rfl rfl inW7 0 (by decide) (TT_cons kw_291) rfl dX7_taken_6 ?_
  refine G_iload_n hΓ 1 dX7_taken_9 rfl ?_
  obtain ⟨hg3, hf⟩ := gd_some hf
  refine F_aaN hΓ (FLi hF (t := 1) (by decide)) hg3 dX7_taken_10 ?_
  refine F_getN hΓ (t := 3) (i := p1.toNatClampNeg) (ci := 5) (C := RX2) (T := TX2) (N := 10) (fs2 (gl Γ) p1.toNatClampNeg) (v := .ref (ya (gl Γ) 10 p1.toNatClampNeg)) (FLi hF (t := 3) (vp_lt hg3)) (fun _ _ _ => rfl) rfl rfl rfl rfl inW2 1 (by decide) 12 (host := "CanBits") rfl rfl dX7_taken_11 ?_
  refine G_astore hΓ [(4, .ref (ya (gl Γ) 10 p1.toNatClampNeg)), (0, .ref (ya (gl Γ) 0 0)), (1, .int p1), (2, .int p2), (3, .int p3)] dX7_taken_14 (by decide) rfl ?_
  refine G_iload_n hΓ 3 dX7_taken_16 rfl ?_
  refine G_iconst (v := (-1)) hΓ dX7_taken_17 (by decide) ?_
  refine G_icmp_ne hΓ (tgt := 31) dX7_taken_18 (by decide) (fun hc17 => ?_) (fun hc17 => ?_)
  · rw [if_neg hc17] at hf
    refine G_iload_n hΓ 3 dX7_taken_31 rfl ?_
    refine G_aload hΓ 0 dX7_taken_32 rfl ?_
    refine F_getN hΓ (t := 10) (i := p1.toNatClampNeg) (ci := 8) (C := RX5) (T := TX5) (N := 4) (fs5 (gl Γ) p1.toNatClampNeg) (v := .int (s.1 10 p1.toNatClampNeg 2)) (FLi hF (t := 10) (vp_lt hg3)) (fun _ _ _ => rfl) rfl rfl rfl rfl inW5 2 (by decide) 11 (host := "CanBits") rfl rfl dX7_taken_34 ?_
    obtain ⟨_, hc4, hf⟩ := bx_r hf
    refine G_callS hΓ (n := 2) (As := [.int p2, .int (s.1 10 p1.toNatClampNeg 2)]) (σ' := (qC σ s)) (c_X7_needThing (gL Γ) (gl Γ) hF σ  s p2 (s.1 10 p1.toNatClampNeg 2)  hc4) rfl rfl kw_832 kw_833 kw_1 kw_834 ⟨by decide, by decide, by decide +kernel⟩ rfl rfl ⟨Nat.le_of_ble_eq_true rfl, Nat.le_of_ble_eq_true rfl⟩ rfl (Nat.le_of_ble_eq_true rfl) dX7_taken_37 ⟨_, rfl⟩ rfl ?_
    refine G_iload_n hΓ 4 dX7_taken_40 rfl ?_
    refine G_iconst (v := 4) hΓ dX7_taken_41 (by decide) ?_
    obtain ⟨_, hc6, hf⟩ := bx_r hf
    refine G_callS hΓ (n := 2) (As := [.int p3, .int 4]) (σ' := (qC σ s)) (c_X7_needWhat (gL Γ) (gl Γ) hF σ  s p3 4  hc6) rfl rfl kw_836 kw_837 kw_1 kw_838 ⟨by decide, by decide, by decide +kernel⟩ rfl rfl ⟨Nat.le_of_ble_eq_true rfl, Nat.le_of_ble_eq_true rfl⟩ rfl (Nat.le_of_ble_eq_true rfl) dX7_taken_42 ⟨_, rfl⟩ rfl ?_
    refine G_aload hΓ 0 dX7_taken_45 rfl ?_
    refine G_iload_n hΓ 3 dX7_taken_47 rfl ?_
    refine G_iload_n hΓ 4 dX7_taken_48 rfl ?_
    obtain ⟨u8, hc9, hf⟩ := bd_some hf
    refine G_callV hΓ (n := 2) (As := [.int p2, .int p3]) (t := 10) (i := p1.toNatClampNeg) (ci := 8) (T := TX5) (N := 4) (FS := fs5 (gl Γ) p1.toNatClampNeg) (σ' := (qC σ s)) (c_X5_told (gL Γ) (gl Γ) hF (qC σ s) p1.toNatClampNeg (s.1 10 p1.toNatClampNeg) (s.1 11 p1.toNatClampNeg) (s.1 12 p1.toNatClampNeg) p2 p3 (vp_lt hg3) hc9) (qTak_qC.trans (congrArg (qC σ) qTak_self)) (qTak_qC.trans (congrArg (qC σ) qTak_self)) kw_847 kw_848 kw_849 kw_6 kw_850 ⟨rfl, by decide, by decide, by decide +kernel⟩ (FLi hF (t := 10) (vp_lt hg3)) (fun _ _ _ => rfl) rfl rfl rfl ⟨Nat.le_of_ble_eq_true rfl, Nat.le_of_ble_eq_true rfl⟩ rfl (Nat.le_of_ble_eq_true rfl) dX7_taken_49 ⟨_, rfl⟩ rfl ?_
    cases hf
    exact G_iret hΓ hE dX7_taken_52
  · rw [if_pos hc17] at hf
    refine G_iload_n hΓ 4 dX7_taken_21 rfl ?_
    refine G_if_ne hΓ (tgt := 31) dX7_taken_22 (by decide) (fun hc16 => ?_) (fun hc16 => ?_)
    · rw [if_neg hc16] at hf
      refine G_iload_n hΓ 3 dX7_taken_31 rfl ?_
      refine G_aload hΓ 0 dX7_taken_32 rfl ?_
      refine F_getN hΓ (t := 10) (i := p1.toNatClampNeg) (ci := 8) (C := RX5) (T := TX5) (N := 4) (fs5 (gl Γ) p1.toNatClampNeg) (v := .int (s.1 10 p1.toNatClampNeg 2)) (FLi hF (t := 10) (vp_lt hg3)) (fun _ _ _ => rfl) rfl rfl rfl rfl inW5 2 (by decide) 11 (host := "CanBits") rfl rfl dX7_taken_34 ?_
      obtain ⟨_, hc10, hf⟩ := bx_r hf
      refine G_callS hΓ (n := 2) (As := [.int p2, .int (s.1 10 p1.toNatClampNeg 2)]) (σ' := (qC σ s)) (c_X7_needThing (gL Γ) (gl Γ) hF σ  s p2 (s.1 10 p1.toNatClampNeg 2)  hc10) rfl rfl kw_832 kw_833 kw_1 kw_834 ⟨by decide, by decide, by decide +kernel⟩ rfl rfl ⟨Nat.le_of_ble_eq_true rfl, Nat.le_of_ble_eq_true rfl⟩ rfl (Nat.le_of_ble_eq_true rfl) dX7_taken_37 ⟨_, rfl⟩ rfl ?_
      refine G_iload_n hΓ 4 dX7_taken_40 rfl ?_
      refine G_iconst (v := 4) hΓ dX7_taken_41 (by decide) ?_
      obtain ⟨_, hc12, hf⟩ := bx_r hf
      refine G_callS hΓ (n := 2) (As := [.int p3, .int 4]) (σ' := (qC σ s)) (c_X7_needWhat (gL Γ) (gl Γ) hF σ  s p3 4  hc12) rfl rfl kw_836 kw_837 kw_1 kw_838 ⟨by decide, by decide, by decide +kernel⟩ rfl rfl ⟨Nat.le_of_ble_eq_true rfl, Nat.le_of_ble_eq_true rfl⟩ rfl (Nat.le_of_ble_eq_true rfl) dX7_taken_42 ⟨_, rfl⟩ rfl ?_
      refine G_aload hΓ 0 dX7_taken_45 rfl ?_
      refine G_iload_n hΓ 3 dX7_taken_47 rfl ?_
      refine G_iload_n hΓ 4 dX7_taken_48 rfl ?_
      obtain ⟨u14, hc15, hf⟩ := bd_some hf
      refine G_callV hΓ (n := 2) (As := [.int p2, .int p3]) (t := 10) (i := p1.toNatClampNeg) (ci := 8) (T := TX5) (N := 4) (FS := fs5 (gl Γ) p1.toNatClampNeg) (σ' := (qC σ s)) (c_X5_told (gL Γ) (gl Γ) hF (qC σ s) p1.toNatClampNeg (s.1 10 p1.toNatClampNeg) (s.1 11 p1.toNatClampNeg) (s.1 12 p1.toNatClampNeg) p2 p3 (vp_lt hg3) hc15) (qTak_qC.trans (congrArg (qC σ) qTak_self)) (qTak_qC.trans (congrArg (qC σ) qTak_self)) kw_847 kw_848 kw_849 kw_6 kw_850 ⟨rfl, by decide, by decide, by decide +kernel⟩ (FLi hF (t := 10) (vp_lt hg3)) (fun _ _ _ => rfl) rfl rfl rfl ⟨Nat.le_of_ble_eq_true rfl, Nat.le_of_ble_eq_true rfl⟩ rfl (Nat.le_of_ble_eq_true rfl) dX7_taken_49 ⟨_, rfl⟩ rfl ?_
      cases hf
      exact G_iret hΓ hE dX7_taken_52
    · rw [if_pos hc16] at hf
      refine G_aload hΓ 0 dX7_taken_25 rfl ?_
      refine F_getN hΓ (t := 10) (i := p1.toNatClampNeg) (ci := 8) (C := RX5) (T := TX5) (N := 4) (fs5 (gl Γ) p1.toNatClampNeg) (v := .int (s.1 10 p1.toNatClampNeg 2)) (FLi hF (t := 10) (vp_lt hg3)) (fun _ _ _ => rfl) rfl rfl rfl rfl inW5 2 (by decide) 11 (host := "CanBits") rfl rfl dX7_taken_27 ?_
      cases hf
      exact G_iret hΓ hE dX7_taken_30
set_option maxHeartbeats 4000000 in
set_option maxRecDepth 100000 in
theorem t_X7_taken (l : Launch) (hst : l.stackTraces = false) (Λ : LY) (hF : FL Λ) (σ : CS)  (s : CS) (p1 : Int32) (p2 : Int32) (p3 : Int32)   {e9 : Nat} (hf : f_X7_taken s p1 p2 p3 = some (.inl e9)) : CT l yX7_taken (.code yX7_taken cX7_taken 5 (some .int) :: TT) ({ frames := 8, cells := 1, slots := 6, locals := 141 }) Λ [.ref (ya Λ 0 0), .int p1, .int p2, .int p3] (qC σ s) (xn e9) := by
  refine CT_intro hst (own := RX7) (by decide) rfl (Nat.le_of_ble_eq_true rfl) rfl rfl ?_
  intro Γ hg hl hΓ hT
  subst hg; subst hl
  show GG Γ (0, 0) (qC σ s) 0 [(0, .ref (ya (gl Γ) 0 0)), (1, .int p1), (2, .int p2), (3, .int p3)] []
  unfold f_X7_taken at hf
  refine G_aload_n hΓ 0 dX7_taken_0 rfl ?_
  refine G_iload_n hΓ 1 dX7_taken_1 rfl ?_
  rcases bx_l hf with hcx2 | ⟨_, hc1, hf⟩
  · exact G_callVX hΓ hT (n := 1) (As := [.int p1]) (t := 0) (i := 0) (ci := 10) (T := TX7) (N := 14) (FS := fs7 (gl Γ) 0) (t_X7_needNode (gL Γ) hst (gl Γ) hF σ  s p1  hcx2) kw_464 kw_466 kp_3 kw_1 kw_467 ⟨rfl, by decide, by decide, by decide +kernel⟩ (FLi hF (t := 0) (by decide)) (fun _ _ _ => rfl) rfl rfl rfl ⟨Nat.le_of_ble_eq_true rfl, Nat.le_of_ble_eq_true rfl⟩ rfl (Nat.le_of_ble_eq_true rfl) dX7_taken_2
  refine G_callV hΓ (n := 1) (As := [.int p1]) (t := 0) (i := 0) (ci := 10) (T := TX7) (N := 14) (FS := fs7 (gl Γ) 0) (σ' := (qC σ s)) (c_X7_needNode (gL Γ) (gl Γ) hF σ  s p1  hc1) rfl rfl kw_464 kw_466 kp_3 kw_1 kw_467 ⟨rfl, by decide, by decide, by decide +kernel⟩ (FLi hF (t := 0) (by decide)) (fun _ _ _ => rfl) rfl rfl rfl ⟨Nat.le_of_ble_eq_true rfl, Nat.le_of_ble_eq_true rfl⟩ rfl (Nat.le_of_ble_eq_true rfl) dX7_taken_2 ⟨_, rfl⟩ rfl ?_
  refine G_aload_n hΓ 0 dX7_taken_5 rfl ?_
  refine F_get hΓ (t := 0) (i := 0) (ci := 10) (C := RX7) (T := TX7) (N := 14) (fs7 (gl Γ) 0) (v := .ref (ya (gl Γ) 1 0)) (FLi hF (t := 0) (by decide)) (fun _ _ _ => rfl) rfl rfl rfl rfl inW7 0 (by decide) (TT_cons kw_291) rfl dX7_taken_6 ?_
  refine G_iload_n hΓ 1 dX7_taken_9 rfl ?_
  obtain ⟨hg3, hf⟩ := gd_some hf
  refine F_aaN hΓ (FLi hF (t := 1) (by decide)) hg3 dX7_taken_10 ?_
  refine F_getN hΓ (t := 3) (i := p1.toNatClampNeg) (ci := 5) (C := RX2) (T := TX2) (N := 10) (fs2 (gl Γ) p1.toNatClampNeg) (v := .ref (ya (gl Γ) 10 p1.toNatClampNeg)) (FLi hF (t := 3) (vp_lt hg3)) (fun _ _ _ => rfl) rfl rfl rfl rfl inW2 1 (by decide) 12 (host := "CanBits") rfl rfl dX7_taken_11 ?_
  refine G_astore hΓ [(4, .ref (ya (gl Γ) 10 p1.toNatClampNeg)), (0, .ref (ya (gl Γ) 0 0)), (1, .int p1), (2, .int p2), (3, .int p3)] dX7_taken_14 (by decide) rfl ?_
  refine G_iload_n hΓ 3 dX7_taken_16 rfl ?_
  refine G_iconst (v := (-1)) hΓ dX7_taken_17 (by decide) ?_
  refine G_icmp_ne hΓ (tgt := 31) dX7_taken_18 (by decide) (fun hc17 => ?_) (fun hc17 => ?_)
  · rw [if_neg hc17] at hf
    refine G_iload_n hΓ 3 dX7_taken_31 rfl ?_
    refine G_aload hΓ 0 dX7_taken_32 rfl ?_
    refine F_getN hΓ (t := 10) (i := p1.toNatClampNeg) (ci := 8) (C := RX5) (T := TX5) (N := 4) (fs5 (gl Γ) p1.toNatClampNeg) (v := .int (s.1 10 p1.toNatClampNeg 2)) (FLi hF (t := 10) (vp_lt hg3)) (fun _ _ _ => rfl) rfl rfl rfl rfl inW5 2 (by decide) 11 (host := "CanBits") rfl rfl dX7_taken_34 ?_
    rcases bx_l hf with hcx5 | ⟨_, hc4, hf⟩
    · exact G_callSX hΓ hT (n := 2) (As := [.int p2, .int (s.1 10 p1.toNatClampNeg 2)]) (t_X7_needThing (gL Γ) hst (gl Γ) hF σ  s p2 (s.1 10 p1.toNatClampNeg 2)  hcx5) kw_832 kw_833 kw_1 kw_834 ⟨by decide, by decide, by decide +kernel⟩ rfl rfl ⟨Nat.le_of_ble_eq_true rfl, Nat.le_of_ble_eq_true rfl⟩ rfl (Nat.le_of_ble_eq_true rfl) dX7_taken_37
    refine G_callS hΓ (n := 2) (As := [.int p2, .int (s.1 10 p1.toNatClampNeg 2)]) (σ' := (qC σ s)) (c_X7_needThing (gL Γ) (gl Γ) hF σ  s p2 (s.1 10 p1.toNatClampNeg 2)  hc4) rfl rfl kw_832 kw_833 kw_1 kw_834 ⟨by decide, by decide, by decide +kernel⟩ rfl rfl ⟨Nat.le_of_ble_eq_true rfl, Nat.le_of_ble_eq_true rfl⟩ rfl (Nat.le_of_ble_eq_true rfl) dX7_taken_37 ⟨_, rfl⟩ rfl ?_
    refine G_iload_n hΓ 4 dX7_taken_40 rfl ?_
    refine G_iconst (v := 4) hΓ dX7_taken_41 (by decide) ?_
    rcases bx_l hf with hcx7 | ⟨_, hc6, hf⟩
    · exact G_callSX hΓ hT (n := 2) (As := [.int p3, .int 4]) (t_X7_needWhat (gL Γ) hst (gl Γ) hF σ  s p3 4  hcx7) kw_836 kw_837 kw_1 kw_838 ⟨by decide, by decide, by decide +kernel⟩ rfl rfl ⟨Nat.le_of_ble_eq_true rfl, Nat.le_of_ble_eq_true rfl⟩ rfl (Nat.le_of_ble_eq_true rfl) dX7_taken_42
    refine G_callS hΓ (n := 2) (As := [.int p3, .int 4]) (σ' := (qC σ s)) (c_X7_needWhat (gL Γ) (gl Γ) hF σ  s p3 4  hc6) rfl rfl kw_836 kw_837 kw_1 kw_838 ⟨by decide, by decide, by decide +kernel⟩ rfl rfl ⟨Nat.le_of_ble_eq_true rfl, Nat.le_of_ble_eq_true rfl⟩ rfl (Nat.le_of_ble_eq_true rfl) dX7_taken_42 ⟨_, rfl⟩ rfl ?_
    refine G_aload hΓ 0 dX7_taken_45 rfl ?_
    refine G_iload_n hΓ 3 dX7_taken_47 rfl ?_
    refine G_iload_n hΓ 4 dX7_taken_48 rfl ?_
    obtain ⟨u8, hc9, hf⟩ := bd_some hf
    refine G_callV hΓ (n := 2) (As := [.int p2, .int p3]) (t := 10) (i := p1.toNatClampNeg) (ci := 8) (T := TX5) (N := 4) (FS := fs5 (gl Γ) p1.toNatClampNeg) (σ' := (qC σ s)) (c_X5_told (gL Γ) (gl Γ) hF (qC σ s) p1.toNatClampNeg (s.1 10 p1.toNatClampNeg) (s.1 11 p1.toNatClampNeg) (s.1 12 p1.toNatClampNeg) p2 p3 (vp_lt hg3) hc9) (qTak_qC.trans (congrArg (qC σ) qTak_self)) (qTak_qC.trans (congrArg (qC σ) qTak_self)) kw_847 kw_848 kw_849 kw_6 kw_850 ⟨rfl, by decide, by decide, by decide +kernel⟩ (FLi hF (t := 10) (vp_lt hg3)) (fun _ _ _ => rfl) rfl rfl rfl ⟨Nat.le_of_ble_eq_true rfl, Nat.le_of_ble_eq_true rfl⟩ rfl (Nat.le_of_ble_eq_true rfl) dX7_taken_49 ⟨_, rfl⟩ rfl ?_
    cases hf
  · rw [if_pos hc17] at hf
    refine G_iload_n hΓ 4 dX7_taken_21 rfl ?_
    refine G_if_ne hΓ (tgt := 31) dX7_taken_22 (by decide) (fun hc16 => ?_) (fun hc16 => ?_)
    · rw [if_neg hc16] at hf
      refine G_iload_n hΓ 3 dX7_taken_31 rfl ?_
      refine G_aload hΓ 0 dX7_taken_32 rfl ?_
      refine F_getN hΓ (t := 10) (i := p1.toNatClampNeg) (ci := 8) (C := RX5) (T := TX5) (N := 4) (fs5 (gl Γ) p1.toNatClampNeg) (v := .int (s.1 10 p1.toNatClampNeg 2)) (FLi hF (t := 10) (vp_lt hg3)) (fun _ _ _ => rfl) rfl rfl rfl rfl inW5 2 (by decide) 11 (host := "CanBits") rfl rfl dX7_taken_34 ?_
      rcases bx_l hf with hcx11 | ⟨_, hc10, hf⟩
      · exact G_callSX hΓ hT (n := 2) (As := [.int p2, .int (s.1 10 p1.toNatClampNeg 2)]) (t_X7_needThing (gL Γ) hst (gl Γ) hF σ  s p2 (s.1 10 p1.toNatClampNeg 2)  hcx11) kw_832 kw_833 kw_1 kw_834 ⟨by decide, by decide, by decide +kernel⟩ rfl rfl ⟨Nat.le_of_ble_eq_true rfl, Nat.le_of_ble_eq_true rfl⟩ rfl (Nat.le_of_ble_eq_true rfl) dX7_taken_37
      refine G_callS hΓ (n := 2) (As := [.int p2, .int (s.1 10 p1.toNatClampNeg 2)]) (σ' := (qC σ s)) (c_X7_needThing (gL Γ) (gl Γ) hF σ  s p2 (s.1 10 p1.toNatClampNeg 2)  hc10) rfl rfl kw_832 kw_833 kw_1 kw_834 ⟨by decide, by decide, by decide +kernel⟩ rfl rfl ⟨Nat.le_of_ble_eq_true rfl, Nat.le_of_ble_eq_true rfl⟩ rfl (Nat.le_of_ble_eq_true rfl) dX7_taken_37 ⟨_, rfl⟩ rfl ?_
      refine G_iload_n hΓ 4 dX7_taken_40 rfl ?_
      refine G_iconst (v := 4) hΓ dX7_taken_41 (by decide) ?_
      rcases bx_l hf with hcx13 | ⟨_, hc12, hf⟩
      · exact G_callSX hΓ hT (n := 2) (As := [.int p3, .int 4]) (t_X7_needWhat (gL Γ) hst (gl Γ) hF σ  s p3 4  hcx13) kw_836 kw_837 kw_1 kw_838 ⟨by decide, by decide, by decide +kernel⟩ rfl rfl ⟨Nat.le_of_ble_eq_true rfl, Nat.le_of_ble_eq_true rfl⟩ rfl (Nat.le_of_ble_eq_true rfl) dX7_taken_42
      refine G_callS hΓ (n := 2) (As := [.int p3, .int 4]) (σ' := (qC σ s)) (c_X7_needWhat (gL Γ) (gl Γ) hF σ  s p3 4  hc12) rfl rfl kw_836 kw_837 kw_1 kw_838 ⟨by decide, by decide, by decide +kernel⟩ rfl rfl ⟨Nat.le_of_ble_eq_true rfl, Nat.le_of_ble_eq_true rfl⟩ rfl (Nat.le_of_ble_eq_true rfl) dX7_taken_42 ⟨_, rfl⟩ rfl ?_
      refine G_aload hΓ 0 dX7_taken_45 rfl ?_
      refine G_iload_n hΓ 3 dX7_taken_47 rfl ?_
      refine G_iload_n hΓ 4 dX7_taken_48 rfl ?_
      obtain ⟨u14, hc15, hf⟩ := bd_some hf
      refine G_callV hΓ (n := 2) (As := [.int p2, .int p3]) (t := 10) (i := p1.toNatClampNeg) (ci := 8) (T := TX5) (N := 4) (FS := fs5 (gl Γ) p1.toNatClampNeg) (σ' := (qC σ s)) (c_X5_told (gL Γ) (gl Γ) hF (qC σ s) p1.toNatClampNeg (s.1 10 p1.toNatClampNeg) (s.1 11 p1.toNatClampNeg) (s.1 12 p1.toNatClampNeg) p2 p3 (vp_lt hg3) hc15) (qTak_qC.trans (congrArg (qC σ) qTak_self)) (qTak_qC.trans (congrArg (qC σ) qTak_self)) kw_847 kw_848 kw_849 kw_6 kw_850 ⟨rfl, by decide, by decide, by decide +kernel⟩ (FLi hF (t := 10) (vp_lt hg3)) (fun _ _ _ => rfl) rfl rfl rfl ⟨Nat.le_of_ble_eq_true rfl, Nat.le_of_ble_eq_true rfl⟩ rfl (Nat.le_of_ble_eq_true rfl) dX7_taken_49 ⟨_, rfl⟩ rfl ?_
      cases hf
    · rw [if_pos hc16] at hf
      refine G_aload hΓ 0 dX7_taken_25 rfl ?_
      refine F_getN hΓ (t := 10) (i := p1.toNatClampNeg) (ci := 8) (C := RX5) (T := TX5) (N := 4) (fs5 (gl Γ) p1.toNatClampNeg) (v := .int (s.1 10 p1.toNatClampNeg 2)) (FLi hF (t := 10) (vp_lt hg3)) (fun _ _ _ => rfl) rfl rfl rfl rfl inW5 2 (by decide) 11 (host := "CanBits") rfl rfl dX7_taken_27 ?_
      cases hf
theorem dX7_takenOctet_0 : decode cX7_takenOctet 0 = .ok (.aload_n 0, 1) := by decide +kernel
theorem dX7_takenOctet_1 : decode cX7_takenOctet 1 = .ok (.iload_n 1, 1) := by decide +kernel
theorem dX7_takenOctet_2 : decode cX7_takenOctet 2 = .ok (.invokevirtual 64, 3) := by decide +kernel
theorem dX7_takenOctet_5 : decode cX7_takenOctet 5 = .ok (.aload_n 0, 1) := by decide +kernel
theorem dX7_takenOctet_6 : decode cX7_takenOctet 6 = .ok (.getfield 11, 3) := by decide +kernel
theorem dX7_takenOctet_9 : decode cX7_takenOctet 9 = .ok (.iload_n 1, 1) := by decide +kernel
theorem dX7_takenOctet_10 : decode cX7_takenOctet 10 = .ok (.aaload, 1) := by decide +kernel
theorem dX7_takenOctet_11 : decode cX7_takenOctet 11 = .ok (.getfield 233, 3) := by decide +kernel
theorem dX7_takenOctet_14 : decode cX7_takenOctet 14 = .ok (.astore 4, 2) := by decide +kernel
theorem dX7_takenOctet_16 : decode cX7_takenOctet 16 = .ok (.iload_n 2, 1) := by decide +kernel
theorem dX7_takenOctet_17 : decode cX7_takenOctet 17 = .ok (.aload 4, 2) := by decide +kernel
theorem dX7_takenOctet_19 : decode cX7_takenOctet 19 = .ok (.getfield 237, 3) := by decide +kernel
theorem dX7_takenOctet_22 : decode cX7_takenOctet 22 = .ok (.invokestatic 227, 3) := by decide +kernel
theorem dX7_takenOctet_25 : decode cX7_takenOctet 25 = .ok (.iload_n 3, 1) := by decide +kernel
theorem dX7_takenOctet_26 : decode cX7_takenOctet 26 = .ok (.aload 4, 2) := by decide +kernel
theorem dX7_takenOctet_28 : decode cX7_takenOctet 28 = .ok (.iload_n 2, 1) := by decide +kernel
theorem dX7_takenOctet_29 : decode cX7_takenOctet 29 = .ok (.iconst 3, 1) := by decide +kernel
theorem dX7_takenOctet_30 : decode cX7_takenOctet 30 = .ok (.invokevirtual 242, 3) := by decide +kernel
theorem dX7_takenOctet_33 : decode cX7_takenOctet 33 = .ok (.invokestatic 227, 3) := by decide +kernel
theorem dX7_takenOctet_36 : decode cX7_takenOctet 36 = .ok (.aload 4, 2) := by decide +kernel
theorem dX7_takenOctet_38 : decode cX7_takenOctet 38 = .ok (.iload_n 2, 1) := by decide +kernel
theorem dX7_takenOctet_39 : decode cX7_takenOctet 39 = .ok (.iload_n 3, 1) := by decide +kernel
theorem dX7_takenOctet_40 : decode cX7_takenOctet 40 = .ok (.invokevirtual 245, 3) := by decide +kernel
theorem dX7_takenOctet_43 : decode cX7_takenOctet 43 = .ok (.ireturn, 1) := by decide +kernel
noncomputable def f_X7_takenOctet  (s : CS) (p1 : Int32) (p2 : Int32) (p3 : Int32) : Option (Nat ⊕ (Int32)) := bx (f_X7_needNode s p1) (fun _ => gd (vp_in p1 32) (bx (f_X7_needThing s p2 (s.1 10 p1.toNatClampNeg 2)) (fun _ => bd (f_X5_told (s.1 11 p1.toNatClampNeg) p2 3) (fun u6 => bx (f_X7_needThing s p3 u6) (fun _ => bd (f_X5_octetOf (s.1 11 p1.toNatClampNeg) (s.1 12 p1.toNatClampNeg) p2 p3) (fun u10 => some (.inr (u10))))))))
set_option maxHeartbeats 4000000 in
set_option maxRecDepth 100000 in
theorem c_X7_takenOctet (l : Launch) (Λ : LY) (hF : FL Λ) (σ : CS)  (s : CS) (p1 : Int32) (p2 : Int32) (p3 : Int32)   {r9 : Int32} (hf : f_X7_takenOctet s p1 p2 p3 = some (.inr r9)) : CM l yX7_takenOctet (.code yX7_takenOctet cX7_takenOctet 5 (some .int) :: TT) ({ frames := 2, cells := 0, slots := 0, locals := 46 }) Λ [.ref (ya Λ 0 0), .int p1, .int p2, .int p3] (qC σ s) (qC σ s) (some (.int r9)) := by
  refine CM_intro (own := RX7) (by decide) rfl (Nat.le_of_ble_eq_true rfl) ?_
  intro Γ hg hl hΓ hE
  subst hg; subst hl
  show GG Γ (0, 0) (qC σ s) 0 [(0, .ref (ya (gl Γ) 0 0)), (1, .int p1), (2, .int p2), (3, .int p3)] []
  unfold f_X7_takenOctet at hf
  refine G_aload_n hΓ 0 dX7_takenOctet_0 rfl ?_
  refine G_iload_n hΓ 1 dX7_takenOctet_1 rfl ?_
  obtain ⟨_, hc1, hf⟩ := bx_r hf
  refine G_callV hΓ (n := 1) (As := [.int p1]) (t := 0) (i := 0) (ci := 10) (T := TX7) (N := 14) (FS := fs7 (gl Γ) 0) (σ' := (qC σ s)) (c_X7_needNode (gL Γ) (gl Γ) hF σ  s p1  hc1) rfl rfl kw_464 kw_466 kp_3 kw_1 kw_467 ⟨rfl, by decide, by decide, by decide +kernel⟩ (FLi hF (t := 0) (by decide)) (fun _ _ _ => rfl) rfl rfl rfl ⟨Nat.le_of_ble_eq_true rfl, Nat.le_of_ble_eq_true rfl⟩ rfl (Nat.le_of_ble_eq_true rfl) dX7_takenOctet_2 ⟨_, rfl⟩ rfl ?_
  refine G_aload_n hΓ 0 dX7_takenOctet_5 rfl ?_
  refine F_get hΓ (t := 0) (i := 0) (ci := 10) (C := RX7) (T := TX7) (N := 14) (fs7 (gl Γ) 0) (v := .ref (ya (gl Γ) 1 0)) (FLi hF (t := 0) (by decide)) (fun _ _ _ => rfl) rfl rfl rfl rfl inW7 0 (by decide) (TT_cons kw_291) rfl dX7_takenOctet_6 ?_
  refine G_iload_n hΓ 1 dX7_takenOctet_9 rfl ?_
  obtain ⟨hg3, hf⟩ := gd_some hf
  refine F_aaN hΓ (FLi hF (t := 1) (by decide)) hg3 dX7_takenOctet_10 ?_
  refine F_getN hΓ (t := 3) (i := p1.toNatClampNeg) (ci := 5) (C := RX2) (T := TX2) (N := 10) (fs2 (gl Γ) p1.toNatClampNeg) (v := .ref (ya (gl Γ) 10 p1.toNatClampNeg)) (FLi hF (t := 3) (vp_lt hg3)) (fun _ _ _ => rfl) rfl rfl rfl rfl inW2 1 (by decide) 12 (host := "CanBits") rfl rfl dX7_takenOctet_11 ?_
  refine G_astore hΓ [(4, .ref (ya (gl Γ) 10 p1.toNatClampNeg)), (0, .ref (ya (gl Γ) 0 0)), (1, .int p1), (2, .int p2), (3, .int p3)] dX7_takenOctet_14 (by decide) rfl ?_
  refine G_iload_n hΓ 3 dX7_takenOctet_16 rfl ?_
  refine G_aload hΓ 0 dX7_takenOctet_17 rfl ?_
  refine F_getN hΓ (t := 10) (i := p1.toNatClampNeg) (ci := 8) (C := RX5) (T := TX5) (N := 4) (fs5 (gl Γ) p1.toNatClampNeg) (v := .int (s.1 10 p1.toNatClampNeg 2)) (FLi hF (t := 10) (vp_lt hg3)) (fun _ _ _ => rfl) rfl rfl rfl rfl inW5 2 (by decide) 11 (host := "CanBits") rfl rfl dX7_takenOctet_19 ?_
  obtain ⟨_, hc4, hf⟩ := bx_r hf
  refine G_callS hΓ (n := 2) (As := [.int p2, .int (s.1 10 p1.toNatClampNeg 2)]) (σ' := (qC σ s)) (c_X7_needThing (gL Γ) (gl Γ) hF σ  s p2 (s.1 10 p1.toNatClampNeg 2)  hc4) rfl rfl kw_832 kw_833 kw_1 kw_834 ⟨by decide, by decide, by decide +kernel⟩ rfl rfl ⟨Nat.le_of_ble_eq_true rfl, Nat.le_of_ble_eq_true rfl⟩ rfl (Nat.le_of_ble_eq_true rfl) dX7_takenOctet_22 ⟨_, rfl⟩ rfl ?_
  refine G_iload_n hΓ 4 dX7_takenOctet_25 rfl ?_
  refine G_aload hΓ 0 dX7_takenOctet_26 rfl ?_
  refine G_iload_n hΓ 3 dX7_takenOctet_28 rfl ?_
  refine G_iconst (v := 3) hΓ dX7_takenOctet_29 (by decide) ?_
  obtain ⟨u6, hc7, hf⟩ := bd_some hf
  refine G_callV hΓ (n := 2) (As := [.int p2, .int 3]) (t := 10) (i := p1.toNatClampNeg) (ci := 8) (T := TX5) (N := 4) (FS := fs5 (gl Γ) p1.toNatClampNeg) (σ' := (qC σ s)) (c_X5_told (gL Γ) (gl Γ) hF (qC σ s) p1.toNatClampNeg (s.1 10 p1.toNatClampNeg) (s.1 11 p1.toNatClampNeg) (s.1 12 p1.toNatClampNeg) p2 3 (vp_lt hg3) hc7) (qTak_qC.trans (congrArg (qC σ) qTak_self)) (qTak_qC.trans (congrArg (qC σ) qTak_self)) kw_847 kw_848 kw_849 kw_6 kw_850 ⟨rfl, by decide, by decide, by decide +kernel⟩ (FLi hF (t := 10) (vp_lt hg3)) (fun _ _ _ => rfl) rfl rfl rfl ⟨Nat.le_of_ble_eq_true rfl, Nat.le_of_ble_eq_true rfl⟩ rfl (Nat.le_of_ble_eq_true rfl) dX7_takenOctet_30 ⟨_, rfl⟩ rfl ?_
  obtain ⟨_, hc8, hf⟩ := bx_r hf
  refine G_callS hΓ (n := 2) (As := [.int p3, .int u6]) (σ' := (qC σ s)) (c_X7_needThing (gL Γ) (gl Γ) hF σ  s p3 u6  hc8) rfl rfl kw_832 kw_833 kw_1 kw_834 ⟨by decide, by decide, by decide +kernel⟩ rfl rfl ⟨Nat.le_of_ble_eq_true rfl, Nat.le_of_ble_eq_true rfl⟩ rfl (Nat.le_of_ble_eq_true rfl) dX7_takenOctet_33 ⟨_, rfl⟩ rfl ?_
  refine G_aload hΓ 0 dX7_takenOctet_36 rfl ?_
  refine G_iload_n hΓ 3 dX7_takenOctet_38 rfl ?_
  refine G_iload_n hΓ 4 dX7_takenOctet_39 rfl ?_
  obtain ⟨u10, hc11, hf⟩ := bd_some hf
  refine G_callV hΓ (n := 2) (As := [.int p2, .int p3]) (t := 10) (i := p1.toNatClampNeg) (ci := 8) (T := TX5) (N := 4) (FS := fs5 (gl Γ) p1.toNatClampNeg) (σ' := (qC σ s)) (c_X5_octetOf (gL Γ) (gl Γ) hF (qC σ s) p1.toNatClampNeg (s.1 10 p1.toNatClampNeg) (s.1 11 p1.toNatClampNeg) (s.1 12 p1.toNatClampNeg) p2 p3 (vp_lt hg3) hc11) (qTak_qC.trans (congrArg (qC σ) qTak_self)) (qTak_qC.trans (congrArg (qC σ) qTak_self)) kw_858 kw_859 kw_860 kw_6 kw_861 ⟨rfl, by decide, by decide, by decide +kernel⟩ (FLi hF (t := 10) (vp_lt hg3)) (fun _ _ _ => rfl) rfl rfl rfl ⟨Nat.le_of_ble_eq_true rfl, Nat.le_of_ble_eq_true rfl⟩ rfl (Nat.le_of_ble_eq_true rfl) dX7_takenOctet_40 ⟨_, rfl⟩ rfl ?_
  cases hf
  exact G_iret hΓ hE dX7_takenOctet_43
set_option maxHeartbeats 4000000 in
set_option maxRecDepth 100000 in
theorem t_X7_takenOctet (l : Launch) (hst : l.stackTraces = false) (Λ : LY) (hF : FL Λ) (σ : CS)  (s : CS) (p1 : Int32) (p2 : Int32) (p3 : Int32)   {e9 : Nat} (hf : f_X7_takenOctet s p1 p2 p3 = some (.inl e9)) : CT l yX7_takenOctet (.code yX7_takenOctet cX7_takenOctet 5 (some .int) :: TT) ({ frames := 8, cells := 1, slots := 6, locals := 141 }) Λ [.ref (ya Λ 0 0), .int p1, .int p2, .int p3] (qC σ s) (xn e9) := by
  refine CT_intro hst (own := RX7) (by decide) rfl (Nat.le_of_ble_eq_true rfl) rfl rfl ?_
  intro Γ hg hl hΓ hT
  subst hg; subst hl
  show GG Γ (0, 0) (qC σ s) 0 [(0, .ref (ya (gl Γ) 0 0)), (1, .int p1), (2, .int p2), (3, .int p3)] []
  unfold f_X7_takenOctet at hf
  refine G_aload_n hΓ 0 dX7_takenOctet_0 rfl ?_
  refine G_iload_n hΓ 1 dX7_takenOctet_1 rfl ?_
  rcases bx_l hf with hcx2 | ⟨_, hc1, hf⟩
  · exact G_callVX hΓ hT (n := 1) (As := [.int p1]) (t := 0) (i := 0) (ci := 10) (T := TX7) (N := 14) (FS := fs7 (gl Γ) 0) (t_X7_needNode (gL Γ) hst (gl Γ) hF σ  s p1  hcx2) kw_464 kw_466 kp_3 kw_1 kw_467 ⟨rfl, by decide, by decide, by decide +kernel⟩ (FLi hF (t := 0) (by decide)) (fun _ _ _ => rfl) rfl rfl rfl ⟨Nat.le_of_ble_eq_true rfl, Nat.le_of_ble_eq_true rfl⟩ rfl (Nat.le_of_ble_eq_true rfl) dX7_takenOctet_2
  refine G_callV hΓ (n := 1) (As := [.int p1]) (t := 0) (i := 0) (ci := 10) (T := TX7) (N := 14) (FS := fs7 (gl Γ) 0) (σ' := (qC σ s)) (c_X7_needNode (gL Γ) (gl Γ) hF σ  s p1  hc1) rfl rfl kw_464 kw_466 kp_3 kw_1 kw_467 ⟨rfl, by decide, by decide, by decide +kernel⟩ (FLi hF (t := 0) (by decide)) (fun _ _ _ => rfl) rfl rfl rfl ⟨Nat.le_of_ble_eq_true rfl, Nat.le_of_ble_eq_true rfl⟩ rfl (Nat.le_of_ble_eq_true rfl) dX7_takenOctet_2 ⟨_, rfl⟩ rfl ?_
  refine G_aload_n hΓ 0 dX7_takenOctet_5 rfl ?_
  refine F_get hΓ (t := 0) (i := 0) (ci := 10) (C := RX7) (T := TX7) (N := 14) (fs7 (gl Γ) 0) (v := .ref (ya (gl Γ) 1 0)) (FLi hF (t := 0) (by decide)) (fun _ _ _ => rfl) rfl rfl rfl rfl inW7 0 (by decide) (TT_cons kw_291) rfl dX7_takenOctet_6 ?_
  refine G_iload_n hΓ 1 dX7_takenOctet_9 rfl ?_
  obtain ⟨hg3, hf⟩ := gd_some hf
  refine F_aaN hΓ (FLi hF (t := 1) (by decide)) hg3 dX7_takenOctet_10 ?_
  refine F_getN hΓ (t := 3) (i := p1.toNatClampNeg) (ci := 5) (C := RX2) (T := TX2) (N := 10) (fs2 (gl Γ) p1.toNatClampNeg) (v := .ref (ya (gl Γ) 10 p1.toNatClampNeg)) (FLi hF (t := 3) (vp_lt hg3)) (fun _ _ _ => rfl) rfl rfl rfl rfl inW2 1 (by decide) 12 (host := "CanBits") rfl rfl dX7_takenOctet_11 ?_
  refine G_astore hΓ [(4, .ref (ya (gl Γ) 10 p1.toNatClampNeg)), (0, .ref (ya (gl Γ) 0 0)), (1, .int p1), (2, .int p2), (3, .int p3)] dX7_takenOctet_14 (by decide) rfl ?_
  refine G_iload_n hΓ 3 dX7_takenOctet_16 rfl ?_
  refine G_aload hΓ 0 dX7_takenOctet_17 rfl ?_
  refine F_getN hΓ (t := 10) (i := p1.toNatClampNeg) (ci := 8) (C := RX5) (T := TX5) (N := 4) (fs5 (gl Γ) p1.toNatClampNeg) (v := .int (s.1 10 p1.toNatClampNeg 2)) (FLi hF (t := 10) (vp_lt hg3)) (fun _ _ _ => rfl) rfl rfl rfl rfl inW5 2 (by decide) 11 (host := "CanBits") rfl rfl dX7_takenOctet_19 ?_
  rcases bx_l hf with hcx5 | ⟨_, hc4, hf⟩
  · exact G_callSX hΓ hT (n := 2) (As := [.int p2, .int (s.1 10 p1.toNatClampNeg 2)]) (t_X7_needThing (gL Γ) hst (gl Γ) hF σ  s p2 (s.1 10 p1.toNatClampNeg 2)  hcx5) kw_832 kw_833 kw_1 kw_834 ⟨by decide, by decide, by decide +kernel⟩ rfl rfl ⟨Nat.le_of_ble_eq_true rfl, Nat.le_of_ble_eq_true rfl⟩ rfl (Nat.le_of_ble_eq_true rfl) dX7_takenOctet_22
  refine G_callS hΓ (n := 2) (As := [.int p2, .int (s.1 10 p1.toNatClampNeg 2)]) (σ' := (qC σ s)) (c_X7_needThing (gL Γ) (gl Γ) hF σ  s p2 (s.1 10 p1.toNatClampNeg 2)  hc4) rfl rfl kw_832 kw_833 kw_1 kw_834 ⟨by decide, by decide, by decide +kernel⟩ rfl rfl ⟨Nat.le_of_ble_eq_true rfl, Nat.le_of_ble_eq_true rfl⟩ rfl (Nat.le_of_ble_eq_true rfl) dX7_takenOctet_22 ⟨_, rfl⟩ rfl ?_
  refine G_iload_n hΓ 4 dX7_takenOctet_25 rfl ?_
  refine G_aload hΓ 0 dX7_takenOctet_26 rfl ?_
  refine G_iload_n hΓ 3 dX7_takenOctet_28 rfl ?_
  refine G_iconst (v := 3) hΓ dX7_takenOctet_29 (by decide) ?_
  obtain ⟨u6, hc7, hf⟩ := bd_some hf
  refine G_callV hΓ (n := 2) (As := [.int p2, .int 3]) (t := 10) (i := p1.toNatClampNeg) (ci := 8) (T := TX5) (N := 4) (FS := fs5 (gl Γ) p1.toNatClampNeg) (σ' := (qC σ s)) (c_X5_told (gL Γ) (gl Γ) hF (qC σ s) p1.toNatClampNeg (s.1 10 p1.toNatClampNeg) (s.1 11 p1.toNatClampNeg) (s.1 12 p1.toNatClampNeg) p2 3 (vp_lt hg3) hc7) (qTak_qC.trans (congrArg (qC σ) qTak_self)) (qTak_qC.trans (congrArg (qC σ) qTak_self)) kw_847 kw_848 kw_849 kw_6 kw_850 ⟨rfl, by decide, by decide, by decide +kernel⟩ (FLi hF (t := 10) (vp_lt hg3)) (fun _ _ _ => rfl) rfl rfl rfl ⟨Nat.le_of_ble_eq_true rfl, Nat.le_of_ble_eq_true rfl⟩ rfl (Nat.le_of_ble_eq_true rfl) dX7_takenOctet_30 ⟨_, rfl⟩ rfl ?_
  rcases bx_l hf with hcx9 | ⟨_, hc8, hf⟩
  · exact G_callSX hΓ hT (n := 2) (As := [.int p3, .int u6]) (t_X7_needThing (gL Γ) hst (gl Γ) hF σ  s p3 u6  hcx9) kw_832 kw_833 kw_1 kw_834 ⟨by decide, by decide, by decide +kernel⟩ rfl rfl ⟨Nat.le_of_ble_eq_true rfl, Nat.le_of_ble_eq_true rfl⟩ rfl (Nat.le_of_ble_eq_true rfl) dX7_takenOctet_33
  refine G_callS hΓ (n := 2) (As := [.int p3, .int u6]) (σ' := (qC σ s)) (c_X7_needThing (gL Γ) (gl Γ) hF σ  s p3 u6  hc8) rfl rfl kw_832 kw_833 kw_1 kw_834 ⟨by decide, by decide, by decide +kernel⟩ rfl rfl ⟨Nat.le_of_ble_eq_true rfl, Nat.le_of_ble_eq_true rfl⟩ rfl (Nat.le_of_ble_eq_true rfl) dX7_takenOctet_33 ⟨_, rfl⟩ rfl ?_
  refine G_aload hΓ 0 dX7_takenOctet_36 rfl ?_
  refine G_iload_n hΓ 3 dX7_takenOctet_38 rfl ?_
  refine G_iload_n hΓ 4 dX7_takenOctet_39 rfl ?_
  obtain ⟨u10, hc11, hf⟩ := bd_some hf
  refine G_callV hΓ (n := 2) (As := [.int p2, .int p3]) (t := 10) (i := p1.toNatClampNeg) (ci := 8) (T := TX5) (N := 4) (FS := fs5 (gl Γ) p1.toNatClampNeg) (σ' := (qC σ s)) (c_X5_octetOf (gL Γ) (gl Γ) hF (qC σ s) p1.toNatClampNeg (s.1 10 p1.toNatClampNeg) (s.1 11 p1.toNatClampNeg) (s.1 12 p1.toNatClampNeg) p2 p3 (vp_lt hg3) hc11) (qTak_qC.trans (congrArg (qC σ) qTak_self)) (qTak_qC.trans (congrArg (qC σ) qTak_self)) kw_858 kw_859 kw_860 kw_6 kw_861 ⟨rfl, by decide, by decide, by decide +kernel⟩ (FLi hF (t := 10) (vp_lt hg3)) (fun _ _ _ => rfl) rfl rfl rfl ⟨Nat.le_of_ble_eq_true rfl, Nat.le_of_ble_eq_true rfl⟩ rfl (Nat.le_of_ble_eq_true rfl) dX7_takenOctet_40 ⟨_, rfl⟩ rfl ?_
  cases hf
theorem dX7_error_0 : decode cX7_error 0 = .ok (.iload_n 1, 1) := by decide +kernel
theorem dX7_error_1 : decode cX7_error 1 = .ok (.iconst (-1), 1) := by decide +kernel
theorem dX7_error_2 : decode cX7_error 2 = .ok (.if_icmp .ne 12, 3) := by decide +kernel
theorem dX7_error_5 : decode cX7_error 5 = .ok (.iload_n 2, 1) := by decide +kernel
theorem dX7_error_6 : decode cX7_error 6 = .ok (.ifCond .ne 8, 3) := by decide +kernel
theorem dX7_error_9 : decode cX7_error 9 = .ok (.aload_n 0, 1) := by decide +kernel
theorem dX7_error_10 : decode cX7_error 10 = .ok (.getfield 248, 3) := by decide +kernel
theorem dX7_error_13 : decode cX7_error 13 = .ok (.ireturn, 1) := by decide +kernel
theorem dX7_error_14 : decode cX7_error 14 = .ok (.iload_n 1, 1) := by decide +kernel
theorem dX7_error_15 : decode cX7_error 15 = .ok (.aload_n 0, 1) := by decide +kernel
theorem dX7_error_16 : decode cX7_error 16 = .ok (.getfield 248, 3) := by decide +kernel
theorem dX7_error_19 : decode cX7_error 19 = .ok (.invokestatic 227, 3) := by decide +kernel
theorem dX7_error_22 : decode cX7_error 22 = .ok (.iload_n 2, 1) := by decide +kernel
theorem dX7_error_23 : decode cX7_error 23 = .ok (.iconst 2, 1) := by decide +kernel
theorem dX7_error_24 : decode cX7_error 24 = .ok (.invokestatic 230, 3) := by decide +kernel
theorem dX7_error_27 : decode cX7_error 27 = .ok (.aload_n 0, 1) := by decide +kernel
theorem dX7_error_28 : decode cX7_error 28 = .ok (.getfield 45, 3) := by decide +kernel
theorem dX7_error_31 : decode cX7_error 31 = .ok (.iload_n 1, 1) := by decide +kernel
theorem dX7_error_32 : decode cX7_error 32 = .ok (.iaload, 1) := by decide +kernel
theorem dX7_error_33 : decode cX7_error 33 = .ok (.istore_n 3, 1) := by decide +kernel
theorem dX7_error_34 : decode cX7_error 34 = .ok (.iload_n 2, 1) := by decide +kernel
theorem dX7_error_35 : decode cX7_error 35 = .ok (.ifCond .ne 10, 3) := by decide +kernel
theorem dX7_error_38 : decode cX7_error 38 = .ok (.iload_n 3, 1) := by decide +kernel
theorem dX7_error_39 : decode cX7_error 39 = .ok (.bipush 7, 2) := by decide +kernel
theorem dX7_error_41 : decode cX7_error 41 = .ok (.iand, 1) := by decide +kernel
theorem dX7_error_42 : decode cX7_error 42 = .ok (.goto 21, 3) := by decide +kernel
theorem dX7_error_45 : decode cX7_error 45 = .ok (.iload_n 2, 1) := by decide +kernel
theorem dX7_error_46 : decode cX7_error 46 = .ok (.iconst 1, 1) := by decide +kernel
theorem dX7_error_47 : decode cX7_error 47 = .ok (.if_icmp .ne 12, 3) := by decide +kernel
theorem dX7_error_50 : decode cX7_error 50 = .ok (.iload_n 3, 1) := by decide +kernel
theorem dX7_error_51 : decode cX7_error 51 = .ok (.iconst 3, 1) := by decide +kernel
theorem dX7_error_52 : decode cX7_error 52 = .ok (.ishr, 1) := by decide +kernel
theorem dX7_error_53 : decode cX7_error 53 = .ok (.bipush 31, 2) := by decide +kernel
theorem dX7_error_55 : decode cX7_error 55 = .ok (.iand, 1) := by decide +kernel
theorem dX7_error_56 : decode cX7_error 56 = .ok (.goto 7, 3) := by decide +kernel
theorem dX7_error_59 : decode cX7_error 59 = .ok (.iload_n 3, 1) := by decide +kernel
theorem dX7_error_60 : decode cX7_error 60 = .ok (.bipush 8, 2) := by decide +kernel
theorem dX7_error_62 : decode cX7_error 62 = .ok (.ishr, 1) := by decide +kernel
theorem dX7_error_63 : decode cX7_error 63 = .ok (.ireturn, 1) := by decide +kernel
noncomputable def f_X7_error  (s : CS) (p1 : Int32) (p2 : Int32) : Option (Nat ⊕ (Int32)) := if p1 = (-1) then if p2 = 0 then some (.inr (s.1 0 0 11)) else bx (f_X7_needThing s p1 (s.1 0 0 11)) (fun _ => bx (f_X7_needWhat s p2 2) (fun _ => gd (vp_in p1 80000) (lt (α := Int32) (s.1 17 4 p1.toNatClampNeg) (fun v17 => lt (α := Int32) (if p2 = 0 then (v17 &&& 7) else if p2 = 1 then ((v17 >>> ((3 : Int32) &&& 31)) &&& 31) else (v17 >>> ((8 : Int32) &&& 31))) (fun x18 => some (.inr (x18))))))) else bx (f_X7_needThing s p1 (s.1 0 0 11)) (fun _ => bx (f_X7_needWhat s p2 2) (fun _ => gd (vp_in p1 80000) (lt (α := Int32) (s.1 17 4 p1.toNatClampNeg) (fun v6 => lt (α := Int32) (if p2 = 0 then (v6 &&& 7) else if p2 = 1 then ((v6 >>> ((3 : Int32) &&& 31)) &&& 31) else (v6 >>> ((8 : Int32) &&& 31))) (fun x7 => some (.inr (x7)))))))
set_option maxHeartbeats 4000000 in
set_option maxRecDepth 100000 in
theorem c_X7_error (l : Launch) (Λ : LY) (hF : FL Λ) (σ : CS)  (s : CS) (p1 : Int32) (p2 : Int32)   {r9 : Int32} (hf : f_X7_error s p1 p2 = some (.inr r9)) : CM l yX7_error (.code yX7_error cX7_error 4 (some .int) :: TT) ({ frames := 1, cells := 0, slots := 0, locals := 21 }) Λ [.ref (ya Λ 0 0), .int p1, .int p2] (qC σ s) (qC σ s) (some (.int r9)) := by
  refine CM_intro (own := RX7) (by decide) rfl (Nat.le_of_ble_eq_true rfl) ?_
  intro Γ hg hl hΓ hE
  subst hg; subst hl
  show GG Γ (0, 0) (qC σ s) 0 [(0, .ref (ya (gl Γ) 0 0)), (1, .int p1), (2, .int p2)] []
  unfold f_X7_error at hf
  refine G_iload_n hΓ 1 dX7_error_0 rfl ?_
  refine G_iconst (v := (-1)) hΓ dX7_error_1 (by decide) ?_
  refine G_icmp_ne hΓ (tgt := 14) dX7_error_2 (by decide) (fun hc24 => ?_) (fun hc24 => ?_)
  · rw [if_neg hc24] at hf
    refine G_iload_n hΓ 1 dX7_error_14 rfl ?_
    refine G_aload_n hΓ 0 dX7_error_15 rfl ?_
    refine F_get hΓ (t := 0) (i := 0) (ci := 10) (C := RX7) (T := TX7) (N := 14) (fs7 (gl Γ) 0) (v := .int (s.1 0 0 11)) (FLi hF (t := 0) (by decide)) (fun _ _ _ => rfl) rfl rfl rfl rfl inW7 11 (by decide) (TT_cons kw_302) rfl dX7_error_16 ?_
    obtain ⟨_, hc1, hf⟩ := bx_r hf
    refine G_callS hΓ (n := 2) (As := [.int p1, .int (s.1 0 0 11)]) (σ' := (qC σ s)) (c_X7_needThing (gL Γ) (gl Γ) hF σ  s p1 (s.1 0 0 11)  hc1) rfl rfl kw_832 kw_833 kw_1 kw_834 ⟨by decide, by decide, by decide +kernel⟩ rfl rfl ⟨Nat.le_of_ble_eq_true rfl, Nat.le_of_ble_eq_true rfl⟩ rfl (Nat.le_of_ble_eq_true rfl) dX7_error_19 ⟨_, rfl⟩ rfl ?_
    refine G_iload_n hΓ 2 dX7_error_22 rfl ?_
    refine G_iconst (v := 2) hΓ dX7_error_23 (by decide) ?_
    obtain ⟨_, hc3, hf⟩ := bx_r hf
    refine G_callS hΓ (n := 2) (As := [.int p2, .int 2]) (σ' := (qC σ s)) (c_X7_needWhat (gL Γ) (gl Γ) hF σ  s p2 2  hc3) rfl rfl kw_836 kw_837 kw_1 kw_838 ⟨by decide, by decide, by decide +kernel⟩ rfl rfl ⟨Nat.le_of_ble_eq_true rfl, Nat.le_of_ble_eq_true rfl⟩ rfl (Nat.le_of_ble_eq_true rfl) dX7_error_24 ⟨_, rfl⟩ rfl ?_
    refine G_aload_n hΓ 0 dX7_error_27 rfl ?_
    refine F_get hΓ (t := 0) (i := 0) (ci := 10) (C := RX7) (T := TX7) (N := 14) (fs7 (gl Γ) 0) (v := .ref (ya (gl Γ) 17 4)) (FLi hF (t := 0) (by decide)) (fun _ _ _ => rfl) rfl rfl rfl rfl inW7 7 (by decide) (TT_cons kw_298) rfl dX7_error_28 ?_
    refine G_iload_n hΓ 1 dX7_error_31 rfl ?_
    obtain ⟨hg5, hf⟩ := gd_some hf
    refine F_ald (G_iald hΓ) (t := 17) (i := 4) (f := s.1 17 4) (FLi hF (t := 17) (by decide)) (fun _ _ _ => rfl) rfl hg5 dX7_error_32 ?_
    obtain ⟨v6, hv_v6, hf⟩ := lt_eq hf
    refine G_topi hv_v6 ?_
    refine G_istore_n hΓ [(3, .int v6), (0, .ref (ya (gl Γ) 0 0)), (1, .int p1), (2, .int p2)] dX7_error_33 (by decide) rfl ?_
    refine G_iload_n hΓ 3 dX7_error_34 rfl ?_
    obtain ⟨x7, he11, hf⟩ := lt_eq hf
    have K8 : GG Γ (0, 0) (qC σ s) 63 [(3, .int v6), (0, .ref (ya (gl Γ) 0 0)), (1, .int p1), (2, .int p2)] [.int x7] := by
      cases hf
      exact G_iret hΓ hE dX7_error_63
    have he := he11
    refine G_if_ne hΓ (tgt := 45) dX7_error_35 (by decide) (fun hc10 => ?_) (fun hc10 => ?_)
    · rw [if_neg hc10] at he
      refine G_iload_n hΓ 3 dX7_error_45 rfl ?_
      refine G_iconst (v := 1) hΓ dX7_error_46 (by decide) ?_
      refine G_icmp_ne hΓ (tgt := 59) dX7_error_47 (by decide) (fun hc9 => ?_) (fun hc9 => ?_)
      · rw [if_neg hc9] at he
        refine G_iload_n hΓ 0 dX7_error_59 rfl ?_
        refine G_bipush (v := 8) hΓ dX7_error_60 (by decide) ?_
        refine G_ishr hΓ dX7_error_62 ?_
        subst he
        exact K8
      · rw [if_pos hc9] at he
        refine G_iload_n hΓ 0 dX7_error_50 rfl ?_
        refine G_iconst (v := 3) hΓ dX7_error_51 (by decide) ?_
        refine G_ishr hΓ dX7_error_52 ?_
        refine G_bipush (v := 31) hΓ dX7_error_53 (by decide) ?_
        refine G_iand hΓ dX7_error_55 ?_
        refine G_goto hΓ (tgt := 63) dX7_error_56 (by decide) ?_
        subst he
        exact K8
    · rw [if_pos hc10] at he
      refine G_iload_n hΓ 0 dX7_error_38 rfl ?_
      refine G_bipush (v := 7) hΓ dX7_error_39 (by decide) ?_
      refine G_iand hΓ dX7_error_41 ?_
      refine G_goto hΓ (tgt := 63) dX7_error_42 (by decide) ?_
      subst he
      exact K8
  · rw [if_pos hc24] at hf
    refine G_iload_n hΓ 2 dX7_error_5 rfl ?_
    refine G_if_ne hΓ (tgt := 14) dX7_error_6 (by decide) (fun hc23 => ?_) (fun hc23 => ?_)
    · rw [if_neg hc23] at hf
      refine G_iload_n hΓ 1 dX7_error_14 rfl ?_
      refine G_aload_n hΓ 0 dX7_error_15 rfl ?_
      refine F_get hΓ (t := 0) (i := 0) (ci := 10) (C := RX7) (T := TX7) (N := 14) (fs7 (gl Γ) 0) (v := .int (s.1 0 0 11)) (FLi hF (t := 0) (by decide)) (fun _ _ _ => rfl) rfl rfl rfl rfl inW7 11 (by decide) (TT_cons kw_302) rfl dX7_error_16 ?_
      obtain ⟨_, hc12, hf⟩ := bx_r hf
      refine G_callS hΓ (n := 2) (As := [.int p1, .int (s.1 0 0 11)]) (σ' := (qC σ s)) (c_X7_needThing (gL Γ) (gl Γ) hF σ  s p1 (s.1 0 0 11)  hc12) rfl rfl kw_832 kw_833 kw_1 kw_834 ⟨by decide, by decide, by decide +kernel⟩ rfl rfl ⟨Nat.le_of_ble_eq_true rfl, Nat.le_of_ble_eq_true rfl⟩ rfl (Nat.le_of_ble_eq_true rfl) dX7_error_19 ⟨_, rfl⟩ rfl ?_
      refine G_iload_n hΓ 2 dX7_error_22 rfl ?_
      refine G_iconst (v := 2) hΓ dX7_error_23 (by decide) ?_
      obtain ⟨_, hc14, hf⟩ := bx_r hf
      refine G_callS hΓ (n := 2) (As := [.int p2, .int 2]) (σ' := (qC σ s)) (c_X7_needWhat (gL Γ) (gl Γ) hF σ  s p2 2  hc14) rfl rfl kw_836 kw_837 kw_1 kw_838 ⟨by decide, by decide, by decide +kernel⟩ rfl rfl ⟨Nat.le_of_ble_eq_true rfl, Nat.le_of_ble_eq_true rfl⟩ rfl (Nat.le_of_ble_eq_true rfl) dX7_error_24 ⟨_, rfl⟩ rfl ?_
      refine G_aload_n hΓ 0 dX7_error_27 rfl ?_
      refine F_get hΓ (t := 0) (i := 0) (ci := 10) (C := RX7) (T := TX7) (N := 14) (fs7 (gl Γ) 0) (v := .ref (ya (gl Γ) 17 4)) (FLi hF (t := 0) (by decide)) (fun _ _ _ => rfl) rfl rfl rfl rfl inW7 7 (by decide) (TT_cons kw_298) rfl dX7_error_28 ?_
      refine G_iload_n hΓ 1 dX7_error_31 rfl ?_
      obtain ⟨hg16, hf⟩ := gd_some hf
      refine F_ald (G_iald hΓ) (t := 17) (i := 4) (f := s.1 17 4) (FLi hF (t := 17) (by decide)) (fun _ _ _ => rfl) rfl hg16 dX7_error_32 ?_
      obtain ⟨v17, hv_v17, hf⟩ := lt_eq hf
      refine G_topi hv_v17 ?_
      refine G_istore_n hΓ [(3, .int v17), (0, .ref (ya (gl Γ) 0 0)), (1, .int p1), (2, .int p2)] dX7_error_33 (by decide) rfl ?_
      refine G_iload_n hΓ 3 dX7_error_34 rfl ?_
      obtain ⟨x18, he22, hf⟩ := lt_eq hf
      have K19 : GG Γ (0, 0) (qC σ s) 63 [(3, .int v17), (0, .ref (ya (gl Γ) 0 0)), (1, .int p1), (2, .int p2)] [.int x18] := by
        cases hf
        exact G_iret hΓ hE dX7_error_63
      have he := he22
      refine G_if_ne hΓ (tgt := 45) dX7_error_35 (by decide) (fun hc21 => ?_) (fun hc21 => ?_)
      · rw [if_neg hc21] at he
        refine G_iload_n hΓ 3 dX7_error_45 rfl ?_
        refine G_iconst (v := 1) hΓ dX7_error_46 (by decide) ?_
        refine G_icmp_ne hΓ (tgt := 59) dX7_error_47 (by decide) (fun hc20 => ?_) (fun hc20 => ?_)
        · rw [if_neg hc20] at he
          refine G_iload_n hΓ 0 dX7_error_59 rfl ?_
          refine G_bipush (v := 8) hΓ dX7_error_60 (by decide) ?_
          refine G_ishr hΓ dX7_error_62 ?_
          subst he
          exact K19
        · rw [if_pos hc20] at he
          refine G_iload_n hΓ 0 dX7_error_50 rfl ?_
          refine G_iconst (v := 3) hΓ dX7_error_51 (by decide) ?_
          refine G_ishr hΓ dX7_error_52 ?_
          refine G_bipush (v := 31) hΓ dX7_error_53 (by decide) ?_
          refine G_iand hΓ dX7_error_55 ?_
          refine G_goto hΓ (tgt := 63) dX7_error_56 (by decide) ?_
          subst he
          exact K19
      · rw [if_pos hc21] at he
        refine G_iload_n hΓ 0 dX7_error_38 rfl ?_
        refine G_bipush (v := 7) hΓ dX7_error_39 (by decide) ?_
        refine G_iand hΓ dX7_error_41 ?_
        refine G_goto hΓ (tgt := 63) dX7_error_42 (by decide) ?_
        subst he
        exact K19
    · rw [if_pos hc23] at hf
      refine G_aload_n hΓ 0 dX7_error_9 rfl ?_
      refine F_get hΓ (t := 0) (i := 0) (ci := 10) (C := RX7) (T := TX7) (N := 14) (fs7 (gl Γ) 0) (v := .int (s.1 0 0 11)) (FLi hF (t := 0) (by decide)) (fun _ _ _ => rfl) rfl rfl rfl rfl inW7 11 (by decide) (TT_cons kw_302) rfl dX7_error_10 ?_
      cases hf
      exact G_iret hΓ hE dX7_error_13
set_option maxHeartbeats 4000000 in
set_option maxRecDepth 100000 in
theorem t_X7_error (l : Launch) (hst : l.stackTraces = false) (Λ : LY) (hF : FL Λ) (σ : CS)  (s : CS) (p1 : Int32) (p2 : Int32)   {e9 : Nat} (hf : f_X7_error s p1 p2 = some (.inl e9)) : CT l yX7_error (.code yX7_error cX7_error 4 (some .int) :: TT) ({ frames := 8, cells := 1, slots := 6, locals := 141 }) Λ [.ref (ya Λ 0 0), .int p1, .int p2] (qC σ s) (xn e9) := by
  refine CT_intro hst (own := RX7) (by decide) rfl (Nat.le_of_ble_eq_true rfl) rfl rfl ?_
  intro Γ hg hl hΓ hT
  subst hg; subst hl
  show GG Γ (0, 0) (qC σ s) 0 [(0, .ref (ya (gl Γ) 0 0)), (1, .int p1), (2, .int p2)] []
  unfold f_X7_error at hf
  refine G_iload_n hΓ 1 dX7_error_0 rfl ?_
  refine G_iconst (v := (-1)) hΓ dX7_error_1 (by decide) ?_
  refine G_icmp_ne hΓ (tgt := 14) dX7_error_2 (by decide) (fun hc24 => ?_) (fun hc24 => ?_)
  · rw [if_neg hc24] at hf
    refine G_iload_n hΓ 1 dX7_error_14 rfl ?_
    refine G_aload_n hΓ 0 dX7_error_15 rfl ?_
    refine F_get hΓ (t := 0) (i := 0) (ci := 10) (C := RX7) (T := TX7) (N := 14) (fs7 (gl Γ) 0) (v := .int (s.1 0 0 11)) (FLi hF (t := 0) (by decide)) (fun _ _ _ => rfl) rfl rfl rfl rfl inW7 11 (by decide) (TT_cons kw_302) rfl dX7_error_16 ?_
    rcases bx_l hf with hcx2 | ⟨_, hc1, hf⟩
    · exact G_callSX hΓ hT (n := 2) (As := [.int p1, .int (s.1 0 0 11)]) (t_X7_needThing (gL Γ) hst (gl Γ) hF σ  s p1 (s.1 0 0 11)  hcx2) kw_832 kw_833 kw_1 kw_834 ⟨by decide, by decide, by decide +kernel⟩ rfl rfl ⟨Nat.le_of_ble_eq_true rfl, Nat.le_of_ble_eq_true rfl⟩ rfl (Nat.le_of_ble_eq_true rfl) dX7_error_19
    refine G_callS hΓ (n := 2) (As := [.int p1, .int (s.1 0 0 11)]) (σ' := (qC σ s)) (c_X7_needThing (gL Γ) (gl Γ) hF σ  s p1 (s.1 0 0 11)  hc1) rfl rfl kw_832 kw_833 kw_1 kw_834 ⟨by decide, by decide, by decide +kernel⟩ rfl rfl ⟨Nat.le_of_ble_eq_true rfl, Nat.le_of_ble_eq_true rfl⟩ rfl (Nat.le_of_ble_eq_true rfl) dX7_error_19 ⟨_, rfl⟩ rfl ?_
    refine G_iload_n hΓ 2 dX7_error_22 rfl ?_
    refine G_iconst (v := 2) hΓ dX7_error_23 (by decide) ?_
    rcases bx_l hf with hcx4 | ⟨_, hc3, hf⟩
    · exact G_callSX hΓ hT (n := 2) (As := [.int p2, .int 2]) (t_X7_needWhat (gL Γ) hst (gl Γ) hF σ  s p2 2  hcx4) kw_836 kw_837 kw_1 kw_838 ⟨by decide, by decide, by decide +kernel⟩ rfl rfl ⟨Nat.le_of_ble_eq_true rfl, Nat.le_of_ble_eq_true rfl⟩ rfl (Nat.le_of_ble_eq_true rfl) dX7_error_24
    refine G_callS hΓ (n := 2) (As := [.int p2, .int 2]) (σ' := (qC σ s)) (c_X7_needWhat (gL Γ) (gl Γ) hF σ  s p2 2  hc3) rfl rfl kw_836 kw_837 kw_1 kw_838 ⟨by decide, by decide, by decide +kernel⟩ rfl rfl ⟨Nat.le_of_ble_eq_true rfl, Nat.le_of_ble_eq_true rfl⟩ rfl (Nat.le_of_ble_eq_true rfl) dX7_error_24 ⟨_, rfl⟩ rfl ?_
    refine G_aload_n hΓ 0 dX7_error_27 rfl ?_
    refine F_get hΓ (t := 0) (i := 0) (ci := 10) (C := RX7) (T := TX7) (N := 14) (fs7 (gl Γ) 0) (v := .ref (ya (gl Γ) 17 4)) (FLi hF (t := 0) (by decide)) (fun _ _ _ => rfl) rfl rfl rfl rfl inW7 7 (by decide) (TT_cons kw_298) rfl dX7_error_28 ?_
    refine G_iload_n hΓ 1 dX7_error_31 rfl ?_
    obtain ⟨hg5, hf⟩ := gd_some hf
    refine F_ald (G_iald hΓ) (t := 17) (i := 4) (f := s.1 17 4) (FLi hF (t := 17) (by decide)) (fun _ _ _ => rfl) rfl hg5 dX7_error_32 ?_
    obtain ⟨v6, hv_v6, hf⟩ := lt_eq hf
    refine G_topi hv_v6 ?_
    refine G_istore_n hΓ [(3, .int v6), (0, .ref (ya (gl Γ) 0 0)), (1, .int p1), (2, .int p2)] dX7_error_33 (by decide) rfl ?_
    refine G_iload_n hΓ 3 dX7_error_34 rfl ?_
    obtain ⟨x7, he11, hf⟩ := lt_eq hf
    have K8 : GG Γ (0, 0) (qC σ s) 63 [(3, .int v6), (0, .ref (ya (gl Γ) 0 0)), (1, .int p1), (2, .int p2)] [.int x7] := by
      cases hf
    have he := he11
    refine G_if_ne hΓ (tgt := 45) dX7_error_35 (by decide) (fun hc10 => ?_) (fun hc10 => ?_)
    · rw [if_neg hc10] at he
      refine G_iload_n hΓ 3 dX7_error_45 rfl ?_
      refine G_iconst (v := 1) hΓ dX7_error_46 (by decide) ?_
      refine G_icmp_ne hΓ (tgt := 59) dX7_error_47 (by decide) (fun hc9 => ?_) (fun hc9 => ?_)
      · rw [if_neg hc9] at he
        refine G_iload_n hΓ 0 dX7_error_59 rfl ?_
        refine G_bipush (v := 8) hΓ dX7_error_60 (by decide) ?_
        refine G_ishr hΓ dX7_error_62 ?_
        subst he
        exact K8
      · rw [if_pos hc9] at he
        refine G_iload_n hΓ 0 dX7_error_50 rfl ?_
        refine G_iconst (v := 3) hΓ dX7_error_51 (by decide) ?_
        refine G_ishr hΓ dX7_error_52 ?_
        refine G_bipush (v := 31) hΓ dX7_error_53 (by decide) ?_
        refine G_iand hΓ dX7_error_55 ?_
        refine G_goto hΓ (tgt := 63) dX7_error_56 (by decide) ?_
        subst he
        exact K8
    · rw [if_pos hc10] at he
      refine G_iload_n hΓ 0 dX7_error_38 rfl ?_
      refine G_bipush (v := 7) hΓ dX7_error_39 (by decide) ?_
      refine G_iand hΓ dX7_error_41 ?_
      refine G_goto hΓ (tgt := 63) dX7_error_42 (by decide) ?_
      subst he
      exact K8
  · rw [if_pos hc24] at hf
    refine G_iload_n hΓ 2 dX7_error_5 rfl ?_
    refine G_if_ne hΓ (tgt := 14) dX7_error_6 (by decide) (fun hc23 => ?_) (fun hc23 => ?_)
    · rw [if_neg hc23] at hf
      refine G_iload_n hΓ 1 dX7_error_14 rfl ?_
      refine G_aload_n hΓ 0 dX7_error_15 rfl ?_
      refine F_get hΓ (t := 0) (i := 0) (ci := 10) (C := RX7) (T := TX7) (N := 14) (fs7 (gl Γ) 0) (v := .int (s.1 0 0 11)) (FLi hF (t := 0) (by decide)) (fun _ _ _ => rfl) rfl rfl rfl rfl inW7 11 (by decide) (TT_cons kw_302) rfl dX7_error_16 ?_
      rcases bx_l hf with hcx13 | ⟨_, hc12, hf⟩
      · exact G_callSX hΓ hT (n := 2) (As := [.int p1, .int (s.1 0 0 11)]) (t_X7_needThing (gL Γ) hst (gl Γ) hF σ  s p1 (s.1 0 0 11)  hcx13) kw_832 kw_833 kw_1 kw_834 ⟨by decide, by decide, by decide +kernel⟩ rfl rfl ⟨Nat.le_of_ble_eq_true rfl, Nat.le_of_ble_eq_true rfl⟩ rfl (Nat.le_of_ble_eq_true rfl) dX7_error_19
      refine G_callS hΓ (n := 2) (As := [.int p1, .int (s.1 0 0 11)]) (σ' := (qC σ s)) (c_X7_needThing (gL Γ) (gl Γ) hF σ  s p1 (s.1 0 0 11)  hc12) rfl rfl kw_832 kw_833 kw_1 kw_834 ⟨by decide, by decide, by decide +kernel⟩ rfl rfl ⟨Nat.le_of_ble_eq_true rfl, Nat.le_of_ble_eq_true rfl⟩ rfl (Nat.le_of_ble_eq_true rfl) dX7_error_19 ⟨_, rfl⟩ rfl ?_
      refine G_iload_n hΓ 2 dX7_error_22 rfl ?_
      refine G_iconst (v := 2) hΓ dX7_error_23 (by decide) ?_
      rcases bx_l hf with hcx15 | ⟨_, hc14, hf⟩
      · exact G_callSX hΓ hT (n := 2) (As := [.int p2, .int 2]) (t_X7_needWhat (gL Γ) hst (gl Γ) hF σ  s p2 2  hcx15) kw_836 kw_837 kw_1 kw_838 ⟨by decide, by decide, by decide +kernel⟩ rfl rfl ⟨Nat.le_of_ble_eq_true rfl, Nat.le_of_ble_eq_true rfl⟩ rfl (Nat.le_of_ble_eq_true rfl) dX7_error_24
      refine G_callS hΓ (n := 2) (As := [.int p2, .int 2]) (σ' := (qC σ s)) (c_X7_needWhat (gL Γ) (gl Γ) hF σ  s p2 2  hc14) rfl rfl kw_836 kw_837 kw_1 kw_838 ⟨by decide, by decide, by decide +kernel⟩ rfl rfl ⟨Nat.le_of_ble_eq_true rfl, Nat.le_of_ble_eq_true rfl⟩ rfl (Nat.le_of_ble_eq_true rfl) dX7_error_24 ⟨_, rfl⟩ rfl ?_
      refine G_aload_n hΓ 0 dX7_error_27 rfl ?_
      refine F_get hΓ (t := 0) (i := 0) (ci := 10) (C := RX7) (T := TX7) (N := 14) (fs7 (gl Γ) 0) (v := .ref (ya (gl Γ) 17 4)) (FLi hF (t := 0) (by decide)) (fun _ _ _ => rfl) rfl rfl rfl rfl inW7 7 (by decide) (TT_cons kw_298) rfl dX7_error_28 ?_
      refine G_iload_n hΓ 1 dX7_error_31 rfl ?_
      obtain ⟨hg16, hf⟩ := gd_some hf
      refine F_ald (G_iald hΓ) (t := 17) (i := 4) (f := s.1 17 4) (FLi hF (t := 17) (by decide)) (fun _ _ _ => rfl) rfl hg16 dX7_error_32 ?_
      obtain ⟨v17, hv_v17, hf⟩ := lt_eq hf
      refine G_topi hv_v17 ?_
      refine G_istore_n hΓ [(3, .int v17), (0, .ref (ya (gl Γ) 0 0)), (1, .int p1), (2, .int p2)] dX7_error_33 (by decide) rfl ?_
      refine G_iload_n hΓ 3 dX7_error_34 rfl ?_
      obtain ⟨x18, he22, hf⟩ := lt_eq hf
      have K19 : GG Γ (0, 0) (qC σ s) 63 [(3, .int v17), (0, .ref (ya (gl Γ) 0 0)), (1, .int p1), (2, .int p2)] [.int x18] := by
        cases hf
      have he := he22
      refine G_if_ne hΓ (tgt := 45) dX7_error_35 (by decide) (fun hc21 => ?_) (fun hc21 => ?_)
      · rw [if_neg hc21] at he
        refine G_iload_n hΓ 3 dX7_error_45 rfl ?_
        refine G_iconst (v := 1) hΓ dX7_error_46 (by decide) ?_
        refine G_icmp_ne hΓ (tgt := 59) dX7_error_47 (by decide) (fun hc20 => ?_) (fun hc20 => ?_)
        · rw [if_neg hc20] at he
          refine G_iload_n hΓ 0 dX7_error_59 rfl ?_
          refine G_bipush (v := 8) hΓ dX7_error_60 (by decide) ?_
          refine G_ishr hΓ dX7_error_62 ?_
          subst he
          exact K19
        · rw [if_pos hc20] at he
          refine G_iload_n hΓ 0 dX7_error_50 rfl ?_
          refine G_iconst (v := 3) hΓ dX7_error_51 (by decide) ?_
          refine G_ishr hΓ dX7_error_52 ?_
          refine G_bipush (v := 31) hΓ dX7_error_53 (by decide) ?_
          refine G_iand hΓ dX7_error_55 ?_
          refine G_goto hΓ (tgt := 63) dX7_error_56 (by decide) ?_
          subst he
          exact K19
      · rw [if_pos hc21] at he
        refine G_iload_n hΓ 0 dX7_error_38 rfl ?_
        refine G_bipush (v := 7) hΓ dX7_error_39 (by decide) ?_
        refine G_iand hΓ dX7_error_41 ?_
        refine G_goto hΓ (tgt := 63) dX7_error_42 (by decide) ?_
        subst he
        exact K19
    · rw [if_pos hc23] at hf
      refine G_aload_n hΓ 0 dX7_error_9 rfl ?_
      refine F_get hΓ (t := 0) (i := 0) (ci := 10) (C := RX7) (T := TX7) (N := 14) (fs7 (gl Γ) 0) (v := .int (s.1 0 0 11)) (FLi hF (t := 0) (by decide)) (fun _ _ _ => rfl) rfl rfl rfl rfl inW7 11 (by decide) (TT_cons kw_302) rfl dX7_error_10 ?_
      cases hf
