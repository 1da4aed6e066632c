theorem dX8_thrown_0 : decode cX8_thrown 0 = .ok (.aload_n 0, 1) := by decide +kernel
theorem dX8_thrown_1 : decode cX8_thrown 1 = .ok (.getfield 113, 3) := by decide +kernel
theorem dX8_thrown_4 : decode cX8_thrown 4 = .ok (.ireturn, 1) := by decide +kernel
noncomputable def f_X8_thrown  (v : Nat → Int32)  : Option (Int32) := some (v 0)
set_option maxHeartbeats 4000000 in
set_option maxRecDepth 100000 in
theorem c_X8_thrown (l : Launch) (Λ : LY) (hF : FM Λ) (σ : CS)  (v : Nat → Int32) (m : Nat → Nat → Int32)    {r9 : Int32} (hf : f_X8_thrown v = some r9) : CM l yX8_thrown (.code yX8_thrown cX8_thrown 1 (some .int) :: TT) ({ frames := 0, cells := 0, slots := 0, locals := 0 }) Λ [.ref (ya Λ 18 0)] (qM σ v m) (qM σ v m) (some (.int r9)) := by
  refine CM_intro (own := RX8) (by decide) rfl (Nat.le_of_ble_eq_true rfl) ?_
  intro Γ hg hl hΓ hE
  subst hg; subst hl
  show GG Γ (0, 0) (qM σ v m) 0 [(0, .ref (ya (gl Γ) 18 0))] []
  unfold f_X8_thrown at hf
  refine G_aload_n hΓ 0 dX8_thrown_0 rfl ?_
  refine F_get hΓ (t := 18) (i := 0) (ci := 11) (C := RX8) (T := TX8) (N := 47) (fs8 (gl Γ) 0) (v := .int (v 0)) (FMi hF (t := 18) (by decide)) (fun _ _ _ => rfl) rfl rfl rfl rfl inW8 0 (by decide) (TT_cons kw_880) rfl dX8_thrown_1 ?_
  cases hf
  exact G_iret hΓ hE dX8_thrown_4
theorem dX8_octetsOf_0 : decode cX8_octetsOf 0 = .ok (.iload_n 0, 1) := by decide +kernel
theorem dX8_octetsOf_1 : decode cX8_octetsOf 1 = .ok (.iconst 3, 1) := by decide +kernel
theorem dX8_octetsOf_2 : decode cX8_octetsOf 2 = .ok (.if_icmp .le 5, 3) := by decide +kernel
theorem dX8_octetsOf_5 : decode cX8_octetsOf 5 = .ok (.iconst 0, 1) := by decide +kernel
theorem dX8_octetsOf_6 : decode cX8_octetsOf 6 = .ok (.ireturn, 1) := by decide +kernel
theorem dX8_octetsOf_7 : decode cX8_octetsOf 7 = .ok (.iload_n 0, 1) := by decide +kernel
theorem dX8_octetsOf_8 : decode cX8_octetsOf 8 = .ok (.iconst 2, 1) := by decide +kernel
theorem dX8_octetsOf_9 : decode cX8_octetsOf 9 = .ok (.if_icmp .ge 16, 3) := by decide +kernel
theorem dX8_octetsOf_12 : decode cX8_octetsOf 12 = .ok (.iload_n 1, 1) := by decide +kernel
theorem dX8_octetsOf_13 : decode cX8_octetsOf 13 = .ok (.bipush 8, 2) := by decide +kernel
theorem dX8_octetsOf_15 : decode cX8_octetsOf 15 = .ok (.if_icmp .le 8, 3) := by decide +kernel
theorem dX8_octetsOf_18 : decode cX8_octetsOf 18 = .ok (.bipush 8, 2) := by decide +kernel
theorem dX8_octetsOf_20 : decode cX8_octetsOf 20 = .ok (.goto 4, 3) := by decide +kernel
theorem dX8_octetsOf_23 : decode cX8_octetsOf 23 = .ok (.iload_n 1, 1) := by decide +kernel
theorem dX8_octetsOf_24 : decode cX8_octetsOf 24 = .ok (.ireturn, 1) := by decide +kernel
theorem dX8_octetsOf_25 : decode cX8_octetsOf 25 = .ok (.iload_n 1, 1) := by decide +kernel
theorem dX8_octetsOf_26 : decode cX8_octetsOf 26 = .ok (.bipush 9, 2) := by decide +kernel
theorem dX8_octetsOf_28 : decode cX8_octetsOf 28 = .ok (.if_icmp .ge 7, 3) := by decide +kernel
theorem dX8_octetsOf_31 : decode cX8_octetsOf 31 = .ok (.iload_n 1, 1) := by decide +kernel
theorem dX8_octetsOf_32 : decode cX8_octetsOf 32 = .ok (.goto 71, 3) := by decide +kernel
theorem dX8_octetsOf_35 : decode cX8_octetsOf 35 = .ok (.iload_n 1, 1) := by decide +kernel
theorem dX8_octetsOf_36 : decode cX8_octetsOf 36 = .ok (.bipush 9, 2) := by decide +kernel
theorem dX8_octetsOf_38 : decode cX8_octetsOf 38 = .ok (.if_icmp .ne 8, 3) := by decide +kernel
theorem dX8_octetsOf_41 : decode cX8_octetsOf 41 = .ok (.bipush 12, 2) := by decide +kernel
theorem dX8_octetsOf_43 : decode cX8_octetsOf 43 = .ok (.goto 60, 3) := by decide +kernel
theorem dX8_octetsOf_46 : decode cX8_octetsOf 46 = .ok (.iload_n 1, 1) := by decide +kernel
theorem dX8_octetsOf_47 : decode cX8_octetsOf 47 = .ok (.bipush 10, 2) := by decide +kernel
theorem dX8_octetsOf_49 : decode cX8_octetsOf 49 = .ok (.if_icmp .ne 8, 3) := by decide +kernel
theorem dX8_octetsOf_52 : decode cX8_octetsOf 52 = .ok (.bipush 16, 2) := by decide +kernel
theorem dX8_octetsOf_54 : decode cX8_octetsOf 54 = .ok (.goto 49, 3) := by decide +kernel
theorem dX8_octetsOf_57 : decode cX8_octetsOf 57 = .ok (.iload_n 1, 1) := by decide +kernel
theorem dX8_octetsOf_58 : decode cX8_octetsOf 58 = .ok (.bipush 11, 2) := by decide +kernel
theorem dX8_octetsOf_60 : decode cX8_octetsOf 60 = .ok (.if_icmp .ne 8, 3) := by decide +kernel
theorem dX8_octetsOf_63 : decode cX8_octetsOf 63 = .ok (.bipush 20, 2) := by decide +kernel
theorem dX8_octetsOf_65 : decode cX8_octetsOf 65 = .ok (.goto 38, 3) := by decide +kernel
theorem dX8_octetsOf_68 : decode cX8_octetsOf 68 = .ok (.iload_n 1, 1) := by decide +kernel
theorem dX8_octetsOf_69 : decode cX8_octetsOf 69 = .ok (.bipush 12, 2) := by decide +kernel
theorem dX8_octetsOf_71 : decode cX8_octetsOf 71 = .ok (.if_icmp .ne 8, 3) := by decide +kernel
theorem dX8_octetsOf_74 : decode cX8_octetsOf 74 = .ok (.bipush 24, 2) := by decide +kernel
theorem dX8_octetsOf_76 : decode cX8_octetsOf 76 = .ok (.goto 27, 3) := by decide +kernel
theorem dX8_octetsOf_79 : decode cX8_octetsOf 79 = .ok (.iload_n 1, 1) := by decide +kernel
theorem dX8_octetsOf_80 : decode cX8_octetsOf 80 = .ok (.bipush 13, 2) := by decide +kernel
theorem dX8_octetsOf_82 : decode cX8_octetsOf 82 = .ok (.if_icmp .ne 8, 3) := by decide +kernel
theorem dX8_octetsOf_85 : decode cX8_octetsOf 85 = .ok (.bipush 32, 2) := by decide +kernel
theorem dX8_octetsOf_87 : decode cX8_octetsOf 87 = .ok (.goto 16, 3) := by decide +kernel
theorem dX8_octetsOf_90 : decode cX8_octetsOf 90 = .ok (.iload_n 1, 1) := by decide +kernel
theorem dX8_octetsOf_91 : decode cX8_octetsOf 91 = .ok (.bipush 14, 2) := by decide +kernel
theorem dX8_octetsOf_93 : decode cX8_octetsOf 93 = .ok (.if_icmp .ne 8, 3) := by decide +kernel
theorem dX8_octetsOf_96 : decode cX8_octetsOf 96 = .ok (.bipush 48, 2) := by decide +kernel
theorem dX8_octetsOf_98 : decode cX8_octetsOf 98 = .ok (.goto 5, 3) := by decide +kernel
theorem dX8_octetsOf_101 : decode cX8_octetsOf 101 = .ok (.bipush 64, 2) := by decide +kernel
theorem dX8_octetsOf_103 : decode cX8_octetsOf 103 = .ok (.ireturn, 1) := by decide +kernel
noncomputable def f_X8_octetsOf   (p1 : Int32) (p2 : Int32) : Option (Int32) := if p1 ≤ 3 then if 2 ≤ p1 then lt (α := Int32) (if 9 ≤ p2 then if p2 = 9 then 12 else if p2 = 10 then 16 else if p2 = 11 then 20 else if p2 = 12 then 24 else if p2 = 13 then 32 else if p2 = 14 then 48 else 64 else p2) (fun x1 => some (x1)) else lt (α := Int32) (if p2 ≤ 8 then p2 else 8) (fun x11 => some (x11)) else some (0)
set_option maxHeartbeats 4000000 in
set_option maxRecDepth 100000 in
theorem c_X8_octetsOf (l : Launch) (Λ : LY) (hF : FM Λ) (σ : CS)   (p1 : Int32) (p2 : Int32)   {r9 : Int32} (hf : f_X8_octetsOf p1 p2 = some r9) : CM l yX8_octetsOf (.code yX8_octetsOf cX8_octetsOf 2 (some .int) :: TT) ({ frames := 0, cells := 0, slots := 0, locals := 0 }) Λ [.int p1, .int p2] σ σ (some (.int r9)) := by
  refine CM_intro (own := RX8) (by decide) rfl (Nat.le_of_ble_eq_true rfl) ?_
  intro Γ hg hl hΓ hE
  subst hg; subst hl
  show GG Γ (0, 0) σ 0 [(0, .int p1), (1, .int p2)] []
  unfold f_X8_octetsOf at hf
  refine G_iload_n hΓ 0 dX8_octetsOf_0 rfl ?_
  refine G_iconst (v := 3) hΓ dX8_octetsOf_1 (by decide) ?_
  refine G_icmp_le hΓ (tgt := 7) dX8_octetsOf_2 (by decide) (fun hc16 => ?_) (fun hc16 => ?_)
  · rw [if_pos hc16] at hf
    refine G_iload_n hΓ 0 dX8_octetsOf_7 rfl ?_
    refine G_iconst (v := 2) hΓ dX8_octetsOf_8 (by decide) ?_
    refine G_icmp_ge hΓ (tgt := 25) dX8_octetsOf_9 (by decide) (fun hc15 => ?_) (fun hc15 => ?_)
    · rw [if_pos hc15] at hf
      refine G_iload_n hΓ 1 dX8_octetsOf_25 rfl ?_
      refine G_bipush (v := 9) hΓ dX8_octetsOf_26 (by decide) ?_
      obtain ⟨x1, he10, hf⟩ := lt_eq hf
      have K2 : GG Γ (0, 0) σ 103 [(0, .int p1), (1, .int p2)] [.int x1] := by
        cases hf
        exact G_iret hΓ hE dX8_octetsOf_103
      have he := he10
      refine G_icmp_ge hΓ (tgt := 35) dX8_octetsOf_28 (by decide) (fun hc9 => ?_) (fun hc9 => ?_)
      · rw [if_pos hc9] at he
        refine G_iload_n hΓ 1 dX8_octetsOf_35 rfl ?_
        refine G_bipush (v := 9) hΓ dX8_octetsOf_36 (by decide) ?_
        refine G_icmp_ne hΓ (tgt := 46) dX8_octetsOf_38 (by decide) (fun hc8 => ?_) (fun hc8 => ?_)
        · rw [if_neg hc8] at he
          refine G_iload_n hΓ 1 dX8_octetsOf_46 rfl ?_
          refine G_bipush (v := 10) hΓ dX8_octetsOf_47 (by decide) ?_
          refine G_icmp_ne hΓ (tgt := 57) dX8_octetsOf_49 (by decide) (fun hc7 => ?_) (fun hc7 => ?_)
          · rw [if_neg hc7] at he
            refine G_iload_n hΓ 1 dX8_octetsOf_57 rfl ?_
            refine G_bipush (v := 11) hΓ dX8_octetsOf_58 (by decide) ?_
            refine G_icmp_ne hΓ (tgt := 68) dX8_octetsOf_60 (by decide) (fun hc6 => ?_) (fun hc6 => ?_)
            · rw [if_neg hc6] at he
              refine G_iload_n hΓ 1 dX8_octetsOf_68 rfl ?_
              refine G_bipush (v := 12) hΓ dX8_octetsOf_69 (by decide) ?_
              refine G_icmp_ne hΓ (tgt := 79) dX8_octetsOf_71 (by decide) (fun hc5 => ?_) (fun hc5 => ?_)
              · rw [if_neg hc5] at he
                refine G_iload_n hΓ 1 dX8_octetsOf_79 rfl ?_
                refine G_bipush (v := 13) hΓ dX8_octetsOf_80 (by decide) ?_
                refine G_icmp_ne hΓ (tgt := 90) dX8_octetsOf_82 (by decide) (fun hc4 => ?_) (fun hc4 => ?_)
                · rw [if_neg hc4] at he
                  refine G_iload_n hΓ 1 dX8_octetsOf_90 rfl ?_
                  refine G_bipush (v := 14) hΓ dX8_octetsOf_91 (by decide) ?_
                  refine G_icmp_ne hΓ (tgt := 101) dX8_octetsOf_93 (by decide) (fun hc3 => ?_) (fun hc3 => ?_)
                  · rw [if_neg hc3] at he
                    refine G_bipush (v := 64) hΓ dX8_octetsOf_101 (by decide) ?_
                    subst he
                    exact K2
                  · rw [if_pos hc3] at he
                    refine G_bipush (v := 48) hΓ dX8_octetsOf_96 (by decide) ?_
                    refine G_goto hΓ (tgt := 103) dX8_octetsOf_98 (by decide) ?_
                    subst he
                    exact K2
                · rw [if_pos hc4] at he
                  refine G_bipush (v := 32) hΓ dX8_octetsOf_85 (by decide) ?_
                  refine G_goto hΓ (tgt := 103) dX8_octetsOf_87 (by decide) ?_
                  subst he
                  exact K2
              · rw [if_pos hc5] at he
                refine G_bipush (v := 24) hΓ dX8_octetsOf_74 (by decide) ?_
                refine G_goto hΓ (tgt := 103) dX8_octetsOf_76 (by decide) ?_
                subst he
                exact K2
            · rw [if_pos hc6] at he
              refine G_bipush (v := 20) hΓ dX8_octetsOf_63 (by decide) ?_
              refine G_goto hΓ (tgt := 103) dX8_octetsOf_65 (by decide) ?_
              subst he
              exact K2
          · rw [if_pos hc7] at he
            refine G_bipush (v := 16) hΓ dX8_octetsOf_52 (by decide) ?_
            refine G_goto hΓ (tgt := 103) dX8_octetsOf_54 (by decide) ?_
            subst he
            exact K2
        · rw [if_pos hc8] at he
          refine G_bipush (v := 12) hΓ dX8_octetsOf_41 (by decide) ?_
          refine G_goto hΓ (tgt := 103) dX8_octetsOf_43 (by decide) ?_
          subst he
          exact K2
      · rw [if_neg hc9] at he
        refine G_iload_n hΓ 1 dX8_octetsOf_31 rfl ?_
        refine G_goto hΓ (tgt := 103) dX8_octetsOf_32 (by decide) ?_
        subst he
        exact K2
    · rw [if_neg hc15] at hf
      refine G_iload_n hΓ 1 dX8_octetsOf_12 rfl ?_
      refine G_bipush (v := 8) hΓ dX8_octetsOf_13 (by decide) ?_
      obtain ⟨x11, he14, hf⟩ := lt_eq hf
      have K12 : GG Γ (0, 0) σ 24 [(0, .int p1), (1, .int p2)] [.int x11] := by
        cases hf
        exact G_iret hΓ hE dX8_octetsOf_24
      have he := he14
      refine G_icmp_le hΓ (tgt := 23) dX8_octetsOf_15 (by decide) (fun hc13 => ?_) (fun hc13 => ?_)
      · rw [if_pos hc13] at he
        refine G_iload_n hΓ 1 dX8_octetsOf_23 rfl ?_
        subst he
        exact K12
      · rw [if_neg hc13] at he
        refine G_bipush (v := 8) hΓ dX8_octetsOf_18 (by decide) ?_
        refine G_goto hΓ (tgt := 24) dX8_octetsOf_20 (by decide) ?_
        subst he
        exact K12
  · rw [if_neg hc16] at hf
    refine G_iconst (v := 0) hΓ dX8_octetsOf_5 (by decide) ?_
    cases hf
    exact G_iret hΓ hE dX8_octetsOf_6
theorem dX8_noNode_0 : decode cX8_noNode 0 = .ok (.iload_n 1, 1) := by decide +kernel
theorem dX8_noNode_1 : decode cX8_noNode 1 = .ok (.ifCond .lt 11, 3) := by decide +kernel
theorem dX8_noNode_4 : decode cX8_noNode 4 = .ok (.iload_n 1, 1) := by decide +kernel
theorem dX8_noNode_5 : decode cX8_noNode 5 = .ok (.aload_n 0, 1) := by decide +kernel
theorem dX8_noNode_6 : decode cX8_noNode 6 = .ok (.getfield 7, 3) := by decide +kernel
theorem dX8_noNode_9 : decode cX8_noNode 9 = .ok (.if_icmp .lt 7, 3) := by decide +kernel
theorem dX8_noNode_12 : decode cX8_noNode 12 = .ok (.iconst 1, 1) := by decide +kernel
theorem dX8_noNode_13 : decode cX8_noNode 13 = .ok (.goto 4, 3) := by decide +kernel
theorem dX8_noNode_16 : decode cX8_noNode 16 = .ok (.iconst 0, 1) := by decide +kernel
theorem dX8_noNode_17 : decode cX8_noNode 17 = .ok (.ireturn, 1) := by decide +kernel
noncomputable def f_X8_noNode  (v : Nat → Int32) (p1 : Int32) : Option (Int32) := lt (α := Int32) (if p1 < 0 then 1 else if p1 < (v 1) then 0 else 1) (fun x1 => some (x1))
set_option maxHeartbeats 4000000 in
set_option maxRecDepth 100000 in
theorem c_X8_noNode (l : Launch) (Λ : LY) (hF : FM Λ) (σ : CS)  (v : Nat → Int32) (m : Nat → Nat → Int32) (p1 : Int32)   {r9 : Int32} (hf : f_X8_noNode v p1 = some r9) : CM l yX8_noNode (.code yX8_noNode cX8_noNode 2 (some .boolean) :: TT) ({ frames := 0, cells := 0, slots := 0, locals := 0 }) Λ [.ref (ya Λ 18 0), .int p1] (qM σ v m) (qM σ v m) (some (.int r9)) := by
  refine CM_intro (own := RX8) (by decide) rfl (Nat.le_of_ble_eq_true rfl) ?_
  intro Γ hg hl hΓ hE
  subst hg; subst hl
  show GG Γ (0, 0) (qM σ v m) 0 [(0, .ref (ya (gl Γ) 18 0)), (1, .int p1)] []
  unfold f_X8_noNode at hf
  refine G_iload_n hΓ 1 dX8_noNode_0 rfl ?_
  obtain ⟨x1, he5, hf⟩ := lt_eq hf
  have K2 : GG Γ (0, 0) (qM σ v m) 17 [(0, .ref (ya (gl Γ) 18 0)), (1, .int p1)] [.int x1] := by
    cases hf
    exact G_zret hΓ (by rw [he5]; (repeat' split) <;> rfl) hE dX8_noNode_17
  have he := he5
  refine G_if_lt hΓ (tgt := 12) dX8_noNode_1 (by decide) (fun hc4 => ?_) (fun hc4 => ?_)
  · rw [if_pos hc4] at he
    refine G_iconst (v := 1) hΓ dX8_noNode_12 (by decide) ?_
    refine G_goto hΓ (tgt := 17) dX8_noNode_13 (by decide) ?_
    subst he
    exact K2
  · rw [if_neg hc4] at he
    refine G_iload_n hΓ 1 dX8_noNode_4 rfl ?_
    refine G_aload_n hΓ 0 dX8_noNode_5 rfl ?_
    refine F_get hΓ (t := 18) (i := 0) (ci := 11) (C := RX8) (T := TX8) (N := 47) (fs8 (gl Γ) 0) (v := .int (v 1)) (FMi hF (t := 18) (by decide)) (fun _ _ _ => rfl) rfl rfl rfl rfl inW8 1 (by decide) (TT_cons kw_881) rfl dX8_noNode_6 ?_
    refine G_icmp_lt hΓ (tgt := 16) dX8_noNode_9 (by decide) (fun hc3 => ?_) (fun hc3 => ?_)
    · rw [if_pos hc3] at he
      refine G_iconst (v := 0) hΓ dX8_noNode_16 (by decide) ?_
      subst he
      exact K2
    · rw [if_neg hc3] at he
      refine G_iconst (v := 1) hΓ dX8_noNode_12 (by decide) ?_
      refine G_goto hΓ (tgt := 17) dX8_noNode_13 (by decide) ?_
      subst he
      exact K2
theorem dX8_noFrame_0 : decode cX8_noFrame 0 = .ok (.iload_n 1, 1) := by decide +kernel
theorem dX8_noFrame_1 : decode cX8_noFrame 1 = .ok (.ifCond .lt 11, 3) := by decide +kernel
theorem dX8_noFrame_4 : decode cX8_noFrame 4 = .ok (.iload_n 1, 1) := by decide +kernel
theorem dX8_noFrame_5 : decode cX8_noFrame 5 = .ok (.aload_n 0, 1) := by decide +kernel
theorem dX8_noFrame_6 : decode cX8_noFrame 6 = .ok (.getfield 119, 3) := by decide +kernel
theorem dX8_noFrame_9 : decode cX8_noFrame 9 = .ok (.if_icmp .lt 7, 3) := by decide +kernel
theorem dX8_noFrame_12 : decode cX8_noFrame 12 = .ok (.iconst 1, 1) := by decide +kernel
theorem dX8_noFrame_13 : decode cX8_noFrame 13 = .ok (.goto 4, 3) := by decide +kernel
theorem dX8_noFrame_16 : decode cX8_noFrame 16 = .ok (.iconst 0, 1) := by decide +kernel
theorem dX8_noFrame_17 : decode cX8_noFrame 17 = .ok (.ireturn, 1) := by decide +kernel
noncomputable def f_X8_noFrame  (v : Nat → Int32) (p1 : Int32) : Option (Int32) := lt (α := Int32) (if p1 < 0 then 1 else if p1 < (v 4) then 0 else 1) (fun x1 => some (x1))
set_option maxHeartbeats 4000000 in
set_option maxRecDepth 100000 in
theorem c_X8_noFrame (l : Launch) (Λ : LY) (hF : FM Λ) (σ : CS)  (v : Nat → Int32) (m : Nat → Nat → Int32) (p1 : Int32)   {r9 : Int32} (hf : f_X8_noFrame v p1 = some r9) : CM l yX8_noFrame (.code yX8_noFrame cX8_noFrame 2 (some .boolean) :: TT) ({ frames := 0, cells := 0, slots := 0, locals := 0 }) Λ [.ref (ya Λ 18 0), .int p1] (qM σ v m) (qM σ v m) (some (.int r9)) := by
  refine CM_intro (own := RX8) (by decide) rfl (Nat.le_of_ble_eq_true rfl) ?_
  intro Γ hg hl hΓ hE
  subst hg; subst hl
  show GG Γ (0, 0) (qM σ v m) 0 [(0, .ref (ya (gl Γ) 18 0)), (1, .int p1)] []
  unfold f_X8_noFrame at hf
  refine G_iload_n hΓ 1 dX8_noFrame_0 rfl ?_
  obtain ⟨x1, he5, hf⟩ := lt_eq hf
  have K2 : GG Γ (0, 0) (qM σ v m) 17 [(0, .ref (ya (gl Γ) 18 0)), (1, .int p1)] [.int x1] := by
    cases hf
    exact G_zret hΓ (by rw [he5]; (repeat' split) <;> rfl) hE dX8_noFrame_17
  have he := he5
  refine G_if_lt hΓ (tgt := 12) dX8_noFrame_1 (by decide) (fun hc4 => ?_) (fun hc4 => ?_)
  · rw [if_pos hc4] at he
    refine G_iconst (v := 1) hΓ dX8_noFrame_12 (by decide) ?_
    refine G_goto hΓ (tgt := 17) dX8_noFrame_13 (by decide) ?_
    subst he
    exact K2
  · rw [if_neg hc4] at he
    refine G_iload_n hΓ 1 dX8_noFrame_4 rfl ?_
    refine G_aload_n hΓ 0 dX8_noFrame_5 rfl ?_
    refine F_get hΓ (t := 18) (i := 0) (ci := 11) (C := RX8) (T := TX8) (N := 47) (fs8 (gl Γ) 0) (v := .int (v 4)) (FMi hF (t := 18) (by decide)) (fun _ _ _ => rfl) rfl rfl rfl rfl inW8 4 (by decide) (TT_cons kw_884) rfl dX8_noFrame_6 ?_
    refine G_icmp_lt hΓ (tgt := 16) dX8_noFrame_9 (by decide) (fun hc3 => ?_) (fun hc3 => ?_)
    · rw [if_pos hc3] at he
      refine G_iconst (v := 0) hΓ dX8_noFrame_16 (by decide) ?_
      subst he
      exact K2
    · rw [if_neg hc3] at he
      refine G_iconst (v := 1) hΓ dX8_noFrame_12 (by decide) ?_
      refine G_goto hΓ (tgt := 17) dX8_noFrame_13 (by decide) ?_
      subst he
      exact K2
theorem dX8_bits_0 : decode cX8_bits 0 = .ok (.iload_n 2, 1) := by decide +kernel
theorem dX8_bits_1 : decode cX8_bits 1 = .ok (.iconst 1, 1) := by decide +kernel
theorem dX8_bits_2 : decode cX8_bits 2 = .ok (.isub, 1) := by decide +kernel
theorem dX8_bits_3 : decode cX8_bits 3 = .ok (.istore_n 3, 1) := by decide +kernel
theorem dX8_bits_4 : decode cX8_bits 4 = .ok (.iload_n 3, 1) := by decide +kernel
theorem dX8_bits_5 : decode cX8_bits 5 = .ok (.ifCond .lt 34, 3) := by decide +kernel
theorem dX8_bits_8 : decode cX8_bits 8 = .ok (.aload_n 0, 1) := by decide +kernel
theorem dX8_bits_9 : decode cX8_bits 9 = .ok (.getfield 98, 3) := by decide +kernel
theorem dX8_bits_12 : decode cX8_bits 12 = .ok (.aload_n 0, 1) := by decide +kernel
theorem dX8_bits_13 : decode cX8_bits 13 = .ok (.getfield 143, 3) := by decide +kernel
theorem dX8_bits_16 : decode cX8_bits 16 = .ok (.iload_n 1, 1) := by decide +kernel
theorem dX8_bits_17 : decode cX8_bits 17 = .ok (.iload_n 3, 1) := by decide +kernel
theorem dX8_bits_18 : decode cX8_bits 18 = .ok (.ishr, 1) := by decide +kernel
theorem dX8_bits_19 : decode cX8_bits 19 = .ok (.iconst 1, 1) := by decide +kernel
theorem dX8_bits_20 : decode cX8_bits 20 = .ok (.iand, 1) := by decide +kernel
theorem dX8_bits_21 : decode cX8_bits 21 = .ok (.i2b, 1) := by decide +kernel
theorem dX8_bits_22 : decode cX8_bits 22 = .ok (.bastore, 1) := by decide +kernel
theorem dX8_bits_23 : decode cX8_bits 23 = .ok (.aload_n 0, 1) := by decide +kernel
theorem dX8_bits_24 : decode cX8_bits 24 = .ok (.dup, 1) := by decide +kernel
theorem dX8_bits_25 : decode cX8_bits 25 = .ok (.getfield 143, 3) := by decide +kernel
theorem dX8_bits_28 : decode cX8_bits 28 = .ok (.iconst 1, 1) := by decide +kernel
theorem dX8_bits_29 : decode cX8_bits 29 = .ok (.iadd, 1) := by decide +kernel
theorem dX8_bits_30 : decode cX8_bits 30 = .ok (.putfield 143, 3) := by decide +kernel
theorem dX8_bits_33 : decode cX8_bits 33 = .ok (.iinc 3 (-1), 3) := by decide +kernel
theorem dX8_bits_36 : decode cX8_bits 36 = .ok (.goto (-32), 3) := by decide +kernel
theorem dX8_bits_39 : decode cX8_bits 39 = .ok (.return_, 1) := by decide +kernel
noncomputable def L_X8_bits_4 (p1 : Int32) (k4 : (Nat → Int32) × (Nat → Nat → Int32) × Int32 → Option ((Nat → Int32) × (Nat → Nat → Int32))) : Nat → (Nat → Int32) → (Nat → Nat → Int32) → Int32 → Option ((Nat → Int32) × (Nat → Nat → Int32))
  | 0, _, _, _ => none
  | nn + 1, v1, v2, v3 => if v3 < 0 then k4 (v1, v2, v3) else lt (α := Int32) ((p1 >>> (v3 &&& 31)) &&& 1) (fun v6 => gd (vp_in (v1 34) 700) (L_X8_bits_4 p1 k4 nn (upd v1 34 ((v1 34) + 1)) (va_up v2 26 (upd (v2 26) ((v1 34).toNatClampNeg) (vp_nar .byte v6.toInt8.toInt32))) (v3 + (-1))))
noncomputable def f_X8_bits  (v : Nat → Int32) (m : Nat → Nat → Int32) (p1 : Int32) (p2 : Int32) : Option ((Nat → Int32) × (Nat → Nat → Int32)) := jn (α := (Nat → Int32) × (Nat → Nat → Int32) × Int32) (fun ⟨v1, v2, v3⟩ => some (v1, v2)) (fun k4 => L_X8_bits_4 p1 k4 fu v m (p2 - 1))
set_option maxHeartbeats 4000000 in
set_option maxRecDepth 100000 in
theorem c_X8_bits (l : Launch) (Λ : LY) (hF : FM Λ) (σ : CS)  (v : Nat → Int32) (m : Nat → Nat → Int32) (p1 : Int32) (p2 : Int32)   {v' : Nat → Int32} {m' : Nat → Nat → Int32} (hf : f_X8_bits v m p1 p2 = some (v', m')) : CM l yX8_bits (.code yX8_bits cX8_bits 4 none :: TT) ({ frames := 0, cells := 0, slots := 0, locals := 0 }) Λ [.ref (ya Λ 18 0), .int p1, .int p2] (qM σ v m) (qM σ v' m') (none) := by
  refine CM_intro (own := RX8) (by decide) rfl (Nat.le_of_ble_eq_true rfl) ?_
  intro Γ hg hl hΓ hE
  subst hg; subst hl
  show GG Γ (0, 0) (qM σ v m) 0 [(0, .ref (ya (gl Γ) 18 0)), (1, .int p1), (2, .int p2)] []
  unfold f_X8_bits at hf
  refine G_iload_n hΓ 2 dX8_bits_0 rfl ?_
  refine G_iconst (v := 1) hΓ dX8_bits_1 (by decide) ?_
  refine G_isub hΓ dX8_bits_2 ?_
  refine G_istore_n hΓ [(3, .int (p2 - 1)), (0, .ref (ya (gl Γ) 18 0)), (1, .int p1), (2, .int p2)] dX8_bits_3 (by decide) rfl ?_
  obtain ⟨k4, hk_k4, hf⟩ := jn_eq hf
  try dsimp only at hf
  have K5 : ∀ v1 v2 v3, k4 (v1, v2, v3) = some (v', m') → GG Γ (0, 0) (qM σ v1 v2) 39 [(3, .int v3), (0, .ref (ya (gl Γ) 18 0)), (1, .int p1), (2, .int p2)] [] := by
    intro v1 v2 v3 hf
    subst hk_k4
    try dsimp only at hf
    cases hf
    exact G_vret hΓ hE dX8_bits_39
  clear hk_k4
  have loop9 : ∀ (nn : Nat) v1 v2 v3, L_X8_bits_4 p1 k4 nn v1 v2 v3 = some (v', m') → GG Γ (0, 0) (qM σ v1 v2) 4 [(3, .int v3), (0, .ref (ya (gl Γ) 18 0)), (1, .int p1), (2, .int p2)] [] := by
    intro nn
    induction nn with
    | zero => intro v1 v2 v3 hf; cases hf
    | succ nn ih =>
      intro v1 v2 v3 hf
      rw [L_X8_bits_4] at hf
      refine G_iload_n hΓ 0 dX8_bits_4 rfl ?_
      refine G_if_lt hΓ (tgt := 39) dX8_bits_5 (by decide) (fun hc8 => ?_) (fun hc8 => ?_)
      · rw [if_pos hc8] at hf
        exact (K5 _ _ _ hf)
      · rw [if_neg hc8] at hf
        refine G_aload_n hΓ 1 dX8_bits_8 rfl ?_
        refine F_get hΓ (t := 18) (i := 0) (ci := 11) (C := RX8) (T := TX8) (N := 47) (fs8 (gl Γ) 0) (v := .ref (ya (gl Γ) 19 26)) (FMi hF (t := 18) (by decide)) (fun _ _ _ => rfl) rfl rfl rfl rfl inW8 33 (by decide) (TT_cons kw_913) rfl dX8_bits_9 ?_
        refine G_aload_n hΓ 1 dX8_bits_12 rfl ?_
        refine F_get hΓ (t := 18) (i := 0) (ci := 11) (C := RX8) (T := TX8) (N := 47) (fs8 (gl Γ) 0) (v := .int (v1 34)) (FMi hF (t := 18) (by decide)) (fun _ _ _ => rfl) rfl rfl rfl rfl inW8 34 (by decide) (TT_cons kw_914) rfl dX8_bits_13 ?_
        refine G_iload_n hΓ 2 dX8_bits_16 rfl ?_
        refine G_iload_n hΓ 0 dX8_bits_17 rfl ?_
        refine G_ishr hΓ dX8_bits_18 ?_
        refine G_iconst (v := 1) hΓ dX8_bits_19 (by decide) ?_
        refine G_iand hΓ dX8_bits_20 ?_
        obtain ⟨v6, hv_v6, hf⟩ := lt_eq hf
        refine G_topi hv_v6 ?_
        refine G_i2b hΓ dX8_bits_21 ?_
        obtain ⟨hg7, hf⟩ := gd_some hf
        refine F_bast hΓ (t := 19) (i := 26) (f := (v2 26)) (σ' := (qM σ v1 (va_up v2 26 (upd (v2 26) ((v1 34).toNatClampNeg) (vp_nar .byte v6.toInt8.toInt32))))) (FMi hF (t := 19) (by decide)) (fun _ _ _ => rfl) rfl qM_m hg7 dX8_bits_22 ?_
        refine G_aload_n hΓ 1 dX8_bits_23 rfl ?_
        refine G_dup hΓ dX8_bits_24 rfl ?_
        refine F_get hΓ (t := 18) (i := 0) (ci := 11) (C := RX8) (T := TX8) (N := 47) (fs8 (gl Γ) 0) (v := .int (v1 34)) (FMi hF (t := 18) (by decide)) (fun _ _ _ => rfl) rfl rfl rfl rfl inW8 34 (by decide) (TT_cons kw_914) rfl dX8_bits_25 ?_
        refine G_iconst (v := 1) hΓ dX8_bits_28 (by decide) ?_
        refine G_iadd hΓ dX8_bits_29 ?_
        refine F_put hΓ (t := 18) (i := 0) (ci := 11) (C := RX8) (T := TX8) (N := 47) (fs8 (gl Γ) 0) (f := v1) (f' := (upd v1 34 ((v1 34) + 1))) (σ' := (qM σ (upd v1 34 ((v1 34) + 1)) (va_up v2 26 (upd (v2 26) ((v1 34).toNatClampNeg) (vp_nar .byte v6.toInt8.toInt32))))) (ty := .int) (v := .int ((v1 34) + 1)) tyX8 tyX8_ok nmX8 (FMi hF (t := 18) (by decide)) (fun _ _ _ => rfl) rfl qM_v rfl inW8 34 (by decide) (TT_cons kw_914) rfl (by decide +kernel) rfl rfl (fun _ _ => Nat.le_of_ble_eq_true rfl) (fun _ _ => rfl) dX8_bits_30 ?_
        refine G_iinc hΓ 0 [(3, .int (v3 + (-1))), (0, .ref (ya (gl Γ) 18 0)), (1, .int p1), (2, .int p2)] dX8_bits_33 rfl rfl (by decide) rfl ?_
        refine G_goto hΓ (tgt := 4) dX8_bits_36 (by decide) ?_
        exact (ih _ _ _ hf)
  exact loop9 _ _ _ _ hf
theorem dX8_writePlain_0 : decode cX8_writePlain 0 = .ok (.aload_n 0, 1) := by decide +kernel
theorem dX8_writePlain_1 : decode cX8_writePlain 1 = .ok (.getfield 24, 3) := by decide +kernel
theorem dX8_writePlain_4 : decode cX8_writePlain 4 = .ok (.iload_n 1, 1) := by decide +kernel
theorem dX8_writePlain_5 : decode cX8_writePlain 5 = .ok (.iaload, 1) := by decide +kernel
theorem dX8_writePlain_6 : decode cX8_writePlain 6 = .ok (.iconst 2, 1) := by decide +kernel
theorem dX8_writePlain_7 : decode cX8_writePlain 7 = .ok (.irem, 1) := by decide +kernel
theorem dX8_writePlain_8 : decode cX8_writePlain 8 = .ok (.iconst 1, 1) := by decide +kernel
theorem dX8_writePlain_9 : decode cX8_writePlain 9 = .ok (.if_icmp .ne 7, 3) := by decide +kernel
theorem dX8_writePlain_12 : decode cX8_writePlain 12 = .ok (.iconst 1, 1) := by decide +kernel
theorem dX8_writePlain_13 : decode cX8_writePlain 13 = .ok (.goto 4, 3) := by decide +kernel
theorem dX8_writePlain_16 : decode cX8_writePlain 16 = .ok (.iconst 0, 1) := by decide +kernel
theorem dX8_writePlain_17 : decode cX8_writePlain 17 = .ok (.istore_n 2, 1) := by decide +kernel
theorem dX8_writePlain_18 : decode cX8_writePlain 18 = .ok (.aload_n 0, 1) := by decide +kernel
theorem dX8_writePlain_19 : decode cX8_writePlain 19 = .ok (.getfield 24, 3) := by decide +kernel
theorem dX8_writePlain_22 : decode cX8_writePlain 22 = .ok (.iload_n 1, 1) := by decide +kernel
theorem dX8_writePlain_23 : decode cX8_writePlain 23 = .ok (.iaload, 1) := by decide +kernel
theorem dX8_writePlain_24 : decode cX8_writePlain 24 = .ok (.iconst 2, 1) := by decide +kernel
theorem dX8_writePlain_25 : decode cX8_writePlain 25 = .ok (.if_icmp .eq 13, 3) := by decide +kernel
theorem dX8_writePlain_28 : decode cX8_writePlain 28 = .ok (.aload_n 0, 1) := by decide +kernel
theorem dX8_writePlain_29 : decode cX8_writePlain 29 = .ok (.getfield 24, 3) := by decide +kernel
theorem dX8_writePlain_32 : decode cX8_writePlain 32 = .ok (.iload_n 1, 1) := by decide +kernel
theorem dX8_writePlain_33 : decode cX8_writePlain 33 = .ok (.iaload, 1) := by decide +kernel
theorem dX8_writePlain_34 : decode cX8_writePlain 34 = .ok (.iconst 3, 1) := by decide +kernel
theorem dX8_writePlain_35 : decode cX8_writePlain 35 = .ok (.if_icmp .ne 7, 3) := by decide +kernel
theorem dX8_writePlain_38 : decode cX8_writePlain 38 = .ok (.iconst 1, 1) := by decide +kernel
theorem dX8_writePlain_39 : decode cX8_writePlain 39 = .ok (.goto 4, 3) := by decide +kernel
theorem dX8_writePlain_42 : decode cX8_writePlain 42 = .ok (.iconst 0, 1) := by decide +kernel
theorem dX8_writePlain_43 : decode cX8_writePlain 43 = .ok (.istore_n 3, 1) := by decide +kernel
theorem dX8_writePlain_44 : decode cX8_writePlain 44 = .ok (.aload_n 0, 1) := by decide +kernel
theorem dX8_writePlain_45 : decode cX8_writePlain 45 = .ok (.getfield 24, 3) := by decide +kernel
theorem dX8_writePlain_48 : decode cX8_writePlain 48 = .ok (.iload_n 1, 1) := by decide +kernel
theorem dX8_writePlain_49 : decode cX8_writePlain 49 = .ok (.iaload, 1) := by decide +kernel
theorem dX8_writePlain_50 : decode cX8_writePlain 50 = .ok (.iconst 3, 1) := by decide +kernel
theorem dX8_writePlain_51 : decode cX8_writePlain 51 = .ok (.if_icmp .le 7, 3) := by decide +kernel
theorem dX8_writePlain_54 : decode cX8_writePlain 54 = .ok (.iconst 1, 1) := by decide +kernel
theorem dX8_writePlain_55 : decode cX8_writePlain 55 = .ok (.goto 4, 3) := by decide +kernel
theorem dX8_writePlain_58 : decode cX8_writePlain 58 = .ok (.iconst 0, 1) := by decide +kernel
theorem dX8_writePlain_59 : decode cX8_writePlain 59 = .ok (.istore 4, 2) := by decide +kernel
theorem dX8_writePlain_61 : decode cX8_writePlain 61 = .ok (.aload_n 0, 1) := by decide +kernel
theorem dX8_writePlain_62 : decode cX8_writePlain 62 = .ok (.iconst 0, 1) := by decide +kernel
theorem dX8_writePlain_63 : decode cX8_writePlain 63 = .ok (.putfield 143, 3) := by decide +kernel
theorem dX8_writePlain_66 : decode cX8_writePlain 66 = .ok (.aload_n 0, 1) := by decide +kernel
theorem dX8_writePlain_67 : decode cX8_writePlain 67 = .ok (.iconst 0, 1) := by decide +kernel
theorem dX8_writePlain_68 : decode cX8_writePlain 68 = .ok (.iconst 1, 1) := by decide +kernel
theorem dX8_writePlain_69 : decode cX8_writePlain 69 = .ok (.invokevirtual 146, 3) := by decide +kernel
theorem dX8_writePlain_72 : decode cX8_writePlain 72 = .ok (.aload_n 0, 1) := by decide +kernel
theorem dX8_writePlain_73 : decode cX8_writePlain 73 = .ok (.iload_n 2, 1) := by decide +kernel
theorem dX8_writePlain_74 : decode cX8_writePlain 74 = .ok (.ifCond .eq 15, 3) := by decide +kernel
theorem dX8_writePlain_77 : decode cX8_writePlain 77 = .ok (.aload_n 0, 1) := by decide +kernel
theorem dX8_writePlain_78 : decode cX8_writePlain 78 = .ok (.getfield 21, 3) := by decide +kernel
theorem dX8_writePlain_81 : decode cX8_writePlain 81 = .ok (.iload_n 1, 1) := by decide +kernel
theorem dX8_writePlain_82 : decode cX8_writePlain 82 = .ok (.iaload, 1) := by decide +kernel
theorem dX8_writePlain_83 : decode cX8_writePlain 83 = .ok (.bipush 18, 2) := by decide +kernel
theorem dX8_writePlain_85 : decode cX8_writePlain 85 = .ok (.ishr, 1) := by decide +kernel
theorem dX8_writePlain_86 : decode cX8_writePlain 86 = .ok (.goto 9, 3) := by decide +kernel
theorem dX8_writePlain_89 : decode cX8_writePlain 89 = .ok (.aload_n 0, 1) := by decide +kernel
theorem dX8_writePlain_90 : decode cX8_writePlain 90 = .ok (.getfield 21, 3) := by decide +kernel
theorem dX8_writePlain_93 : decode cX8_writePlain 93 = .ok (.iload_n 1, 1) := by decide +kernel
theorem dX8_writePlain_94 : decode cX8_writePlain 94 = .ok (.iaload, 1) := by decide +kernel
theorem dX8_writePlain_95 : decode cX8_writePlain 95 = .ok (.bipush 11, 2) := by decide +kernel
theorem dX8_writePlain_97 : decode cX8_writePlain 97 = .ok (.invokevirtual 146, 3) := by decide +kernel
theorem dX8_writePlain_100 : decode cX8_writePlain 100 = .ok (.iload_n 2, 1) := by decide +kernel
theorem dX8_writePlain_101 : decode cX8_writePlain 101 = .ok (.ifCond .eq 40, 3) := by decide +kernel
theorem dX8_writePlain_104 : decode cX8_writePlain 104 = .ok (.aload_n 0, 1) := by decide +kernel
theorem dX8_writePlain_105 : decode cX8_writePlain 105 = .ok (.iconst 1, 1) := by decide +kernel
theorem dX8_writePlain_106 : decode cX8_writePlain 106 = .ok (.iconst 1, 1) := by decide +kernel
theorem dX8_writePlain_107 : decode cX8_writePlain 107 = .ok (.invokevirtual 146, 3) := by decide +kernel
theorem dX8_writePlain_110 : decode cX8_writePlain 110 = .ok (.aload_n 0, 1) := by decide +kernel
theorem dX8_writePlain_111 : decode cX8_writePlain 111 = .ok (.iconst 1, 1) := by decide +kernel
theorem dX8_writePlain_112 : decode cX8_writePlain 112 = .ok (.iconst 1, 1) := by decide +kernel
theorem dX8_writePlain_113 : decode cX8_writePlain 113 = .ok (.invokevirtual 146, 3) := by decide +kernel
theorem dX8_writePlain_116 : decode cX8_writePlain 116 = .ok (.aload_n 0, 1) := by decide +kernel
theorem dX8_writePlain_117 : decode cX8_writePlain 117 = .ok (.aload_n 0, 1) := by decide +kernel
theorem dX8_writePlain_118 : decode cX8_writePlain 118 = .ok (.getfield 21, 3) := by decide +kernel
theorem dX8_writePlain_121 : decode cX8_writePlain 121 = .ok (.iload_n 1, 1) := by decide +kernel
theorem dX8_writePlain_122 : decode cX8_writePlain 122 = .ok (.iaload, 1) := by decide +kernel
theorem dX8_writePlain_123 : decode cX8_writePlain 123 = .ok (.ldc 150, 2) := by decide +kernel
theorem dX8_writePlain_125 : decode cX8_writePlain 125 = .ok (.iand, 1) := by decide +kernel
theorem dX8_writePlain_126 : decode cX8_writePlain 126 = .ok (.bipush 18, 2) := by decide +kernel
theorem dX8_writePlain_128 : decode cX8_writePlain 128 = .ok (.invokevirtual 146, 3) := by decide +kernel
theorem dX8_writePlain_131 : decode cX8_writePlain 131 = .ok (.aload_n 0, 1) := by decide +kernel
theorem dX8_writePlain_132 : decode cX8_writePlain 132 = .ok (.iload 4, 2) := by decide +kernel
theorem dX8_writePlain_134 : decode cX8_writePlain 134 = .ok (.iconst 1, 1) := by decide +kernel
theorem dX8_writePlain_135 : decode cX8_writePlain 135 = .ok (.invokevirtual 146, 3) := by decide +kernel
theorem dX8_writePlain_138 : decode cX8_writePlain 138 = .ok (.goto 16, 3) := by decide +kernel
theorem dX8_writePlain_141 : decode cX8_writePlain 141 = .ok (.aload_n 0, 1) := by decide +kernel
theorem dX8_writePlain_142 : decode cX8_writePlain 142 = .ok (.iload 4, 2) := by decide +kernel
theorem dX8_writePlain_144 : decode cX8_writePlain 144 = .ok (.iconst 1, 1) := by decide +kernel
theorem dX8_writePlain_145 : decode cX8_writePlain 145 = .ok (.invokevirtual 146, 3) := by decide +kernel
theorem dX8_writePlain_148 : decode cX8_writePlain 148 = .ok (.aload_n 0, 1) := by decide +kernel
theorem dX8_writePlain_149 : decode cX8_writePlain 149 = .ok (.iconst 0, 1) := by decide +kernel
theorem dX8_writePlain_150 : decode cX8_writePlain 150 = .ok (.iconst 1, 1) := by decide +kernel
theorem dX8_writePlain_151 : decode cX8_writePlain 151 = .ok (.invokevirtual 146, 3) := by decide +kernel
theorem dX8_writePlain_154 : decode cX8_writePlain 154 = .ok (.iload_n 3, 1) := by decide +kernel
theorem dX8_writePlain_155 : decode cX8_writePlain 155 = .ok (.ifCond .eq 13, 3) := by decide +kernel
theorem dX8_writePlain_158 : decode cX8_writePlain 158 = .ok (.aload_n 0, 1) := by decide +kernel
theorem dX8_writePlain_159 : decode cX8_writePlain 159 = .ok (.bipush 8, 2) := by decide +kernel
theorem dX8_writePlain_161 : decode cX8_writePlain 161 = .ok (.iconst 4, 1) := by decide +kernel
theorem dX8_writePlain_162 : decode cX8_writePlain 162 = .ok (.invokevirtual 146, 3) := by decide +kernel
theorem dX8_writePlain_165 : decode cX8_writePlain 165 = .ok (.goto 17, 3) := by decide +kernel
theorem dX8_writePlain_168 : decode cX8_writePlain 168 = .ok (.aload_n 0, 1) := by decide +kernel
theorem dX8_writePlain_169 : decode cX8_writePlain 169 = .ok (.iconst 0, 1) := by decide +kernel
theorem dX8_writePlain_170 : decode cX8_writePlain 170 = .ok (.iload_n 2, 1) := by decide +kernel
theorem dX8_writePlain_171 : decode cX8_writePlain 171 = .ok (.ifCond .eq 7, 3) := by decide +kernel
theorem dX8_writePlain_174 : decode cX8_writePlain 174 = .ok (.iconst 2, 1) := by decide +kernel
theorem dX8_writePlain_175 : decode cX8_writePlain 175 = .ok (.goto 4, 3) := by decide +kernel
theorem dX8_writePlain_178 : decode cX8_writePlain 178 = .ok (.iconst 1, 1) := by decide +kernel
theorem dX8_writePlain_179 : decode cX8_writePlain 179 = .ok (.invokevirtual 146, 3) := by decide +kernel
theorem dX8_writePlain_182 : decode cX8_writePlain 182 = .ok (.aload_n 0, 1) := by decide +kernel
theorem dX8_writePlain_183 : decode cX8_writePlain 183 = .ok (.aload_n 0, 1) := by decide +kernel
theorem dX8_writePlain_184 : decode cX8_writePlain 184 = .ok (.getfield 27, 3) := by decide +kernel
theorem dX8_writePlain_187 : decode cX8_writePlain 187 = .ok (.iload_n 1, 1) := by decide +kernel
theorem dX8_writePlain_188 : decode cX8_writePlain 188 = .ok (.iaload, 1) := by decide +kernel
theorem dX8_writePlain_189 : decode cX8_writePlain 189 = .ok (.iconst 4, 1) := by decide +kernel
theorem dX8_writePlain_190 : decode cX8_writePlain 190 = .ok (.invokevirtual 146, 3) := by decide +kernel
theorem dX8_writePlain_193 : decode cX8_writePlain 193 = .ok (.iconst 0, 1) := by decide +kernel
theorem dX8_writePlain_194 : decode cX8_writePlain 194 = .ok (.istore 5, 2) := by decide +kernel
theorem dX8_writePlain_196 : decode cX8_writePlain 196 = .ok (.iload 5, 2) := by decide +kernel
theorem dX8_writePlain_198 : decode cX8_writePlain 198 = .ok (.aload_n 0, 1) := by decide +kernel
theorem dX8_writePlain_199 : decode cX8_writePlain 199 = .ok (.getfield 24, 3) := by decide +kernel
theorem dX8_writePlain_202 : decode cX8_writePlain 202 = .ok (.iload_n 1, 1) := by decide +kernel
theorem dX8_writePlain_203 : decode cX8_writePlain 203 = .ok (.iaload, 1) := by decide +kernel
theorem dX8_writePlain_204 : decode cX8_writePlain 204 = .ok (.aload_n 0, 1) := by decide +kernel
theorem dX8_writePlain_205 : decode cX8_writePlain 205 = .ok (.getfield 27, 3) := by decide +kernel
theorem dX8_writePlain_208 : decode cX8_writePlain 208 = .ok (.iload_n 1, 1) := by decide +kernel
theorem dX8_writePlain_209 : decode cX8_writePlain 209 = .ok (.iaload, 1) := by decide +kernel
theorem dX8_writePlain_210 : decode cX8_writePlain 210 = .ok (.invokestatic 139, 3) := by decide +kernel
theorem dX8_writePlain_213 : decode cX8_writePlain 213 = .ok (.if_icmp .ge 27, 3) := by decide +kernel
theorem dX8_writePlain_216 : decode cX8_writePlain 216 = .ok (.aload_n 0, 1) := by decide +kernel
theorem dX8_writePlain_217 : decode cX8_writePlain 217 = .ok (.aload_n 0, 1) := by decide +kernel
theorem dX8_writePlain_218 : decode cX8_writePlain 218 = .ok (.getfield 30, 3) := by decide +kernel
theorem dX8_writePlain_221 : decode cX8_writePlain 221 = .ok (.bipush 64, 2) := by decide +kernel
theorem dX8_writePlain_223 : decode cX8_writePlain 223 = .ok (.iload_n 1, 1) := by decide +kernel
theorem dX8_writePlain_224 : decode cX8_writePlain 224 = .ok (.imul, 1) := by decide +kernel
theorem dX8_writePlain_225 : decode cX8_writePlain 225 = .ok (.iload 5, 2) := by decide +kernel
theorem dX8_writePlain_227 : decode cX8_writePlain 227 = .ok (.iadd, 1) := by decide +kernel
theorem dX8_writePlain_228 : decode cX8_writePlain 228 = .ok (.iaload, 1) := by decide +kernel
theorem dX8_writePlain_229 : decode cX8_writePlain 229 = .ok (.bipush 8, 2) := by decide +kernel
theorem dX8_writePlain_231 : decode cX8_writePlain 231 = .ok (.invokevirtual 146, 3) := by decide +kernel
theorem dX8_writePlain_234 : decode cX8_writePlain 234 = .ok (.iinc 5 1, 3) := by decide +kernel
theorem dX8_writePlain_237 : decode cX8_writePlain 237 = .ok (.goto (-41), 3) := by decide +kernel
theorem dX8_writePlain_240 : decode cX8_writePlain 240 = .ok (.return_, 1) := by decide +kernel
noncomputable def L_X8_writePlain_196 (p1 : Int32) (k41 : (Nat → Int32) × (Nat → Nat → Int32) × Int32 → Option ((Nat → Int32) × (Nat → Nat → Int32))) : Nat → (Nat → Int32) → (Nat → Nat → Int32) → Int32 → Option ((Nat → Int32) × (Nat → Nat → Int32))
  | 0, _, _, _ => none
  | nn + 1, v38, v39, v40 => gd (vp_in p1 200) (gd (vp_in p1 200) (bd (f_X8_octetsOf ((v39 3) p1.toNatClampNeg) ((v39 4) p1.toNatClampNeg)) (fun u45 => if u45 ≤ v40 then k41 (v38, v39, v40) else gd (vp_in ((64 * p1) + v40) 12800) (bd (f_X8_bits v38 v39 ((v39 5) (((64 * p1) + v40).toNatClampNeg)) 8) (fun ⟨u48, u49⟩ => L_X8_writePlain_196 p1 k41 nn u48 u49 (v40 + 1))))))
noncomputable def f_X8_writePlain  (v : Nat → Int32) (m : Nat → Nat → Int32) (p1 : Int32) : Option ((Nat → Int32) × (Nat → Nat → Int32)) := gd (vp_in p1 200) (lt (α := Int32) (if (((m 3) p1.toNatClampNeg) - ((m 3) p1.toNatClampNeg) / 2 * 2) = 1 then 1 else 0) (fun x2 => gd (vp_in p1 200) (jn (α := Int32) (fun x7 => gd (vp_in p1 200) (lt (α := Int32) (if ((m 3) p1.toNatClampNeg) ≤ 3 then 0 else 1) (fun x12 => bd (f_X8_bits (upd v 34 0) m 0 1) (fun ⟨u16, u17⟩ => jn (α := Int32) (fun x19 => bd (f_X8_bits u16 u17 x19 11) (fun ⟨u23, u24⟩ => jn (α := (Nat → Int32) × (Nat → Nat → Int32)) (fun ⟨x26, x27⟩ => jn (α := (Nat → Int32) × (Nat → Nat → Int32)) (fun ⟨x30, x31⟩ => gd (vp_in p1 200) (bd (f_X8_bits x30 x31 ((x31 4) p1.toNatClampNeg) 4) (fun ⟨u35, u36⟩ => jn (α := (Nat → Int32) × (Nat → Nat → Int32) × Int32) (fun ⟨v38, v39, v40⟩ => some (v38, v39)) (fun k41 => L_X8_writePlain_196 p1 k41 fu u35 u36 0)))) (fun k32 => if x7 = 0 then lt (α := Int32) (if x2 = 0 then 1 else 2) (fun x53 => bd (f_X8_bits x26 x27 0 x53) (fun ⟨u57, u58⟩ => k32 (u57, u58))) else bd (f_X8_bits x26 x27 8 4) (fun ⟨u60, u61⟩ => k32 (u60, u61)))) (fun k28 => if x2 = 0 then bd (f_X8_bits u23 u24 x12 1) (fun ⟨u64, u65⟩ => bd (f_X8_bits u64 u65 0 1) (fun ⟨u67, u68⟩ => k28 (u67, u68))) else bd (f_X8_bits u23 u24 1 1) (fun ⟨u70, u71⟩ => bd (f_X8_bits u70 u71 1 1) (fun ⟨u73, u74⟩ => gd (vp_in p1 200) (bd (f_X8_bits u73 u74 (((u74 2) p1.toNatClampNeg) &&& 262143) 18) (fun ⟨u77, u78⟩ => bd (f_X8_bits u77 u78 x12 1) (fun ⟨u80, u81⟩ => k28 (u80, u81))))))))) (fun k21 => if x2 = 0 then gd (vp_in p1 200) (k21 ((u17 2) p1.toNatClampNeg)) else gd (vp_in p1 200) (k21 (((u17 2) p1.toNatClampNeg) >>> ((18 : Int32) &&& 31)))))))) (fun k9 => if ((m 3) p1.toNatClampNeg) = 2 then k9 1 else gd (vp_in p1 200) (if ((m 3) p1.toNatClampNeg) = 3 then k9 1 else k9 0)))))
set_option maxHeartbeats 4000000 in
set_option maxRecDepth 100000 in
theorem c_X8_writePlain (l : Launch) (Λ : LY) (hF : FM Λ) (σ : CS)  (v : Nat → Int32) (m : Nat → Nat → Int32) (p1 : Int32)   {v' : Nat → Int32} {m' : Nat → Nat → Int32} (hf : f_X8_writePlain v m p1 = some (v', m')) : CM l yX8_writePlain (.code yX8_writePlain cX8_writePlain 6 none :: TT) ({ frames := 1, cells := 0, slots := 0, locals := 23 }) Λ [.ref (ya Λ 18 0), .int p1] (qM σ v m) (qM σ v' m') (none) := by
  refine CM_intro (own := RX8) (by decide) rfl (Nat.le_of_ble_eq_true rfl) ?_
  intro Γ hg hl hΓ hE
  subst hg; subst hl
  show GG Γ (0, 0) (qM σ v m) 0 [(0, .ref (ya (gl Γ) 18 0)), (1, .int p1)] []
  unfold f_X8_writePlain at hf
  refine G_aload_n hΓ 0 dX8_writePlain_0 rfl ?_
  refine F_get hΓ (t := 18) (i := 0) (ci := 11) (C := RX8) (T := TX8) (N := 47) (fs8 (gl Γ) 0) (v := .ref (ya (gl Γ) 19 3)) (FMi hF (t := 18) (by decide)) (fun _ _ _ => rfl) rfl rfl rfl rfl inW8 7 (by decide) (TT_cons kw_887) rfl dX8_writePlain_1 ?_
  refine G_iload_n hΓ 1 dX8_writePlain_4 rfl ?_
  obtain ⟨hg1, hf⟩ := gd_some hf
  refine F_ald (G_iald hΓ) (t := 19) (i := 3) (f := (m 3)) (FMi hF (t := 19) (by decide)) (fun _ _ _ => rfl) rfl hg1 dX8_writePlain_5 ?_
  refine G_iconst (v := 2) hΓ dX8_writePlain_6 (by decide) ?_
  refine G_irem hΓ dX8_writePlain_7 (by decide) ?_
  refine G_iconst (v := 1) hΓ dX8_writePlain_8 (by decide) ?_
  obtain ⟨x2, he5, hf⟩ := lt_eq hf
  have K3 : GG Γ (0, 0) (qM σ v m) 17 [(0, .ref (ya (gl Γ) 18 0)), (1, .int p1)] [.int x2] := by
    refine G_istore_n hΓ [(2, .int x2), (0, .ref (ya (gl Γ) 18 0)), (1, .int p1)] dX8_writePlain_17 (by decide) rfl ?_
    refine G_aload_n hΓ 1 dX8_writePlain_18 rfl ?_
    refine F_get hΓ (t := 18) (i := 0) (ci := 11) (C := RX8) (T := TX8) (N := 47) (fs8 (gl Γ) 0) (v := .ref (ya (gl Γ) 19 3)) (FMi hF (t := 18) (by decide)) (fun _ _ _ => rfl) rfl rfl rfl rfl inW8 7 (by decide) (TT_cons kw_887) rfl dX8_writePlain_19 ?_
    refine G_iload_n hΓ 2 dX8_writePlain_22 rfl ?_
    obtain ⟨hg6, hf⟩ := gd_some hf
    refine F_ald (G_iald hΓ) (t := 19) (i := 3) (f := (m 3)) (FMi hF (t := 19) (by decide)) (fun _ _ _ => rfl) rfl hg6 dX8_writePlain_23 ?_
    refine G_iconst (v := 2) hΓ dX8_writePlain_24 (by decide) ?_
    obtain ⟨k9, hk_k9, hf⟩ := jn_eq hf
    try dsimp only at hf
    have K10 : ∀ x7, (x7 = 0 ∨ x7 = 1) → k9 x7 = some (v', m') → GG Γ (0, 0) (qM σ v m) 43 [(2, .int x2), (0, .ref (ya (gl Γ) 18 0)), (1, .int p1)] [.int x7] := by
      intro x7 hb_x7 hf
      subst hk_k9
      try dsimp only at hf
      refine G_istore_n hΓ [(3, .int x7), (2, .int x2), (0, .ref (ya (gl Γ) 18 0)), (1, .int p1)] dX8_writePlain_43 (by decide) rfl ?_
      refine G_aload_n hΓ 2 dX8_writePlain_44 rfl ?_
      refine F_get hΓ (t := 18) (i := 0) (ci := 11) (C := RX8) (T := TX8) (N := 47) (fs8 (gl Γ) 0) (v := .ref (ya (gl Γ) 19 3)) (FMi hF (t := 18) (by decide)) (fun _ _ _ => rfl) rfl rfl rfl rfl inW8 7 (by decide) (TT_cons kw_887) rfl dX8_writePlain_45 ?_
      refine G_iload_n hΓ 3 dX8_writePlain_48 rfl ?_
      obtain ⟨hg11, hf⟩ := gd_some hf
      refine F_ald (G_iald hΓ) (t := 19) (i := 3) (f := (m 3)) (FMi hF (t := 19) (by decide)) (fun _ _ _ => rfl) rfl hg11 dX8_writePlain_49 ?_
      refine G_iconst (v := 3) hΓ dX8_writePlain_50 (by decide) ?_
      obtain ⟨x12, he15, hf⟩ := lt_eq hf
      have K13 : GG Γ (0, 0) (qM σ v m) 59 [(3, .int x7), (2, .int x2), (0, .ref (ya (gl Γ) 18 0)), (1, .int p1)] [.int x12] := by
        refine G_istore hΓ [(4, .int x12), (3, .int x7), (2, .int x2), (0, .ref (ya (gl Γ) 18 0)), (1, .int p1)] dX8_writePlain_59 (by decide) rfl ?_
        refine G_aload_n hΓ 3 dX8_writePlain_61 rfl ?_
        refine G_iconst (v := 0) hΓ dX8_writePlain_62 (by decide) ?_
        refine F_put hΓ (t := 18) (i := 0) (ci := 11) (C := RX8) (T := TX8) (N := 47) (fs8 (gl Γ) 0) (f := v) (f' := (upd v 34 0)) (σ' := (qM σ (upd v 34 0) m)) (ty := .int) (v := .int 0) tyX8 tyX8_ok nmX8 (FMi hF (t := 18) (by decide)) (fun _ _ _ => rfl) rfl qM_v rfl inW8 34 (by decide) (TT_cons kw_914) rfl (by decide +kernel) rfl rfl (fun _ _ => Nat.le_of_ble_eq_true rfl) (fun _ _ => rfl) dX8_writePlain_63 ?_
        refine G_aload_n hΓ 3 dX8_writePlain_66 rfl ?_
        refine G_iconst (v := 0) hΓ dX8_writePlain_67 (by decide) ?_
        refine G_iconst (v := 1) hΓ dX8_writePlain_68 (by decide) ?_
        obtain ⟨⟨u16, u17⟩, hc18, hf⟩ := bd_some hf
        try dsimp only at hf
        refine G_callV hΓ (n := 2) (As := [.int 0, .int 1]) (t := 18) (i := 0) (ci := 11) (T := TX8) (N := 47) (FS := fs8 (gl Γ) 0) (σ' := (qM σ u16 u17)) (c_X8_bits (gL Γ) (gl Γ) hF σ  (upd v 34 0) m 0 1  hc18) rfl rfl kw_1063 kw_1065 kp_33 kw_9 kw_1066 ⟨rfl, by decide, by decide, by decide +kernel⟩ (FMi hF (t := 18) (by decide)) (fun _ _ _ => rfl) rfl rfl rfl ⟨Nat.le_of_ble_eq_true rfl, Nat.le_of_ble_eq_true rfl⟩ rfl (Nat.le_of_ble_eq_true rfl) dX8_writePlain_69 ⟨_, rfl⟩ rfl ?_
        refine G_aload_n hΓ 3 dX8_writePlain_72 rfl ?_
        refine G_iload_n hΓ 2 dX8_writePlain_73 rfl ?_
        obtain ⟨k21, hk_k21, hf⟩ := jn_eq hf
        try dsimp only at hf
        have K22 : ∀ x19, k21 x19 = some (v', m') → GG Γ (0, 0) (qM σ u16 u17) 95 [(4, .int x12), (3, .int x7), (2, .int x2), (0, .ref (ya (gl Γ) 18 0)), (1, .int p1)] [.int x19, .ref (ya (gl Γ) 18 0)] := by
          intro x19 hf
          subst hk_k21
          try dsimp only at hf
          refine G_bipush (v := 11) hΓ dX8_writePlain_95 (by decide) ?_
          obtain ⟨⟨u23, u24⟩, hc25, hf⟩ := bd_some hf
          try dsimp only at hf
          refine G_callV hΓ (n := 2) (As := [.int x19, .int 11]) (t := 18) (i := 0) (ci := 11) (T := TX8) (N := 47) (FS := fs8 (gl Γ) 0) (σ' := (qM σ u23 u24)) (c_X8_bits (gL Γ) (gl Γ) hF σ  u16 u17 x19 11  hc25) rfl rfl kw_1063 kw_1065 kp_33 kw_9 kw_1066 ⟨rfl, by decide, by decide, by decide +kernel⟩ (FMi hF (t := 18) (by decide)) (fun _ _ _ => rfl) rfl rfl rfl ⟨Nat.le_of_ble_eq_true rfl, Nat.le_of_ble_eq_true rfl⟩ rfl (Nat.le_of_ble_eq_true rfl) dX8_writePlain_97 ⟨_, rfl⟩ rfl ?_
          refine G_iload_n hΓ 2 dX8_writePlain_100 rfl ?_
          obtain ⟨k28, hk_k28, hf⟩ := jn_eq hf
          try dsimp only at hf
          have K29 : ∀ x26 x27, k28 (x26, x27) = some (v', m') → GG Γ (0, 0) (qM σ x26 x27) 154 [(4, .int x12), (3, .int x7), (2, .int x2), (0, .ref (ya (gl Γ) 18 0)), (1, .int p1)] [] := by
            intro x26 x27 hf
            subst hk_k28
            try dsimp only at hf
            refine G_iload_n hΓ 1 dX8_writePlain_154 rfl ?_
            obtain ⟨k32, hk_k32, hf⟩ := jn_eq hf
            try dsimp only at hf
            have K33 : ∀ x30 x31, k32 (x30, x31) = some (v', m') → GG Γ (0, 0) (qM σ x30 x31) 182 [(4, .int x12), (3, .int x7), (2, .int x2), (0, .ref (ya (gl Γ) 18 0)), (1, .int p1)] [] := by
              intro x30 x31 hf
              subst hk_k32
              try dsimp only at hf
              refine G_aload_n hΓ 3 dX8_writePlain_182 rfl ?_
              refine G_aload_n hΓ 3 dX8_writePlain_183 rfl ?_
              refine F_get hΓ (t := 18) (i := 0) (ci := 11) (C := RX8) (T := TX8) (N := 47) (fs8 (gl Γ) 0) (v := .ref (ya (gl Γ) 19 4)) (FMi hF (t := 18) (by decide)) (fun _ _ _ => rfl) rfl rfl rfl rfl inW8 8 (by decide) (TT_cons kw_888) rfl dX8_writePlain_184 ?_
              refine G_iload_n hΓ 4 dX8_writePlain_187 rfl ?_
              obtain ⟨hg34, hf⟩ := gd_some hf
              refine F_ald (G_iald hΓ) (t := 19) (i := 4) (f := (x31 4)) (FMi hF (t := 19) (by decide)) (fun _ _ _ => rfl) rfl hg34 dX8_writePlain_188 ?_
              refine G_iconst (v := 4) hΓ dX8_writePlain_189 (by decide) ?_
              obtain ⟨⟨u35, u36⟩, hc37, hf⟩ := bd_some hf
              try dsimp only at hf
              refine G_callV hΓ (n := 2) (As := [.int ((x31 4) p1.toNatClampNeg), .int 4]) (t := 18) (i := 0) (ci := 11) (T := TX8) (N := 47) (FS := fs8 (gl Γ) 0) (σ' := (qM σ u35 u36)) (c_X8_bits (gL Γ) (gl Γ) hF σ  x30 x31 ((x31 4) p1.toNatClampNeg) 4  hc37) rfl rfl kw_1063 kw_1065 kp_33 kw_9 kw_1066 ⟨rfl, by decide, by decide, by decide +kernel⟩ (FMi hF (t := 18) (by decide)) (fun _ _ _ => rfl) rfl rfl rfl ⟨Nat.le_of_ble_eq_true rfl, Nat.le_of_ble_eq_true rfl⟩ rfl (Nat.le_of_ble_eq_true rfl) dX8_writePlain_190 ⟨_, rfl⟩ rfl ?_
              refine G_iconst (v := 0) hΓ dX8_writePlain_193 (by decide) ?_
              refine G_istore hΓ [(5, .int 0), (4, .int x12), (3, .int x7), (2, .int x2), (0, .ref (ya (gl Γ) 18 0)), (1, .int p1)] dX8_writePlain_194 (by decide) rfl ?_
              obtain ⟨k41, hk_k41, hf⟩ := jn_eq hf
              try dsimp only at hf
              have K42 : ∀ v38 v39 v40, k41 (v38, v39, v40) = some (v', m') → GG Γ (0, 0) (qM σ v38 v39) 240 [(5, .int v40), (4, .int x12), (3, .int x7), (2, .int x2), (0, .ref (ya (gl Γ) 18 0)), (1, .int p1)] [] := by
                intro v38 v39 v40 hf
                subst hk_k41
                try dsimp only at hf
                cases hf
                exact G_vret hΓ hE dX8_writePlain_240
              clear hk_k41
              have loop52 : ∀ (nn : Nat) v38 v39 v40, L_X8_writePlain_196 p1 k41 nn v38 v39 v40 = some (v', m') → GG Γ (0, 0) (qM σ v38 v39) 196 [(5, .int v40), (4, .int x12), (3, .int x7), (2, .int x2), (0, .ref (ya (gl Γ) 18 0)), (1, .int p1)] [] := by
                intro nn
                induction nn with
                | zero => intro v38 v39 v40 hf; cases hf
                | succ nn ih =>
                  intro v38 v39 v40 hf
                  rw [L_X8_writePlain_196] at hf
                  refine G_iload hΓ 0 dX8_writePlain_196 rfl ?_
                  refine G_aload_n hΓ 4 dX8_writePlain_198 rfl ?_
                  refine F_get hΓ (t := 18) (i := 0) (ci := 11) (C := RX8) (T := TX8) (N := 47) (fs8 (gl Γ) 0) (v := .ref (ya (gl Γ) 19 3)) (FMi hF (t := 18) (by decide)) (fun _ _ _ => rfl) rfl rfl rfl rfl inW8 7 (by decide) (TT_cons kw_887) rfl dX8_writePlain_199 ?_
                  refine G_iload_n hΓ 5 dX8_writePlain_202 rfl ?_
                  obtain ⟨hg43, hf⟩ := gd_some hf
                  refine F_ald (G_iald hΓ) (t := 19) (i := 3) (f := (v39 3)) (FMi hF (t := 19) (by decide)) (fun _ _ _ => rfl) rfl hg43 dX8_writePlain_203 ?_
                  refine G_aload_n hΓ 4 dX8_writePlain_204 rfl ?_
                  refine F_get hΓ (t := 18) (i := 0) (ci := 11) (C := RX8) (T := TX8) (N := 47) (fs8 (gl Γ) 0) (v := .ref (ya (gl Γ) 19 4)) (FMi hF (t := 18) (by decide)) (fun _ _ _ => rfl) rfl rfl rfl rfl inW8 8 (by decide) (TT_cons kw_888) rfl dX8_writePlain_205 ?_
                  refine G_iload_n hΓ 5 dX8_writePlain_208 rfl ?_
                  obtain ⟨hg44, hf⟩ := gd_some hf
                  refine F_ald (G_iald hΓ) (t := 19) (i := 4) (f := (v39 4)) (FMi hF (t := 19) (by decide)) (fun _ _ _ => rfl) rfl hg44 dX8_writePlain_209 ?_
                  obtain ⟨u45, hc46, hf⟩ := bd_some hf
                  refine G_callS hΓ (n := 2) (As := [.int ((v39 3) p1.toNatClampNeg), .int ((v39 4) p1.toNatClampNeg)]) (σ' := (qM σ v38 v39)) (c_X8_octetsOf (gL Γ) (gl Γ) hF (qM σ v38 v39)   ((v39 3) p1.toNatClampNeg) ((v39 4) p1.toNatClampNeg)  hc46) rfl rfl kw_1048 kw_1049 kw_9 kw_1050 ⟨by decide, by decide, by decide +kernel⟩ rfl rfl ⟨Nat.le_of_ble_eq_true rfl, Nat.le_of_ble_eq_true rfl⟩ rfl (Nat.le_of_ble_eq_true rfl) dX8_writePlain_210 ⟨_, rfl⟩ rfl ?_
                  refine G_icmp_ge hΓ (tgt := 240) dX8_writePlain_213 (by decide) (fun hc51 => ?_) (fun hc51 => ?_)
                  · rw [if_pos hc51] at hf
                    exact (K42 _ _ _ hf)
                  · rw [if_neg hc51] at hf
                    refine G_aload_n hΓ 4 dX8_writePlain_216 rfl ?_
                    refine G_aload_n hΓ 4 dX8_writePlain_217 rfl ?_
                    refine F_get hΓ (t := 18) (i := 0) (ci := 11) (C := RX8) (T := TX8) (N := 47) (fs8 (gl Γ) 0) (v := .ref (ya (gl Γ) 19 5)) (FMi hF (t := 18) (by decide)) (fun _ _ _ => rfl) rfl rfl rfl rfl inW8 9 (by decide) (TT_cons kw_889) rfl dX8_writePlain_218 ?_
                    refine G_bipush (v := 64) hΓ dX8_writePlain_221 (by decide) ?_
                    refine G_iload_n hΓ 5 dX8_writePlain_223 rfl ?_
                    refine G_imul hΓ dX8_writePlain_224 ?_
                    refine G_iload hΓ 0 dX8_writePlain_225 rfl ?_
                    refine G_iadd hΓ dX8_writePlain_227 ?_
                    obtain ⟨hg47, hf⟩ := gd_some hf
                    refine F_ald (G_iald hΓ) (t := 19) (i := 5) (f := (v39 5)) (FMi hF (t := 19) (by decide)) (fun _ _ _ => rfl) rfl hg47 dX8_writePlain_228 ?_
                    refine G_bipush (v := 8) hΓ dX8_writePlain_229 (by decide) ?_
                    obtain ⟨⟨u48, u49⟩, hc50, hf⟩ := bd_some hf
                    try dsimp only at hf
                    refine G_callV hΓ (n := 2) (As := [.int ((v39 5) (((64 * p1) + v40).toNatClampNeg)), .int 8]) (t := 18) (i := 0) (ci := 11) (T := TX8) (N := 47) (FS := fs8 (gl Γ) 0) (σ' := (qM σ u48 u49)) (c_X8_bits (gL Γ) (gl Γ) hF σ  v38 v39 ((v39 5) (((64 * p1) + v40).toNatClampNeg)) 8  hc50) rfl rfl kw_1063 kw_1065 kp_33 kw_9 kw_1066 ⟨rfl, by decide, by decide, by decide +kernel⟩ (FMi hF (t := 18) (by decide)) (fun _ _ _ => rfl) rfl rfl rfl ⟨Nat.le_of_ble_eq_true rfl, Nat.le_of_ble_eq_true rfl⟩ rfl (Nat.le_of_ble_eq_true rfl) dX8_writePlain_231 ⟨_, rfl⟩ rfl ?_
                    refine G_iinc hΓ 0 [(5, .int (v40 + 1)), (4, .int x12), (3, .int x7), (2, .int x2), (0, .ref (ya (gl Γ) 18 0)), (1, .int p1)] dX8_writePlain_234 rfl rfl (by decide) rfl ?_
                    refine G_goto hΓ (tgt := 196) dX8_writePlain_237 (by decide) ?_
                    exact (ih _ _ _ hf)
              exact loop52 _ _ _ _ hf
            clear hk_k32
            refine G_if_eq hΓ (tgt := 168) dX8_writePlain_155 (by decide) (fun hc63 => ?_) (fun hc63 => ?_)
            · rw [if_pos hc63] at hf
              refine G_aload_n hΓ 3 dX8_writePlain_168 rfl ?_
              refine G_iconst (v := 0) hΓ dX8_writePlain_169 (by decide) ?_
              refine G_iload_n hΓ 2 dX8_writePlain_170 rfl ?_
              obtain ⟨x53, he56, hf⟩ := lt_eq hf
              have K54 : GG Γ (0, 0) (qM σ x26 x27) 179 [(4, .int x12), (3, .int x7), (2, .int x2), (0, .ref (ya (gl Γ) 18 0)), (1, .int p1)] [.int x53, .int 0, .ref (ya (gl Γ) 18 0)] := by
                obtain ⟨⟨u57, u58⟩, hc59, hf⟩ := bd_some hf
                try dsimp only at hf
                refine G_callV hΓ (n := 2) (As := [.int 0, .int x53]) (t := 18) (i := 0) (ci := 11) (T := TX8) (N := 47) (FS := fs8 (gl Γ) 0) (σ' := (qM σ u57 u58)) (c_X8_bits (gL Γ) (gl Γ) hF σ  x26 x27 0 x53  hc59) rfl rfl kw_1063 kw_1065 kp_33 kw_9 kw_1066 ⟨rfl, by decide, by decide, by decide +kernel⟩ (FMi hF (t := 18) (by decide)) (fun _ _ _ => rfl) rfl rfl rfl ⟨Nat.le_of_ble_eq_true rfl, Nat.le_of_ble_eq_true rfl⟩ rfl (Nat.le_of_ble_eq_true rfl) dX8_writePlain_179 ⟨_, rfl⟩ rfl ?_
                exact K33 _ _ hf
              have he := he56
              refine G_if_eq hΓ (tgt := 178) dX8_writePlain_171 (by decide) (fun hc55 => ?_) (fun hc55 => ?_)
              · rw [if_pos hc55] at he
                refine G_iconst (v := 1) hΓ dX8_writePlain_178 (by decide) ?_
                subst he
                exact K54
              · rw [if_neg hc55] at he
                refine G_iconst (v := 2) hΓ dX8_writePlain_174 (by decide) ?_
                refine G_goto hΓ (tgt := 179) dX8_writePlain_175 (by decide) ?_
                subst he
                exact K54
            · rw [if_neg hc63] at hf
              refine G_aload_n hΓ 3 dX8_writePlain_158 rfl ?_
              refine G_bipush (v := 8) hΓ dX8_writePlain_159 (by decide) ?_
              refine G_iconst (v := 4) hΓ dX8_writePlain_161 (by decide) ?_
              obtain ⟨⟨u60, u61⟩, hc62, hf⟩ := bd_some hf
              try dsimp only at hf
              refine G_callV hΓ (n := 2) (As := [.int 8, .int 4]) (t := 18) (i := 0) (ci := 11) (T := TX8) (N := 47) (FS := fs8 (gl Γ) 0) (σ' := (qM σ u60 u61)) (c_X8_bits (gL Γ) (gl Γ) hF σ  x26 x27 8 4  hc62) rfl rfl kw_1063 kw_1065 kp_33 kw_9 kw_1066 ⟨rfl, by decide, by decide, by decide +kernel⟩ (FMi hF (t := 18) (by decide)) (fun _ _ _ => rfl) rfl rfl rfl ⟨Nat.le_of_ble_eq_true rfl, Nat.le_of_ble_eq_true rfl⟩ rfl (Nat.le_of_ble_eq_true rfl) dX8_writePlain_162 ⟨_, rfl⟩ rfl ?_
              refine G_goto hΓ (tgt := 182) dX8_writePlain_165 (by decide) ?_
              exact K33 _ _ hf
          clear hk_k28
          refine G_if_eq hΓ (tgt := 141) dX8_writePlain_101 (by decide) (fun hc83 => ?_) (fun hc83 => ?_)
          · rw [if_pos hc83] at hf
            refine G_aload_n hΓ 3 dX8_writePlain_141 rfl ?_
            refine G_iload hΓ 0 dX8_writePlain_142 rfl ?_
            refine G_iconst (v := 1) hΓ dX8_writePlain_144 (by decide) ?_
            obtain ⟨⟨u64, u65⟩, hc66, hf⟩ := bd_some hf
            try dsimp only at hf
            refine G_callV hΓ (n := 2) (As := [.int x12, .int 1]) (t := 18) (i := 0) (ci := 11) (T := TX8) (N := 47) (FS := fs8 (gl Γ) 0) (σ' := (qM σ u64 u65)) (c_X8_bits (gL Γ) (gl Γ) hF σ  u23 u24 x12 1  hc66) rfl rfl kw_1063 kw_1065 kp_33 kw_9 kw_1066 ⟨rfl, by decide, by decide, by decide +kernel⟩ (FMi hF (t := 18) (by decide)) (fun _ _ _ => rfl) rfl rfl rfl ⟨Nat.le_of_ble_eq_true rfl, Nat.le_of_ble_eq_true rfl⟩ rfl (Nat.le_of_ble_eq_true rfl) dX8_writePlain_145 ⟨_, rfl⟩ rfl ?_
            refine G_aload_n hΓ 3 dX8_writePlain_148 rfl ?_
            refine G_iconst (v := 0) hΓ dX8_writePlain_149 (by decide) ?_
            refine G_iconst (v := 1) hΓ dX8_writePlain_150 (by decide) ?_
            obtain ⟨⟨u67, u68⟩, hc69, hf⟩ := bd_some hf
            try dsimp only at hf
            refine G_callV hΓ (n := 2) (As := [.int 0, .int 1]) (t := 18) (i := 0) (ci := 11) (T := TX8) (N := 47) (FS := fs8 (gl Γ) 0) (σ' := (qM σ u67 u68)) (c_X8_bits (gL Γ) (gl Γ) hF σ  u64 u65 0 1  hc69) rfl rfl kw_1063 kw_1065 kp_33 kw_9 kw_1066 ⟨rfl, by decide, by decide, by decide +kernel⟩ (FMi hF (t := 18) (by decide)) (fun _ _ _ => rfl) rfl rfl rfl ⟨Nat.le_of_ble_eq_true rfl, Nat.le_of_ble_eq_true rfl⟩ rfl (Nat.le_of_ble_eq_true rfl) dX8_writePlain_151 ⟨_, rfl⟩ rfl ?_
            exact K29 _ _ hf
          · rw [if_neg hc83] at hf
            refine G_aload_n hΓ 3 dX8_writePlain_104 rfl ?_
            refine G_iconst (v := 1) hΓ dX8_writePlain_105 (by decide) ?_
            refine G_iconst (v := 1) hΓ dX8_writePlain_106 (by decide) ?_
            obtain ⟨⟨u70, u71⟩, hc72, hf⟩ := bd_some hf
            try dsimp only at hf
            refine G_callV hΓ (n := 2) (As := [.int 1, .int 1]) (t := 18) (i := 0) (ci := 11) (T := TX8) (N := 47) (FS := fs8 (gl Γ) 0) (σ' := (qM σ u70 u71)) (c_X8_bits (gL Γ) (gl Γ) hF σ  u23 u24 1 1  hc72) rfl rfl kw_1063 kw_1065 kp_33 kw_9 kw_1066 ⟨rfl, by decide, by decide, by decide +kernel⟩ (FMi hF (t := 18) (by decide)) (fun _ _ _ => rfl) rfl rfl rfl ⟨Nat.le_of_ble_eq_true rfl, Nat.le_of_ble_eq_true rfl⟩ rfl (Nat.le_of_ble_eq_true rfl) dX8_writePlain_107 ⟨_, rfl⟩ rfl ?_
            refine G_aload_n hΓ 3 dX8_writePlain_110 rfl ?_
            refine G_iconst (v := 1) hΓ dX8_writePlain_111 (by decide) ?_
            refine G_iconst (v := 1) hΓ dX8_writePlain_112 (by decide) ?_
            obtain ⟨⟨u73, u74⟩, hc75, hf⟩ := bd_some hf
            try dsimp only at hf
            refine G_callV hΓ (n := 2) (As := [.int 1, .int 1]) (t := 18) (i := 0) (ci := 11) (T := TX8) (N := 47) (FS := fs8 (gl Γ) 0) (σ' := (qM σ u73 u74)) (c_X8_bits (gL Γ) (gl Γ) hF σ  u70 u71 1 1  hc75) rfl rfl kw_1063 kw_1065 kp_33 kw_9 kw_1066 ⟨rfl, by decide, by decide, by decide +kernel⟩ (FMi hF (t := 18) (by decide)) (fun _ _ _ => rfl) rfl rfl rfl ⟨Nat.le_of_ble_eq_true rfl, Nat.le_of_ble_eq_true rfl⟩ rfl (Nat.le_of_ble_eq_true rfl) dX8_writePlain_113 ⟨_, rfl⟩ rfl ?_
            refine G_aload_n hΓ 3 dX8_writePlain_116 rfl ?_
            refine G_aload_n hΓ 3 dX8_writePlain_117 rfl ?_
            refine F_get hΓ (t := 18) (i := 0) (ci := 11) (C := RX8) (T := TX8) (N := 47) (fs8 (gl Γ) 0) (v := .ref (ya (gl Γ) 19 2)) (FMi hF (t := 18) (by decide)) (fun _ _ _ => rfl) rfl rfl rfl rfl inW8 6 (by decide) (TT_cons kw_886) rfl dX8_writePlain_118 ?_
            refine G_iload_n hΓ 4 dX8_writePlain_121 rfl ?_
            obtain ⟨hg76, hf⟩ := gd_some hf
            refine F_ald (G_iald hΓ) (t := 19) (i := 2) (f := (u74 2)) (FMi hF (t := 19) (by decide)) (fun _ _ _ => rfl) rfl hg76 dX8_writePlain_122 ?_
            refine G_ldc hΓ (v := 262143) (TT_cons kw_1067) dX8_writePlain_123 ?_
            refine G_iand hΓ dX8_writePlain_125 ?_
            refine G_bipush (v := 18) hΓ dX8_writePlain_126 (by decide) ?_
            obtain ⟨⟨u77, u78⟩, hc79, hf⟩ := bd_some hf
            try dsimp only at hf
            refine G_callV hΓ (n := 2) (As := [.int (((u74 2) p1.toNatClampNeg) &&& 262143), .int 18]) (t := 18) (i := 0) (ci := 11) (T := TX8) (N := 47) (FS := fs8 (gl Γ) 0) (σ' := (qM σ u77 u78)) (c_X8_bits (gL Γ) (gl Γ) hF σ  u73 u74 (((u74 2) p1.toNatClampNeg) &&& 262143) 18  hc79) rfl rfl kw_1063 kw_1065 kp_33 kw_9 kw_1066 ⟨rfl, by decide, by decide, by decide +kernel⟩ (FMi hF (t := 18) (by decide)) (fun _ _ _ => rfl) rfl rfl rfl ⟨Nat.le_of_ble_eq_true rfl, Nat.le_of_ble_eq_true rfl⟩ rfl (Nat.le_of_ble_eq_true rfl) dX8_writePlain_128 ⟨_, rfl⟩ rfl ?_
            refine G_aload_n hΓ 3 dX8_writePlain_131 rfl ?_
            refine G_iload hΓ 0 dX8_writePlain_132 rfl ?_
            refine G_iconst (v := 1) hΓ dX8_writePlain_134 (by decide) ?_
            obtain ⟨⟨u80, u81⟩, hc82, hf⟩ := bd_some hf
            try dsimp only at hf
            refine G_callV hΓ (n := 2) (As := [.int x12, .int 1]) (t := 18) (i := 0) (ci := 11) (T := TX8) (N := 47) (FS := fs8 (gl Γ) 0) (σ' := (qM σ u80 u81)) (c_X8_bits (gL Γ) (gl Γ) hF σ  u77 u78 x12 1  hc82) rfl rfl kw_1063 kw_1065 kp_33 kw_9 kw_1066 ⟨rfl, by decide, by decide, by decide +kernel⟩ (FMi hF (t := 18) (by decide)) (fun _ _ _ => rfl) rfl rfl rfl ⟨Nat.le_of_ble_eq_true rfl, Nat.le_of_ble_eq_true rfl⟩ rfl (Nat.le_of_ble_eq_true rfl) dX8_writePlain_135 ⟨_, rfl⟩ rfl ?_
            refine G_goto hΓ (tgt := 154) dX8_writePlain_138 (by decide) ?_
            exact K29 _ _ hf
        clear hk_k21
        refine G_if_eq hΓ (tgt := 89) dX8_writePlain_74 (by decide) (fun hc86 => ?_) (fun hc86 => ?_)
        · rw [if_pos hc86] at hf
          refine G_aload_n hΓ 3 dX8_writePlain_89 rfl ?_
          refine F_get hΓ (t := 18) (i := 0) (ci := 11) (C := RX8) (T := TX8) (N := 47) (fs8 (gl Γ) 0) (v := .ref (ya (gl Γ) 19 2)) (FMi hF (t := 18) (by decide)) (fun _ _ _ => rfl) rfl rfl rfl rfl inW8 6 (by decide) (TT_cons kw_886) rfl dX8_writePlain_90 ?_
          refine G_iload_n hΓ 4 dX8_writePlain_93 rfl ?_
          obtain ⟨hg84, hf⟩ := gd_some hf
          refine F_ald (G_iald hΓ) (t := 19) (i := 2) (f := (u17 2)) (FMi hF (t := 19) (by decide)) (fun _ _ _ => rfl) rfl hg84 dX8_writePlain_94 ?_
          exact K22 _ hf
        · rw [if_neg hc86] at hf
          refine G_aload_n hΓ 3 dX8_writePlain_77 rfl ?_
          refine F_get hΓ (t := 18) (i := 0) (ci := 11) (C := RX8) (T := TX8) (N := 47) (fs8 (gl Γ) 0) (v := .ref (ya (gl Γ) 19 2)) (FMi hF (t := 18) (by decide)) (fun _ _ _ => rfl) rfl rfl rfl rfl inW8 6 (by decide) (TT_cons kw_886) rfl dX8_writePlain_78 ?_
          refine G_iload_n hΓ 4 dX8_writePlain_81 rfl ?_
          obtain ⟨hg85, hf⟩ := gd_some hf
          refine F_ald (G_iald hΓ) (t := 19) (i := 2) (f := (u17 2)) (FMi hF (t := 19) (by decide)) (fun _ _ _ => rfl) rfl hg85 dX8_writePlain_82 ?_
          refine G_bipush (v := 18) hΓ dX8_writePlain_83 (by decide) ?_
          refine G_ishr hΓ dX8_writePlain_85 ?_
          refine G_goto hΓ (tgt := 95) dX8_writePlain_86 (by decide) ?_
          exact K22 _ hf
      have he := he15
      refine G_icmp_le hΓ (tgt := 58) dX8_writePlain_51 (by decide) (fun hc14 => ?_) (fun hc14 => ?_)
      · rw [if_pos hc14] at he
        refine G_iconst (v := 0) hΓ dX8_writePlain_58 (by decide) ?_
        subst he
        exact K13
      · rw [if_neg hc14] at he
        refine G_iconst (v := 1) hΓ dX8_writePlain_54 (by decide) ?_
        refine G_goto hΓ (tgt := 59) dX8_writePlain_55 (by decide) ?_
        subst he
        exact K13
    clear hk_k9
    refine G_icmp_eq hΓ (tgt := 38) dX8_writePlain_25 (by decide) (fun hc89 => ?_) (fun hc89 => ?_)
    · rw [if_pos hc89] at hf
      refine G_iconst (v := 1) hΓ dX8_writePlain_38 (by decide) ?_
      refine G_goto hΓ (tgt := 43) dX8_writePlain_39 (by decide) ?_
      exact K10 _ (Or.inr rfl) hf
    · rw [if_neg hc89] at hf
      refine G_aload_n hΓ 1 dX8_writePlain_28 rfl ?_
      refine F_get hΓ (t := 18) (i := 0) (ci := 11) (C := RX8) (T := TX8) (N := 47) (fs8 (gl Γ) 0) (v := .ref (ya (gl Γ) 19 3)) (FMi hF (t := 18) (by decide)) (fun _ _ _ => rfl) rfl rfl rfl rfl inW8 7 (by decide) (TT_cons kw_887) rfl dX8_writePlain_29 ?_
      refine G_iload_n hΓ 2 dX8_writePlain_32 rfl ?_
      obtain ⟨hg87, hf⟩ := gd_some hf
      refine F_ald (G_iald hΓ) (t := 19) (i := 3) (f := (m 3)) (FMi hF (t := 19) (by decide)) (fun _ _ _ => rfl) rfl hg87 dX8_writePlain_33 ?_
      refine G_iconst (v := 3) hΓ dX8_writePlain_34 (by decide) ?_
      refine G_icmp_ne hΓ (tgt := 42) dX8_writePlain_35 (by decide) (fun hc88 => ?_) (fun hc88 => ?_)
      · rw [if_neg hc88] at hf
        refine G_iconst (v := 0) hΓ dX8_writePlain_42 (by decide) ?_
        exact K10 _ (Or.inl rfl) hf
      · rw [if_pos hc88] at hf
        refine G_iconst (v := 1) hΓ dX8_writePlain_38 (by decide) ?_
        refine G_goto hΓ (tgt := 43) dX8_writePlain_39 (by decide) ?_
        exact K10 _ (Or.inr rfl) hf
  have he := he5
  refine G_icmp_ne hΓ (tgt := 16) dX8_writePlain_9 (by decide) (fun hc4 => ?_) (fun hc4 => ?_)
  · rw [if_neg hc4] at he
    refine G_iconst (v := 0) hΓ dX8_writePlain_16 (by decide) ?_
    subst he
    exact K3
  · rw [if_pos hc4] at he
    refine G_iconst (v := 1) hΓ dX8_writePlain_12 (by decide) ?_
    refine G_goto hΓ (tgt := 17) dX8_writePlain_13 (by decide) ?_
    subst he
    exact K3
theorem dX8_checkOf_0 : decode cX8_checkOf 0 = .ok (.iload_n 1, 1) := by decide +kernel
theorem dX8_checkOf_1 : decode cX8_checkOf 1 = .ok (.bipush 15, 2) := by decide +kernel
theorem dX8_checkOf_3 : decode cX8_checkOf 3 = .ok (.if_icmp .ne 9, 3) := by decide +kernel
theorem dX8_checkOf_6 : decode cX8_checkOf 6 = .ok (.sipush 17817, 3) := by decide +kernel
theorem dX8_checkOf_9 : decode cX8_checkOf 9 = .ok (.goto 16, 3) := by decide +kernel
theorem dX8_checkOf_12 : decode cX8_checkOf 12 = .ok (.iload_n 1, 1) := by decide +kernel
theorem dX8_checkOf_13 : decode cX8_checkOf 13 = .ok (.bipush 17, 2) := by decide +kernel
theorem dX8_checkOf_15 : decode cX8_checkOf 15 = .ok (.if_icmp .ne 8, 3) := by decide +kernel
theorem dX8_checkOf_18 : decode cX8_checkOf 18 = .ok (.ldc 151, 2) := by decide +kernel
theorem dX8_checkOf_20 : decode cX8_checkOf 20 = .ok (.goto 5, 3) := by decide +kernel
theorem dX8_checkOf_23 : decode cX8_checkOf 23 = .ok (.ldc 152, 2) := by decide +kernel
theorem dX8_checkOf_25 : decode cX8_checkOf 25 = .ok (.istore_n 2, 1) := by decide +kernel
theorem dX8_checkOf_26 : decode cX8_checkOf 26 = .ok (.iconst 1, 1) := by decide +kernel
theorem dX8_checkOf_27 : decode cX8_checkOf 27 = .ok (.iload_n 1, 1) := by decide +kernel
theorem dX8_checkOf_28 : decode cX8_checkOf 28 = .ok (.iconst 1, 1) := by decide +kernel
theorem dX8_checkOf_29 : decode cX8_checkOf 29 = .ok (.isub, 1) := by decide +kernel
theorem dX8_checkOf_30 : decode cX8_checkOf 30 = .ok (.ishl, 1) := by decide +kernel
theorem dX8_checkOf_31 : decode cX8_checkOf 31 = .ok (.istore_n 3, 1) := by decide +kernel
theorem dX8_checkOf_32 : decode cX8_checkOf 32 = .ok (.iload_n 1, 1) := by decide +kernel
theorem dX8_checkOf_33 : decode cX8_checkOf 33 = .ok (.bipush 15, 2) := by decide +kernel
theorem dX8_checkOf_35 : decode cX8_checkOf 35 = .ok (.if_icmp .ne 7, 3) := by decide +kernel
theorem dX8_checkOf_38 : decode cX8_checkOf 38 = .ok (.iconst 0, 1) := by decide +kernel
theorem dX8_checkOf_39 : decode cX8_checkOf 39 = .ok (.goto 4, 3) := by decide +kernel
theorem dX8_checkOf_42 : decode cX8_checkOf 42 = .ok (.iload_n 3, 1) := by decide +kernel
theorem dX8_checkOf_43 : decode cX8_checkOf 43 = .ok (.istore 4, 2) := by decide +kernel
theorem dX8_checkOf_45 : decode cX8_checkOf 45 = .ok (.iconst 0, 1) := by decide +kernel
theorem dX8_checkOf_46 : decode cX8_checkOf 46 = .ok (.istore 5, 2) := by decide +kernel
theorem dX8_checkOf_48 : decode cX8_checkOf 48 = .ok (.iload 5, 2) := by decide +kernel
theorem dX8_checkOf_50 : decode cX8_checkOf 50 = .ok (.aload_n 0, 1) := by decide +kernel
theorem dX8_checkOf_51 : decode cX8_checkOf 51 = .ok (.getfield 153, 3) := by decide +kernel
theorem dX8_checkOf_54 : decode cX8_checkOf 54 = .ok (.if_icmp .ge 41, 3) := by decide +kernel
theorem dX8_checkOf_57 : decode cX8_checkOf 57 = .ok (.iload 4, 2) := by decide +kernel
theorem dX8_checkOf_59 : decode cX8_checkOf 59 = .ok (.iload_n 3, 1) := by decide +kernel
theorem dX8_checkOf_60 : decode cX8_checkOf 60 = .ok (.idiv, 1) := by decide +kernel
theorem dX8_checkOf_61 : decode cX8_checkOf 61 = .ok (.istore 6, 2) := by decide +kernel
theorem dX8_checkOf_63 : decode cX8_checkOf 63 = .ok (.iconst 2, 1) := by decide +kernel
theorem dX8_checkOf_64 : decode cX8_checkOf 64 = .ok (.iload 4, 2) := by decide +kernel
theorem dX8_checkOf_66 : decode cX8_checkOf 66 = .ok (.iload_n 3, 1) := by decide +kernel
theorem dX8_checkOf_67 : decode cX8_checkOf 67 = .ok (.irem, 1) := by decide +kernel
theorem dX8_checkOf_68 : decode cX8_checkOf 68 = .ok (.imul, 1) := by decide +kernel
theorem dX8_checkOf_69 : decode cX8_checkOf 69 = .ok (.istore 4, 2) := by decide +kernel
theorem dX8_checkOf_71 : decode cX8_checkOf 71 = .ok (.iload 6, 2) := by decide +kernel
theorem dX8_checkOf_73 : decode cX8_checkOf 73 = .ok (.aload_n 0, 1) := by decide +kernel
theorem dX8_checkOf_74 : decode cX8_checkOf 74 = .ok (.getfield 110, 3) := by decide +kernel
theorem dX8_checkOf_77 : decode cX8_checkOf 77 = .ok (.iload 5, 2) := by decide +kernel
theorem dX8_checkOf_79 : decode cX8_checkOf 79 = .ok (.baload, 1) := by decide +kernel
theorem dX8_checkOf_80 : decode cX8_checkOf 80 = .ok (.if_icmp .eq 9, 3) := by decide +kernel
theorem dX8_checkOf_83 : decode cX8_checkOf 83 = .ok (.iload 4, 2) := by decide +kernel
theorem dX8_checkOf_85 : decode cX8_checkOf 85 = .ok (.iload_n 2, 1) := by decide +kernel
theorem dX8_checkOf_86 : decode cX8_checkOf 86 = .ok (.ixor, 1) := by decide +kernel
theorem dX8_checkOf_87 : decode cX8_checkOf 87 = .ok (.istore 4, 2) := by decide +kernel
theorem dX8_checkOf_89 : decode cX8_checkOf 89 = .ok (.iinc 5 1, 3) := by decide +kernel
theorem dX8_checkOf_92 : decode cX8_checkOf 92 = .ok (.goto (-44), 3) := by decide +kernel
theorem dX8_checkOf_95 : decode cX8_checkOf 95 = .ok (.iload 4, 2) := by decide +kernel
theorem dX8_checkOf_97 : decode cX8_checkOf 97 = .ok (.ireturn, 1) := by decide +kernel
noncomputable def L_X8_checkOf_48 (v : Nat → Int32) (v6 : Int32) (m : Nat → Nat → Int32) (x1 : Int32) (k13 : Int32 × Int32 → Option (Int32)) : Nat → Int32 → Int32 → Option (Int32)
  | 0, _, _ => none
  | nn + 1, v11, v12 => if (v 41) ≤ v11 then k13 (v11, v12) else gd (¬ v6 = 0) (gd (¬ v6 = 0) (lt (α := Int32) (2 * (v12 - v12 / v6 * v6)) (fun v17 => gd (vp_in v11 1200) (lt (α := Int32) (if (v12 / v6) = ((m 30) v11.toNatClampNeg) then v17 else (v17 ^^^ x1)) (fun x19 => L_X8_checkOf_48 v v6 m x1 k13 nn (v11 + 1) x19)))))
noncomputable def f_X8_checkOf  (v : Nat → Int32) (m : Nat → Nat → Int32) (p1 : Int32) : Option (Int32) := lt (α := Int32) (if p1 = 15 then 17817 else if p1 = 17 then 92251 else 1058969) (fun x1 => lt (α := Int32) ((1 : Int32) <<< ((p1 - 1) &&& 31)) (fun v6 => lt (α := Int32) (if p1 = 15 then 0 else v6) (fun x7 => jn (α := Int32 × Int32) (fun ⟨v11, v12⟩ => some (v12)) (fun k13 => L_X8_checkOf_48 v v6 m x1 k13 fu 0 x7))))
set_option maxHeartbeats 4000000 in
set_option maxRecDepth 100000 in
theorem c_X8_checkOf (l : Launch) (Λ : LY) (hF : FM Λ) (σ : CS)  (v : Nat → Int32) (m : Nat → Nat → Int32) (p1 : Int32)   {r9 : Int32} (hf : f_X8_checkOf v m p1 = some r9) : CM l yX8_checkOf (.code yX8_checkOf cX8_checkOf 7 (some .int) :: TT) ({ frames := 0, cells := 0, slots := 0, locals := 0 }) Λ [.ref (ya Λ 18 0), .int p1] (qM σ v m) (qM σ v m) (some (.int r9)) := by
  refine CM_intro (own := RX8) (by decide) rfl (Nat.le_of_ble_eq_true rfl) ?_
  intro Γ hg hl hΓ hE
  subst hg; subst hl
  show GG Γ (0, 0) (qM σ v m) 0 [(0, .ref (ya (gl Γ) 18 0)), (1, .int p1)] []
  unfold f_X8_checkOf at hf
  refine G_iload_n hΓ 1 dX8_checkOf_0 rfl ?_
  refine G_bipush (v := 15) hΓ dX8_checkOf_1 (by decide) ?_
  obtain ⟨x1, he5, hf⟩ := lt_eq hf
  have K2 : GG Γ (0, 0) (qM σ v m) 25 [(0, .ref (ya (gl Γ) 18 0)), (1, .int p1)] [.int x1] := by
    refine G_istore_n hΓ [(2, .int x1), (0, .ref (ya (gl Γ) 18 0)), (1, .int p1)] dX8_checkOf_25 (by decide) rfl ?_
    refine G_iconst (v := 1) hΓ dX8_checkOf_26 (by decide) ?_
    refine G_iload_n hΓ 2 dX8_checkOf_27 rfl ?_
    refine G_iconst (v := 1) hΓ dX8_checkOf_28 (by decide) ?_
    refine G_isub hΓ dX8_checkOf_29 ?_
    refine G_ishl hΓ dX8_checkOf_30 ?_
    obtain ⟨v6, hv_v6, hf⟩ := lt_eq hf
    refine G_topi hv_v6 ?_
    refine G_istore_n hΓ [(3, .int v6), (2, .int x1), (0, .ref (ya (gl Γ) 18 0)), (1, .int p1)] dX8_checkOf_31 (by decide) rfl ?_
    refine G_iload_n hΓ 3 dX8_checkOf_32 rfl ?_
    refine G_bipush (v := 15) hΓ dX8_checkOf_33 (by decide) ?_
    obtain ⟨x7, he10, hf⟩ := lt_eq hf
    have K8 : GG Γ (0, 0) (qM σ v m) 43 [(3, .int v6), (2, .int x1), (0, .ref (ya (gl Γ) 18 0)), (1, .int p1)] [.int x7] := by
      refine G_istore hΓ [(4, .int x7), (3, .int v6), (2, .int x1), (0, .ref (ya (gl Γ) 18 0)), (1, .int p1)] dX8_checkOf_43 (by decide) rfl ?_
      refine G_iconst (v := 0) hΓ dX8_checkOf_45 (by decide) ?_
      refine G_istore hΓ [(5, .int 0), (4, .int x7), (3, .int v6), (2, .int x1), (0, .ref (ya (gl Γ) 18 0)), (1, .int p1)] dX8_checkOf_46 (by decide) rfl ?_
      obtain ⟨k13, hk_k13, hf⟩ := jn_eq hf
      try dsimp only at hf
      have K14 : ∀ v11 v12, k13 (v11, v12) = some r9 → GG Γ (0, 0) (qM σ v m) 95 [(5, .int v11), (4, .int v12), (3, .int v6), (2, .int x1), (0, .ref (ya (gl Γ) 18 0)), (1, .int p1)] [] := by
        intro v11 v12 hf
        subst hk_k13
        try dsimp only at hf
        refine G_iload hΓ 1 dX8_checkOf_95 rfl ?_
        cases hf
        exact G_iret hΓ hE dX8_checkOf_97
      clear hk_k13
      have loop24 : ∀ (nn : Nat) v11 v12, L_X8_checkOf_48 v v6 m x1 k13 nn v11 v12 = some r9 → GG Γ (0, 0) (qM σ v m) 48 [(5, .int v11), (4, .int v12), (3, .int v6), (2, .int x1), (0, .ref (ya (gl Γ) 18 0)), (1, .int p1)] [] := by
        intro nn
        induction nn with
        | zero => intro v11 v12 hf; cases hf
        | succ nn ih =>
          intro v11 v12 hf
          rw [L_X8_checkOf_48] at hf
          refine G_iload hΓ 0 dX8_checkOf_48 rfl ?_
          refine G_aload_n hΓ 4 dX8_checkOf_50 rfl ?_
          refine F_get hΓ (t := 18) (i := 0) (ci := 11) (C := RX8) (T := TX8) (N := 47) (fs8 (gl Γ) 0) (v := .int (v 41)) (FMi hF (t := 18) (by decide)) (fun _ _ _ => rfl) rfl rfl rfl rfl inW8 41 (by decide) (TT_cons kw_921) rfl dX8_checkOf_51 ?_
          refine G_icmp_ge hΓ (tgt := 95) dX8_checkOf_54 (by decide) (fun hc23 => ?_) (fun hc23 => ?_)
          · rw [if_pos hc23] at hf
            exact (K14 _ _ hf)
          · rw [if_neg hc23] at hf
            refine G_iload hΓ 1 dX8_checkOf_57 rfl ?_
            refine G_iload_n hΓ 2 dX8_checkOf_59 rfl ?_
            obtain ⟨hg15, hf⟩ := gd_some hf
            refine G_idiv hΓ dX8_checkOf_60 hg15 ?_
            refine G_istore hΓ [(6, .int (v12 / v6)), (5, .int v11), (4, .int v12), (3, .int v6), (2, .int x1), (0, .ref (ya (gl Γ) 18 0)), (1, .int p1)] dX8_checkOf_61 (by decide) rfl ?_
            refine G_iconst (v := 2) hΓ dX8_checkOf_63 (by decide) ?_
            refine G_iload hΓ 2 dX8_checkOf_64 rfl ?_
            refine G_iload_n hΓ 3 dX8_checkOf_66 rfl ?_
            obtain ⟨hg16, hf⟩ := gd_some hf
            refine G_irem hΓ dX8_checkOf_67 hg16 ?_
            refine G_imul hΓ dX8_checkOf_68 ?_
            obtain ⟨v17, hv_v17, hf⟩ := lt_eq hf
            refine G_topi hv_v17 ?_
            refine G_istore hΓ [(4, .int v17), (6, .int (v12 / v6)), (5, .int v11), (3, .int v6), (2, .int x1), (0, .ref (ya (gl Γ) 18 0)), (1, .int p1)] dX8_checkOf_69 (by decide) rfl ?_
            refine G_iload hΓ 1 dX8_checkOf_71 rfl ?_
            refine G_aload_n hΓ 5 dX8_checkOf_73 rfl ?_
            refine F_get hΓ (t := 18) (i := 0) (ci := 11) (C := RX8) (T := TX8) (N := 47) (fs8 (gl Γ) 0) (v := .ref (ya (gl Γ) 19 30)) (FMi hF (t := 18) (by decide)) (fun _ _ _ => rfl) rfl rfl rfl rfl inW8 40 (by decide) (TT_cons kw_920) rfl dX8_checkOf_74 ?_
            refine G_iload hΓ 2 dX8_checkOf_77 rfl ?_
            obtain ⟨hg18, hf⟩ := gd_some hf
            refine F_ald (G_bald hΓ) (t := 19) (i := 30) (f := (m 30)) (FMi hF (t := 19) (by decide)) (fun _ _ _ => rfl) rfl hg18 dX8_checkOf_79 ?_
            obtain ⟨x19, he22, hf⟩ := lt_eq hf
            have K20 : GG Γ (0, 0) (qM σ v m) 89 [(4, .int x19), (6, .int (v12 / v6)), (5, .int v11), (3, .int v6), (2, .int x1), (0, .ref (ya (gl Γ) 18 0)), (1, .int p1)] [] := by
              refine G_iinc hΓ 2 [(5, .int (v11 + 1)), (4, .int x19), (6, .int (v12 / v6)), (3, .int v6), (2, .int x1), (0, .ref (ya (gl Γ) 18 0)), (1, .int p1)] dX8_checkOf_89 rfl rfl (by decide) rfl ?_
              refine G_goto hΓ (tgt := 48) dX8_checkOf_92 (by decide) ?_
              exact G_loc [0, 1, 3, 4, 5, 6] rfl (ih _ _ hf)
            have he := he22
            refine G_icmp_eq hΓ (tgt := 89) dX8_checkOf_80 (by decide) (fun hc21 => ?_) (fun hc21 => ?_)
            · rw [if_pos hc21] at he
              subst he
              exact K20
            · rw [if_neg hc21] at he
              refine G_iload hΓ 0 dX8_checkOf_83 rfl ?_
              refine G_iload_n hΓ 4 dX8_checkOf_85 rfl ?_
              refine G_ixor hΓ dX8_checkOf_86 ?_
              refine G_istore hΓ [(4, .int (v17 ^^^ x1)), (6, .int (v12 / v6)), (5, .int v11), (3, .int v6), (2, .int x1), (0, .ref (ya (gl Γ) 18 0)), (1, .int p1)] dX8_checkOf_87 (by decide) rfl ?_
              subst he
              exact K20
      exact loop24 _ _ _ hf
    have he := he10
    refine G_icmp_ne hΓ (tgt := 42) dX8_checkOf_35 (by decide) (fun hc9 => ?_) (fun hc9 => ?_)
    · rw [if_neg hc9] at he
      refine G_iload_n hΓ 0 dX8_checkOf_42 rfl ?_
      subst he
      exact K8
    · rw [if_pos hc9] at he
      refine G_iconst (v := 0) hΓ dX8_checkOf_38 (by decide) ?_
      refine G_goto hΓ (tgt := 43) dX8_checkOf_39 (by decide) ?_
      subst he
      exact K8
  have he := he5
  refine G_icmp_ne hΓ (tgt := 12) dX8_checkOf_3 (by decide) (fun hc4 => ?_) (fun hc4 => ?_)
  · rw [if_neg hc4] at he
    refine G_iload_n hΓ 1 dX8_checkOf_12 rfl ?_
    refine G_bipush (v := 17) hΓ dX8_checkOf_13 (by decide) ?_
    refine G_icmp_ne hΓ (tgt := 23) dX8_checkOf_15 (by decide) (fun hc3 => ?_) (fun hc3 => ?_)
    · rw [if_neg hc3] at he
      refine G_ldc hΓ (v := 1058969) (TT_cons kw_1077) dX8_checkOf_23 ?_
      subst he
      exact K2
    · rw [if_pos hc3] at he
      refine G_ldc hΓ (v := 92251) (TT_cons kw_1076) dX8_checkOf_18 ?_
      refine G_goto hΓ (tgt := 25) dX8_checkOf_20 (by decide) ?_
      subst he
      exact K2
  · rw [if_pos hc4] at he
    refine G_sipush (v := 17817) hΓ dX8_checkOf_6 (by decide) ?_
    refine G_goto hΓ (tgt := 25) dX8_checkOf_9 (by decide) ?_
    subst he
    exact K2
theorem dX8_check_0 : decode cX8_check 0 = .ok (.aload_n 0, 1) := by decide +kernel
theorem dX8_check_1 : decode cX8_check 1 = .ok (.getfield 110, 3) := by decide +kernel
theorem dX8_check_4 : decode cX8_check 4 = .ok (.aload_n 0, 1) := by decide +kernel
theorem dX8_check_5 : decode cX8_check 5 = .ok (.getfield 153, 3) := by decide +kernel
theorem dX8_check_8 : decode cX8_check 8 = .ok (.iload_n 1, 1) := by decide +kernel
theorem dX8_check_9 : decode cX8_check 9 = .ok (.i2b, 1) := by decide +kernel
theorem dX8_check_10 : decode cX8_check 10 = .ok (.bastore, 1) := by decide +kernel
theorem dX8_check_11 : decode cX8_check 11 = .ok (.aload_n 0, 1) := by decide +kernel
theorem dX8_check_12 : decode cX8_check 12 = .ok (.dup, 1) := by decide +kernel
theorem dX8_check_13 : decode cX8_check 13 = .ok (.getfield 153, 3) := by decide +kernel
theorem dX8_check_16 : decode cX8_check 16 = .ok (.iconst 1, 1) := by decide +kernel
theorem dX8_check_17 : decode cX8_check 17 = .ok (.iadd, 1) := by decide +kernel
theorem dX8_check_18 : decode cX8_check 18 = .ok (.putfield 153, 3) := by decide +kernel
theorem dX8_check_21 : decode cX8_check 21 = .ok (.return_, 1) := by decide +kernel
noncomputable def f_X8_check  (v : Nat → Int32) (m : Nat → Nat → Int32) (p1 : Int32) : Option ((Nat → Int32) × (Nat → Nat → Int32)) := gd (vp_in (v 41) 1200) (some ((upd v 41 ((v 41) + 1)), (va_up m 30 (upd (m 30) ((v 41).toNatClampNeg) (vp_nar .byte p1.toInt8.toInt32)))))
set_option maxHeartbeats 4000000 in
set_option maxRecDepth 100000 in
theorem c_X8_check (l : Launch) (Λ : LY) (hF : FM Λ) (σ : CS)  (v : Nat → Int32) (m : Nat → Nat → Int32) (p1 : Int32)   {v' : Nat → Int32} {m' : Nat → Nat → Int32} (hf : f_X8_check v m p1 = some (v', m')) : CM l yX8_check (.code yX8_check cX8_check 2 none :: TT) ({ frames := 0, cells := 0, slots := 0, locals := 0 }) Λ [.ref (ya Λ 18 0), .int p1] (qM σ v m) (qM σ v' m') (none) := by
  refine CM_intro (own := RX8) (by decide) rfl (Nat.le_of_ble_eq_true rfl) ?_
  intro Γ hg hl hΓ hE
  subst hg; subst hl
  show GG Γ (0, 0) (qM σ v m) 0 [(0, .ref (ya (gl Γ) 18 0)), (1, .int p1)] []
  unfold f_X8_check at hf
  refine G_aload_n hΓ 0 dX8_check_0 rfl ?_
  refine F_get hΓ (t := 18) (i := 0) (ci := 11) (C := RX8) (T := TX8) (N := 47) (fs8 (gl Γ) 0) (v := .ref (ya (gl Γ) 19 30)) (FMi hF (t := 18) (by decide)) (fun _ _ _ => rfl) rfl rfl rfl rfl inW8 40 (by decide) (TT_cons kw_920) rfl dX8_check_1 ?_
  refine G_aload_n hΓ 0 dX8_check_4 rfl ?_
  refine F_get hΓ (t := 18) (i := 0) (ci := 11) (C := RX8) (T := TX8) (N := 47) (fs8 (gl Γ) 0) (v := .int (v 41)) (FMi hF (t := 18) (by decide)) (fun _ _ _ => rfl) rfl rfl rfl rfl inW8 41 (by decide) (TT_cons kw_921) rfl dX8_check_5 ?_
  refine G_iload_n hΓ 1 dX8_check_8 rfl ?_
  refine G_i2b hΓ dX8_check_9 ?_
  obtain ⟨hg1, hf⟩ := gd_some hf
  refine F_bast hΓ (t := 19) (i := 30) (f := (m 30)) (σ' := (qM σ v (va_up m 30 (upd (m 30) ((v 41).toNatClampNeg) (vp_nar .byte p1.toInt8.toInt32))))) (FMi hF (t := 19) (by decide)) (fun _ _ _ => rfl) rfl qM_m hg1 dX8_check_10 ?_
  refine G_aload_n hΓ 0 dX8_check_11 rfl ?_
  refine G_dup hΓ dX8_check_12 rfl ?_
  refine F_get hΓ (t := 18) (i := 0) (ci := 11) (C := RX8) (T := TX8) (N := 47) (fs8 (gl Γ) 0) (v := .int (v 41)) (FMi hF (t := 18) (by decide)) (fun _ _ _ => rfl) rfl rfl rfl rfl inW8 41 (by decide) (TT_cons kw_921) rfl dX8_check_13 ?_
  refine G_iconst (v := 1) hΓ dX8_check_16 (by decide) ?_
  refine G_iadd hΓ dX8_check_17 ?_
  refine F_put hΓ (t := 18) (i := 0) (ci := 11) (C := RX8) (T := TX8) (N := 47) (fs8 (gl Γ) 0) (f := v) (f' := (upd v 41 ((v 41) + 1))) (σ' := (qM σ (upd v 41 ((v 41) + 1)) (va_up m 30 (upd (m 30) ((v 41).toNatClampNeg) (vp_nar .byte p1.toInt8.toInt32))))) (ty := .int) (v := .int ((v 41) + 1)) tyX8 tyX8_ok nmX8 (FMi hF (t := 18) (by decide)) (fun _ _ _ => rfl) rfl qM_v rfl inW8 41 (by decide) (TT_cons kw_921) rfl (by decide +kernel) rfl rfl (fun _ _ => Nat.le_of_ble_eq_true rfl) (fun _ _ => rfl) dX8_check_18 ?_
  cases hf
  exact G_vret hΓ hE dX8_check_21
theorem dX8_put_0 : decode cX8_put 0 = .ok (.aload_n 0, 1) := by decide +kernel
theorem dX8_put_1 : decode cX8_put 1 = .ok (.getfield 101, 3) := by decide +kernel
theorem dX8_put_4 : decode cX8_put 4 = .ok (.aload_n 0, 1) := by decide +kernel
theorem dX8_put_5 : decode cX8_put 5 = .ok (.getfield 156, 3) := by decide +kernel
theorem dX8_put_8 : decode cX8_put 8 = .ok (.iload_n 1, 1) := by decide +kernel
theorem dX8_put_9 : decode cX8_put 9 = .ok (.i2b, 1) := by decide +kernel
theorem dX8_put_10 : decode cX8_put 10 = .ok (.bastore, 1) := by decide +kernel
theorem dX8_put_11 : decode cX8_put 11 = .ok (.aload_n 0, 1) := by decide +kernel
theorem dX8_put_12 : decode cX8_put 12 = .ok (.getfield 104, 3) := by decide +kernel
theorem dX8_put_15 : decode cX8_put 15 = .ok (.aload_n 0, 1) := by decide +kernel
theorem dX8_put_16 : decode cX8_put 16 = .ok (.getfield 156, 3) := by decide +kernel
theorem dX8_put_19 : decode cX8_put 19 = .ok (.iload_n 2, 1) := by decide +kernel
theorem dX8_put_20 : decode cX8_put 20 = .ok (.bastore, 1) := by decide +kernel
theorem dX8_put_21 : decode cX8_put 21 = .ok (.aload_n 0, 1) := by decide +kernel
theorem dX8_put_22 : decode cX8_put 22 = .ok (.dup, 1) := by decide +kernel
theorem dX8_put_23 : decode cX8_put 23 = .ok (.getfield 156, 3) := by decide +kernel
theorem dX8_put_26 : decode cX8_put 26 = .ok (.iconst 1, 1) := by decide +kernel
theorem dX8_put_27 : decode cX8_put 27 = .ok (.iadd, 1) := by decide +kernel
theorem dX8_put_28 : decode cX8_put 28 = .ok (.putfield 156, 3) := by decide +kernel
theorem dX8_put_31 : decode cX8_put 31 = .ok (.return_, 1) := by decide +kernel
noncomputable def f_X8_put  (v : Nat → Int32) (m : Nat → Nat → Int32) (p1 : Int32) (p2 : Int32) : Option ((Nat → Int32) × (Nat → Nat → Int32)) := gd (vp_in (v 37) 1200) (gd (vp_in (v 37) 1200) (some ((upd v 37 ((v 37) + 1)), (va_up (va_up m 27 (upd (m 27) ((v 37).toNatClampNeg) (vp_nar .byte p1.toInt8.toInt32))) 28 (upd (m 28) ((v 37).toNatClampNeg) (vp_nar .boolean p2))))))
set_option maxHeartbeats 4000000 in
set_option maxRecDepth 100000 in
theorem c_X8_put (l : Launch) (Λ : LY) (hF : FM Λ) (σ : CS)  (v : Nat → Int32) (m : Nat → Nat → Int32) (p1 : Int32) (p2 : Int32)   {v' : Nat → Int32} {m' : Nat → Nat → Int32} (hf : f_X8_put v m p1 p2 = some (v', m')) : CM l yX8_put (.code yX8_put cX8_put 3 none :: TT) ({ frames := 0, cells := 0, slots := 0, locals := 0 }) Λ [.ref (ya Λ 18 0), .int p1, .int p2] (qM σ v m) (qM σ v' m') (none) := by
  refine CM_intro (own := RX8) (by decide) rfl (Nat.le_of_ble_eq_true rfl) ?_
  intro Γ hg hl hΓ hE
  subst hg; subst hl
  show GG Γ (0, 0) (qM σ v m) 0 [(0, .ref (ya (gl Γ) 18 0)), (1, .int p1), (2, .int p2)] []
  unfold f_X8_put at hf
  refine G_aload_n hΓ 0 dX8_put_0 rfl ?_
  refine F_get hΓ (t := 18) (i := 0) (ci := 11) (C := RX8) (T := TX8) (N := 47) (fs8 (gl Γ) 0) (v := .ref (ya (gl Γ) 19 27)) (FMi hF (t := 18) (by decide)) (fun _ _ _ => rfl) rfl rfl rfl rfl inW8 35 (by decide) (TT_cons kw_915) rfl dX8_put_1 ?_
  refine G_aload_n hΓ 0 dX8_put_4 rfl ?_
  refine F_get hΓ (t := 18) (i := 0) (ci := 11) (C := RX8) (T := TX8) (N := 47) (fs8 (gl Γ) 0) (v := .int (v 37)) (FMi hF (t := 18) (by decide)) (fun _ _ _ => rfl) rfl rfl rfl rfl inW8 37 (by decide) (TT_cons kw_917) rfl dX8_put_5 ?_
  refine G_iload_n hΓ 1 dX8_put_8 rfl ?_
  refine G_i2b hΓ dX8_put_9 ?_
  obtain ⟨hg1, hf⟩ := gd_some hf
  refine F_bast hΓ (t := 19) (i := 27) (f := (m 27)) (σ' := (qM σ v (va_up m 27 (upd (m 27) ((v 37).toNatClampNeg) (vp_nar .byte p1.toInt8.toInt32))))) (FMi hF (t := 19) (by decide)) (fun _ _ _ => rfl) rfl qM_m hg1 dX8_put_10 ?_
  refine G_aload_n hΓ 0 dX8_put_11 rfl ?_
  refine F_get hΓ (t := 18) (i := 0) (ci := 11) (C := RX8) (T := TX8) (N := 47) (fs8 (gl Γ) 0) (v := .ref (ya (gl Γ) 19 28)) (FMi hF (t := 18) (by decide)) (fun _ _ _ => rfl) rfl rfl rfl rfl inW8 36 (by decide) (TT_cons kw_916) rfl dX8_put_12 ?_
  refine G_aload_n hΓ 0 dX8_put_15 rfl ?_
  refine F_get hΓ (t := 18) (i := 0) (ci := 11) (C := RX8) (T := TX8) (N := 47) (fs8 (gl Γ) 0) (v := .int (v 37)) (FMi hF (t := 18) (by decide)) (fun _ _ _ => rfl) rfl rfl rfl rfl inW8 37 (by decide) (TT_cons kw_917) rfl dX8_put_16 ?_
  refine G_iload_n hΓ 2 dX8_put_19 rfl ?_
  obtain ⟨hg2, hf⟩ := gd_some hf
  refine F_zast hΓ (t := 19) (i := 28) (f := (m 28)) (σ' := (qM σ v (va_up (va_up m 27 (upd (m 27) ((v 37).toNatClampNeg) (vp_nar .byte p1.toInt8.toInt32))) 28 (upd (m 28) ((v 37).toNatClampNeg) (vp_nar .boolean p2))))) (FMi hF (t := 19) (by decide)) (fun _ _ _ => rfl) rfl qM_m hg2 dX8_put_20 ?_
  refine G_aload_n hΓ 0 dX8_put_21 rfl ?_
  refine G_dup hΓ dX8_put_22 rfl ?_
  refine F_get hΓ (t := 18) (i := 0) (ci := 11) (C := RX8) (T := TX8) (N := 47) (fs8 (gl Γ) 0) (v := .int (v 37)) (FMi hF (t := 18) (by decide)) (fun _ _ _ => rfl) rfl rfl rfl rfl inW8 37 (by decide) (TT_cons kw_917) rfl dX8_put_23 ?_
  refine G_iconst (v := 1) hΓ dX8_put_26 (by decide) ?_
  refine G_iadd hΓ dX8_put_27 ?_
  refine F_put hΓ (t := 18) (i := 0) (ci := 11) (C := RX8) (T := TX8) (N := 47) (fs8 (gl Γ) 0) (f := v) (f' := (upd v 37 ((v 37) + 1))) (σ' := (qM σ (upd v 37 ((v 37) + 1)) (va_up (va_up m 27 (upd (m 27) ((v 37).toNatClampNeg) (vp_nar .byte p1.toInt8.toInt32))) 28 (upd (m 28) ((v 37).toNatClampNeg) (vp_nar .boolean p2))))) (ty := .int) (v := .int ((v 37) + 1)) tyX8 tyX8_ok nmX8 (FMi hF (t := 18) (by decide)) (fun _ _ _ => rfl) rfl qM_v rfl inW8 37 (by decide) (TT_cons kw_917) rfl (by decide +kernel) rfl rfl (fun _ _ => Nat.le_of_ble_eq_true rfl) (fun _ _ => rfl) dX8_put_28 ?_
  cases hf
  exact G_vret hΓ hE dX8_put_31
theorem dX8_five_0 : decode cX8_five 0 = .ok (.iconst 1, 1) := by decide +kernel
theorem dX8_five_1 : decode cX8_five 1 = .ok (.istore_n 1, 1) := by decide +kernel
theorem dX8_five_2 : decode cX8_five 2 = .ok (.aload_n 0, 1) := by decide +kernel
theorem dX8_five_3 : decode cX8_five 3 = .ok (.getfield 156, 3) := by decide +kernel
theorem dX8_five_6 : decode cX8_five 6 = .ok (.iconst 1, 1) := by decide +kernel
theorem dX8_five_7 : decode cX8_five 7 = .ok (.isub, 1) := by decide +kernel
theorem dX8_five_8 : decode cX8_five 8 = .ok (.istore_n 2, 1) := by decide +kernel
theorem dX8_five_9 : decode cX8_five 9 = .ok (.iload_n 2, 1) := by decide +kernel
theorem dX8_five_10 : decode cX8_five 10 = .ok (.ifCond .le 43, 3) := by decide +kernel
theorem dX8_five_13 : decode cX8_five 13 = .ok (.aload_n 0, 1) := by decide +kernel
theorem dX8_five_14 : decode cX8_five 14 = .ok (.getfield 101, 3) := by decide +kernel
theorem dX8_five_17 : decode cX8_five 17 = .ok (.iload_n 2, 1) := by decide +kernel
theorem dX8_five_18 : decode cX8_five 18 = .ok (.baload, 1) := by decide +kernel
theorem dX8_five_19 : decode cX8_five 19 = .ok (.aload_n 0, 1) := by decide +kernel
theorem dX8_five_20 : decode cX8_five 20 = .ok (.getfield 101, 3) := by decide +kernel
theorem dX8_five_23 : decode cX8_five 23 = .ok (.iload_n 2, 1) := by decide +kernel
theorem dX8_five_24 : decode cX8_five 24 = .ok (.iconst 1, 1) := by decide +kernel
theorem dX8_five_25 : decode cX8_five 25 = .ok (.isub, 1) := by decide +kernel
theorem dX8_five_26 : decode cX8_five 26 = .ok (.baload, 1) := by decide +kernel
theorem dX8_five_27 : decode cX8_five 27 = .ok (.if_icmp .ne 26, 3) := by decide +kernel
theorem dX8_five_30 : decode cX8_five 30 = .ok (.aload_n 0, 1) := by decide +kernel
theorem dX8_five_31 : decode cX8_five 31 = .ok (.getfield 104, 3) := by decide +kernel
theorem dX8_five_34 : decode cX8_five 34 = .ok (.iload_n 2, 1) := by decide +kernel
theorem dX8_five_35 : decode cX8_five 35 = .ok (.baload, 1) := by decide +kernel
theorem dX8_five_36 : decode cX8_five 36 = .ok (.ifCond .ne 17, 3) := by decide +kernel
theorem dX8_five_39 : decode cX8_five 39 = .ok (.iload_n 1, 1) := by decide +kernel
theorem dX8_five_40 : decode cX8_five 40 = .ok (.iconst 5, 1) := by decide +kernel
theorem dX8_five_41 : decode cX8_five 41 = .ok (.if_icmp .ge 12, 3) := by decide +kernel
theorem dX8_five_44 : decode cX8_five 44 = .ok (.iinc 1 1, 3) := by decide +kernel
theorem dX8_five_47 : decode cX8_five 47 = .ok (.iinc 2 (-1), 3) := by decide +kernel
theorem dX8_five_50 : decode cX8_five 50 = .ok (.goto (-41), 3) := by decide +kernel
theorem dX8_five_53 : decode cX8_five 53 = .ok (.iload_n 1, 1) := by decide +kernel
theorem dX8_five_54 : decode cX8_five 54 = .ok (.iconst 5, 1) := by decide +kernel
theorem dX8_five_55 : decode cX8_five 55 = .ok (.if_icmp .ne 7, 3) := by decide +kernel
theorem dX8_five_58 : decode cX8_five 58 = .ok (.iconst 1, 1) := by decide +kernel
theorem dX8_five_59 : decode cX8_five 59 = .ok (.goto 4, 3) := by decide +kernel
theorem dX8_five_62 : decode cX8_five 62 = .ok (.iconst 0, 1) := by decide +kernel
theorem dX8_five_63 : decode cX8_five 63 = .ok (.ireturn, 1) := by decide +kernel
noncomputable def L_X8_five_9 (m : Nat → Nat → Int32) (k3 : Int32 × Int32 → Option (Int32)) : Nat → Int32 → Int32 → Option (Int32)
  | 0, _, _ => none
  | nn + 1, v1, v2 => if v1 ≤ 0 then k3 (v1, v2) else gd (vp_in v1 1200) (gd (vp_in (v1 - 1) 1200) (if ((m 27) v1.toNatClampNeg) = ((m 27) ((v1 - 1).toNatClampNeg)) then gd (vp_in v1 1200) (if ((m 28) v1.toNatClampNeg) = 0 then if 5 ≤ v2 then k3 (v1, v2) else L_X8_five_9 m k3 nn (v1 + (-1)) (v2 + 1) else k3 (v1, v2)) else k3 (v1, v2)))
noncomputable def f_X8_five  (v : Nat → Int32) (m : Nat → Nat → Int32)  : Option (Int32) := jn (α := Int32 × Int32) (fun ⟨v1, v2⟩ => lt (α := Int32) (if v2 = 5 then 1 else 0) (fun x12 => some (x12))) (fun k3 => L_X8_five_9 m k3 fu ((v 37) - 1) 1)
set_option maxHeartbeats 4000000 in
set_option maxRecDepth 100000 in
theorem c_X8_five (l : Launch) (Λ : LY) (hF : FM Λ) (σ : CS)  (v : Nat → Int32) (m : Nat → Nat → Int32)    {r9 : Int32} (hf : f_X8_five v m = some r9) : CM l yX8_five (.code yX8_five cX8_five 3 (some .boolean) :: TT) ({ frames := 0, cells := 0, slots := 0, locals := 0 }) Λ [.ref (ya Λ 18 0)] (qM σ v m) (qM σ v m) (some (.int r9)) := by
  refine CM_intro (own := RX8) (by decide) rfl (Nat.le_of_ble_eq_true rfl) ?_
  intro Γ hg hl hΓ hE
  subst hg; subst hl
  show GG Γ (0, 0) (qM σ v m) 0 [(0, .ref (ya (gl Γ) 18 0))] []
  unfold f_X8_five at hf
  refine G_iconst (v := 1) hΓ dX8_five_0 (by decide) ?_
  refine G_istore_n hΓ [(1, .int 1), (0, .ref (ya (gl Γ) 18 0))] dX8_five_1 (by decide) rfl ?_
  refine G_aload_n hΓ 1 dX8_five_2 rfl ?_
  refine F_get hΓ (t := 18) (i := 0) (ci := 11) (C := RX8) (T := TX8) (N := 47) (fs8 (gl Γ) 0) (v := .int (v 37)) (FMi hF (t := 18) (by decide)) (fun _ _ _ => rfl) rfl rfl rfl rfl inW8 37 (by decide) (TT_cons kw_917) rfl dX8_five_3 ?_
  refine G_iconst (v := 1) hΓ dX8_five_6 (by decide) ?_
  refine G_isub hΓ dX8_five_7 ?_
  refine G_istore_n hΓ [(2, .int ((v 37) - 1)), (1, .int 1), (0, .ref (ya (gl Γ) 18 0))] dX8_five_8 (by decide) rfl ?_
  obtain ⟨k3, hk_k3, hf⟩ := jn_eq hf
  try dsimp only at hf
  have K4 : ∀ v1 v2, k3 (v1, v2) = some r9 → GG Γ (0, 0) (qM σ v m) 53 [(2, .int v1), (1, .int v2), (0, .ref (ya (gl Γ) 18 0))] [] := by
    intro v1 v2 hf
    subst hk_k3
    try dsimp only at hf
    refine G_iload_n hΓ 1 dX8_five_53 rfl ?_
    refine G_iconst (v := 5) hΓ dX8_five_54 (by decide) ?_
    obtain ⟨x12, he15, hf⟩ := lt_eq hf
    have K13 : GG Γ (0, 0) (qM σ v m) 63 [(2, .int v1), (1, .int v2), (0, .ref (ya (gl Γ) 18 0))] [.int x12] := by
      cases hf
      exact G_zret hΓ (by rw [he15]; (repeat' split) <;> rfl) hE dX8_five_63
    have he := he15
    refine G_icmp_ne hΓ (tgt := 62) dX8_five_55 (by decide) (fun hc14 => ?_) (fun hc14 => ?_)
    · rw [if_neg hc14] at he
      refine G_iconst (v := 0) hΓ dX8_five_62 (by decide) ?_
      subst he
      exact K13
    · rw [if_pos hc14] at he
      refine G_iconst (v := 1) hΓ dX8_five_58 (by decide) ?_
      refine G_goto hΓ (tgt := 63) dX8_five_59 (by decide) ?_
      subst he
      exact K13
  clear hk_k3
  have loop16 : ∀ (nn : Nat) v1 v2, L_X8_five_9 m k3 nn v1 v2 = some r9 → GG Γ (0, 0) (qM σ v m) 9 [(2, .int v1), (1, .int v2), (0, .ref (ya (gl Γ) 18 0))] [] := by
    intro nn
    induction nn with
    | zero => intro v1 v2 hf; cases hf
    | succ nn ih =>
      intro v1 v2 hf
      rw [L_X8_five_9] at hf
      refine G_iload_n hΓ 0 dX8_five_9 rfl ?_
      refine G_if_le hΓ (tgt := 53) dX8_five_10 (by decide) (fun hc11 => ?_) (fun hc11 => ?_)
      · rw [if_pos hc11] at hf
        exact (K4 _ _ hf)
      · rw [if_neg hc11] at hf
        refine G_aload_n hΓ 2 dX8_five_13 rfl ?_
        refine F_get hΓ (t := 18) (i := 0) (ci := 11) (C := RX8) (T := TX8) (N := 47) (fs8 (gl Γ) 0) (v := .ref (ya (gl Γ) 19 27)) (FMi hF (t := 18) (by decide)) (fun _ _ _ => rfl) rfl rfl rfl rfl inW8 35 (by decide) (TT_cons kw_915) rfl dX8_five_14 ?_
        refine G_iload_n hΓ 0 dX8_five_17 rfl ?_
        obtain ⟨hg5, hf⟩ := gd_some hf
        refine F_ald (G_bald hΓ) (t := 19) (i := 27) (f := (m 27)) (FMi hF (t := 19) (by decide)) (fun _ _ _ => rfl) rfl hg5 dX8_five_18 ?_
        refine G_aload_n hΓ 2 dX8_five_19 rfl ?_
        refine F_get hΓ (t := 18) (i := 0) (ci := 11) (C := RX8) (T := TX8) (N := 47) (fs8 (gl Γ) 0) (v := .ref (ya (gl Γ) 19 27)) (FMi hF (t := 18) (by decide)) (fun _ _ _ => rfl) rfl rfl rfl rfl inW8 35 (by decide) (TT_cons kw_915) rfl dX8_five_20 ?_
        refine G_iload_n hΓ 0 dX8_five_23 rfl ?_
        refine G_iconst (v := 1) hΓ dX8_five_24 (by decide) ?_
        refine G_isub hΓ dX8_five_25 ?_
        obtain ⟨hg6, hf⟩ := gd_some hf
        refine F_ald (G_bald hΓ) (t := 19) (i := 27) (f := (m 27)) (FMi hF (t := 19) (by decide)) (fun _ _ _ => rfl) rfl hg6 dX8_five_26 ?_
        refine G_icmp_ne hΓ (tgt := 53) dX8_five_27 (by decide) (fun hc10 => ?_) (fun hc10 => ?_)
        · rw [if_neg hc10] at hf
          exact (K4 _ _ hf)
        · rw [if_pos hc10] at hf
          refine G_aload_n hΓ 2 dX8_five_30 rfl ?_
          refine F_get hΓ (t := 18) (i := 0) (ci := 11) (C := RX8) (T := TX8) (N := 47) (fs8 (gl Γ) 0) (v := .ref (ya (gl Γ) 19 28)) (FMi hF (t := 18) (by decide)) (fun _ _ _ => rfl) rfl rfl rfl rfl inW8 36 (by decide) (TT_cons kw_916) rfl dX8_five_31 ?_
          refine G_iload_n hΓ 0 dX8_five_34 rfl ?_
          obtain ⟨hg7, hf⟩ := gd_some hf
          refine F_ald (G_zald hΓ) (t := 19) (i := 28) (f := (m 28)) (FMi hF (t := 19) (by decide)) (fun _ _ _ => rfl) rfl hg7 dX8_five_35 ?_
          refine G_if_ne hΓ (tgt := 53) dX8_five_36 (by decide) (fun hc9 => ?_) (fun hc9 => ?_)
          · rw [if_neg hc9] at hf
            exact (K4 _ _ hf)
          · rw [if_pos hc9] at hf
            refine G_iload_n hΓ 1 dX8_five_39 rfl ?_
            refine G_iconst (v := 5) hΓ dX8_five_40 (by decide) ?_
            refine G_icmp_ge hΓ (tgt := 53) dX8_five_41 (by decide) (fun hc8 => ?_) (fun hc8 => ?_)
            · rw [if_pos hc8] at hf
              exact (K4 _ _ hf)
            · rw [if_neg hc8] at hf
              refine G_iinc hΓ 1 [(1, .int (v2 + 1)), (2, .int v1), (0, .ref (ya (gl Γ) 18 0))] dX8_five_44 rfl rfl (by decide) rfl ?_
              refine G_iinc hΓ 1 [(2, .int (v1 + (-1))), (1, .int (v2 + 1)), (0, .ref (ya (gl Γ) 18 0))] dX8_five_47 rfl rfl (by decide) rfl ?_
              refine G_goto hΓ (tgt := 9) dX8_five_50 (by decide) ?_
              exact (ih _ _ hf)
  exact loop16 _ _ _ hf
theorem dX8_parity_0 : decode cX8_parity 0 = .ok (.iload_n 0, 1) := by decide +kernel
theorem dX8_parity_1 : decode cX8_parity 1 = .ok (.iconst 2, 1) := by decide +kernel
theorem dX8_parity_2 : decode cX8_parity 2 = .ok (.ishr, 1) := by decide +kernel
theorem dX8_parity_3 : decode cX8_parity 3 = .ok (.iload_n 0, 1) := by decide +kernel
theorem dX8_parity_4 : decode cX8_parity 4 = .ok (.iconst 1, 1) := by decide +kernel
theorem dX8_parity_5 : decode cX8_parity 5 = .ok (.ishr, 1) := by decide +kernel
theorem dX8_parity_6 : decode cX8_parity 6 = .ok (.ixor, 1) := by decide +kernel
theorem dX8_parity_7 : decode cX8_parity 7 = .ok (.iload_n 0, 1) := by decide +kernel
theorem dX8_parity_8 : decode cX8_parity 8 = .ok (.ixor, 1) := by decide +kernel
theorem dX8_parity_9 : decode cX8_parity 9 = .ok (.iconst 1, 1) := by decide +kernel
theorem dX8_parity_10 : decode cX8_parity 10 = .ok (.iand, 1) := by decide +kernel
theorem dX8_parity_11 : decode cX8_parity 11 = .ok (.ireturn, 1) := by decide +kernel
noncomputable def f_X8_parity   (p1 : Int32) : Option (Int32) := some ((((p1 >>> ((2 : Int32) &&& 31)) ^^^ (p1 >>> ((1 : Int32) &&& 31))) ^^^ p1) &&& 1)
set_option maxHeartbeats 4000000 in
set_option maxRecDepth 100000 in
theorem c_X8_parity (l : Launch) (Λ : LY) (hF : FM Λ) (σ : CS)   (p1 : Int32)   {r9 : Int32} (hf : f_X8_parity p1 = some r9) : CM l yX8_parity (.code yX8_parity cX8_parity 1 (some .int) :: TT) ({ frames := 0, cells := 0, slots := 0, locals := 0 }) Λ [.int p1] σ σ (some (.int r9)) := by
  refine CM_intro (own := RX8) (by decide) rfl (Nat.le_of_ble_eq_true rfl) ?_
  intro Γ hg hl hΓ hE
  subst hg; subst hl
  show GG Γ (0, 0) σ 0 [(0, .int p1)] []
  unfold f_X8_parity at hf
  refine G_iload_n hΓ 0 dX8_parity_0 rfl ?_
  refine G_iconst (v := 2) hΓ dX8_parity_1 (by decide) ?_
  refine G_ishr hΓ dX8_parity_2 ?_
  refine G_iload_n hΓ 0 dX8_parity_3 rfl ?_
  refine G_iconst (v := 1) hΓ dX8_parity_4 (by decide) ?_
  refine G_ishr hΓ dX8_parity_5 ?_
  refine G_ixor hΓ dX8_parity_6 ?_
  refine G_iload_n hΓ 0 dX8_parity_7 rfl ?_
  refine G_ixor hΓ dX8_parity_8 ?_
  refine G_iconst (v := 1) hΓ dX8_parity_9 (by decide) ?_
  refine G_iand hΓ dX8_parity_10 ?_
  cases hf
  exact G_iret hΓ hE dX8_parity_11
theorem dX8_countOf_0 : decode cX8_countOf 0 = .ok (.iload_n 0, 1) := by decide +kernel
theorem dX8_countOf_1 : decode cX8_countOf 1 = .ok (.bipush 8, 2) := by decide +kernel
theorem dX8_countOf_3 : decode cX8_countOf 3 = .ok (.irem, 1) := by decide +kernel
theorem dX8_countOf_4 : decode cX8_countOf 4 = .ok (.istore_n 1, 1) := by decide +kernel
theorem dX8_countOf_5 : decode cX8_countOf 5 = .ok (.iload_n 1, 1) := by decide +kernel
theorem dX8_countOf_6 : decode cX8_countOf 6 = .ok (.iload_n 1, 1) := by decide +kernel
theorem dX8_countOf_7 : decode cX8_countOf 7 = .ok (.iconst 2, 1) := by decide +kernel
theorem dX8_countOf_8 : decode cX8_countOf 8 = .ok (.idiv, 1) := by decide +kernel
theorem dX8_countOf_9 : decode cX8_countOf 9 = .ok (.ixor, 1) := by decide +kernel
theorem dX8_countOf_10 : decode cX8_countOf 10 = .ok (.istore_n 2, 1) := by decide +kernel
theorem dX8_countOf_11 : decode cX8_countOf 11 = .ok (.iconst 2, 1) := by decide +kernel
theorem dX8_countOf_12 : decode cX8_countOf 12 = .ok (.iload_n 2, 1) := by decide +kernel
theorem dX8_countOf_13 : decode cX8_countOf 13 = .ok (.imul, 1) := by decide +kernel
theorem dX8_countOf_14 : decode cX8_countOf 14 = .ok (.iload_n 2, 1) := by decide +kernel
theorem dX8_countOf_15 : decode cX8_countOf 15 = .ok (.invokestatic 159, 3) := by decide +kernel
theorem dX8_countOf_18 : decode cX8_countOf 18 = .ok (.iadd, 1) := by decide +kernel
theorem dX8_countOf_19 : decode cX8_countOf 19 = .ok (.ireturn, 1) := by decide +kernel
noncomputable def f_X8_countOf   (p1 : Int32) : Option (Int32) := lt (α := Int32) ((p1 - p1 / 8 * 8) ^^^ ((p1 - p1 / 8 * 8) / 2)) (fun v1 => bd (f_X8_parity v1) (fun u2 => some ((2 * v1) + u2)))
set_option maxHeartbeats 4000000 in
set_option maxRecDepth 100000 in
theorem c_X8_countOf (l : Launch) (Λ : LY) (hF : FM Λ) (σ : CS)   (p1 : Int32)   {r9 : Int32} (hf : f_X8_countOf p1 = some r9) : CM l yX8_countOf (.code yX8_countOf cX8_countOf 3 (some .int) :: TT) ({ frames := 1, cells := 0, slots := 0, locals := 20 }) Λ [.int p1] σ σ (some (.int r9)) := by
  refine CM_intro (own := RX8) (by decide) rfl (Nat.le_of_ble_eq_true rfl) ?_
  intro Γ hg hl hΓ hE
  subst hg; subst hl
  show GG Γ (0, 0) σ 0 [(0, .int p1)] []
  unfold f_X8_countOf at hf
  refine G_iload_n hΓ 0 dX8_countOf_0 rfl ?_
  refine G_bipush (v := 8) hΓ dX8_countOf_1 (by decide) ?_
  refine G_irem hΓ dX8_countOf_3 (by decide) ?_
  refine G_istore_n hΓ [(1, .int (p1 - p1 / 8 * 8)), (0, .int p1)] dX8_countOf_4 (by decide) rfl ?_
  refine G_iload_n hΓ 0 dX8_countOf_5 rfl ?_
  refine G_iload_n hΓ 0 dX8_countOf_6 rfl ?_
  refine G_iconst (v := 2) hΓ dX8_countOf_7 (by decide) ?_
  refine G_idiv hΓ dX8_countOf_8 (by decide) ?_
  refine G_ixor hΓ dX8_countOf_9 ?_
  obtain ⟨v1, hv_v1, hf⟩ := lt_eq hf
  refine G_topi hv_v1 ?_
  refine G_istore_n hΓ [(2, .int v1), (1, .int (p1 - p1 / 8 * 8)), (0, .int p1)] dX8_countOf_10 (by decide) rfl ?_
  refine G_iconst (v := 2) hΓ dX8_countOf_11 (by decide) ?_
  refine G_iload_n hΓ 0 dX8_countOf_12 rfl ?_
  refine G_imul hΓ dX8_countOf_13 ?_
  refine G_iload_n hΓ 0 dX8_countOf_14 rfl ?_
  obtain ⟨u2, hc3, hf⟩ := bd_some hf
  refine G_callS hΓ (n := 1) (As := [.int v1]) (σ' := σ) (c_X8_parity (gL Γ) (gl Γ) hF σ   v1  hc3) rfl rfl kw_1089 kw_1090 kw_9 kw_1091 ⟨by decide, by decide, by decide +kernel⟩ rfl rfl ⟨Nat.le_of_ble_eq_true rfl, Nat.le_of_ble_eq_true rfl⟩ rfl (Nat.le_of_ble_eq_true rfl) dX8_countOf_15 ⟨_, rfl⟩ rfl ?_
  refine G_iadd hΓ dX8_countOf_18 ?_
  cases hf
  exact G_iret hΓ hE dX8_countOf_19
theorem dX8_writeTail_0 : decode cX8_writeTail 0 = .ok (.iconst 3, 1) := by decide +kernel
theorem dX8_writeTail_1 : decode cX8_writeTail 1 = .ok (.istore_n 3, 1) := by decide +kernel
theorem dX8_writeTail_2 : decode cX8_writeTail 2 = .ok (.iload_n 3, 1) := by decide +kernel
theorem dX8_writeTail_3 : decode cX8_writeTail 3 = .ok (.ifCond .lt 18, 3) := by decide +kernel
theorem dX8_writeTail_6 : decode cX8_writeTail 6 = .ok (.aload_n 0, 1) := by decide +kernel
theorem dX8_writeTail_7 : decode cX8_writeTail 7 = .ok (.iload_n 1, 1) := by decide +kernel
theorem dX8_writeTail_8 : decode cX8_writeTail 8 = .ok (.iload_n 3, 1) := by decide +kernel
theorem dX8_writeTail_9 : decode cX8_writeTail 9 = .ok (.ishr, 1) := by decide +kernel
theorem dX8_writeTail_10 : decode cX8_writeTail 10 = .ok (.iconst 1, 1) := by decide +kernel
theorem dX8_writeTail_11 : decode cX8_writeTail 11 = .ok (.iand, 1) := by decide +kernel
theorem dX8_writeTail_12 : decode cX8_writeTail 12 = .ok (.invokevirtual 167, 3) := by decide +kernel
theorem dX8_writeTail_15 : decode cX8_writeTail 15 = .ok (.iinc 3 (-1), 3) := by decide +kernel
theorem dX8_writeTail_18 : decode cX8_writeTail 18 = .ok (.goto (-16), 3) := by decide +kernel
theorem dX8_writeTail_21 : decode cX8_writeTail 21 = .ok (.aload_n 0, 1) := by decide +kernel
theorem dX8_writeTail_22 : decode cX8_writeTail 22 = .ok (.iload_n 2, 1) := by decide +kernel
theorem dX8_writeTail_23 : decode cX8_writeTail 23 = .ok (.invokevirtual 170, 3) := by decide +kernel
theorem dX8_writeTail_26 : decode cX8_writeTail 26 = .ok (.istore_n 3, 1) := by decide +kernel
theorem dX8_writeTail_27 : decode cX8_writeTail 27 = .ok (.iconst 0, 1) := by decide +kernel
theorem dX8_writeTail_28 : decode cX8_writeTail 28 = .ok (.istore 4, 2) := by decide +kernel
theorem dX8_writeTail_30 : decode cX8_writeTail 30 = .ok (.iload 4, 2) := by decide +kernel
theorem dX8_writeTail_32 : decode cX8_writeTail 32 = .ok (.iconst 4, 1) := by decide +kernel
theorem dX8_writeTail_33 : decode cX8_writeTail 33 = .ok (.iload_n 2, 1) := by decide +kernel
theorem dX8_writeTail_34 : decode cX8_writeTail 34 = .ok (.iadd, 1) := by decide +kernel
theorem dX8_writeTail_35 : decode cX8_writeTail 35 = .ok (.if_icmp .ge 66, 3) := by decide +kernel
theorem dX8_writeTail_38 : decode cX8_writeTail 38 = .ok (.iload 4, 2) := by decide +kernel
theorem dX8_writeTail_40 : decode cX8_writeTail 40 = .ok (.iconst 4, 1) := by decide +kernel
theorem dX8_writeTail_41 : decode cX8_writeTail 41 = .ok (.irem, 1) := by decide +kernel
theorem dX8_writeTail_42 : decode cX8_writeTail 42 = .ok (.ifCond .ne 21, 3) := by decide +kernel
theorem dX8_writeTail_45 : decode cX8_writeTail 45 = .ok (.aload_n 0, 1) := by decide +kernel
theorem dX8_writeTail_46 : decode cX8_writeTail 46 = .ok (.iconst 1, 1) := by decide +kernel
theorem dX8_writeTail_47 : decode cX8_writeTail 47 = .ok (.aload_n 0, 1) := by decide +kernel
theorem dX8_writeTail_48 : decode cX8_writeTail 48 = .ok (.getfield 101, 3) := by decide +kernel
theorem dX8_writeTail_51 : decode cX8_writeTail 51 = .ok (.aload_n 0, 1) := by decide +kernel
theorem dX8_writeTail_52 : decode cX8_writeTail 52 = .ok (.getfield 156, 3) := by decide +kernel
theorem dX8_writeTail_55 : decode cX8_writeTail 55 = .ok (.iconst 1, 1) := by decide +kernel
theorem dX8_writeTail_56 : decode cX8_writeTail 56 = .ok (.isub, 1) := by decide +kernel
theorem dX8_writeTail_57 : decode cX8_writeTail 57 = .ok (.baload, 1) := by decide +kernel
theorem dX8_writeTail_58 : decode cX8_writeTail 58 = .ok (.isub, 1) := by decide +kernel
theorem dX8_writeTail_59 : decode cX8_writeTail 59 = .ok (.iconst 0, 1) := by decide +kernel
theorem dX8_writeTail_60 : decode cX8_writeTail 60 = .ok (.invokevirtual 173, 3) := by decide +kernel
theorem dX8_writeTail_63 : decode cX8_writeTail 63 = .ok (.aload_n 0, 1) := by decide +kernel
theorem dX8_writeTail_64 : decode cX8_writeTail 64 = .ok (.iload 4, 2) := by decide +kernel
theorem dX8_writeTail_66 : decode cX8_writeTail 66 = .ok (.iconst 4, 1) := by decide +kernel
theorem dX8_writeTail_67 : decode cX8_writeTail 67 = .ok (.if_icmp .ge 14, 3) := by decide +kernel
theorem dX8_writeTail_70 : decode cX8_writeTail 70 = .ok (.iload_n 1, 1) := by decide +kernel
theorem dX8_writeTail_71 : decode cX8_writeTail 71 = .ok (.iconst 3, 1) := by decide +kernel
theorem dX8_writeTail_72 : decode cX8_writeTail 72 = .ok (.iload 4, 2) := by decide +kernel
theorem dX8_writeTail_74 : decode cX8_writeTail 74 = .ok (.isub, 1) := by decide +kernel
theorem dX8_writeTail_75 : decode cX8_writeTail 75 = .ok (.ishr, 1) := by decide +kernel
theorem dX8_writeTail_76 : decode cX8_writeTail 76 = .ok (.iconst 1, 1) := by decide +kernel
theorem dX8_writeTail_77 : decode cX8_writeTail 77 = .ok (.iand, 1) := by decide +kernel
theorem dX8_writeTail_78 : decode cX8_writeTail 78 = .ok (.goto 13, 3) := by decide +kernel
theorem dX8_writeTail_81 : decode cX8_writeTail 81 = .ok (.iload_n 3, 1) := by decide +kernel
theorem dX8_writeTail_82 : decode cX8_writeTail 82 = .ok (.iload_n 2, 1) := by decide +kernel
theorem dX8_writeTail_83 : decode cX8_writeTail 83 = .ok (.iconst 3, 1) := by decide +kernel
theorem dX8_writeTail_84 : decode cX8_writeTail 84 = .ok (.iadd, 1) := by decide +kernel
theorem dX8_writeTail_85 : decode cX8_writeTail 85 = .ok (.iload 4, 2) := by decide +kernel
theorem dX8_writeTail_87 : decode cX8_writeTail 87 = .ok (.isub, 1) := by decide +kernel
theorem dX8_writeTail_88 : decode cX8_writeTail 88 = .ok (.ishr, 1) := by decide +kernel
theorem dX8_writeTail_89 : decode cX8_writeTail 89 = .ok (.iconst 1, 1) := by decide +kernel
theorem dX8_writeTail_90 : decode cX8_writeTail 90 = .ok (.iand, 1) := by decide +kernel
theorem dX8_writeTail_91 : decode cX8_writeTail 91 = .ok (.iconst 0, 1) := by decide +kernel
theorem dX8_writeTail_92 : decode cX8_writeTail 92 = .ok (.invokevirtual 173, 3) := by decide +kernel
theorem dX8_writeTail_95 : decode cX8_writeTail 95 = .ok (.iinc 4 1, 3) := by decide +kernel
theorem dX8_writeTail_98 : decode cX8_writeTail 98 = .ok (.goto (-68), 3) := by decide +kernel
theorem dX8_writeTail_101 : decode cX8_writeTail 101 = .ok (.return_, 1) := by decide +kernel
noncomputable def L_X8_writeTail_30 (p2 : Int32) (u10 : Int32) (p1 : Int32) (k15 : (Nat → Int32) × (Nat → Nat → Int32) × Int32 → Option ((Nat → Int32) × (Nat → Nat → Int32))) : Nat → (Nat → Int32) → (Nat → Nat → Int32) → Int32 → Option ((Nat → Int32) × (Nat → Nat → Int32))
  | 0, _, _, _ => none
  | nn + 1, v12, v13, v14 => if (4 + p2) ≤ v14 then k15 (v12, v13, v14) else jn (α := (Nat → Int32) × (Nat → Nat → Int32)) (fun ⟨x17, x18⟩ => lt (α := Int32) (if 4 ≤ v14 then ((u10 >>> (((p2 + 3) - v14) &&& 31)) &&& 1) else ((p1 >>> ((3 - v14) &&& 31)) &&& 1)) (fun x21 => bd (f_X8_put x17 x18 x21 0) (fun ⟨u25, u26⟩ => L_X8_writeTail_30 p2 u10 p1 k15 nn u25 u26 (v14 + 1)))) (fun k19 => if (v14 - v14 / 4 * 4) = 0 then gd (vp_in ((v12 37) - 1) 1200) (bd (f_X8_put v12 v13 (1 - ((v13 27) (((v12 37) - 1).toNatClampNeg))) 0) (fun ⟨u29, u30⟩ => k19 (u29, u30))) else k19 (v12, v13))
noncomputable def L_X8_writeTail_2 (p1 : Int32) (k4 : (Nat → Int32) × (Nat → Nat → Int32) × Int32 → Option ((Nat → Int32) × (Nat → Nat → Int32))) : Nat → (Nat → Int32) → (Nat → Nat → Int32) → Int32 → Option ((Nat → Int32) × (Nat → Nat → Int32))
  | 0, _, _, _ => none
  | nn + 1, v1, v2, v3 => if v3 < 0 then k4 (v1, v2, v3) else bd (f_X8_check v1 v2 ((p1 >>> (v3 &&& 31)) &&& 1)) (fun ⟨u6, u7⟩ => L_X8_writeTail_2 p1 k4 nn u6 u7 (v3 + (-1)))
noncomputable def f_X8_writeTail  (v : Nat → Int32) (m : Nat → Nat → Int32) (p1 : Int32) (p2 : Int32) : Option ((Nat → Int32) × (Nat → Nat → Int32)) := jn (α := (Nat → Int32) × (Nat → Nat → Int32) × Int32) (fun ⟨v1, v2, v3⟩ => bd (f_X8_checkOf v1 v2 p2) (fun u10 => jn (α := (Nat → Int32) × (Nat → Nat → Int32) × Int32) (fun ⟨v12, v13, v14⟩ => some (v12, v13)) (fun k15 => L_X8_writeTail_30 p2 u10 p1 k15 fu v1 v2 0))) (fun k4 => L_X8_writeTail_2 p1 k4 fu v m 3)
set_option maxHeartbeats 4000000 in
set_option maxRecDepth 100000 in
theorem c_X8_writeTail (l : Launch) (Λ : LY) (hF : FM Λ) (σ : CS)  (v : Nat → Int32) (m : Nat → Nat → Int32) (p1 : Int32) (p2 : Int32)   {v' : Nat → Int32} {m' : Nat → Nat → Int32} (hf : f_X8_writeTail v m p1 p2 = some (v', m')) : CM l yX8_writeTail (.code yX8_writeTail cX8_writeTail 5 none :: TT) ({ frames := 1, cells := 0, slots := 0, locals := 26 }) Λ [.ref (ya Λ 18 0), .int p1, .int p2] (qM σ v m) (qM σ v' m') (none) := by
  refine CM_intro (own := RX8) (by decide) rfl (Nat.le_of_ble_eq_true rfl) ?_
  intro Γ hg hl hΓ hE
  subst hg; subst hl
  show GG Γ (0, 0) (qM σ v m) 0 [(0, .ref (ya (gl Γ) 18 0)), (1, .int p1), (2, .int p2)] []
  unfold f_X8_writeTail at hf
  refine G_iconst (v := 3) hΓ dX8_writeTail_0 (by decide) ?_
  refine G_istore_n hΓ [(3, .int 3), (0, .ref (ya (gl Γ) 18 0)), (1, .int p1), (2, .int p2)] dX8_writeTail_1 (by decide) rfl ?_
  obtain ⟨k4, hk_k4, hf⟩ := jn_eq hf
  try dsimp only at hf
  have K5 : ∀ v1 v2 v3, k4 (v1, v2, v3) = some (v', m') → GG Γ (0, 0) (qM σ v1 v2) 21 [(3, .int v3), (0, .ref (ya (gl Γ) 18 0)), (1, .int p1), (2, .int p2)] [] := by
    intro v1 v2 v3 hf
    subst hk_k4
    try dsimp only at hf
    refine G_aload_n hΓ 1 dX8_writeTail_21 rfl ?_
    refine G_iload_n hΓ 3 dX8_writeTail_22 rfl ?_
    obtain ⟨u10, hc11, hf⟩ := bd_some hf
    refine G_callV hΓ (n := 1) (As := [.int p2]) (t := 18) (i := 0) (ci := 11) (T := TX8) (N := 47) (FS := fs8 (gl Γ) 0) (σ' := (qM σ v1 v2)) (c_X8_checkOf (gL Γ) (gl Γ) hF σ  v1 v2 p2  hc11) rfl rfl kw_1072 kw_1074 kp_35 kw_9 kw_1075 ⟨rfl, by decide, by decide, by decide +kernel⟩ (FMi hF (t := 18) (by decide)) (fun _ _ _ => rfl) rfl rfl rfl ⟨Nat.le_of_ble_eq_true rfl, Nat.le_of_ble_eq_true rfl⟩ rfl (Nat.le_of_ble_eq_true rfl) dX8_writeTail_23 ⟨_, rfl⟩ rfl ?_
    refine G_istore_n hΓ [(3, .int u10), (0, .ref (ya (gl Γ) 18 0)), (1, .int p1), (2, .int p2)] dX8_writeTail_26 (by decide) rfl ?_
    refine G_iconst (v := 0) hΓ dX8_writeTail_27 (by decide) ?_
    refine G_istore hΓ [(4, .int 0), (3, .int u10), (0, .ref (ya (gl Γ) 18 0)), (1, .int p1), (2, .int p2)] dX8_writeTail_28 (by decide) rfl ?_
    obtain ⟨k15, hk_k15, hf⟩ := jn_eq hf
    try dsimp only at hf
    have K16 : ∀ v12 v13 v14, k15 (v12, v13, v14) = some (v', m') → GG Γ (0, 0) (qM σ v12 v13) 101 [(4, .int v14), (3, .int u10), (0, .ref (ya (gl Γ) 18 0)), (1, .int p1), (2, .int p2)] [] := by
      intro v12 v13 v14 hf
      subst hk_k15
      try dsimp only at hf
      cases hf
      exact G_vret hΓ hE dX8_writeTail_101
    clear hk_k15
    have loop34 : ∀ (nn : Nat) v12 v13 v14, L_X8_writeTail_30 p2 u10 p1 k15 nn v12 v13 v14 = some (v', m') → GG Γ (0, 0) (qM σ v12 v13) 30 [(4, .int v14), (3, .int u10), (0, .ref (ya (gl Γ) 18 0)), (1, .int p1), (2, .int p2)] [] := by
      intro nn
      induction nn with
      | zero => intro v12 v13 v14 hf; cases hf
      | succ nn ih =>
        intro v12 v13 v14 hf
        rw [L_X8_writeTail_30] at hf
        refine G_iload hΓ 0 dX8_writeTail_30 rfl ?_
        refine G_iconst (v := 4) hΓ dX8_writeTail_32 (by decide) ?_
        refine G_iload_n hΓ 4 dX8_writeTail_33 rfl ?_
        refine G_iadd hΓ dX8_writeTail_34 ?_
        refine G_icmp_ge hΓ (tgt := 101) dX8_writeTail_35 (by decide) (fun hc33 => ?_) (fun hc33 => ?_)
        · rw [if_pos hc33] at hf
          exact (K16 _ _ _ hf)
        · rw [if_neg hc33] at hf
          refine G_iload hΓ 0 dX8_writeTail_38 rfl ?_
          refine G_iconst (v := 4) hΓ dX8_writeTail_40 (by decide) ?_
          refine G_irem hΓ dX8_writeTail_41 (by decide) ?_
          obtain ⟨k19, hk_k19, hf⟩ := jn_eq hf
          try dsimp only at hf
          have K20 : ∀ x17 x18, k19 (x17, x18) = some (v', m') → GG Γ (0, 0) (qM σ x17 x18) 63 [(4, .int v14), (3, .int u10), (0, .ref (ya (gl Γ) 18 0)), (1, .int p1), (2, .int p2)] [] := by
            intro x17 x18 hf
            subst hk_k19
            try dsimp only at hf
            refine G_aload_n hΓ 2 dX8_writeTail_63 rfl ?_
            refine G_iload hΓ 0 dX8_writeTail_64 rfl ?_
            refine G_iconst (v := 4) hΓ dX8_writeTail_66 (by decide) ?_
            obtain ⟨x21, he24, hf⟩ := lt_eq hf
            have K22 : GG Γ (0, 0) (qM σ x17 x18) 91 [(4, .int v14), (3, .int u10), (0, .ref (ya (gl Γ) 18 0)), (1, .int p1), (2, .int p2)] [.int x21, .ref (ya (gl Γ) 18 0)] := by
              refine G_iconst (v := 0) hΓ dX8_writeTail_91 (by decide) ?_
              obtain ⟨⟨u25, u26⟩, hc27, hf⟩ := bd_some hf
              try dsimp only at hf
              refine G_callV hΓ (n := 2) (As := [.int x21, .int 0]) (t := 18) (i := 0) (ci := 11) (T := TX8) (N := 47) (FS := fs8 (gl Γ) 0) (σ' := (qM σ u25 u26)) (c_X8_put (gL Γ) (gl Γ) hF σ  x17 x18 x21 0  hc27) rfl rfl kw_1078 kw_1080 kp_36 kw_9 kw_1081 ⟨rfl, by decide, by decide, by decide +kernel⟩ (FMi hF (t := 18) (by decide)) (fun _ _ _ => rfl) rfl rfl rfl ⟨Nat.le_of_ble_eq_true rfl, Nat.le_of_ble_eq_true rfl⟩ rfl (Nat.le_of_ble_eq_true rfl) dX8_writeTail_92 ⟨_, rfl⟩ rfl ?_
              refine G_iinc hΓ 0 [(4, .int (v14 + 1)), (3, .int u10), (0, .ref (ya (gl Γ) 18 0)), (1, .int p1), (2, .int p2)] dX8_writeTail_95 rfl rfl (by decide) rfl ?_
              refine G_goto hΓ (tgt := 30) dX8_writeTail_98 (by decide) ?_
              exact (ih _ _ _ hf)
            have he := he24
            refine G_icmp_ge hΓ (tgt := 81) dX8_writeTail_67 (by decide) (fun hc23 => ?_) (fun hc23 => ?_)
            · rw [if_pos hc23] at he
              refine G_iload_n hΓ 1 dX8_writeTail_81 rfl ?_
              refine G_iload_n hΓ 4 dX8_writeTail_82 rfl ?_
              refine G_iconst (v := 3) hΓ dX8_writeTail_83 (by decide) ?_
              refine G_iadd hΓ dX8_writeTail_84 ?_
              refine G_iload hΓ 0 dX8_writeTail_85 rfl ?_
              refine G_isub hΓ dX8_writeTail_87 ?_
              refine G_ishr hΓ dX8_writeTail_88 ?_
              refine G_iconst (v := 1) hΓ dX8_writeTail_89 (by decide) ?_
              refine G_iand hΓ dX8_writeTail_90 ?_
              subst he
              exact K22
            · rw [if_neg hc23] at he
              refine G_iload_n hΓ 3 dX8_writeTail_70 rfl ?_
              refine G_iconst (v := 3) hΓ dX8_writeTail_71 (by decide) ?_
              refine G_iload hΓ 0 dX8_writeTail_72 rfl ?_
              refine G_isub hΓ dX8_writeTail_74 ?_
              refine G_ishr hΓ dX8_writeTail_75 ?_
              refine G_iconst (v := 1) hΓ dX8_writeTail_76 (by decide) ?_
              refine G_iand hΓ dX8_writeTail_77 ?_
              refine G_goto hΓ (tgt := 91) dX8_writeTail_78 (by decide) ?_
              subst he
              exact K22
          clear hk_k19
          refine G_if_ne hΓ (tgt := 63) dX8_writeTail_42 (by decide) (fun hc32 => ?_) (fun hc32 => ?_)
          · rw [if_neg hc32] at hf
            exact K20 _ _ hf
          · rw [if_pos hc32] at hf
            refine G_aload_n hΓ 2 dX8_writeTail_45 rfl ?_
            refine G_iconst (v := 1) hΓ dX8_writeTail_46 (by decide) ?_
            refine G_aload_n hΓ 2 dX8_writeTail_47 rfl ?_
            refine F_get hΓ (t := 18) (i := 0) (ci := 11) (C := RX8) (T := TX8) (N := 47) (fs8 (gl Γ) 0) (v := .ref (ya (gl Γ) 19 27)) (FMi hF (t := 18) (by decide)) (fun _ _ _ => rfl) rfl rfl rfl rfl inW8 35 (by decide) (TT_cons kw_915) rfl dX8_writeTail_48 ?_
            refine G_aload_n hΓ 2 dX8_writeTail_51 rfl ?_
            refine F_get hΓ (t := 18) (i := 0) (ci := 11) (C := RX8) (T := TX8) (N := 47) (fs8 (gl Γ) 0) (v := .int (v12 37)) (FMi hF (t := 18) (by decide)) (fun _ _ _ => rfl) rfl rfl rfl rfl inW8 37 (by decide) (TT_cons kw_917) rfl dX8_writeTail_52 ?_
            refine G_iconst (v := 1) hΓ dX8_writeTail_55 (by decide) ?_
            refine G_isub hΓ dX8_writeTail_56 ?_
            obtain ⟨hg28, hf⟩ := gd_some hf
            refine F_ald (G_bald hΓ) (t := 19) (i := 27) (f := (v13 27)) (FMi hF (t := 19) (by decide)) (fun _ _ _ => rfl) rfl hg28 dX8_writeTail_57 ?_
            refine G_isub hΓ dX8_writeTail_58 ?_
            refine G_iconst (v := 0) hΓ dX8_writeTail_59 (by decide) ?_
            obtain ⟨⟨u29, u30⟩, hc31, hf⟩ := bd_some hf
            try dsimp only at hf
            refine G_callV hΓ (n := 2) (As := [.int (1 - ((v13 27) (((v12 37) - 1).toNatClampNeg))), .int 0]) (t := 18) (i := 0) (ci := 11) (T := TX8) (N := 47) (FS := fs8 (gl Γ) 0) (σ' := (qM σ u29 u30)) (c_X8_put (gL Γ) (gl Γ) hF σ  v12 v13 (1 - ((v13 27) (((v12 37) - 1).toNatClampNeg))) 0  hc31) rfl rfl kw_1078 kw_1080 kp_36 kw_9 kw_1081 ⟨rfl, by decide, by decide, by decide +kernel⟩ (FMi hF (t := 18) (by decide)) (fun _ _ _ => rfl) rfl rfl rfl ⟨Nat.le_of_ble_eq_true rfl, Nat.le_of_ble_eq_true rfl⟩ rfl (Nat.le_of_ble_eq_true rfl) dX8_writeTail_60 ⟨_, rfl⟩ rfl ?_
            exact K20 _ _ hf
    exact loop34 _ _ _ _ hf
  clear hk_k4
  have loop35 : ∀ (nn : Nat) v1 v2 v3, L_X8_writeTail_2 p1 k4 nn v1 v2 v3 = some (v', m') → GG Γ (0, 0) (qM σ v1 v2) 2 [(3, .int v3), (0, .ref (ya (gl Γ) 18 0)), (1, .int p1), (2, .int p2)] [] := by
    intro nn
    induction nn with
    | zero => intro v1 v2 v3 hf; cases hf
    | succ nn ih =>
      intro v1 v2 v3 hf
      rw [L_X8_writeTail_2] at hf
      refine G_iload_n hΓ 0 dX8_writeTail_2 rfl ?_
      refine G_if_lt hΓ (tgt := 21) dX8_writeTail_3 (by decide) (fun hc9 => ?_) (fun hc9 => ?_)
      · rw [if_pos hc9] at hf
        exact (K5 _ _ _ hf)
      · rw [if_neg hc9] at hf
        refine G_aload_n hΓ 1 dX8_writeTail_6 rfl ?_
        refine G_iload_n hΓ 2 dX8_writeTail_7 rfl ?_
        refine G_iload_n hΓ 0 dX8_writeTail_8 rfl ?_
        refine G_ishr hΓ dX8_writeTail_9 ?_
        refine G_iconst (v := 1) hΓ dX8_writeTail_10 (by decide) ?_
        refine G_iand hΓ dX8_writeTail_11 ?_
        obtain ⟨⟨u6, u7⟩, hc8, hf⟩ := bd_some hf
        try dsimp only at hf
        refine G_callV hΓ (n := 1) (As := [.int ((p1 >>> (v3 &&& 31)) &&& 1)]) (t := 18) (i := 0) (ci := 11) (T := TX8) (N := 47) (FS := fs8 (gl Γ) 0) (σ' := (qM σ u6 u7)) (c_X8_check (gL Γ) (gl Γ) hF σ  v1 v2 ((p1 >>> (v3 &&& 31)) &&& 1)  hc8) rfl rfl kw_1068 kw_1070 kp_34 kw_9 kw_1071 ⟨rfl, by decide, by decide, by decide +kernel⟩ (FMi hF (t := 18) (by decide)) (fun _ _ _ => rfl) rfl rfl rfl ⟨Nat.le_of_ble_eq_true rfl, Nat.le_of_ble_eq_true rfl⟩ rfl (Nat.le_of_ble_eq_true rfl) dX8_writeTail_12 ⟨_, rfl⟩ rfl ?_
        refine G_iinc hΓ 0 [(3, .int (v3 + (-1))), (0, .ref (ya (gl Γ) 18 0)), (1, .int p1), (2, .int p2)] dX8_writeTail_15 rfl rfl (by decide) rfl ?_
        refine G_goto hΓ (tgt := 2) dX8_writeTail_18 (by decide) ?_
        exact (ih _ _ _ hf)
  exact loop35 _ _ _ _ hf
theorem dX8_write_0 : decode cX8_write 0 = .ok (.aload_n 0, 1) := by decide +kernel
theorem dX8_write_1 : decode cX8_write 1 = .ok (.iload_n 1, 1) := by decide +kernel
theorem dX8_write_2 : decode cX8_write 2 = .ok (.invokevirtual 163, 3) := by decide +kernel
theorem dX8_write_5 : decode cX8_write 5 = .ok (.aload_n 0, 1) := by decide +kernel
theorem dX8_write_6 : decode cX8_write 6 = .ok (.getfield 24, 3) := by decide +kernel
theorem dX8_write_9 : decode cX8_write 9 = .ok (.iload_n 1, 1) := by decide +kernel
theorem dX8_write_10 : decode cX8_write 10 = .ok (.iaload, 1) := by decide +kernel
theorem dX8_write_11 : decode cX8_write 11 = .ok (.iconst 2, 1) := by decide +kernel
theorem dX8_write_12 : decode cX8_write 12 = .ok (.if_icmp .eq 13, 3) := by decide +kernel
theorem dX8_write_15 : decode cX8_write 15 = .ok (.aload_n 0, 1) := by decide +kernel
theorem dX8_write_16 : decode cX8_write 16 = .ok (.getfield 24, 3) := by decide +kernel
theorem dX8_write_19 : decode cX8_write 19 = .ok (.iload_n 1, 1) := by decide +kernel
theorem dX8_write_20 : decode cX8_write 20 = .ok (.iaload, 1) := by decide +kernel
theorem dX8_write_21 : decode cX8_write 21 = .ok (.iconst 3, 1) := by decide +kernel
theorem dX8_write_22 : decode cX8_write 22 = .ok (.if_icmp .ne 7, 3) := by decide +kernel
theorem dX8_write_25 : decode cX8_write 25 = .ok (.iconst 1, 1) := by decide +kernel
theorem dX8_write_26 : decode cX8_write 26 = .ok (.goto 4, 3) := by decide +kernel
theorem dX8_write_29 : decode cX8_write 29 = .ok (.iconst 0, 1) := by decide +kernel
theorem dX8_write_30 : decode cX8_write 30 = .ok (.istore_n 2, 1) := by decide +kernel
theorem dX8_write_31 : decode cX8_write 31 = .ok (.aload_n 0, 1) := by decide +kernel
theorem dX8_write_32 : decode cX8_write 32 = .ok (.getfield 24, 3) := by decide +kernel
theorem dX8_write_35 : decode cX8_write 35 = .ok (.iload_n 1, 1) := by decide +kernel
theorem dX8_write_36 : decode cX8_write 36 = .ok (.iaload, 1) := by decide +kernel
theorem dX8_write_37 : decode cX8_write 37 = .ok (.iconst 2, 1) := by decide +kernel
theorem dX8_write_38 : decode cX8_write 38 = .ok (.irem, 1) := by decide +kernel
theorem dX8_write_39 : decode cX8_write 39 = .ok (.iconst 1, 1) := by decide +kernel
theorem dX8_write_40 : decode cX8_write 40 = .ok (.if_icmp .ne 8, 3) := by decide +kernel
theorem dX8_write_43 : decode cX8_write 43 = .ok (.bipush 32, 2) := by decide +kernel
theorem dX8_write_45 : decode cX8_write 45 = .ok (.goto 5, 3) := by decide +kernel
theorem dX8_write_48 : decode cX8_write 48 = .ok (.bipush 13, 2) := by decide +kernel
theorem dX8_write_50 : decode cX8_write 50 = .ok (.istore_n 3, 1) := by decide +kernel
theorem dX8_write_51 : decode cX8_write 51 = .ok (.iload_n 2, 1) := by decide +kernel
theorem dX8_write_52 : decode cX8_write 52 = .ok (.ifCond .ne 8, 3) := by decide +kernel
theorem dX8_write_55 : decode cX8_write 55 = .ok (.bipush 15, 2) := by decide +kernel
theorem dX8_write_57 : decode cX8_write 57 = .ok (.goto 30, 3) := by decide +kernel
theorem dX8_write_60 : decode cX8_write 60 = .ok (.aload_n 0, 1) := by decide +kernel
theorem dX8_write_61 : decode cX8_write 61 = .ok (.getfield 24, 3) := by decide +kernel
theorem dX8_write_64 : decode cX8_write 64 = .ok (.iload_n 1, 1) := by decide +kernel
theorem dX8_write_65 : decode cX8_write 65 = .ok (.iaload, 1) := by decide +kernel
theorem dX8_write_66 : decode cX8_write 66 = .ok (.aload_n 0, 1) := by decide +kernel
theorem dX8_write_67 : decode cX8_write 67 = .ok (.getfield 27, 3) := by decide +kernel
theorem dX8_write_70 : decode cX8_write 70 = .ok (.iload_n 1, 1) := by decide +kernel
theorem dX8_write_71 : decode cX8_write 71 = .ok (.iaload, 1) := by decide +kernel
theorem dX8_write_72 : decode cX8_write 72 = .ok (.invokestatic 139, 3) := by decide +kernel
theorem dX8_write_75 : decode cX8_write 75 = .ok (.bipush 16, 2) := by decide +kernel
theorem dX8_write_77 : decode cX8_write 77 = .ok (.if_icmp .le 8, 3) := by decide +kernel
theorem dX8_write_80 : decode cX8_write 80 = .ok (.bipush 21, 2) := by decide +kernel
theorem dX8_write_82 : decode cX8_write 82 = .ok (.goto 5, 3) := by decide +kernel
theorem dX8_write_85 : decode cX8_write 85 = .ok (.bipush 17, 2) := by decide +kernel
theorem dX8_write_87 : decode cX8_write 87 = .ok (.istore 4, 2) := by decide +kernel
theorem dX8_write_89 : decode cX8_write 89 = .ok (.iconst 0, 1) := by decide +kernel
theorem dX8_write_90 : decode cX8_write 90 = .ok (.istore 5, 2) := by decide +kernel
theorem dX8_write_92 : decode cX8_write 92 = .ok (.aload_n 0, 1) := by decide +kernel
theorem dX8_write_93 : decode cX8_write 93 = .ok (.iconst 0, 1) := by decide +kernel
theorem dX8_write_94 : decode cX8_write 94 = .ok (.putfield 156, 3) := by decide +kernel
theorem dX8_write_97 : decode cX8_write 97 = .ok (.aload_n 0, 1) := by decide +kernel
theorem dX8_write_98 : decode cX8_write 98 = .ok (.iconst 0, 1) := by decide +kernel
theorem dX8_write_99 : decode cX8_write 99 = .ok (.putfield 153, 3) := by decide +kernel
theorem dX8_write_102 : decode cX8_write 102 = .ok (.iconst 0, 1) := by decide +kernel
theorem dX8_write_103 : decode cX8_write 103 = .ok (.istore 6, 2) := by decide +kernel
theorem dX8_write_105 : decode cX8_write 105 = .ok (.iload 6, 2) := by decide +kernel
theorem dX8_write_107 : decode cX8_write 107 = .ok (.aload_n 0, 1) := by decide +kernel
theorem dX8_write_108 : decode cX8_write 108 = .ok (.getfield 143, 3) := by decide +kernel
theorem dX8_write_111 : decode cX8_write 111 = .ok (.if_icmp .ge 20, 3) := by decide +kernel
theorem dX8_write_114 : decode cX8_write 114 = .ok (.aload_n 0, 1) := by decide +kernel
theorem dX8_write_115 : decode cX8_write 115 = .ok (.aload_n 0, 1) := by decide +kernel
theorem dX8_write_116 : decode cX8_write 116 = .ok (.getfield 98, 3) := by decide +kernel
theorem dX8_write_119 : decode cX8_write 119 = .ok (.iload 6, 2) := by decide +kernel
theorem dX8_write_121 : decode cX8_write 121 = .ok (.baload, 1) := by decide +kernel
theorem dX8_write_122 : decode cX8_write 122 = .ok (.invokevirtual 167, 3) := by decide +kernel
theorem dX8_write_125 : decode cX8_write 125 = .ok (.iinc 6 1, 3) := by decide +kernel
theorem dX8_write_128 : decode cX8_write 128 = .ok (.goto (-23), 3) := by decide +kernel
theorem dX8_write_131 : decode cX8_write 131 = .ok (.aload_n 0, 1) := by decide +kernel
theorem dX8_write_132 : decode cX8_write 132 = .ok (.bipush 15, 2) := by decide +kernel
theorem dX8_write_134 : decode cX8_write 134 = .ok (.invokevirtual 170, 3) := by decide +kernel
theorem dX8_write_137 : decode cX8_write 137 = .ok (.istore 6, 2) := by decide +kernel
theorem dX8_write_139 : decode cX8_write 139 = .ok (.aload_n 0, 1) := by decide +kernel
theorem dX8_write_140 : decode cX8_write 140 = .ok (.iconst 0, 1) := by decide +kernel
theorem dX8_write_141 : decode cX8_write 141 = .ok (.putfield 153, 3) := by decide +kernel
theorem dX8_write_144 : decode cX8_write 144 = .ok (.aload_n 0, 1) := by decide +kernel
theorem dX8_write_145 : decode cX8_write 145 = .ok (.getfield 143, 3) := by decide +kernel
theorem dX8_write_148 : decode cX8_write 148 = .ok (.istore 7, 2) := by decide +kernel
theorem dX8_write_150 : decode cX8_write 150 = .ok (.iload_n 2, 1) := by decide +kernel
theorem dX8_write_151 : decode cX8_write 151 = .ok (.ifCond .ne 11, 3) := by decide +kernel
theorem dX8_write_154 : decode cX8_write 154 = .ok (.aload_n 0, 1) := by decide +kernel
theorem dX8_write_155 : decode cX8_write 155 = .ok (.iload 6, 2) := by decide +kernel
theorem dX8_write_157 : decode cX8_write 157 = .ok (.bipush 15, 2) := by decide +kernel
theorem dX8_write_159 : decode cX8_write 159 = .ok (.invokevirtual 146, 3) := by decide +kernel
theorem dX8_write_162 : decode cX8_write 162 = .ok (.iconst 0, 1) := by decide +kernel
theorem dX8_write_163 : decode cX8_write 163 = .ok (.istore 8, 2) := by decide +kernel
theorem dX8_write_165 : decode cX8_write 165 = .ok (.iload 8, 2) := by decide +kernel
theorem dX8_write_167 : decode cX8_write 167 = .ok (.aload_n 0, 1) := by decide +kernel
theorem dX8_write_168 : decode cX8_write 168 = .ok (.getfield 143, 3) := by decide +kernel
theorem dX8_write_171 : decode cX8_write 171 = .ok (.if_icmp .ge 103, 3) := by decide +kernel
theorem dX8_write_174 : decode cX8_write 174 = .ok (.aload_n 0, 1) := by decide +kernel
theorem dX8_write_175 : decode cX8_write 175 = .ok (.aload_n 0, 1) := by decide +kernel
theorem dX8_write_176 : decode cX8_write 176 = .ok (.getfield 98, 3) := by decide +kernel
theorem dX8_write_179 : decode cX8_write 179 = .ok (.iload 8, 2) := by decide +kernel
theorem dX8_write_181 : decode cX8_write 181 = .ok (.baload, 1) := by decide +kernel
theorem dX8_write_182 : decode cX8_write 182 = .ok (.iconst 0, 1) := by decide +kernel
theorem dX8_write_183 : decode cX8_write 183 = .ok (.invokevirtual 173, 3) := by decide +kernel
theorem dX8_write_186 : decode cX8_write 186 = .ok (.aload_n 0, 1) := by decide +kernel
theorem dX8_write_187 : decode cX8_write 187 = .ok (.aload_n 0, 1) := by decide +kernel
theorem dX8_write_188 : decode cX8_write 188 = .ok (.getfield 98, 3) := by decide +kernel
theorem dX8_write_191 : decode cX8_write 191 = .ok (.iload 8, 2) := by decide +kernel
theorem dX8_write_193 : decode cX8_write 193 = .ok (.baload, 1) := by decide +kernel
theorem dX8_write_194 : decode cX8_write 194 = .ok (.invokevirtual 167, 3) := by decide +kernel
theorem dX8_write_197 : decode cX8_write 197 = .ok (.aload_n 0, 1) := by decide +kernel
theorem dX8_write_198 : decode cX8_write 198 = .ok (.iload 8, 2) := by decide +kernel
theorem dX8_write_200 : decode cX8_write 200 = .ok (.iload_n 3, 1) := by decide +kernel
theorem dX8_write_201 : decode cX8_write 201 = .ok (.if_icmp .ne 10, 3) := by decide +kernel
theorem dX8_write_204 : decode cX8_write 204 = .ok (.aload_n 0, 1) := by decide +kernel
theorem dX8_write_205 : decode cX8_write 205 = .ok (.getfield 156, 3) := by decide +kernel
theorem dX8_write_208 : decode cX8_write 208 = .ok (.goto 7, 3) := by decide +kernel
theorem dX8_write_211 : decode cX8_write 211 = .ok (.aload_n 0, 1) := by decide +kernel
theorem dX8_write_212 : decode cX8_write 212 = .ok (.getfield 177, 3) := by decide +kernel
theorem dX8_write_215 : decode cX8_write 215 = .ok (.putfield 177, 3) := by decide +kernel
theorem dX8_write_218 : decode cX8_write 218 = .ok (.aload_n 0, 1) := by decide +kernel
theorem dX8_write_219 : decode cX8_write 219 = .ok (.invokevirtual 180, 3) := by decide +kernel
theorem dX8_write_222 : decode cX8_write 222 = .ok (.ifCond .eq 46, 3) := by decide +kernel
theorem dX8_write_225 : decode cX8_write 225 = .ok (.iload_n 2, 1) := by decide +kernel
theorem dX8_write_226 : decode cX8_write 226 = .ok (.ifCond .eq 12, 3) := by decide +kernel
theorem dX8_write_229 : decode cX8_write 229 = .ok (.iload 8, 2) := by decide +kernel
theorem dX8_write_231 : decode cX8_write 231 = .ok (.iload 7, 2) := by decide +kernel
theorem dX8_write_233 : decode cX8_write 233 = .ok (.iconst 1, 1) := by decide +kernel
theorem dX8_write_234 : decode cX8_write 234 = .ok (.isub, 1) := by decide +kernel
theorem dX8_write_235 : decode cX8_write 235 = .ok (.if_icmp .ge 33, 3) := by decide +kernel
theorem dX8_write_238 : decode cX8_write 238 = .ok (.aload_n 0, 1) := by decide +kernel
theorem dX8_write_239 : decode cX8_write 239 = .ok (.iconst 1, 1) := by decide +kernel
theorem dX8_write_240 : decode cX8_write 240 = .ok (.aload_n 0, 1) := by decide +kernel
theorem dX8_write_241 : decode cX8_write 241 = .ok (.getfield 98, 3) := by decide +kernel
theorem dX8_write_244 : decode cX8_write 244 = .ok (.iload 8, 2) := by decide +kernel
theorem dX8_write_246 : decode cX8_write 246 = .ok (.baload, 1) := by decide +kernel
theorem dX8_write_247 : decode cX8_write 247 = .ok (.isub, 1) := by decide +kernel
theorem dX8_write_248 : decode cX8_write 248 = .ok (.iconst 1, 1) := by decide +kernel
theorem dX8_write_249 : decode cX8_write 249 = .ok (.invokevirtual 173, 3) := by decide +kernel
theorem dX8_write_252 : decode cX8_write 252 = .ok (.aload_n 0, 1) := by decide +kernel
theorem dX8_write_253 : decode cX8_write 253 = .ok (.iconst 1, 1) := by decide +kernel
theorem dX8_write_254 : decode cX8_write 254 = .ok (.aload_n 0, 1) := by decide +kernel
theorem dX8_write_255 : decode cX8_write 255 = .ok (.getfield 98, 3) := by decide +kernel
theorem dX8_write_258 : decode cX8_write 258 = .ok (.iload 8, 2) := by decide +kernel
theorem dX8_write_260 : decode cX8_write 260 = .ok (.baload, 1) := by decide +kernel
theorem dX8_write_261 : decode cX8_write 261 = .ok (.isub, 1) := by decide +kernel
theorem dX8_write_262 : decode cX8_write 262 = .ok (.invokevirtual 167, 3) := by decide +kernel
theorem dX8_write_265 : decode cX8_write 265 = .ok (.iinc 5 1, 3) := by decide +kernel
theorem dX8_write_268 : decode cX8_write 268 = .ok (.iinc 8 1, 3) := by decide +kernel
theorem dX8_write_271 : decode cX8_write 271 = .ok (.goto (-106), 3) := by decide +kernel
theorem dX8_write_274 : decode cX8_write 274 = .ok (.iload_n 2, 1) := by decide +kernel
theorem dX8_write_275 : decode cX8_write 275 = .ok (.ifCond .eq 14, 3) := by decide +kernel
theorem dX8_write_278 : decode cX8_write 278 = .ok (.aload_n 0, 1) := by decide +kernel
theorem dX8_write_279 : decode cX8_write 279 = .ok (.iload 5, 2) := by decide +kernel
theorem dX8_write_281 : decode cX8_write 281 = .ok (.invokestatic 184, 3) := by decide +kernel
theorem dX8_write_284 : decode cX8_write 284 = .ok (.iload 4, 2) := by decide +kernel
theorem dX8_write_286 : decode cX8_write 286 = .ok (.invokevirtual 187, 3) := by decide +kernel
theorem dX8_write_289 : decode cX8_write 289 = .ok (.iconst 0, 1) := by decide +kernel
theorem dX8_write_290 : decode cX8_write 290 = .ok (.istore 8, 2) := by decide +kernel
theorem dX8_write_292 : decode cX8_write 292 = .ok (.iload 8, 2) := by decide +kernel
theorem dX8_write_294 : decode cX8_write 294 = .ok (.bipush 10, 2) := by decide +kernel
theorem dX8_write_296 : decode cX8_write 296 = .ok (.if_icmp .ge 15, 3) := by decide +kernel
theorem dX8_write_299 : decode cX8_write 299 = .ok (.aload_n 0, 1) := by decide +kernel
theorem dX8_write_300 : decode cX8_write 300 = .ok (.iconst 1, 1) := by decide +kernel
theorem dX8_write_301 : decode cX8_write 301 = .ok (.iconst 0, 1) := by decide +kernel
theorem dX8_write_302 : decode cX8_write 302 = .ok (.invokevirtual 173, 3) := by decide +kernel
theorem dX8_write_305 : decode cX8_write 305 = .ok (.iinc 8 1, 3) := by decide +kernel
theorem dX8_write_308 : decode cX8_write 308 = .ok (.goto (-16), 3) := by decide +kernel
theorem dX8_write_311 : decode cX8_write 311 = .ok (.return_, 1) := by decide +kernel
noncomputable def L_X8_write_292  (k86 : (Nat → Int32) × (Nat → Nat → Int32) × Int32 → Option ((Nat → Int32) × (Nat → Nat → Int32))) : Nat → (Nat → Int32) → (Nat → Nat → Int32) → Int32 → Option ((Nat → Int32) × (Nat → Nat → Int32))
  | 0, _, _, _ => none
  | nn + 1, v83, v84, v85 => if 10 ≤ v85 then k86 (v83, v84, v85) else bd (f_X8_put v83 v84 1 0) (fun ⟨u88, u89⟩ => L_X8_write_292  k86 nn u88 u89 (v85 + 1))
noncomputable def L_X8_write_165 (x10 : Int32) (x5 : Int32) (v18 : Nat → Int32) (k38 : (Nat → Int32) × (Nat → Nat → Int32) × Int32 × Int32 → Option ((Nat → Int32) × (Nat → Nat → Int32))) : Nat → (Nat → Int32) → (Nat → Nat → Int32) → Int32 → Int32 → Option ((Nat → Int32) × (Nat → Nat → Int32))
  | 0, _, _, _, _ => none
  | nn + 1, v34, v35, v36, v37 => if (v34 34) ≤ v36 then k38 (v34, v35, v36, v37) else gd (vp_in v36 700) (bd (f_X8_put v34 v35 ((v35 26) v36.toNatClampNeg) 0) (fun ⟨u41, u42⟩ => gd (vp_in v36 700) (bd (f_X8_check u41 u42 ((u42 26) v36.toNatClampNeg)) (fun ⟨u45, u46⟩ => lt (α := Int32) (if v36 = x10 then (u45 37) else (u45 38)) (fun x48 => bd (f_X8_five (upd u45 38 x48) u46) (fun u52 => jn (α := Int32 × (Nat → Int32) × (Nat → Nat → Int32)) (fun ⟨x54, x55, x56⟩ => L_X8_write_165 x10 x5 v18 k38 nn x55 x56 (v36 + 1) x54) (fun k57 => if u52 = 0 then k57 (v37, (upd u45 38 x48), u46) else if x5 = 0 then gd (vp_in v36 700) (bd (f_X8_put (upd u45 38 x48) u46 (1 - ((u46 26) v36.toNatClampNeg)) 1) (fun ⟨u60, u61⟩ => gd (vp_in v36 700) (bd (f_X8_check u60 u61 (1 - ((u61 26) v36.toNatClampNeg))) (fun ⟨u64, u65⟩ => k57 (v37 + 1, u64, u65))))) else if ((v18 34) - 1) ≤ v36 then k57 (v37, (upd u45 38 x48), u46) else gd (vp_in v36 700) (bd (f_X8_put (upd u45 38 x48) u46 (1 - ((u46 26) v36.toNatClampNeg)) 1) (fun ⟨u68, u69⟩ => gd (vp_in v36 700) (bd (f_X8_check u68 u69 (1 - ((u69 26) v36.toNatClampNeg))) (fun ⟨u72, u73⟩ => k57 (v37 + 1, u72, u73))))))))))))
noncomputable def L_X8_write_105  (k21 : (Nat → Int32) × (Nat → Nat → Int32) × Int32 → Option ((Nat → Int32) × (Nat → Nat → Int32))) : Nat → (Nat → Int32) → (Nat → Nat → Int32) → Int32 → Option ((Nat → Int32) × (Nat → Nat → Int32))
  | 0, _, _, _ => none
  | nn + 1, v18, v19, v20 => if (v18 34) ≤ v20 then k21 (v18, v19, v20) else gd (vp_in v20 700) (bd (f_X8_check v18 v19 ((v19 26) v20.toNatClampNeg)) (fun ⟨u24, u25⟩ => L_X8_write_105  k21 nn u24 u25 (v20 + 1)))
noncomputable def f_X8_write  (v : Nat → Int32) (m : Nat → Nat → Int32) (p1 : Int32) : Option ((Nat → Int32) × (Nat → Nat → Int32)) := bd (f_X8_writePlain v m p1) (fun ⟨u1, u2⟩ => gd (vp_in p1 200) (jn (α := Int32) (fun x5 => gd (vp_in p1 200) (lt (α := Int32) (if (((u2 3) p1.toNatClampNeg) - ((u2 3) p1.toNatClampNeg) / 2 * 2) = 1 then 32 else 13) (fun x10 => jn (α := Int32) (fun x14 => jn (α := (Nat → Int32) × (Nat → Nat → Int32) × Int32) (fun ⟨v18, v19, v20⟩ => bd (f_X8_checkOf v18 v19 15) (fun u28 => jn (α := (Nat → Int32) × (Nat → Nat → Int32)) (fun ⟨x30, x31⟩ => jn (α := (Nat → Int32) × (Nat → Nat → Int32) × Int32 × Int32) (fun ⟨v34, v35, v36, v37⟩ => jn (α := (Nat → Int32) × (Nat → Nat → Int32)) (fun ⟨x79, x80⟩ => jn (α := (Nat → Int32) × (Nat → Nat → Int32) × Int32) (fun ⟨v83, v84, v85⟩ => some (v83, v84)) (fun k86 => L_X8_write_292  k86 fu x79 x80 0)) (fun k81 => if x5 = 0 then k81 (v34, v35) else bd (f_X8_countOf v37) (fun u93 => bd (f_X8_writeTail v34 v35 u93 x14) (fun ⟨u95, u96⟩ => k81 (u95, u96))))) (fun k38 => L_X8_write_165 x10 x5 v18 k38 fu x30 x31 0 0)) (fun k32 => if x5 = 0 then bd (f_X8_bits (upd v18 41 0) v19 u28 15) (fun ⟨u100, u101⟩ => k32 (u100, u101)) else k32 ((upd v18 41 0), v19)))) (fun k21 => L_X8_write_105  k21 fu (upd (upd u1 37 0) 41 0) u2 0)) (fun k16 => if x5 = 0 then k16 15 else gd (vp_in p1 200) (gd (vp_in p1 200) (bd (f_X8_octetsOf ((u2 3) p1.toNatClampNeg) ((u2 4) p1.toNatClampNeg)) (fun u107 => if u107 ≤ 16 then k16 17 else k16 21))))))) (fun k7 => if ((u2 3) p1.toNatClampNeg) = 2 then k7 1 else gd (vp_in p1 200) (if ((u2 3) p1.toNatClampNeg) = 3 then k7 1 else k7 0))))
set_option maxHeartbeats 4000000 in
set_option maxRecDepth 100000 in
theorem c_X8_write (l : Launch) (Λ : LY) (hF : FM Λ) (σ : CS)  (v : Nat → Int32) (m : Nat → Nat → Int32) (p1 : Int32)   {v' : Nat → Int32} {m' : Nat → Nat → Int32} (hf : f_X8_write v m p1 = some (v', m')) : CM l yX8_write (.code yX8_write cX8_write 9 none :: TT) ({ frames := 2, cells := 0, slots := 0, locals := 50 }) Λ [.ref (ya Λ 18 0), .int p1] (qM σ v m) (qM σ v' m') (none) := by
  refine CM_intro (own := RX8) (by decide) rfl (Nat.le_of_ble_eq_true rfl) ?_
  intro Γ hg hl hΓ hE
  subst hg; subst hl
  show GG Γ (0, 0) (qM σ v m) 0 [(0, .ref (ya (gl Γ) 18 0)), (1, .int p1)] []
  unfold f_X8_write at hf
  refine G_aload_n hΓ 0 dX8_write_0 rfl ?_
  refine G_iload_n hΓ 1 dX8_write_1 rfl ?_
  obtain ⟨⟨u1, u2⟩, hc3, hf⟩ := bd_some hf
  try dsimp only at hf
  refine G_callV hΓ (n := 1) (As := [.int p1]) (t := 18) (i := 0) (ci := 11) (T := TX8) (N := 47) (FS := fs8 (gl Γ) 0) (σ' := (qM σ u1 u2)) (c_X8_writePlain (gL Γ) (gl Γ) hF σ  v m p1  hc3) rfl rfl kw_1059 kw_1061 kp_32 kw_9 kw_1062 ⟨rfl, by decide, by decide, by decide +kernel⟩ (FMi hF (t := 18) (by decide)) (fun _ _ _ => rfl) rfl rfl rfl ⟨Nat.le_of_ble_eq_true rfl, Nat.le_of_ble_eq_true rfl⟩ rfl (Nat.le_of_ble_eq_true rfl) dX8_write_2 ⟨_, rfl⟩ rfl ?_
  refine G_aload_n hΓ 0 dX8_write_5 rfl ?_
  refine F_get hΓ (t := 18) (i := 0) (ci := 11) (C := RX8) (T := TX8) (N := 47) (fs8 (gl Γ) 0) (v := .ref (ya (gl Γ) 19 3)) (FMi hF (t := 18) (by decide)) (fun _ _ _ => rfl) rfl rfl rfl rfl inW8 7 (by decide) (TT_cons kw_887) rfl dX8_write_6 ?_
  refine G_iload_n hΓ 1 dX8_write_9 rfl ?_
  obtain ⟨hg4, hf⟩ := gd_some hf
  refine F_ald (G_iald hΓ) (t := 19) (i := 3) (f := (u2 3)) (FMi hF (t := 19) (by decide)) (fun _ _ _ => rfl) rfl hg4 dX8_write_10 ?_
  refine G_iconst (v := 2) hΓ dX8_write_11 (by decide) ?_
  obtain ⟨k7, hk_k7, hf⟩ := jn_eq hf
  try dsimp only at hf
  have K8 : ∀ x5, (x5 = 0 ∨ x5 = 1) → k7 x5 = some (v', m') → GG Γ (0, 0) (qM σ u1 u2) 30 [(0, .ref (ya (gl Γ) 18 0)), (1, .int p1)] [.int x5] := by
    intro x5 hb_x5 hf
    subst hk_k7
    try dsimp only at hf
    refine G_istore_n hΓ [(2, .int x5), (0, .ref (ya (gl Γ) 18 0)), (1, .int p1)] dX8_write_30 (by decide) rfl ?_
    refine G_aload_n hΓ 1 dX8_write_31 rfl ?_
    refine F_get hΓ (t := 18) (i := 0) (ci := 11) (C := RX8) (T := TX8) (N := 47) (fs8 (gl Γ) 0) (v := .ref (ya (gl Γ) 19 3)) (FMi hF (t := 18) (by decide)) (fun _ _ _ => rfl) rfl rfl rfl rfl inW8 7 (by decide) (TT_cons kw_887) rfl dX8_write_32 ?_
    refine G_iload_n hΓ 2 dX8_write_35 rfl ?_
    obtain ⟨hg9, hf⟩ := gd_some hf
    refine F_ald (G_iald hΓ) (t := 19) (i := 3) (f := (u2 3)) (FMi hF (t := 19) (by decide)) (fun _ _ _ => rfl) rfl hg9 dX8_write_36 ?_
    refine G_iconst (v := 2) hΓ dX8_write_37 (by decide) ?_
    refine G_irem hΓ dX8_write_38 (by decide) ?_
    refine G_iconst (v := 1) hΓ dX8_write_39 (by decide) ?_
    obtain ⟨x10, he13, hf⟩ := lt_eq hf
    have K11 : GG Γ (0, 0) (qM σ u1 u2) 50 [(2, .int x5), (0, .ref (ya (gl Γ) 18 0)), (1, .int p1)] [.int x10] := by
      refine G_istore_n hΓ [(3, .int x10), (2, .int x5), (0, .ref (ya (gl Γ) 18 0)), (1, .int p1)] dX8_write_50 (by decide) rfl ?_
      refine G_iload_n hΓ 1 dX8_write_51 rfl ?_
      obtain ⟨k16, hk_k16, hf⟩ := jn_eq hf
      try dsimp only at hf
      have K17 : ∀ x14, k16 x14 = some (v', m') → GG Γ (0, 0) (qM σ u1 u2) 87 [(3, .int x10), (2, .int x5), (0, .ref (ya (gl Γ) 18 0)), (1, .int p1)] [.int x14] := by
        intro x14 hf
        subst hk_k16
        try dsimp only at hf
        refine G_istore hΓ [(4, .int x14), (3, .int x10), (2, .int x5), (0, .ref (ya (gl Γ) 18 0)), (1, .int p1)] dX8_write_87 (by decide) rfl ?_
        refine G_iconst (v := 0) hΓ dX8_write_89 (by decide) ?_
        refine G_istore hΓ [(5, .int 0), (4, .int x14), (3, .int x10), (2, .int x5), (0, .ref (ya (gl Γ) 18 0)), (1, .int p1)] dX8_write_90 (by decide) rfl ?_
        refine G_aload_n hΓ 4 dX8_write_92 rfl ?_
        refine G_iconst (v := 0) hΓ dX8_write_93 (by decide) ?_
        refine F_put hΓ (t := 18) (i := 0) (ci := 11) (C := RX8) (T := TX8) (N := 47) (fs8 (gl Γ) 0) (f := u1) (f' := (upd u1 37 0)) (σ' := (qM σ (upd u1 37 0) u2)) (ty := .int) (v := .int 0) tyX8 tyX8_ok nmX8 (FMi hF (t := 18) (by decide)) (fun _ _ _ => rfl) rfl qM_v rfl inW8 37 (by decide) (TT_cons kw_917) rfl (by decide +kernel) rfl rfl (fun _ _ => Nat.le_of_ble_eq_true rfl) (fun _ _ => rfl) dX8_write_94 ?_
        refine G_aload_n hΓ 4 dX8_write_97 rfl ?_
        refine G_iconst (v := 0) hΓ dX8_write_98 (by decide) ?_
        refine F_put hΓ (t := 18) (i := 0) (ci := 11) (C := RX8) (T := TX8) (N := 47) (fs8 (gl Γ) 0) (f := (upd u1 37 0)) (f' := (upd (upd u1 37 0) 41 0)) (σ' := (qM σ (upd (upd u1 37 0) 41 0) u2)) (ty := .int) (v := .int 0) tyX8 tyX8_ok nmX8 (FMi hF (t := 18) (by decide)) (fun _ _ _ => rfl) rfl qM_v rfl inW8 41 (by decide) (TT_cons kw_921) rfl (by decide +kernel) rfl rfl (fun _ _ => Nat.le_of_ble_eq_true rfl) (fun _ _ => rfl) dX8_write_99 ?_
        refine G_iconst (v := 0) hΓ dX8_write_102 (by decide) ?_
        refine G_istore hΓ [(6, .int 0), (5, .int 0), (4, .int x14), (3, .int x10), (2, .int x5), (0, .ref (ya (gl Γ) 18 0)), (1, .int p1)] dX8_write_103 (by decide) rfl ?_
        obtain ⟨k21, hk_k21, hf⟩ := jn_eq hf
        try dsimp only at hf
        have K22 : ∀ v18 v19 v20, k21 (v18, v19, v20) = some (v', m') → GG Γ (0, 0) (qM σ v18 v19) 131 [(6, .int v20), (5, .int 0), (4, .int x14), (3, .int x10), (2, .int x5), (0, .ref (ya (gl Γ) 18 0)), (1, .int p1)] [] := by
          intro v18 v19 v20 hf
          subst hk_k21
          try dsimp only at hf
          refine G_aload_n hΓ 5 dX8_write_131 rfl ?_
          refine G_bipush (v := 15) hΓ dX8_write_132 (by decide) ?_
          obtain ⟨u28, hc29, hf⟩ := bd_some hf
          refine G_callV hΓ (n := 1) (As := [.int 15]) (t := 18) (i := 0) (ci := 11) (T := TX8) (N := 47) (FS := fs8 (gl Γ) 0) (σ' := (qM σ v18 v19)) (c_X8_checkOf (gL Γ) (gl Γ) hF σ  v18 v19 15  hc29) rfl rfl kw_1072 kw_1074 kp_35 kw_9 kw_1075 ⟨rfl, by decide, by decide, by decide +kernel⟩ (FMi hF (t := 18) (by decide)) (fun _ _ _ => rfl) rfl rfl rfl ⟨Nat.le_of_ble_eq_true rfl, Nat.le_of_ble_eq_true rfl⟩ rfl (Nat.le_of_ble_eq_true rfl) dX8_write_134 ⟨_, rfl⟩ rfl ?_
          refine G_istore hΓ [(6, .int u28), (5, .int 0), (4, .int x14), (3, .int x10), (2, .int x5), (0, .ref (ya (gl Γ) 18 0)), (1, .int p1)] dX8_write_137 (by decide) rfl ?_
          refine G_aload_n hΓ 5 dX8_write_139 rfl ?_
          refine G_iconst (v := 0) hΓ dX8_write_140 (by decide) ?_
          refine F_put hΓ (t := 18) (i := 0) (ci := 11) (C := RX8) (T := TX8) (N := 47) (fs8 (gl Γ) 0) (f := v18) (f' := (upd v18 41 0)) (σ' := (qM σ (upd v18 41 0) v19)) (ty := .int) (v := .int 0) tyX8 tyX8_ok nmX8 (FMi hF (t := 18) (by decide)) (fun _ _ _ => rfl) rfl qM_v rfl inW8 41 (by decide) (TT_cons kw_921) rfl (by decide +kernel) rfl rfl (fun _ _ => Nat.le_of_ble_eq_true rfl) (fun _ _ => rfl) dX8_write_141 ?_
          refine G_aload_n hΓ 5 dX8_write_144 rfl ?_
          refine F_get hΓ (t := 18) (i := 0) (ci := 11) (C := RX8) (T := TX8) (N := 47) (fs8 (gl Γ) 0) (v := .int (v18 34)) (FMi hF (t := 18) (by decide)) (fun _ _ _ => rfl) rfl rfl rfl rfl inW8 34 (by decide) (TT_cons kw_914) rfl dX8_write_145 ?_
          refine G_istore hΓ [(7, .int (v18 34)), (6, .int u28), (5, .int 0), (4, .int x14), (3, .int x10), (2, .int x5), (0, .ref (ya (gl Γ) 18 0)), (1, .int p1)] dX8_write_148 (by decide) rfl ?_
          refine G_iload_n hΓ 5 dX8_write_150 rfl ?_
          obtain ⟨k32, hk_k32, hf⟩ := jn_eq hf
          try dsimp only at hf
          have K33 : ∀ x30 x31, k32 (x30, x31) = some (v', m') → GG Γ (0, 0) (qM σ x30 x31) 162 [(7, .int (v18 34)), (6, .int u28), (5, .int 0), (4, .int x14), (3, .int x10), (2, .int x5), (0, .ref (ya (gl Γ) 18 0)), (1, .int p1)] [] := by
            intro x30 x31 hf
            subst hk_k32
            try dsimp only at hf
            refine G_iconst (v := 0) hΓ dX8_write_162 (by decide) ?_
            refine G_istore hΓ [(8, .int 0), (7, .int (v18 34)), (6, .int u28), (5, .int 0), (4, .int x14), (3, .int x10), (2, .int x5), (0, .ref (ya (gl Γ) 18 0)), (1, .int p1)] dX8_write_163 (by decide) rfl ?_
            obtain ⟨k38, hk_k38, hf⟩ := jn_eq hf
            try dsimp only at hf
            have K39 : ∀ v34 v35 v36 v37, k38 (v34, v35, v36, v37) = some (v', m') → GG Γ (0, 0) (qM σ v34 v35) 274 [(8, .int v36), (7, .int (v18 34)), (6, .int u28), (5, .int v37), (4, .int x14), (3, .int x10), (2, .int x5), (0, .ref (ya (gl Γ) 18 0)), (1, .int p1)] [] := by
              intro v34 v35 v36 v37 hf
              subst hk_k38
              try dsimp only at hf
              refine G_iload_n hΓ 6 dX8_write_274 rfl ?_
              obtain ⟨k81, hk_k81, hf⟩ := jn_eq hf
              try dsimp only at hf
              have K82 : ∀ x79 x80, k81 (x79, x80) = some (v', m') → GG Γ (0, 0) (qM σ x79 x80) 289 [(8, .int v36), (7, .int (v18 34)), (6, .int u28), (5, .int v37), (4, .int x14), (3, .int x10), (2, .int x5), (0, .ref (ya (gl Γ) 18 0)), (1, .int p1)] [] := by
                intro x79 x80 hf
                subst hk_k81
                try dsimp only at hf
                refine G_iconst (v := 0) hΓ dX8_write_289 (by decide) ?_
                refine G_istore hΓ [(8, .int 0), (7, .int (v18 34)), (6, .int u28), (5, .int v37), (4, .int x14), (3, .int x10), (2, .int x5), (0, .ref (ya (gl Γ) 18 0)), (1, .int p1)] dX8_write_290 (by decide) rfl ?_
                obtain ⟨k86, hk_k86, hf⟩ := jn_eq hf
                try dsimp only at hf
                have K87 : ∀ v83 v84 v85, k86 (v83, v84, v85) = some (v', m') → GG Γ (0, 0) (qM σ v83 v84) 311 [(8, .int v85), (7, .int (v18 34)), (6, .int u28), (5, .int v37), (4, .int x14), (3, .int x10), (2, .int x5), (0, .ref (ya (gl Γ) 18 0)), (1, .int p1)] [] := by
                  intro v83 v84 v85 hf
                  subst hk_k86
                  try dsimp only at hf
                  cases hf
                  exact G_vret hΓ hE dX8_write_311
                clear hk_k86
                have loop92 : ∀ (nn : Nat) v83 v84 v85, L_X8_write_292  k86 nn v83 v84 v85 = some (v', m') → GG Γ (0, 0) (qM σ v83 v84) 292 [(8, .int v85), (7, .int (v18 34)), (6, .int u28), (5, .int v37), (4, .int x14), (3, .int x10), (2, .int x5), (0, .ref (ya (gl Γ) 18 0)), (1, .int p1)] [] := by
                  intro nn
                  induction nn with
                  | zero => intro v83 v84 v85 hf; cases hf
                  | succ nn ih =>
                    intro v83 v84 v85 hf
                    rw [L_X8_write_292] at hf
                    refine G_iload hΓ 0 dX8_write_292 rfl ?_
                    refine G_bipush (v := 10) hΓ dX8_write_294 (by decide) ?_
                    refine G_icmp_ge hΓ (tgt := 311) dX8_write_296 (by decide) (fun hc91 => ?_) (fun hc91 => ?_)
                    · rw [if_pos hc91] at hf
                      exact (K87 _ _ _ hf)
                    · rw [if_neg hc91] at hf
                      refine G_aload_n hΓ 7 dX8_write_299 rfl ?_
                      refine G_iconst (v := 1) hΓ dX8_write_300 (by decide) ?_
                      refine G_iconst (v := 0) hΓ dX8_write_301 (by decide) ?_
                      obtain ⟨⟨u88, u89⟩, hc90, hf⟩ := bd_some hf
                      try dsimp only at hf
                      refine G_callV hΓ (n := 2) (As := [.int 1, .int 0]) (t := 18) (i := 0) (ci := 11) (T := TX8) (N := 47) (FS := fs8 (gl Γ) 0) (σ' := (qM σ u88 u89)) (c_X8_put (gL Γ) (gl Γ) hF σ  v83 v84 1 0  hc90) rfl rfl kw_1078 kw_1080 kp_36 kw_9 kw_1081 ⟨rfl, by decide, by decide, by decide +kernel⟩ (FMi hF (t := 18) (by decide)) (fun _ _ _ => rfl) rfl rfl rfl ⟨Nat.le_of_ble_eq_true rfl, Nat.le_of_ble_eq_true rfl⟩ rfl (Nat.le_of_ble_eq_true rfl) dX8_write_302 ⟨_, rfl⟩ rfl ?_
                      refine G_iinc hΓ 0 [(8, .int (v85 + 1)), (7, .int (v18 34)), (6, .int u28), (5, .int v37), (4, .int x14), (3, .int x10), (2, .int x5), (0, .ref (ya (gl Γ) 18 0)), (1, .int p1)] dX8_write_305 rfl rfl (by decide) rfl ?_
                      refine G_goto hΓ (tgt := 292) dX8_write_308 (by decide) ?_
                      exact (ih _ _ _ hf)
                exact loop92 _ _ _ _ hf
              clear hk_k81
              refine G_if_eq hΓ (tgt := 289) dX8_write_275 (by decide) (fun hc98 => ?_) (fun hc98 => ?_)
              · rw [if_pos hc98] at hf
                exact K82 _ _ hf
              · rw [if_neg hc98] at hf
                refine G_aload_n hΓ 7 dX8_write_278 rfl ?_
                refine G_iload hΓ 3 dX8_write_279 rfl ?_
                obtain ⟨u93, hc94, hf⟩ := bd_some hf
                refine G_callS hΓ (n := 1) (As := [.int v37]) (σ' := (qM σ v34 v35)) (c_X8_countOf (gL Γ) (gl Γ) hF (qM σ v34 v35)   v37  hc94) rfl rfl kw_1086 kw_1087 kw_9 kw_1088 ⟨by decide, by decide, by decide +kernel⟩ rfl rfl ⟨Nat.le_of_ble_eq_true rfl, Nat.le_of_ble_eq_true rfl⟩ rfl (Nat.le_of_ble_eq_true rfl) dX8_write_281 ⟨_, rfl⟩ rfl ?_
                refine G_iload hΓ 4 dX8_write_284 rfl ?_
                obtain ⟨⟨u95, u96⟩, hc97, hf⟩ := bd_some hf
                try dsimp only at hf
                refine G_callV hΓ (n := 2) (As := [.int u93, .int x14]) (t := 18) (i := 0) (ci := 11) (T := TX8) (N := 47) (FS := fs8 (gl Γ) 0) (σ' := (qM σ u95 u96)) (c_X8_writeTail (gL Γ) (gl Γ) hF σ  v34 v35 u93 x14  hc97) rfl rfl kw_1092 kw_1094 kp_38 kw_9 kw_1095 ⟨rfl, by decide, by decide, by decide +kernel⟩ (FMi hF (t := 18) (by decide)) (fun _ _ _ => rfl) rfl rfl rfl ⟨Nat.le_of_ble_eq_true rfl, Nat.le_of_ble_eq_true rfl⟩ rfl (Nat.le_of_ble_eq_true rfl) dX8_write_286 ⟨_, rfl⟩ rfl ?_
                exact K82 _ _ hf
            clear hk_k38
            have loop99 : ∀ (nn : Nat) v34 v35 v36 v37, L_X8_write_165 x10 x5 v18 k38 nn v34 v35 v36 v37 = some (v', m') → GG Γ (0, 0) (qM σ v34 v35) 165 [(8, .int v36), (7, .int (v18 34)), (6, .int u28), (5, .int v37), (4, .int x14), (3, .int x10), (2, .int x5), (0, .ref (ya (gl Γ) 18 0)), (1, .int p1)] [] := by
              intro nn
              induction nn with
              | zero => intro v34 v35 v36 v37 hf; cases hf
              | succ nn ih =>
                intro v34 v35 v36 v37 hf
                rw [L_X8_write_165] at hf
                refine G_iload hΓ 0 dX8_write_165 rfl ?_
                refine G_aload_n hΓ 7 dX8_write_167 rfl ?_
                refine F_get hΓ (t := 18) (i := 0) (ci := 11) (C := RX8) (T := TX8) (N := 47) (fs8 (gl Γ) 0) (v := .int (v34 34)) (FMi hF (t := 18) (by decide)) (fun _ _ _ => rfl) rfl rfl rfl rfl inW8 34 (by decide) (TT_cons kw_914) rfl dX8_write_168 ?_
                refine G_icmp_ge hΓ (tgt := 274) dX8_write_171 (by decide) (fun hc78 => ?_) (fun hc78 => ?_)
                · rw [if_pos hc78] at hf
                  exact (K39 _ _ _ _ hf)
                · rw [if_neg hc78] at hf
                  refine G_aload_n hΓ 7 dX8_write_174 rfl ?_
                  refine G_aload_n hΓ 7 dX8_write_175 rfl ?_
                  refine F_get hΓ (t := 18) (i := 0) (ci := 11) (C := RX8) (T := TX8) (N := 47) (fs8 (gl Γ) 0) (v := .ref (ya (gl Γ) 19 26)) (FMi hF (t := 18) (by decide)) (fun _ _ _ => rfl) rfl rfl rfl rfl inW8 33 (by decide) (TT_cons kw_913) rfl dX8_write_176 ?_
                  refine G_iload hΓ 0 dX8_write_179 rfl ?_
                  obtain ⟨hg40, hf⟩ := gd_some hf
                  refine F_ald (G_bald hΓ) (t := 19) (i := 26) (f := (v35 26)) (FMi hF (t := 19) (by decide)) (fun _ _ _ => rfl) rfl hg40 dX8_write_181 ?_
                  refine G_iconst (v := 0) hΓ dX8_write_182 (by decide) ?_
                  obtain ⟨⟨u41, u42⟩, hc43, hf⟩ := bd_some hf
                  try dsimp only at hf
                  refine G_callV hΓ (n := 2) (As := [.int ((v35 26) v36.toNatClampNeg), .int 0]) (t := 18) (i := 0) (ci := 11) (T := TX8) (N := 47) (FS := fs8 (gl Γ) 0) (σ' := (qM σ u41 u42)) (c_X8_put (gL Γ) (gl Γ) hF σ  v34 v35 ((v35 26) v36.toNatClampNeg) 0  hc43) rfl rfl kw_1078 kw_1080 kp_36 kw_9 kw_1081 ⟨rfl, by decide, by decide, by decide +kernel⟩ (FMi hF (t := 18) (by decide)) (fun _ _ _ => rfl) rfl rfl rfl ⟨Nat.le_of_ble_eq_true rfl, Nat.le_of_ble_eq_true rfl⟩ rfl (Nat.le_of_ble_eq_true rfl) dX8_write_183 ⟨_, rfl⟩ rfl ?_
                  refine G_aload_n hΓ 7 dX8_write_186 rfl ?_
                  refine G_aload_n hΓ 7 dX8_write_187 rfl ?_
                  refine F_get hΓ (t := 18) (i := 0) (ci := 11) (C := RX8) (T := TX8) (N := 47) (fs8 (gl Γ) 0) (v := .ref (ya (gl Γ) 19 26)) (FMi hF (t := 18) (by decide)) (fun _ _ _ => rfl) rfl rfl rfl rfl inW8 33 (by decide) (TT_cons kw_913) rfl dX8_write_188 ?_
                  refine G_iload hΓ 0 dX8_write_191 rfl ?_
                  obtain ⟨hg44, hf⟩ := gd_some hf
                  refine F_ald (G_bald hΓ) (t := 19) (i := 26) (f := (u42 26)) (FMi hF (t := 19) (by decide)) (fun _ _ _ => rfl) rfl hg44 dX8_write_193 ?_
                  obtain ⟨⟨u45, u46⟩, hc47, hf⟩ := bd_some hf
                  try dsimp only at hf
                  refine G_callV hΓ (n := 1) (As := [.int ((u42 26) v36.toNatClampNeg)]) (t := 18) (i := 0) (ci := 11) (T := TX8) (N := 47) (FS := fs8 (gl Γ) 0) (σ' := (qM σ u45 u46)) (c_X8_check (gL Γ) (gl Γ) hF σ  u41 u42 ((u42 26) v36.toNatClampNeg)  hc47) rfl rfl kw_1068 kw_1070 kp_34 kw_9 kw_1071 ⟨rfl, by decide, by decide, by decide +kernel⟩ (FMi hF (t := 18) (by decide)) (fun _ _ _ => rfl) rfl rfl rfl ⟨Nat.le_of_ble_eq_true rfl, Nat.le_of_ble_eq_true rfl⟩ rfl (Nat.le_of_ble_eq_true rfl) dX8_write_194 ⟨_, rfl⟩ rfl ?_
                  refine G_aload_n hΓ 7 dX8_write_197 rfl ?_
                  refine G_iload hΓ 0 dX8_write_198 rfl ?_
                  refine G_iload_n hΓ 5 dX8_write_200 rfl ?_
                  obtain ⟨x48, he51, hf⟩ := lt_eq hf
                  have K49 : GG Γ (0, 0) (qM σ u45 u46) 215 [(8, .int v36), (7, .int (v18 34)), (6, .int u28), (5, .int v37), (4, .int x14), (3, .int x10), (2, .int x5), (0, .ref (ya (gl Γ) 18 0)), (1, .int p1)] [.int x48, .ref (ya (gl Γ) 18 0)] := by
                    refine F_put hΓ (t := 18) (i := 0) (ci := 11) (C := RX8) (T := TX8) (N := 47) (fs8 (gl Γ) 0) (f := u45) (f' := (upd u45 38 x48)) (σ' := (qM σ (upd u45 38 x48) u46)) (ty := .int) (v := .int x48) tyX8 tyX8_ok nmX8 (FMi hF (t := 18) (by decide)) (fun _ _ _ => rfl) rfl qM_v rfl inW8 38 (by decide) (TT_cons kw_918) rfl (by decide +kernel) rfl rfl (fun _ _ => Nat.le_of_ble_eq_true rfl) (fun _ _ => rfl) dX8_write_215 ?_
                    refine G_aload_n hΓ 7 dX8_write_218 rfl ?_
                    obtain ⟨u52, hc53, hf⟩ := bd_some hf
                    refine G_callV hΓ (n := 0) (As := []) (t := 18) (i := 0) (ci := 11) (T := TX8) (N := 47) (FS := fs8 (gl Γ) 0) (σ' := (qM σ (upd u45 38 x48) u46)) (c_X8_five (gL Γ) (gl Γ) hF σ  (upd u45 38 x48) u46   hc53) rfl rfl kw_1082 kw_1084 kp_37 kw_9 kw_1085 ⟨rfl, by decide, by decide, by decide +kernel⟩ (FMi hF (t := 18) (by decide)) (fun _ _ _ => rfl) rfl rfl rfl ⟨Nat.le_of_ble_eq_true rfl, Nat.le_of_ble_eq_true rfl⟩ rfl (Nat.le_of_ble_eq_true rfl) dX8_write_219 ⟨_, rfl⟩ rfl ?_
                    obtain ⟨k57, hk_k57, hf⟩ := jn_eq hf
                    try dsimp only at hf
                    have K58 : ∀ x54 x55 x56, k57 (x54, x55, x56) = some (v', m') → GG Γ (0, 0) (qM σ x55 x56) 268 [(8, .int v36), (7, .int (v18 34)), (6, .int u28), (5, .int x54), (4, .int x14), (3, .int x10), (2, .int x5), (0, .ref (ya (gl Γ) 18 0)), (1, .int p1)] [] := by
                      intro x54 x55 x56 hf
                      subst hk_k57
                      try dsimp only at hf
                      refine G_iinc hΓ 0 [(8, .int (v36 + 1)), (7, .int (v18 34)), (6, .int u28), (5, .int x54), (4, .int x14), (3, .int x10), (2, .int x5), (0, .ref (ya (gl Γ) 18 0)), (1, .int p1)] dX8_write_268 rfl rfl (by decide) rfl ?_
                      refine G_goto hΓ (tgt := 165) dX8_write_271 (by decide) ?_
                      exact (ih _ _ _ _ hf)
                    clear hk_k57
                    refine G_if_eq hΓ (tgt := 268) dX8_write_222 (by decide) (fun hc77 => ?_) (fun hc77 => ?_)
                    · rw [if_pos hc77] at hf
                      exact K58 _ _ _ hf
                    · rw [if_neg hc77] at hf
                      refine G_iload_n hΓ 6 dX8_write_225 rfl ?_
                      refine G_if_eq hΓ (tgt := 238) dX8_write_226 (by decide) (fun hc76 => ?_) (fun hc76 => ?_)
                      · rw [if_pos hc76] at hf
                        refine G_aload_n hΓ 7 dX8_write_238 rfl ?_
                        refine G_iconst (v := 1) hΓ dX8_write_239 (by decide) ?_
                        refine G_aload_n hΓ 7 dX8_write_240 rfl ?_
                        refine F_get hΓ (t := 18) (i := 0) (ci := 11) (C := RX8) (T := TX8) (N := 47) (fs8 (gl Γ) 0) (v := .ref (ya (gl Γ) 19 26)) (FMi hF (t := 18) (by decide)) (fun _ _ _ => rfl) rfl rfl rfl rfl inW8 33 (by decide) (TT_cons kw_913) rfl dX8_write_241 ?_
                        refine G_iload hΓ 0 dX8_write_244 rfl ?_
                        obtain ⟨hg59, hf⟩ := gd_some hf
                        refine F_ald (G_bald hΓ) (t := 19) (i := 26) (f := (u46 26)) (FMi hF (t := 19) (by decide)) (fun _ _ _ => rfl) rfl hg59 dX8_write_246 ?_
                        refine G_isub hΓ dX8_write_247 ?_
                        refine G_iconst (v := 1) hΓ dX8_write_248 (by decide) ?_
                        obtain ⟨⟨u60, u61⟩, hc62, hf⟩ := bd_some hf
                        try dsimp only at hf
                        refine G_callV hΓ (n := 2) (As := [.int (1 - ((u46 26) v36.toNatClampNeg)), .int 1]) (t := 18) (i := 0) (ci := 11) (T := TX8) (N := 47) (FS := fs8 (gl Γ) 0) (σ' := (qM σ u60 u61)) (c_X8_put (gL Γ) (gl Γ) hF σ  (upd u45 38 x48) u46 (1 - ((u46 26) v36.toNatClampNeg)) 1  hc62) rfl rfl kw_1078 kw_1080 kp_36 kw_9 kw_1081 ⟨rfl, by decide, by decide, by decide +kernel⟩ (FMi hF (t := 18) (by decide)) (fun _ _ _ => rfl) rfl rfl rfl ⟨Nat.le_of_ble_eq_true rfl, Nat.le_of_ble_eq_true rfl⟩ rfl (Nat.le_of_ble_eq_true rfl) dX8_write_249 ⟨_, rfl⟩ rfl ?_
                        refine G_aload_n hΓ 7 dX8_write_252 rfl ?_
                        refine G_iconst (v := 1) hΓ dX8_write_253 (by decide) ?_
                        refine G_aload_n hΓ 7 dX8_write_254 rfl ?_
                        refine F_get hΓ (t := 18) (i := 0) (ci := 11) (C := RX8) (T := TX8) (N := 47) (fs8 (gl Γ) 0) (v := .ref (ya (gl Γ) 19 26)) (FMi hF (t := 18) (by decide)) (fun _ _ _ => rfl) rfl rfl rfl rfl inW8 33 (by decide) (TT_cons kw_913) rfl dX8_write_255 ?_
                        refine G_iload hΓ 0 dX8_write_258 rfl ?_
                        obtain ⟨hg63, hf⟩ := gd_some hf
                        refine F_ald (G_bald hΓ) (t := 19) (i := 26) (f := (u61 26)) (FMi hF (t := 19) (by decide)) (fun _ _ _ => rfl) rfl hg63 dX8_write_260 ?_
                        refine G_isub hΓ dX8_write_261 ?_
                        obtain ⟨⟨u64, u65⟩, hc66, hf⟩ := bd_some hf
                        try dsimp only at hf
                        refine G_callV hΓ (n := 1) (As := [.int (1 - ((u61 26) v36.toNatClampNeg))]) (t := 18) (i := 0) (ci := 11) (T := TX8) (N := 47) (FS := fs8 (gl Γ) 0) (σ' := (qM σ u64 u65)) (c_X8_check (gL Γ) (gl Γ) hF σ  u60 u61 (1 - ((u61 26) v36.toNatClampNeg))  hc66) rfl rfl kw_1068 kw_1070 kp_34 kw_9 kw_1071 ⟨rfl, by decide, by decide, by decide +kernel⟩ (FMi hF (t := 18) (by decide)) (fun _ _ _ => rfl) rfl rfl rfl ⟨Nat.le_of_ble_eq_true rfl, Nat.le_of_ble_eq_true rfl⟩ rfl (Nat.le_of_ble_eq_true rfl) dX8_write_262 ⟨_, rfl⟩ rfl ?_
                        refine G_iinc hΓ 3 [(5, .int (v37 + 1)), (8, .int v36), (7, .int (v18 34)), (6, .int u28), (4, .int x14), (3, .int x10), (2, .int x5), (0, .ref (ya (gl Γ) 18 0)), (1, .int p1)] dX8_write_265 rfl rfl (by decide) rfl ?_
                        exact G_loc [1, 2, 3, 0, 4, 5, 6, 7, 8] rfl (K58 _ _ _ hf)
                      · rw [if_neg hc76] at hf
                        refine G_iload hΓ 0 dX8_write_229 rfl ?_
                        refine G_iload hΓ 1 dX8_write_231 rfl ?_
                        refine G_iconst (v := 1) hΓ dX8_write_233 (by decide) ?_
                        refine G_isub hΓ dX8_write_234 ?_
                        refine G_icmp_ge hΓ (tgt := 268) dX8_write_235 (by decide) (fun hc75 => ?_) (fun hc75 => ?_)
                        · rw [if_pos hc75] at hf
                          exact K58 _ _ _ hf
                        · rw [if_neg hc75] at hf
                          refine G_aload_n hΓ 7 dX8_write_238 rfl ?_
                          refine G_iconst (v := 1) hΓ dX8_write_239 (by decide) ?_
                          refine G_aload_n hΓ 7 dX8_write_240 rfl ?_
                          refine F_get hΓ (t := 18) (i := 0) (ci := 11) (C := RX8) (T := TX8) (N := 47) (fs8 (gl Γ) 0) (v := .ref (ya (gl Γ) 19 26)) (FMi hF (t := 18) (by decide)) (fun _ _ _ => rfl) rfl rfl rfl rfl inW8 33 (by decide) (TT_cons kw_913) rfl dX8_write_241 ?_
                          refine G_iload hΓ 0 dX8_write_244 rfl ?_
                          obtain ⟨hg67, hf⟩ := gd_some hf
                          refine F_ald (G_bald hΓ) (t := 19) (i := 26) (f := (u46 26)) (FMi hF (t := 19) (by decide)) (fun _ _ _ => rfl) rfl hg67 dX8_write_246 ?_
                          refine G_isub hΓ dX8_write_247 ?_
                          refine G_iconst (v := 1) hΓ dX8_write_248 (by decide) ?_
                          obtain ⟨⟨u68, u69⟩, hc70, hf⟩ := bd_some hf
                          try dsimp only at hf
                          refine G_callV hΓ (n := 2) (As := [.int (1 - ((u46 26) v36.toNatClampNeg)), .int 1]) (t := 18) (i := 0) (ci := 11) (T := TX8) (N := 47) (FS := fs8 (gl Γ) 0) (σ' := (qM σ u68 u69)) (c_X8_put (gL Γ) (gl Γ) hF σ  (upd u45 38 x48) u46 (1 - ((u46 26) v36.toNatClampNeg)) 1  hc70) rfl rfl kw_1078 kw_1080 kp_36 kw_9 kw_1081 ⟨rfl, by decide, by decide, by decide +kernel⟩ (FMi hF (t := 18) (by decide)) (fun _ _ _ => rfl) rfl rfl rfl ⟨Nat.le_of_ble_eq_true rfl, Nat.le_of_ble_eq_true rfl⟩ rfl (Nat.le_of_ble_eq_true rfl) dX8_write_249 ⟨_, rfl⟩ rfl ?_
                          refine G_aload_n hΓ 7 dX8_write_252 rfl ?_
                          refine G_iconst (v := 1) hΓ dX8_write_253 (by decide) ?_
                          refine G_aload_n hΓ 7 dX8_write_254 rfl ?_
                          refine F_get hΓ (t := 18) (i := 0) (ci := 11) (C := RX8) (T := TX8) (N := 47) (fs8 (gl Γ) 0) (v := .ref (ya (gl Γ) 19 26)) (FMi hF (t := 18) (by decide)) (fun _ _ _ => rfl) rfl rfl rfl rfl inW8 33 (by decide) (TT_cons kw_913) rfl dX8_write_255 ?_
                          refine G_iload hΓ 0 dX8_write_258 rfl ?_
                          obtain ⟨hg71, hf⟩ := gd_some hf
                          refine F_ald (G_bald hΓ) (t := 19) (i := 26) (f := (u69 26)) (FMi hF (t := 19) (by decide)) (fun _ _ _ => rfl) rfl hg71 dX8_write_260 ?_
                          refine G_isub hΓ dX8_write_261 ?_
                          obtain ⟨⟨u72, u73⟩, hc74, hf⟩ := bd_some hf
                          try dsimp only at hf
                          refine G_callV hΓ (n := 1) (As := [.int (1 - ((u69 26) v36.toNatClampNeg))]) (t := 18) (i := 0) (ci := 11) (T := TX8) (N := 47) (FS := fs8 (gl Γ) 0) (σ' := (qM σ u72 u73)) (c_X8_check (gL Γ) (gl Γ) hF σ  u68 u69 (1 - ((u69 26) v36.toNatClampNeg))  hc74) rfl rfl kw_1068 kw_1070 kp_34 kw_9 kw_1071 ⟨rfl, by decide, by decide, by decide +kernel⟩ (FMi hF (t := 18) (by decide)) (fun _ _ _ => rfl) rfl rfl rfl ⟨Nat.le_of_ble_eq_true rfl, Nat.le_of_ble_eq_true rfl⟩ rfl (Nat.le_of_ble_eq_true rfl) dX8_write_262 ⟨_, rfl⟩ rfl ?_
                          refine G_iinc hΓ 3 [(5, .int (v37 + 1)), (8, .int v36), (7, .int (v18 34)), (6, .int u28), (4, .int x14), (3, .int x10), (2, .int x5), (0, .ref (ya (gl Γ) 18 0)), (1, .int p1)] dX8_write_265 rfl rfl (by decide) rfl ?_
                          exact G_loc [1, 2, 3, 0, 4, 5, 6, 7, 8] rfl (K58 _ _ _ hf)
                  have he := he51
                  refine G_icmp_ne hΓ (tgt := 211) dX8_write_201 (by decide) (fun hc50 => ?_) (fun hc50 => ?_)
                  · rw [if_neg hc50] at he
                    refine G_aload_n hΓ 7 dX8_write_211 rfl ?_
                    refine F_get hΓ (t := 18) (i := 0) (ci := 11) (C := RX8) (T := TX8) (N := 47) (fs8 (gl Γ) 0) (v := .int (u45 38)) (FMi hF (t := 18) (by decide)) (fun _ _ _ => rfl) rfl rfl rfl rfl inW8 38 (by decide) (TT_cons kw_918) rfl dX8_write_212 ?_
                    subst he
                    exact K49
                  · rw [if_pos hc50] at he
                    refine G_aload_n hΓ 7 dX8_write_204 rfl ?_
                    refine F_get hΓ (t := 18) (i := 0) (ci := 11) (C := RX8) (T := TX8) (N := 47) (fs8 (gl Γ) 0) (v := .int (u45 37)) (FMi hF (t := 18) (by decide)) (fun _ _ _ => rfl) rfl rfl rfl rfl inW8 37 (by decide) (TT_cons kw_917) rfl dX8_write_205 ?_
                    refine G_goto hΓ (tgt := 215) dX8_write_208 (by decide) ?_
                    subst he
                    exact K49
            exact loop99 _ _ _ _ _ hf
          clear hk_k32
          refine G_if_ne hΓ (tgt := 162) dX8_write_151 (by decide) (fun hc103 => ?_) (fun hc103 => ?_)
          · rw [if_neg hc103] at hf
            exact K33 _ _ hf
          · rw [if_pos hc103] at hf
            refine G_aload_n hΓ 6 dX8_write_154 rfl ?_
            refine G_iload hΓ 1 dX8_write_155 rfl ?_
            refine G_bipush (v := 15) hΓ dX8_write_157 (by decide) ?_
            obtain ⟨⟨u100, u101⟩, hc102, hf⟩ := bd_some hf
            try dsimp only at hf
            refine G_callV hΓ (n := 2) (As := [.int u28, .int 15]) (t := 18) (i := 0) (ci := 11) (T := TX8) (N := 47) (FS := fs8 (gl Γ) 0) (σ' := (qM σ u100 u101)) (c_X8_bits (gL Γ) (gl Γ) hF σ  (upd v18 41 0) v19 u28 15  hc102) rfl rfl kw_1063 kw_1065 kp_33 kw_9 kw_1066 ⟨rfl, by decide, by decide, by decide +kernel⟩ (FMi hF (t := 18) (by decide)) (fun _ _ _ => rfl) rfl rfl rfl ⟨Nat.le_of_ble_eq_true rfl, Nat.le_of_ble_eq_true rfl⟩ rfl (Nat.le_of_ble_eq_true rfl) dX8_write_159 ⟨_, rfl⟩ rfl ?_
            exact K33 _ _ hf
        clear hk_k21
        have loop104 : ∀ (nn : Nat) v18 v19 v20, L_X8_write_105  k21 nn v18 v19 v20 = some (v', m') → GG Γ (0, 0) (qM σ v18 v19) 105 [(6, .int v20), (5, .int 0), (4, .int x14), (3, .int x10), (2, .int x5), (0, .ref (ya (gl Γ) 18 0)), (1, .int p1)] [] := by
          intro nn
          induction nn with
          | zero => intro v18 v19 v20 hf; cases hf
          | succ nn ih =>
            intro v18 v19 v20 hf
            rw [L_X8_write_105] at hf
            refine G_iload hΓ 0 dX8_write_105 rfl ?_
            refine G_aload_n hΓ 5 dX8_write_107 rfl ?_
            refine F_get hΓ (t := 18) (i := 0) (ci := 11) (C := RX8) (T := TX8) (N := 47) (fs8 (gl Γ) 0) (v := .int (v18 34)) (FMi hF (t := 18) (by decide)) (fun _ _ _ => rfl) rfl rfl rfl rfl inW8 34 (by decide) (TT_cons kw_914) rfl dX8_write_108 ?_
            refine G_icmp_ge hΓ (tgt := 131) dX8_write_111 (by decide) (fun hc27 => ?_) (fun hc27 => ?_)
            · rw [if_pos hc27] at hf
              exact (K22 _ _ _ hf)
            · rw [if_neg hc27] at hf
              refine G_aload_n hΓ 5 dX8_write_114 rfl ?_
              refine G_aload_n hΓ 5 dX8_write_115 rfl ?_
              refine F_get hΓ (t := 18) (i := 0) (ci := 11) (C := RX8) (T := TX8) (N := 47) (fs8 (gl Γ) 0) (v := .ref (ya (gl Γ) 19 26)) (FMi hF (t := 18) (by decide)) (fun _ _ _ => rfl) rfl rfl rfl rfl inW8 33 (by decide) (TT_cons kw_913) rfl dX8_write_116 ?_
              refine G_iload hΓ 0 dX8_write_119 rfl ?_
              obtain ⟨hg23, hf⟩ := gd_some hf
              refine F_ald (G_bald hΓ) (t := 19) (i := 26) (f := (v19 26)) (FMi hF (t := 19) (by decide)) (fun _ _ _ => rfl) rfl hg23 dX8_write_121 ?_
              obtain ⟨⟨u24, u25⟩, hc26, hf⟩ := bd_some hf
              try dsimp only at hf
              refine G_callV hΓ (n := 1) (As := [.int ((v19 26) v20.toNatClampNeg)]) (t := 18) (i := 0) (ci := 11) (T := TX8) (N := 47) (FS := fs8 (gl Γ) 0) (σ' := (qM σ u24 u25)) (c_X8_check (gL Γ) (gl Γ) hF σ  v18 v19 ((v19 26) v20.toNatClampNeg)  hc26) rfl rfl kw_1068 kw_1070 kp_34 kw_9 kw_1071 ⟨rfl, by decide, by decide, by decide +kernel⟩ (FMi hF (t := 18) (by decide)) (fun _ _ _ => rfl) rfl rfl rfl ⟨Nat.le_of_ble_eq_true rfl, Nat.le_of_ble_eq_true rfl⟩ rfl (Nat.le_of_ble_eq_true rfl) dX8_write_122 ⟨_, rfl⟩ rfl ?_
              refine G_iinc hΓ 0 [(6, .int (v20 + 1)), (5, .int 0), (4, .int x14), (3, .int x10), (2, .int x5), (0, .ref (ya (gl Γ) 18 0)), (1, .int p1)] dX8_write_125 rfl rfl (by decide) rfl ?_
              refine G_goto hΓ (tgt := 105) dX8_write_128 (by decide) ?_
              exact (ih _ _ _ hf)
        exact loop104 _ _ _ _ hf
      clear hk_k16
      refine G_if_ne hΓ (tgt := 60) dX8_write_52 (by decide) (fun hc110 => ?_) (fun hc110 => ?_)
      · rw [if_neg hc110] at hf
        refine G_aload_n hΓ 2 dX8_write_60 rfl ?_
        refine F_get hΓ (t := 18) (i := 0) (ci := 11) (C := RX8) (T := TX8) (N := 47) (fs8 (gl Γ) 0) (v := .ref (ya (gl Γ) 19 3)) (FMi hF (t := 18) (by decide)) (fun _ _ _ => rfl) rfl rfl rfl rfl inW8 7 (by decide) (TT_cons kw_887) rfl dX8_write_61 ?_
        refine G_iload_n hΓ 3 dX8_write_64 rfl ?_
        obtain ⟨hg105, hf⟩ := gd_some hf
        refine F_ald (G_iald hΓ) (t := 19) (i := 3) (f := (u2 3)) (FMi hF (t := 19) (by decide)) (fun _ _ _ => rfl) rfl hg105 dX8_write_65 ?_
        refine G_aload_n hΓ 2 dX8_write_66 rfl ?_
        refine F_get hΓ (t := 18) (i := 0) (ci := 11) (C := RX8) (T := TX8) (N := 47) (fs8 (gl Γ) 0) (v := .ref (ya (gl Γ) 19 4)) (FMi hF (t := 18) (by decide)) (fun _ _ _ => rfl) rfl rfl rfl rfl inW8 8 (by decide) (TT_cons kw_888) rfl dX8_write_67 ?_
        refine G_iload_n hΓ 3 dX8_write_70 rfl ?_
        obtain ⟨hg106, hf⟩ := gd_some hf
        refine F_ald (G_iald hΓ) (t := 19) (i := 4) (f := (u2 4)) (FMi hF (t := 19) (by decide)) (fun _ _ _ => rfl) rfl hg106 dX8_write_71 ?_
        obtain ⟨u107, hc108, hf⟩ := bd_some hf
        refine G_callS hΓ (n := 2) (As := [.int ((u2 3) p1.toNatClampNeg), .int ((u2 4) p1.toNatClampNeg)]) (σ' := (qM σ u1 u2)) (c_X8_octetsOf (gL Γ) (gl Γ) hF (qM σ u1 u2)   ((u2 3) p1.toNatClampNeg) ((u2 4) p1.toNatClampNeg)  hc108) rfl rfl kw_1048 kw_1049 kw_9 kw_1050 ⟨by decide, by decide, by decide +kernel⟩ rfl rfl ⟨Nat.le_of_ble_eq_true rfl, Nat.le_of_ble_eq_true rfl⟩ rfl (Nat.le_of_ble_eq_true rfl) dX8_write_72 ⟨_, rfl⟩ rfl ?_
        refine G_bipush (v := 16) hΓ dX8_write_75 (by decide) ?_
        refine G_icmp_le hΓ (tgt := 85) dX8_write_77 (by decide) (fun hc109 => ?_) (fun hc109 => ?_)
        · rw [if_pos hc109] at hf
          refine G_bipush (v := 17) hΓ dX8_write_85 (by decide) ?_
          exact K17 _ hf
        · rw [if_neg hc109] at hf
          refine G_bipush (v := 21) hΓ dX8_write_80 (by decide) ?_
          refine G_goto hΓ (tgt := 87) dX8_write_82 (by decide) ?_
          exact K17 _ hf
      · rw [if_pos hc110] at hf
        refine G_bipush (v := 15) hΓ dX8_write_55 (by decide) ?_
        refine G_goto hΓ (tgt := 87) dX8_write_57 (by decide) ?_
        exact K17 _ hf
    have he := he13
    refine G_icmp_ne hΓ (tgt := 48) dX8_write_40 (by decide) (fun hc12 => ?_) (fun hc12 => ?_)
    · rw [if_neg hc12] at he
      refine G_bipush (v := 13) hΓ dX8_write_48 (by decide) ?_
      subst he
      exact K11
    · rw [if_pos hc12] at he
      refine G_bipush (v := 32) hΓ dX8_write_43 (by decide) ?_
      refine G_goto hΓ (tgt := 50) dX8_write_45 (by decide) ?_
      subst he
      exact K11
  clear hk_k7
  refine G_icmp_eq hΓ (tgt := 25) dX8_write_12 (by decide) (fun hc113 => ?_) (fun hc113 => ?_)
  · rw [if_pos hc113] at hf
    refine G_iconst (v := 1) hΓ dX8_write_25 (by decide) ?_
    refine G_goto hΓ (tgt := 30) dX8_write_26 (by decide) ?_
    exact K8 _ (Or.inr rfl) hf
  · rw [if_neg hc113] at hf
    refine G_aload_n hΓ 0 dX8_write_15 rfl ?_
    refine F_get hΓ (t := 18) (i := 0) (ci := 11) (C := RX8) (T := TX8) (N := 47) (fs8 (gl Γ) 0) (v := .ref (ya (gl Γ) 19 3)) (FMi hF (t := 18) (by decide)) (fun _ _ _ => rfl) rfl rfl rfl rfl inW8 7 (by decide) (TT_cons kw_887) rfl dX8_write_16 ?_
    refine G_iload_n hΓ 1 dX8_write_19 rfl ?_
    obtain ⟨hg111, hf⟩ := gd_some hf
    refine F_ald (G_iald hΓ) (t := 19) (i := 3) (f := (u2 3)) (FMi hF (t := 19) (by decide)) (fun _ _ _ => rfl) rfl hg111 dX8_write_20 ?_
    refine G_iconst (v := 3) hΓ dX8_write_21 (by decide) ?_
    refine G_icmp_ne hΓ (tgt := 29) dX8_write_22 (by decide) (fun hc112 => ?_) (fun hc112 => ?_)
    · rw [if_neg hc112] at hf
      refine G_iconst (v := 0) hΓ dX8_write_29 (by decide) ?_
      exact K8 _ (Or.inl rfl) hf
    · rw [if_pos hc112] at hf
      refine G_iconst (v := 1) hΓ dX8_write_25 (by decide) ?_
      refine G_goto hΓ (tgt := 30) dX8_write_26 (by decide) ?_
      exact K8 _ (Or.inr rfl) hf
