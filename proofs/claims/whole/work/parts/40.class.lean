theorem dX0_goesBefore_0 : decode cX0_goesBefore 0 = .ok (.aload_n 0, 1) := by decide +kernel
theorem dX0_goesBefore_1 : decode cX0_goesBefore 1 = .ok (.getfield 36, 3) := by decide +kernel
theorem dX0_goesBefore_4 : decode cX0_goesBefore 4 = .ok (.aload_n 1, 1) := by decide +kernel
theorem dX0_goesBefore_5 : decode cX0_goesBefore 5 = .ok (.getfield 36, 3) := by decide +kernel
theorem dX0_goesBefore_8 : decode cX0_goesBefore 8 = .ok (.lcmp, 1) := by decide +kernel
theorem dX0_goesBefore_9 : decode cX0_goesBefore 9 = .ok (.ifCond .eq 21, 3) := by decide +kernel
theorem dX0_goesBefore_12 : decode cX0_goesBefore 12 = .ok (.aload_n 0, 1) := by decide +kernel
theorem dX0_goesBefore_13 : decode cX0_goesBefore 13 = .ok (.getfield 36, 3) := by decide +kernel
theorem dX0_goesBefore_16 : decode cX0_goesBefore 16 = .ok (.aload_n 1, 1) := by decide +kernel
theorem dX0_goesBefore_17 : decode cX0_goesBefore 17 = .ok (.getfield 36, 3) := by decide +kernel
theorem dX0_goesBefore_20 : decode cX0_goesBefore 20 = .ok (.lcmp, 1) := by decide +kernel
theorem dX0_goesBefore_21 : decode cX0_goesBefore 21 = .ok (.ifCond .ge 7, 3) := by decide +kernel
theorem dX0_goesBefore_24 : decode cX0_goesBefore 24 = .ok (.iconst 1, 1) := by decide +kernel
theorem dX0_goesBefore_25 : decode cX0_goesBefore 25 = .ok (.goto 4, 3) := by decide +kernel
theorem dX0_goesBefore_28 : decode cX0_goesBefore 28 = .ok (.iconst 0, 1) := by decide +kernel
theorem dX0_goesBefore_29 : decode cX0_goesBefore 29 = .ok (.ireturn, 1) := by decide +kernel
theorem dX0_goesBefore_30 : decode cX0_goesBefore 30 = .ok (.iconst 0, 1) := by decide +kernel
theorem dX0_goesBefore_31 : decode cX0_goesBefore 31 = .ok (.istore_n 2, 1) := by decide +kernel
theorem dX0_goesBefore_32 : decode cX0_goesBefore 32 = .ok (.iload_n 2, 1) := by decide +kernel
theorem dX0_goesBefore_33 : decode cX0_goesBefore 33 = .ok (.aload_n 0, 1) := by decide +kernel
theorem dX0_goesBefore_34 : decode cX0_goesBefore 34 = .ok (.getfield 29, 3) := by decide +kernel
theorem dX0_goesBefore_37 : decode cX0_goesBefore 37 = .ok (.if_icmp .ge 51, 3) := by decide +kernel
theorem dX0_goesBefore_40 : decode cX0_goesBefore 40 = .ok (.iload_n 2, 1) := by decide +kernel
theorem dX0_goesBefore_41 : decode cX0_goesBefore 41 = .ok (.bipush 64, 2) := by decide +kernel
theorem dX0_goesBefore_43 : decode cX0_goesBefore 43 = .ok (.if_icmp .ge 45, 3) := by decide +kernel
theorem dX0_goesBefore_46 : decode cX0_goesBefore 46 = .ok (.aload_n 0, 1) := by decide +kernel
theorem dX0_goesBefore_47 : decode cX0_goesBefore 47 = .ok (.getfield 9, 3) := by decide +kernel
theorem dX0_goesBefore_50 : decode cX0_goesBefore 50 = .ok (.iload_n 2, 1) := by decide +kernel
theorem dX0_goesBefore_51 : decode cX0_goesBefore 51 = .ok (.iaload, 1) := by decide +kernel
theorem dX0_goesBefore_52 : decode cX0_goesBefore 52 = .ok (.aload_n 1, 1) := by decide +kernel
theorem dX0_goesBefore_53 : decode cX0_goesBefore 53 = .ok (.getfield 9, 3) := by decide +kernel
theorem dX0_goesBefore_56 : decode cX0_goesBefore 56 = .ok (.iload_n 2, 1) := by decide +kernel
theorem dX0_goesBefore_57 : decode cX0_goesBefore 57 = .ok (.iaload, 1) := by decide +kernel
theorem dX0_goesBefore_58 : decode cX0_goesBefore 58 = .ok (.if_icmp .eq 24, 3) := by decide +kernel
theorem dX0_goesBefore_61 : decode cX0_goesBefore 61 = .ok (.aload_n 0, 1) := by decide +kernel
theorem dX0_goesBefore_62 : decode cX0_goesBefore 62 = .ok (.getfield 9, 3) := by decide +kernel
theorem dX0_goesBefore_65 : decode cX0_goesBefore 65 = .ok (.iload_n 2, 1) := by decide +kernel
theorem dX0_goesBefore_66 : decode cX0_goesBefore 66 = .ok (.iaload, 1) := by decide +kernel
theorem dX0_goesBefore_67 : decode cX0_goesBefore 67 = .ok (.aload_n 1, 1) := by decide +kernel
theorem dX0_goesBefore_68 : decode cX0_goesBefore 68 = .ok (.getfield 9, 3) := by decide +kernel
theorem dX0_goesBefore_71 : decode cX0_goesBefore 71 = .ok (.iload_n 2, 1) := by decide +kernel
theorem dX0_goesBefore_72 : decode cX0_goesBefore 72 = .ok (.iaload, 1) := by decide +kernel
theorem dX0_goesBefore_73 : decode cX0_goesBefore 73 = .ok (.if_icmp .ge 7, 3) := by decide +kernel
theorem dX0_goesBefore_76 : decode cX0_goesBefore 76 = .ok (.iconst 1, 1) := by decide +kernel
theorem dX0_goesBefore_77 : decode cX0_goesBefore 77 = .ok (.goto 4, 3) := by decide +kernel
theorem dX0_goesBefore_80 : decode cX0_goesBefore 80 = .ok (.iconst 0, 1) := by decide +kernel
theorem dX0_goesBefore_81 : decode cX0_goesBefore 81 = .ok (.ireturn, 1) := by decide +kernel
theorem dX0_goesBefore_82 : decode cX0_goesBefore 82 = .ok (.iinc 2 1, 3) := by decide +kernel
theorem dX0_goesBefore_85 : decode cX0_goesBefore 85 = .ok (.goto (-53), 3) := by decide +kernel
theorem dX0_goesBefore_88 : decode cX0_goesBefore 88 = .ok (.iconst 0, 1) := by decide +kernel
theorem dX0_goesBefore_89 : decode cX0_goesBefore 89 = .ok (.ireturn, 1) := by decide +kernel
noncomputable def L_X0_goesBefore_32 (ff : Nat → Int32) (fo : Nat → Int32) (go : Nat → Int32) (k2 : Int32 → Option (Int32)) : Nat → Int32 → Option (Int32)
  | 0, _ => none
  | nn + 1, v1 => if (ff 7) ≤ v1 then k2 v1 else if 64 ≤ v1 then k2 v1 else gd (vp_in v1 64) (gd (vp_in v1 64) (if (fo v1.toNatClampNeg) = (go v1.toNatClampNeg) then L_X0_goesBefore_32 ff fo go k2 nn (v1 + 1) else gd (vp_in v1 64) (gd (vp_in v1 64) (lt (α := Int32) (if (go v1.toNatClampNeg) ≤ (fo v1.toNatClampNeg) then 0 else 1) (fun x8 => some (x8))))))
noncomputable def f_X0_goesBefore  (fh : Int64) (ff : Nat → Int32) (fo : Nat → Int32) (gh : Int64) (go : Nat → Int32)  : Option (Int32) := if (lg_cmp fh gh) = 0 then jn (α := Int32) (fun v1 => some (0)) (fun k2 => L_X0_goesBefore_32 ff fo go k2 fu 0) else lt (α := Int32) (if 0 ≤ (lg_cmp fh gh) then 0 else 1) (fun x16 => some (x16))
set_option maxHeartbeats 4000000 in
set_option maxRecDepth 100000 in
theorem c_X0_goesBefore (l : Launch) (Λ : LY) (hF : FL Λ) (σ : CS) (j : Nat) (k : Nat) (fh : Int64) (ff : Nat → Int32) (fo : Nat → Int32) (gh : Int64) (gf : Nat → Int32) (go : Nat → Int32)  (hij : j < 200) (hik : k < 200) (hr_fh : σ.2.1 13 j = fh) (hr_ff : σ.1 13 j = ff) (hr_fo : σ.1 14 j = fo) (hr_gh : σ.2.1 13 k = gh) (hr_gf : σ.1 13 k = gf) (hr_go : σ.1 14 k = go) {r9 : Int32} (hf : f_X0_goesBefore fh ff fo gh go = some r9) : CM l yX0_goesBefore (.code yX0_goesBefore cX0_goesBefore 3 (some .boolean) :: TT) ({ frames := 0, cells := 0, slots := 0, locals := 0 }) Λ [.ref (ya Λ 13 j), .ref (ya Λ 13 k)] σ σ (some (.int r9)) := by
  refine CM_intro (own := RX0) (by decide) rfl (Nat.le_of_ble_eq_true rfl) ?_
  intro Γ hg hl hΓ hE
  subst hg; subst hl
  show GG Γ (0, 0) σ 0 [(0, .ref (ya (gl Γ) 13 j)), (1, .ref (ya (gl Γ) 13 k))] []
  unfold f_X0_goesBefore at hf
  refine G_aload_n hΓ 0 dX0_goesBefore_0 rfl ?_
  refine F_get hΓ (t := 13) (i := j) (ci := 3) (C := RX0) (T := TX0) (N := 9) (fs0 (gl Γ) j) (v := .long fh) (FLi hF (t := 13) hij) (fun _ _ _ => rfl) rfl hr_fh rfl rfl inW0 6 (by decide) (TT_cons kw_225) rfl dX0_goesBefore_1 ?_
  refine G_aload_n hΓ 1 dX0_goesBefore_4 rfl ?_
  refine F_get hΓ (t := 13) (i := k) (ci := 3) (C := RX0) (T := TX0) (N := 9) (fs0 (gl Γ) k) (v := .long gh) (FLi hF (t := 13) hik) (fun _ _ _ => rfl) rfl hr_gh rfl rfl inW0 6 (by decide) (TT_cons kw_225) rfl dX0_goesBefore_5 ?_
  refine G_lcmp hΓ dX0_goesBefore_8 ?_
  refine G_if_eq hΓ (tgt := 30) dX0_goesBefore_9 (by decide) (fun hc20 => ?_) (fun hc20 => ?_)
  · rw [if_pos hc20] at hf
    refine G_iconst (v := 0) hΓ dX0_goesBefore_30 (by decide) ?_
    refine G_istore_n hΓ [(2, .int 0), (0, .ref (ya (gl Γ) 13 j)), (1, .ref (ya (gl Γ) 13 k))] dX0_goesBefore_31 (by decide) rfl ?_
    obtain ⟨k2, hk_k2, hf⟩ := jn_eq hf
    try dsimp only at hf
    have K3 : ∀ v1, k2 v1 = some r9 → GG Γ (0, 0) σ 88 [(2, .int v1), (0, .ref (ya (gl Γ) 13 j)), (1, .ref (ya (gl Γ) 13 k))] [] := by
      intro v1 hf
      subst hk_k2
      try dsimp only at hf
      refine G_iconst (v := 0) hΓ dX0_goesBefore_88 (by decide) ?_
      cases hf
      exact G_zret hΓ rfl hE dX0_goesBefore_89
    clear hk_k2
    have loop15 : ∀ (nn : Nat) v1, L_X0_goesBefore_32 ff fo go k2 nn v1 = some r9 → GG Γ (0, 0) σ 32 [(2, .int v1), (0, .ref (ya (gl Γ) 13 j)), (1, .ref (ya (gl Γ) 13 k))] [] := by
      intro nn
      induction nn with
      | zero => intro v1 hf; cases hf
      | succ nn ih =>
        intro v1 hf
        rw [L_X0_goesBefore_32] at hf
        refine G_iload_n hΓ 0 dX0_goesBefore_32 rfl ?_
        refine G_aload_n hΓ 1 dX0_goesBefore_33 rfl ?_
        refine F_get hΓ (t := 13) (i := j) (ci := 3) (C := RX0) (T := TX0) (N := 9) (fs0 (gl Γ) j) (v := .int (ff 7)) (FLi hF (t := 13) hij) (fun _ _ _ => rfl) hr_ff rfl rfl rfl inW0 7 (by decide) (TT_cons kw_227) rfl dX0_goesBefore_34 ?_
        refine G_icmp_ge hΓ (tgt := 88) dX0_goesBefore_37 (by decide) (fun hc14 => ?_) (fun hc14 => ?_)
        · rw [if_pos hc14] at hf
          exact (K3 _ hf)
        · rw [if_neg hc14] at hf
          refine G_iload_n hΓ 0 dX0_goesBefore_40 rfl ?_
          refine G_bipush (v := 64) hΓ dX0_goesBefore_41 (by decide) ?_
          refine G_icmp_ge hΓ (tgt := 88) dX0_goesBefore_43 (by decide) (fun hc13 => ?_) (fun hc13 => ?_)
          · rw [if_pos hc13] at hf
            exact (K3 _ hf)
          · rw [if_neg hc13] at hf
            refine G_aload_n hΓ 1 dX0_goesBefore_46 rfl ?_
            refine F_get hΓ (t := 13) (i := j) (ci := 3) (C := RX0) (T := TX0) (N := 9) (fs0 (gl Γ) j) (v := .ref (ya (gl Γ) 14 j)) (FLi hF (t := 13) hij) (fun _ _ _ => rfl) rfl rfl rfl rfl inW0 0 (by decide) (TT_cons kw_210) rfl dX0_goesBefore_47 ?_
            refine G_iload_n hΓ 0 dX0_goesBefore_50 rfl ?_
            obtain ⟨hg4, hf⟩ := gd_some hf
            refine F_ald (G_iald hΓ) (t := 14) (i := j) (f := fo) (FLi hF (t := 14) hij) (fun _ _ _ => rfl) hr_fo hg4 dX0_goesBefore_51 ?_
            refine G_aload_n hΓ 2 dX0_goesBefore_52 rfl ?_
            refine F_get hΓ (t := 13) (i := k) (ci := 3) (C := RX0) (T := TX0) (N := 9) (fs0 (gl Γ) k) (v := .ref (ya (gl Γ) 14 k)) (FLi hF (t := 13) hik) (fun _ _ _ => rfl) rfl rfl rfl rfl inW0 0 (by decide) (TT_cons kw_210) rfl dX0_goesBefore_53 ?_
            refine G_iload_n hΓ 0 dX0_goesBefore_56 rfl ?_
            obtain ⟨hg5, hf⟩ := gd_some hf
            refine F_ald (G_iald hΓ) (t := 14) (i := k) (f := go) (FLi hF (t := 14) hik) (fun _ _ _ => rfl) hr_go hg5 dX0_goesBefore_57 ?_
            refine G_icmp_eq hΓ (tgt := 82) dX0_goesBefore_58 (by decide) (fun hc12 => ?_) (fun hc12 => ?_)
            · rw [if_pos hc12] at hf
              refine G_iinc hΓ 0 [(2, .int (v1 + 1)), (0, .ref (ya (gl Γ) 13 j)), (1, .ref (ya (gl Γ) 13 k))] dX0_goesBefore_82 rfl rfl (by decide) rfl ?_
              refine G_goto hΓ (tgt := 32) dX0_goesBefore_85 (by decide) ?_
              exact (ih _ hf)
            · rw [if_neg hc12] at hf
              refine G_aload_n hΓ 1 dX0_goesBefore_61 rfl ?_
              refine F_get hΓ (t := 13) (i := j) (ci := 3) (C := RX0) (T := TX0) (N := 9) (fs0 (gl Γ) j) (v := .ref (ya (gl Γ) 14 j)) (FLi hF (t := 13) hij) (fun _ _ _ => rfl) rfl rfl rfl rfl inW0 0 (by decide) (TT_cons kw_210) rfl dX0_goesBefore_62 ?_
              refine G_iload_n hΓ 0 dX0_goesBefore_65 rfl ?_
              obtain ⟨hg6, hf⟩ := gd_some hf
              refine F_ald (G_iald hΓ) (t := 14) (i := j) (f := fo) (FLi hF (t := 14) hij) (fun _ _ _ => rfl) hr_fo hg6 dX0_goesBefore_66 ?_
              refine G_aload_n hΓ 2 dX0_goesBefore_67 rfl ?_
              refine F_get hΓ (t := 13) (i := k) (ci := 3) (C := RX0) (T := TX0) (N := 9) (fs0 (gl Γ) k) (v := .ref (ya (gl Γ) 14 k)) (FLi hF (t := 13) hik) (fun _ _ _ => rfl) rfl rfl rfl rfl inW0 0 (by decide) (TT_cons kw_210) rfl dX0_goesBefore_68 ?_
              refine G_iload_n hΓ 0 dX0_goesBefore_71 rfl ?_
              obtain ⟨hg7, hf⟩ := gd_some hf
              refine F_ald (G_iald hΓ) (t := 14) (i := k) (f := go) (FLi hF (t := 14) hik) (fun _ _ _ => rfl) hr_go hg7 dX0_goesBefore_72 ?_
              obtain ⟨x8, he11, hf⟩ := lt_eq hf
              have K9 : GG Γ (0, 0) σ 81 [(2, .int v1), (0, .ref (ya (gl Γ) 13 j)), (1, .ref (ya (gl Γ) 13 k))] [.int x8] := by
                cases hf
                exact G_zret hΓ (by rw [he11]; (repeat' split) <;> rfl) hE dX0_goesBefore_81
              have he := he11
              refine G_icmp_ge hΓ (tgt := 80) dX0_goesBefore_73 (by decide) (fun hc10 => ?_) (fun hc10 => ?_)
              · rw [if_pos hc10] at he
                refine G_iconst (v := 0) hΓ dX0_goesBefore_80 (by decide) ?_
                subst he
                exact K9
              · rw [if_neg hc10] at he
                refine G_iconst (v := 1) hΓ dX0_goesBefore_76 (by decide) ?_
                refine G_goto hΓ (tgt := 81) dX0_goesBefore_77 (by decide) ?_
                subst he
                exact K9
    exact loop15 _ _ hf
  · rw [if_neg hc20] at hf
    refine G_aload_n hΓ 0 dX0_goesBefore_12 rfl ?_
    refine F_get hΓ (t := 13) (i := j) (ci := 3) (C := RX0) (T := TX0) (N := 9) (fs0 (gl Γ) j) (v := .long fh) (FLi hF (t := 13) hij) (fun _ _ _ => rfl) rfl hr_fh rfl rfl inW0 6 (by decide) (TT_cons kw_225) rfl dX0_goesBefore_13 ?_
    refine G_aload_n hΓ 1 dX0_goesBefore_16 rfl ?_
    refine F_get hΓ (t := 13) (i := k) (ci := 3) (C := RX0) (T := TX0) (N := 9) (fs0 (gl Γ) k) (v := .long gh) (FLi hF (t := 13) hik) (fun _ _ _ => rfl) rfl hr_gh rfl rfl inW0 6 (by decide) (TT_cons kw_225) rfl dX0_goesBefore_17 ?_
    refine G_lcmp hΓ dX0_goesBefore_20 ?_
    obtain ⟨x16, he19, hf⟩ := lt_eq hf
    have K17 : GG Γ (0, 0) σ 29 [(0, .ref (ya (gl Γ) 13 j)), (1, .ref (ya (gl Γ) 13 k))] [.int x16] := by
      cases hf
      exact G_zret hΓ (by rw [he19]; (repeat' split) <;> rfl) hE dX0_goesBefore_29
    have he := he19
    refine G_if_ge hΓ (tgt := 28) dX0_goesBefore_21 (by decide) (fun hc18 => ?_) (fun hc18 => ?_)
    · rw [if_pos hc18] at he
      refine G_iconst (v := 0) hΓ dX0_goesBefore_28 (by decide) ?_
      subst he
      exact K17
    · rw [if_neg hc18] at he
      refine G_iconst (v := 1) hΓ dX0_goesBefore_24 (by decide) ?_
      refine G_goto hΓ (tgt := 29) dX0_goesBefore_25 (by decide) ?_
      subst he
      exact K17
theorem dX7_time_0 : decode cX7_time 0 = .ok (.aload_n 0, 1) := by decide +kernel
theorem dX7_time_1 : decode cX7_time 1 = .ok (.getfield 155, 3) := by decide +kernel
theorem dX7_time_4 : decode cX7_time 4 = .ok (.ireturn, 1) := by decide +kernel
noncomputable def f_X7_time  (s : CS)  : Option (Int32) := some (s.1 0 0 13)
set_option maxHeartbeats 4000000 in
set_option maxRecDepth 100000 in
theorem c_X7_time (l : Launch) (Λ : LY) (hF : FL Λ) (σ : CS)  (s : CS)    {r9 : Int32} (hf : f_X7_time s = some r9) : CM l yX7_time (.code yX7_time cX7_time 1 (some .int) :: TT) ({ frames := 0, cells := 0, slots := 0, locals := 0 }) Λ [.ref (ya Λ 0 0)] (qC σ s) (qC σ s) (some (.int r9)) := by
  refine CM_intro (own := RX7) (by decide) rfl (Nat.le_of_ble_eq_true rfl) ?_
  intro Γ hg hl hΓ hE
  subst hg; subst hl
  show GG Γ (0, 0) (qC σ s) 0 [(0, .ref (ya (gl Γ) 0 0))] []
  unfold f_X7_time at hf
  refine G_aload_n hΓ 0 dX7_time_0 rfl ?_
  refine F_get hΓ (t := 0) (i := 0) (ci := 10) (C := RX7) (T := TX7) (N := 14) (fs7 (gl Γ) 0) (v := .int (s.1 0 0 13)) (FLi hF (t := 0) (by decide)) (fun _ _ _ => rfl) rfl rfl rfl rfl inW7 13 (by decide) (TT_cons kw_304) rfl dX7_time_1 ?_
  cases hf
  exact G_iret hΓ hE dX7_time_4
theorem dX7_firstOf_0 : decode cX7_firstOf 0 = .ok (.aconst_null, 1) := by decide +kernel
theorem dX7_firstOf_1 : decode cX7_firstOf 1 = .ok (.astore_n 2, 1) := by decide +kernel
theorem dX7_firstOf_2 : decode cX7_firstOf 2 = .ok (.iconst 0, 1) := by decide +kernel
theorem dX7_firstOf_3 : decode cX7_firstOf 3 = .ok (.istore_n 3, 1) := by decide +kernel
theorem dX7_firstOf_4 : decode cX7_firstOf 4 = .ok (.iload_n 3, 1) := by decide +kernel
theorem dX7_firstOf_5 : decode cX7_firstOf 5 = .ok (.aload_n 0, 1) := by decide +kernel
theorem dX7_firstOf_6 : decode cX7_firstOf 6 = .ok (.getfield 78, 3) := by decide +kernel
theorem dX7_firstOf_9 : decode cX7_firstOf 9 = .ok (.if_icmp .ge 50, 3) := by decide +kernel
theorem dX7_firstOf_12 : decode cX7_firstOf 12 = .ok (.aload_n 0, 1) := by decide +kernel
theorem dX7_firstOf_13 : decode cX7_firstOf 13 = .ok (.getfield 18, 3) := by decide +kernel
theorem dX7_firstOf_16 : decode cX7_firstOf 16 = .ok (.iload_n 3, 1) := by decide +kernel
theorem dX7_firstOf_17 : decode cX7_firstOf 17 = .ok (.aaload, 1) := by decide +kernel
theorem dX7_firstOf_18 : decode cX7_firstOf 18 = .ok (.astore 4, 2) := by decide +kernel
theorem dX7_firstOf_20 : decode cX7_firstOf 20 = .ok (.aload 4, 2) := by decide +kernel
theorem dX7_firstOf_22 : decode cX7_firstOf 22 = .ok (.getfield 130, 3) := by decide +kernel
theorem dX7_firstOf_25 : decode cX7_firstOf 25 = .ok (.iload_n 1, 1) := by decide +kernel
theorem dX7_firstOf_26 : decode cX7_firstOf 26 = .ok (.if_icmp .ne 27, 3) := by decide +kernel
theorem dX7_firstOf_29 : decode cX7_firstOf 29 = .ok (.aload 4, 2) := by decide +kernel
theorem dX7_firstOf_31 : decode cX7_firstOf 31 = .ok (.getfield 133, 3) := by decide +kernel
theorem dX7_firstOf_34 : decode cX7_firstOf 34 = .ok (.ifCond .ne 19, 3) := by decide +kernel
theorem dX7_firstOf_37 : decode cX7_firstOf 37 = .ok (.aload_n 2, 1) := by decide +kernel
theorem dX7_firstOf_38 : decode cX7_firstOf 38 = .ok (.ifnull 12, 3) := by decide +kernel
theorem dX7_firstOf_41 : decode cX7_firstOf 41 = .ok (.aload 4, 2) := by decide +kernel
theorem dX7_firstOf_43 : decode cX7_firstOf 43 = .ok (.aload_n 2, 1) := by decide +kernel
theorem dX7_firstOf_44 : decode cX7_firstOf 44 = .ok (.invokevirtual 272, 3) := by decide +kernel
theorem dX7_firstOf_47 : decode cX7_firstOf 47 = .ok (.ifCond .eq 6, 3) := by decide +kernel
theorem dX7_firstOf_50 : decode cX7_firstOf 50 = .ok (.aload 4, 2) := by decide +kernel
theorem dX7_firstOf_52 : decode cX7_firstOf 52 = .ok (.astore_n 2, 1) := by decide +kernel
theorem dX7_firstOf_53 : decode cX7_firstOf 53 = .ok (.iinc 3 1, 3) := by decide +kernel
theorem dX7_firstOf_56 : decode cX7_firstOf 56 = .ok (.goto (-52), 3) := by decide +kernel
theorem dX7_firstOf_59 : decode cX7_firstOf 59 = .ok (.aload_n 2, 1) := by decide +kernel
theorem dX7_firstOf_60 : decode cX7_firstOf 60 = .ok (.areturn, 1) := by decide +kernel
noncomputable def L_X7_firstOf_4 (s : CS) (p1 : Int32) (k3 : Int32 × Option Nat → Option (Option Nat)) : Nat → Int32 → Option Nat → Option (Option Nat)
  | 0, _, _ => none
  | nn + 1, v1, v2 => if (s.1 0 0 9) ≤ v1 then k3 (v1, v2) else gd (vp_in v1 200) (jn (α := Option Nat) (fun x6 => L_X7_firstOf_4 s p1 k3 nn (v1 + 1) x6) (fun k7 => if (s.1 13 v1.toNatClampNeg 4) = p1 then if (s.1 13 v1.toNatClampNeg 8) = 0 then oc v2 (k7 (some v1.toNatClampNeg)) (fun j9 => gd (j9 < 200) (bd (f_X0_goesBefore (s.2.1 13 v1.toNatClampNeg) (s.1 13 v1.toNatClampNeg) (s.1 14 v1.toNatClampNeg) (s.2.1 13 j9) (s.1 14 j9)) (fun u11 => if u11 = 0 then k7 (some j9) else k7 (some v1.toNatClampNeg)))) else k7 v2 else k7 v2))
noncomputable def f_X7_firstOf  (s : CS) (p1 : Int32) : Option (Option Nat) := jn (α := Int32 × Option Nat) (fun ⟨v1, v2⟩ => some (v2)) (fun k3 => L_X7_firstOf_4 s p1 k3 fu 0 none)
set_option maxHeartbeats 4000000 in
set_option maxRecDepth 100000 in
theorem c_X7_firstOf (l : Launch) (Λ : LY) (hF : FL Λ) (σ : CS)  (s : CS) (p1 : Int32)   {r9 : Option Nat} (hf : f_X7_firstOf s p1 = some r9) : CM l yX7_firstOf (.code yX7_firstOf cX7_firstOf 5 (some (.object "CanBits$Frame")) :: TT) ({ frames := 1, cells := 0, slots := 0, locals := 22 }) Λ [.ref (ya Λ 0 0), .int p1] (qC σ s) (qC σ s) (some (va_rf (r9.map (ya Λ 13)))) := by
  refine CM_intro (own := RX7) (by decide) rfl (Nat.le_of_ble_eq_true rfl) ?_
  intro Γ hg hl hΓ hE
  subst hg; subst hl
  show GG Γ (0, 0) (qC σ s) 0 [(0, .ref (ya (gl Γ) 0 0)), (1, .int p1)] []
  unfold f_X7_firstOf at hf
  refine G_null hΓ dX7_firstOf_0 ?_
  refine G_astore_nQ hΓ none [(2, .null), (0, .ref (ya (gl Γ) 0 0)), (1, .int p1)] dX7_firstOf_1 (by decide) rfl ?_
  refine G_iconst (v := 0) hΓ dX7_firstOf_2 (by decide) ?_
  refine G_istore_n hΓ [(3, .int 0), (2, .null), (0, .ref (ya (gl Γ) 0 0)), (1, .int p1)] dX7_firstOf_3 (by decide) rfl ?_
  obtain ⟨k3, hk_k3, hf⟩ := jn_eq hf
  try dsimp only at hf
  have K4 : ∀ v1 v2, k3 (v1, v2) = some r9 → GG Γ (0, 0) (qC σ s) 59 [(3, .int v1), (2, va_rf (v2.map (ya (gl Γ) 13))), (0, .ref (ya (gl Γ) 0 0)), (1, .int p1)] [] := by
    intro v1 v2 hf
    subst hk_k3
    try dsimp only at hf
    refine G_aload_nQ hΓ (v2.map (ya (gl Γ) 13)) 1 dX7_firstOf_59 rfl ?_
    cases hf
    exact G_aret hΓ (Or.inl ⟨_, rfl⟩) rf_or hE dX7_firstOf_60
  clear hk_k3
  have loop17 : ∀ (nn : Nat) v1 v2, L_X7_firstOf_4 s p1 k3 nn v1 v2 = some r9 → GG Γ (0, 0) (qC σ s) 4 [(3, .int v1), (2, va_rf (v2.map (ya (gl Γ) 13))), (0, .ref (ya (gl Γ) 0 0)), (1, .int p1)] [] := by
    intro nn
    induction nn with
    | zero => intro v1 v2 hf; cases hf
    | succ nn ih =>
      intro v1 v2 hf
      rw [L_X7_firstOf_4] at hf
      refine G_iload_n hΓ 0 dX7_firstOf_4 rfl ?_
      refine G_aload_n hΓ 2 dX7_firstOf_5 rfl ?_
      refine F_get hΓ (t := 0) (i := 0) (ci := 10) (C := RX7) (T := TX7) (N := 14) (fs7 (gl Γ) 0) (v := .int (s.1 0 0 9)) (FLi hF (t := 0) (by decide)) (fun _ _ _ => rfl) rfl rfl rfl rfl inW7 9 (by decide) (TT_cons kw_300) rfl dX7_firstOf_6 ?_
      refine G_icmp_ge hΓ (tgt := 59) dX7_firstOf_9 (by decide) (fun hc16 => ?_) (fun hc16 => ?_)
      · rw [if_pos hc16] at hf
        exact (K4 _ _ hf)
      · rw [if_neg hc16] at hf
        refine G_aload_n hΓ 2 dX7_firstOf_12 rfl ?_
        refine F_get hΓ (t := 0) (i := 0) (ci := 10) (C := RX7) (T := TX7) (N := 14) (fs7 (gl Γ) 0) (v := .ref (ya (gl Γ) 2 0)) (FLi hF (t := 0) (by decide)) (fun _ _ _ => rfl) rfl rfl rfl rfl inW7 1 (by decide) (TT_cons kw_292) rfl dX7_firstOf_13 ?_
        refine G_iload_n hΓ 0 dX7_firstOf_16 rfl ?_
        obtain ⟨hg5, hf⟩ := gd_some hf
        refine F_aaF hΓ (FLi hF (t := 2) (by decide)) hg5 dX7_firstOf_17 ?_
        refine G_astore hΓ [(4, .ref (ya (gl Γ) 13 v1.toNatClampNeg)), (3, .int v1), (2, va_rf (v2.map (ya (gl Γ) 13))), (0, .ref (ya (gl Γ) 0 0)), (1, .int p1)] dX7_firstOf_18 (by decide) rfl ?_
        refine G_aload hΓ 0 dX7_firstOf_20 rfl ?_
        refine F_getN hΓ (t := 13) (i := v1.toNatClampNeg) (ci := 3) (C := RX0) (T := TX0) (N := 9) (fs0 (gl Γ) v1.toNatClampNeg) (v := .int (s.1 13 v1.toNatClampNeg 4)) (FLi hF (t := 13) (vp_lt hg5)) (fun _ _ _ => rfl) rfl rfl rfl rfl inW0 4 (by decide) 25 (host := "CanBits") rfl rfl dX7_firstOf_22 ?_
        refine G_iload_n hΓ 4 dX7_firstOf_25 rfl ?_
        obtain ⟨k7, hk_k7, hf⟩ := jn_eq hf
        try dsimp only at hf
        have K8 : ∀ x6, k7 x6 = some r9 → GG Γ (0, 0) (qC σ s) 53 [(4, .ref (ya (gl Γ) 13 v1.toNatClampNeg)), (3, .int v1), (2, va_rf (x6.map (ya (gl Γ) 13))), (0, .ref (ya (gl Γ) 0 0)), (1, .int p1)] [] := by
          intro x6 hf
          subst hk_k7
          try dsimp only at hf
          refine G_iinc hΓ 1 [(3, .int (v1 + 1)), (4, .ref (ya (gl Γ) 13 v1.toNatClampNeg)), (2, va_rf (x6.map (ya (gl Γ) 13))), (0, .ref (ya (gl Γ) 0 0)), (1, .int p1)] dX7_firstOf_53 rfl rfl (by decide) (by cases x6 <;> rfl) ?_
          refine G_goto hΓ (tgt := 4) dX7_firstOf_56 (by decide) ?_
          exact G_loc [0, 2, 3, 4] rfl (ih _ _ hf)
        clear hk_k7
        refine G_icmp_ne hΓ (tgt := 53) dX7_firstOf_26 (by decide) (fun hc15 => ?_) (fun hc15 => ?_)
        · rw [if_neg hc15] at hf
          exact K8 _ hf
        · rw [if_pos hc15] at hf
          refine G_aload hΓ 0 dX7_firstOf_29 rfl ?_
          refine F_getN hΓ (t := 13) (i := v1.toNatClampNeg) (ci := 3) (C := RX0) (T := TX0) (N := 9) (fs0 (gl Γ) v1.toNatClampNeg) (v := .int (s.1 13 v1.toNatClampNeg 8)) (FLi hF (t := 13) (vp_lt hg5)) (fun _ _ _ => rfl) rfl rfl rfl rfl inW0 8 (by decide) 31 (host := "CanBits") rfl rfl dX7_firstOf_31 ?_
          refine G_if_ne hΓ (tgt := 53) dX7_firstOf_34 (by decide) (fun hc14 => ?_) (fun hc14 => ?_)
          · rw [if_neg hc14] at hf
            exact K8 _ hf
          · rw [if_pos hc14] at hf
            refine G_aload_nQ hΓ (v2.map (ya (gl Γ) 13)) 2 dX7_firstOf_37 rfl ?_
            rcases v2 with _ | j9
            · replace hf := oc_n hf
              refine G_ifnullN hΓ (tgt := 50) dX7_firstOf_38 (by decide) ?_
              refine G_aload hΓ 0 dX7_firstOf_50 rfl ?_
              refine G_astore_n hΓ [(2, .ref (ya (gl Γ) 13 v1.toNatClampNeg)), (4, .ref (ya (gl Γ) 13 v1.toNatClampNeg)), (3, .int v1), (0, .ref (ya (gl Γ) 0 0)), (1, .int p1)] dX7_firstOf_52 (by decide) rfl ?_
              exact G_loc [1, 2, 0, 3, 4] rfl (K8 _ hf)
            · replace hf := oc_s hf
              obtain ⟨hij9, hf⟩ := gd_some hf
              refine G_ifnull hΓ dX7_firstOf_38 ?_
              refine G_aload hΓ 0 dX7_firstOf_41 rfl ?_
              refine G_aload_n hΓ 2 dX7_firstOf_43 rfl ?_
              obtain ⟨u11, hc12, hf⟩ := bd_some hf
              refine G_callV hΓ (n := 1) (As := [.ref (ya (gl Γ) 13 j9)]) (t := 13) (i := v1.toNatClampNeg) (ci := 3) (T := TX0) (N := 9) (FS := fs0 (gl Γ) v1.toNatClampNeg) (σ' := (qC σ s)) (c_X0_goesBefore (gL Γ) (gl Γ) hF (qC σ s) v1.toNatClampNeg j9 (s.2.1 13 v1.toNatClampNeg) (s.1 13 v1.toNatClampNeg) (s.1 14 v1.toNatClampNeg) (s.2.1 13 j9) (s.1 13 j9) (s.1 14 j9)  (vp_lt hg5) hij9 rfl rfl rfl rfl rfl rfl hc12) rfl rfl kw_599 kw_600 kw_601 kw_7 kw_602 ⟨rfl, by decide, by decide, by decide +kernel⟩ (FLi hF (t := 13) (vp_lt hg5)) (fun _ _ _ => rfl) rfl rfl rfl ⟨Nat.le_of_ble_eq_true rfl, Nat.le_of_ble_eq_true rfl⟩ rfl (Nat.le_of_ble_eq_true rfl) dX7_firstOf_44 ⟨_, rfl⟩ rfl ?_
              refine G_if_eq hΓ (tgt := 53) dX7_firstOf_47 (by decide) (fun hc13 => ?_) (fun hc13 => ?_)
              · rw [if_pos hc13] at hf
                exact K8 _ hf
              · rw [if_neg hc13] at hf
                refine G_aload hΓ 0 dX7_firstOf_50 rfl ?_
                refine G_astore_n hΓ [(2, .ref (ya (gl Γ) 13 v1.toNatClampNeg)), (4, .ref (ya (gl Γ) 13 v1.toNatClampNeg)), (3, .int v1), (0, .ref (ya (gl Γ) 0 0)), (1, .int p1)] dX7_firstOf_52 (by decide) rfl ?_
                exact G_loc [1, 2, 0, 3, 4] rfl (K8 _ hf)
  exact loop17 _ _ _ hf
theorem dX7_begin_0 : decode cX7_begin 0 = .ok (.aload_n 0, 1) := by decide +kernel
theorem dX7_begin_1 : decode cX7_begin 1 = .ok (.iload_n 1, 1) := by decide +kernel
theorem dX7_begin_2 : decode cX7_begin 2 = .ok (.putfield 179, 3) := by decide +kernel
theorem dX7_begin_5 : decode cX7_begin 5 = .ok (.aload_n 0, 1) := by decide +kernel
theorem dX7_begin_6 : decode cX7_begin 6 = .ok (.iconst 0, 1) := by decide +kernel
theorem dX7_begin_7 : decode cX7_begin 7 = .ok (.putfield 78, 3) := by decide +kernel
theorem dX7_begin_10 : decode cX7_begin 10 = .ok (.aload_n 0, 1) := by decide +kernel
theorem dX7_begin_11 : decode cX7_begin 11 = .ok (.iconst 0, 1) := by decide +kernel
theorem dX7_begin_12 : decode cX7_begin 12 = .ok (.putfield 172, 3) := by decide +kernel
theorem dX7_begin_15 : decode cX7_begin 15 = .ok (.aload_n 0, 1) := by decide +kernel
theorem dX7_begin_16 : decode cX7_begin 16 = .ok (.iconst 0, 1) := by decide +kernel
theorem dX7_begin_17 : decode cX7_begin 17 = .ok (.putfield 248, 3) := by decide +kernel
theorem dX7_begin_20 : decode cX7_begin 20 = .ok (.aload_n 0, 1) := by decide +kernel
theorem dX7_begin_21 : decode cX7_begin 21 = .ok (.iconst 0, 1) := by decide +kernel
theorem dX7_begin_22 : decode cX7_begin 22 = .ok (.putfield 155, 3) := by decide +kernel
theorem dX7_begin_25 : decode cX7_begin 25 = .ok (.iconst 0, 1) := by decide +kernel
theorem dX7_begin_26 : decode cX7_begin 26 = .ok (.istore_n 2, 1) := by decide +kernel
theorem dX7_begin_27 : decode cX7_begin 27 = .ok (.iload_n 2, 1) := by decide +kernel
theorem dX7_begin_28 : decode cX7_begin 28 = .ok (.iload_n 1, 1) := by decide +kernel
theorem dX7_begin_29 : decode cX7_begin 29 = .ok (.if_icmp .ge 18, 3) := by decide +kernel
theorem dX7_begin_32 : decode cX7_begin 32 = .ok (.aload_n 0, 1) := by decide +kernel
theorem dX7_begin_33 : decode cX7_begin 33 = .ok (.getfield 11, 3) := by decide +kernel
theorem dX7_begin_36 : decode cX7_begin 36 = .ok (.iload_n 2, 1) := by decide +kernel
theorem dX7_begin_37 : decode cX7_begin 37 = .ok (.aaload, 1) := by decide +kernel
theorem dX7_begin_38 : decode cX7_begin 38 = .ok (.invokevirtual 259, 3) := by decide +kernel
theorem dX7_begin_41 : decode cX7_begin 41 = .ok (.iinc 2 1, 3) := by decide +kernel
theorem dX7_begin_44 : decode cX7_begin 44 = .ok (.goto (-17), 3) := by decide +kernel
theorem dX7_begin_47 : decode cX7_begin 47 = .ok (.iconst 0, 1) := by decide +kernel
theorem dX7_begin_48 : decode cX7_begin 48 = .ok (.istore_n 2, 1) := by decide +kernel
theorem dX7_begin_49 : decode cX7_begin 49 = .ok (.iload_n 2, 1) := by decide +kernel
theorem dX7_begin_50 : decode cX7_begin 50 = .ok (.aload_n 0, 1) := by decide +kernel
theorem dX7_begin_51 : decode cX7_begin 51 = .ok (.getfield 160, 3) := by decide +kernel
theorem dX7_begin_54 : decode cX7_begin 54 = .ok (.if_icmp .ge 23, 3) := by decide +kernel
theorem dX7_begin_57 : decode cX7_begin 57 = .ok (.iload_n 2, 1) := by decide +kernel
theorem dX7_begin_58 : decode cX7_begin 58 = .ok (.sipush 20000, 3) := by decide +kernel
theorem dX7_begin_61 : decode cX7_begin 61 = .ok (.if_icmp .ge 16, 3) := by decide +kernel
theorem dX7_begin_64 : decode cX7_begin 64 = .ok (.aload_n 0, 1) := by decide +kernel
theorem dX7_begin_65 : decode cX7_begin 65 = .ok (.getfield 34, 3) := by decide +kernel
theorem dX7_begin_68 : decode cX7_begin 68 = .ok (.iload_n 2, 1) := by decide +kernel
theorem dX7_begin_69 : decode cX7_begin 69 = .ok (.iconst 0, 1) := by decide +kernel
theorem dX7_begin_70 : decode cX7_begin 70 = .ok (.iastore, 1) := by decide +kernel
theorem dX7_begin_71 : decode cX7_begin 71 = .ok (.iinc 2 1, 3) := by decide +kernel
theorem dX7_begin_74 : decode cX7_begin 74 = .ok (.goto (-25), 3) := by decide +kernel
theorem dX7_begin_77 : decode cX7_begin 77 = .ok (.aload_n 0, 1) := by decide +kernel
theorem dX7_begin_78 : decode cX7_begin 78 = .ok (.iconst 0, 1) := by decide +kernel
theorem dX7_begin_79 : decode cX7_begin 79 = .ok (.putfield 160, 3) := by decide +kernel
theorem dX7_begin_82 : decode cX7_begin 82 = .ok (.return_, 1) := by decide +kernel
noncomputable def L_X7_begin_49  (k20 : CS × Int32 → Option (CS)) : Nat → CS → Int32 → Option (CS)
  | 0, _, _ => none
  | nn + 1, v18, v19 => if (v18.1 0 0 12) ≤ v19 then k20 (v18, v19) else if 20000 ≤ v19 then k20 (v18, v19) else gd (vp_in v19 20000) (lt (α := CS) (sZ v18 17 1 (upd (v18.1 17 1) v19.toNatClampNeg 0)) (fun s23 => L_X7_begin_49  k20 nn s23 (v19 + 1)))
noncomputable def L_X7_begin_27 (p1 : Int32) (k8 : CS × Int32 → Option (CS)) : Nat → CS → Int32 → Option (CS)
  | 0, _, _ => none
  | nn + 1, v6, v7 => if p1 ≤ v7 then k8 (v6, v7) else gd (vp_in v7 32) (bd (f_X2_begin (v6.2.2 v7.toNatClampNeg).1 (v6.2.2 v7.toNatClampNeg).2 (v6.1 3 v7.toNatClampNeg) (v6.1 10 v7.toNatClampNeg)) (fun ⟨u11, u12, u13, u14⟩ => lt (α := CS) (qNd v6 v7.toNatClampNeg u11 u12 u13 (v6.2.1 4 v7.toNatClampNeg) (v6.1 4 v7.toNatClampNeg) (v6.1 5 v7.toNatClampNeg) (v6.1 7 v7.toNatClampNeg) (v6.1 8 v7.toNatClampNeg) (v6.1 9 v7.toNatClampNeg) u14 (v6.1 11 v7.toNatClampNeg) (v6.1 12 v7.toNatClampNeg)) (fun s15 => L_X7_begin_27 p1 k8 nn s15 (v7 + 1))))
noncomputable def f_X7_begin  (s : CS) (p1 : Int32) : Option (CS) := lt (α := CS) (sZ s 0 0 (upd (s.1 0 0) 8 p1)) (fun s1 => lt (α := CS) (sZ s1 0 0 (upd (s1.1 0 0) 9 0)) (fun s2 => lt (α := CS) (sZ s2 0 0 (upd (s2.1 0 0) 10 0)) (fun s3 => lt (α := CS) (sZ s3 0 0 (upd (s3.1 0 0) 11 0)) (fun s4 => lt (α := CS) (sZ s4 0 0 (upd (s4.1 0 0) 13 0)) (fun s5 => jn (α := CS × Int32) (fun ⟨v6, v7⟩ => jn (α := CS × Int32) (fun ⟨v18, v19⟩ => lt (α := CS) (sZ v18 0 0 (upd (v18.1 0 0) 12 0)) (fun s26 => some (s26))) (fun k20 => L_X7_begin_49  k20 fu v6 0)) (fun k8 => L_X7_begin_27 p1 k8 fu s5 0))))))
set_option maxHeartbeats 4000000 in
set_option maxRecDepth 100000 in
theorem c_X7_begin (l : Launch) (Λ : LY) (hF : FL Λ) (σ : CS)  (s : CS) (p1 : Int32)   {s' : CS} (hf : f_X7_begin s p1 = some s') : CM l yX7_begin (.code yX7_begin cX7_begin 3 none :: TT) ({ frames := 2, cells := 0, slots := 0, locals := 41 }) Λ [.ref (ya Λ 0 0), .int p1] (qC σ s) (qC σ s') (none) := by
  refine CM_intro (own := RX7) (by decide) rfl (Nat.le_of_ble_eq_true rfl) ?_
  intro Γ hg hl hΓ hE
  subst hg; subst hl
  show GG Γ (0, 0) (qC σ s) 0 [(0, .ref (ya (gl Γ) 0 0)), (1, .int p1)] []
  unfold f_X7_begin at hf
  refine G_aload_n hΓ 0 dX7_begin_0 rfl ?_
  refine G_iload_n hΓ 1 dX7_begin_1 rfl ?_
  obtain ⟨s1, hv_s1, hf⟩ := lt_eq hf
  refine F_put hΓ (t := 0) (i := 0) (ci := 10) (C := RX7) (T := TX7) (N := 14) (fs7 (gl Γ) 0) (f := (s.1 0 0)) (f' := (upd (s.1 0 0) 8 p1)) (σ' := (qC σ s1)) (ty := .int) (v := .int p1) tyX7 tyX7_ok nmX7 (FLi hF (t := 0) (by decide)) (fun _ _ _ => rfl) rfl ((qC_s (by decide)).trans (congrArg (qC σ) hv_s1.symm)) rfl inW7 8 (by decide) (TT_cons kw_299) rfl (by decide +kernel) rfl rfl (fun _ _ => Nat.le_of_ble_eq_true rfl) (fun _ _ => rfl) dX7_begin_2 ?_
  refine G_aload_n hΓ 0 dX7_begin_5 rfl ?_
  refine G_iconst (v := 0) hΓ dX7_begin_6 (by decide) ?_
  obtain ⟨s2, hv_s2, hf⟩ := lt_eq hf
  refine F_put hΓ (t := 0) (i := 0) (ci := 10) (C := RX7) (T := TX7) (N := 14) (fs7 (gl Γ) 0) (f := (s1.1 0 0)) (f' := (upd (s1.1 0 0) 9 0)) (σ' := (qC σ s2)) (ty := .int) (v := .int 0) tyX7 tyX7_ok nmX7 (FLi hF (t := 0) (by decide)) (fun _ _ _ => rfl) rfl ((qC_s (by decide)).trans (congrArg (qC σ) hv_s2.symm)) rfl inW7 9 (by decide) (TT_cons kw_300) rfl (by decide +kernel) rfl rfl (fun _ _ => Nat.le_of_ble_eq_true rfl) (fun _ _ => rfl) dX7_begin_7 ?_
  refine G_aload_n hΓ 0 dX7_begin_10 rfl ?_
  refine G_iconst (v := 0) hΓ dX7_begin_11 (by decide) ?_
  obtain ⟨s3, hv_s3, hf⟩ := lt_eq hf
  refine F_put hΓ (t := 0) (i := 0) (ci := 10) (C := RX7) (T := TX7) (N := 14) (fs7 (gl Γ) 0) (f := (s2.1 0 0)) (f' := (upd (s2.1 0 0) 10 0)) (σ' := (qC σ s3)) (ty := .int) (v := .int 0) tyX7 tyX7_ok nmX7 (FLi hF (t := 0) (by decide)) (fun _ _ _ => rfl) rfl ((qC_s (by decide)).trans (congrArg (qC σ) hv_s3.symm)) rfl inW7 10 (by decide) (TT_cons kw_301) rfl (by decide +kernel) rfl rfl (fun _ _ => Nat.le_of_ble_eq_true rfl) (fun _ _ => rfl) dX7_begin_12 ?_
  refine G_aload_n hΓ 0 dX7_begin_15 rfl ?_
  refine G_iconst (v := 0) hΓ dX7_begin_16 (by decide) ?_
  obtain ⟨s4, hv_s4, hf⟩ := lt_eq hf
  refine F_put hΓ (t := 0) (i := 0) (ci := 10) (C := RX7) (T := TX7) (N := 14) (fs7 (gl Γ) 0) (f := (s3.1 0 0)) (f' := (upd (s3.1 0 0) 11 0)) (σ' := (qC σ s4)) (ty := .int) (v := .int 0) tyX7 tyX7_ok nmX7 (FLi hF (t := 0) (by decide)) (fun _ _ _ => rfl) rfl ((qC_s (by decide)).trans (congrArg (qC σ) hv_s4.symm)) rfl inW7 11 (by decide) (TT_cons kw_302) rfl (by decide +kernel) rfl rfl (fun _ _ => Nat.le_of_ble_eq_true rfl) (fun _ _ => rfl) dX7_begin_17 ?_
  refine G_aload_n hΓ 0 dX7_begin_20 rfl ?_
  refine G_iconst (v := 0) hΓ dX7_begin_21 (by decide) ?_
  obtain ⟨s5, hv_s5, hf⟩ := lt_eq hf
  refine F_put hΓ (t := 0) (i := 0) (ci := 10) (C := RX7) (T := TX7) (N := 14) (fs7 (gl Γ) 0) (f := (s4.1 0 0)) (f' := (upd (s4.1 0 0) 13 0)) (σ' := (qC σ s5)) (ty := .int) (v := .int 0) tyX7 tyX7_ok nmX7 (FLi hF (t := 0) (by decide)) (fun _ _ _ => rfl) rfl ((qC_s (by decide)).trans (congrArg (qC σ) hv_s5.symm)) rfl inW7 13 (by decide) (TT_cons kw_304) rfl (by decide +kernel) rfl rfl (fun _ _ => Nat.le_of_ble_eq_true rfl) (fun _ _ => rfl) dX7_begin_22 ?_
  refine G_iconst (v := 0) hΓ dX7_begin_25 (by decide) ?_
  refine G_istore_n hΓ [(2, .int 0), (0, .ref (ya (gl Γ) 0 0)), (1, .int p1)] dX7_begin_26 (by decide) rfl ?_
  obtain ⟨k8, hk_k8, hf⟩ := jn_eq hf
  try dsimp only at hf
  have K9 : ∀ v6 v7, k8 (v6, v7) = some s' → GG Γ (0, 0) (qC σ v6) 47 [(2, .int v7), (0, .ref (ya (gl Γ) 0 0)), (1, .int p1)] [] := by
    intro v6 v7 hf
    subst hk_k8
    try dsimp only at hf
    refine G_iconst (v := 0) hΓ dX7_begin_47 (by decide) ?_
    refine G_istore_n hΓ [(2, .int 0), (0, .ref (ya (gl Γ) 0 0)), (1, .int p1)] dX7_begin_48 (by decide) rfl ?_
    obtain ⟨k20, hk_k20, hf⟩ := jn_eq hf
    try dsimp only at hf
    have K21 : ∀ v18 v19, k20 (v18, v19) = some s' → GG Γ (0, 0) (qC σ v18) 77 [(2, .int v19), (0, .ref (ya (gl Γ) 0 0)), (1, .int p1)] [] := by
      intro v18 v19 hf
      subst hk_k20
      try dsimp only at hf
      refine G_aload_n hΓ 1 dX7_begin_77 rfl ?_
      refine G_iconst (v := 0) hΓ dX7_begin_78 (by decide) ?_
      obtain ⟨s26, hv_s26, hf⟩ := lt_eq hf
      refine F_put hΓ (t := 0) (i := 0) (ci := 10) (C := RX7) (T := TX7) (N := 14) (fs7 (gl Γ) 0) (f := (v18.1 0 0)) (f' := (upd (v18.1 0 0) 12 0)) (σ' := (qC σ s26)) (ty := .int) (v := .int 0) tyX7 tyX7_ok nmX7 (FLi hF (t := 0) (by decide)) (fun _ _ _ => rfl) rfl ((qC_s (by decide)).trans (congrArg (qC σ) hv_s26.symm)) rfl inW7 12 (by decide) (TT_cons kw_303) rfl (by decide +kernel) rfl rfl (fun _ _ => Nat.le_of_ble_eq_true rfl) (fun _ _ => rfl) dX7_begin_79 ?_
      cases hf
      exact G_vret hΓ hE dX7_begin_82
    clear hk_k20
    have loop27 : ∀ (nn : Nat) v18 v19, L_X7_begin_49  k20 nn v18 v19 = some s' → GG Γ (0, 0) (qC σ v18) 49 [(2, .int v19), (0, .ref (ya (gl Γ) 0 0)), (1, .int p1)] [] := by
      intro nn
      induction nn with
      | zero => intro v18 v19 hf; cases hf
      | succ nn ih =>
        intro v18 v19 hf
        rw [L_X7_begin_49] at hf
        refine G_iload_n hΓ 0 dX7_begin_49 rfl ?_
        refine G_aload_n hΓ 1 dX7_begin_50 rfl ?_
        refine F_get hΓ (t := 0) (i := 0) (ci := 10) (C := RX7) (T := TX7) (N := 14) (fs7 (gl Γ) 0) (v := .int (v18.1 0 0 12)) (FLi hF (t := 0) (by decide)) (fun _ _ _ => rfl) rfl rfl rfl rfl inW7 12 (by decide) (TT_cons kw_303) rfl dX7_begin_51 ?_
        refine G_icmp_ge hΓ (tgt := 77) dX7_begin_54 (by decide) (fun hc25 => ?_) (fun hc25 => ?_)
        · rw [if_pos hc25] at hf
          exact (K21 _ _ hf)
        · rw [if_neg hc25] at hf
          refine G_iload_n hΓ 0 dX7_begin_57 rfl ?_
          refine G_sipush (v := 20000) hΓ dX7_begin_58 (by decide) ?_
          refine G_icmp_ge hΓ (tgt := 77) dX7_begin_61 (by decide) (fun hc24 => ?_) (fun hc24 => ?_)
          · rw [if_pos hc24] at hf
            exact (K21 _ _ hf)
          · rw [if_neg hc24] at hf
            refine G_aload_n hΓ 1 dX7_begin_64 rfl ?_
            refine F_get hΓ (t := 0) (i := 0) (ci := 10) (C := RX7) (T := TX7) (N := 14) (fs7 (gl Γ) 0) (v := .ref (ya (gl Γ) 17 1)) (FLi hF (t := 0) (by decide)) (fun _ _ _ => rfl) rfl rfl rfl rfl inW7 4 (by decide) (TT_cons kw_295) rfl dX7_begin_65 ?_
            refine G_iload_n hΓ 0 dX7_begin_68 rfl ?_
            refine G_iconst (v := 0) hΓ dX7_begin_69 (by decide) ?_
            obtain ⟨hg22, hf⟩ := gd_some hf
            obtain ⟨s23, hv_s23, hf⟩ := lt_eq hf
            refine F_iast hΓ (t := 17) (i := 1) (f := v18.1 17 1) (σ' := (qC σ s23)) (FLi hF (t := 17) (by decide)) (fun _ _ _ => rfl) rfl ((qC_s (by decide)).trans (congrArg (qC σ) hv_s23.symm)) hg22 dX7_begin_70 ?_
            refine G_iinc hΓ 0 [(2, .int (v19 + 1)), (0, .ref (ya (gl Γ) 0 0)), (1, .int p1)] dX7_begin_71 rfl rfl (by decide) rfl ?_
            refine G_goto hΓ (tgt := 49) dX7_begin_74 (by decide) ?_
            exact (ih _ _ hf)
    exact loop27 _ _ _ hf
  clear hk_k8
  have loop28 : ∀ (nn : Nat) v6 v7, L_X7_begin_27 p1 k8 nn v6 v7 = some s' → GG Γ (0, 0) (qC σ v6) 27 [(2, .int v7), (0, .ref (ya (gl Γ) 0 0)), (1, .int p1)] [] := by
    intro nn
    induction nn with
    | zero => intro v6 v7 hf; cases hf
    | succ nn ih =>
      intro v6 v7 hf
      rw [L_X7_begin_27] at hf
      refine G_iload_n hΓ 0 dX7_begin_27 rfl ?_
      refine G_iload_n hΓ 2 dX7_begin_28 rfl ?_
      refine G_icmp_ge hΓ (tgt := 47) dX7_begin_29 (by decide) (fun hc17 => ?_) (fun hc17 => ?_)
      · rw [if_pos hc17] at hf
        exact (K9 _ _ hf)
      · rw [if_neg hc17] at hf
        refine G_aload_n hΓ 1 dX7_begin_32 rfl ?_
        refine F_get hΓ (t := 0) (i := 0) (ci := 10) (C := RX7) (T := TX7) (N := 14) (fs7 (gl Γ) 0) (v := .ref (ya (gl Γ) 1 0)) (FLi hF (t := 0) (by decide)) (fun _ _ _ => rfl) rfl rfl rfl rfl inW7 0 (by decide) (TT_cons kw_291) rfl dX7_begin_33 ?_
        refine G_iload_n hΓ 0 dX7_begin_36 rfl ?_
        obtain ⟨hg10, hf⟩ := gd_some hf
        refine F_aaN hΓ (FLi hF (t := 1) (by decide)) hg10 dX7_begin_37 ?_
        obtain ⟨⟨u11, u12, u13, u14⟩, hc16, hf⟩ := bd_some hf
        try dsimp only at hf
        obtain ⟨s15, hv_s15, hf⟩ := lt_eq hf
        refine G_callV hΓ (n := 0) (As := []) (t := 3) (i := v7.toNatClampNeg) (ci := 5) (T := TX2) (N := 10) (FS := fs2 (gl Γ) v7.toNatClampNeg) (σ' := (qC σ s15)) (c_X2_begin (gL Γ) (gl Γ) hF (qC σ v6) v7.toNatClampNeg (v6.2.2 v7.toNatClampNeg).1 (v6.2.2 v7.toNatClampNeg).2 (v6.1 3 v7.toNatClampNeg) (v6.2.1 4 v7.toNatClampNeg) (v6.1 4 v7.toNatClampNeg) (v6.1 5 v7.toNatClampNeg) (v6.1 7 v7.toNatClampNeg) (v6.1 8 v7.toNatClampNeg) (v6.1 9 v7.toNatClampNeg) (v6.1 10 v7.toNatClampNeg) (v6.1 11 v7.toNatClampNeg) (v6.1 12 v7.toNatClampNeg)  (vp_lt hg10) hc16) (qNd_qC.trans (congrArg (qC σ) qNd_self)) (qNd_qC.trans (congrArg (qC σ) hv_s15.symm)) kw_279 kw_280 kw_281 kw_2 kw_282 ⟨rfl, by decide, by decide, by decide +kernel⟩ (FLi hF (t := 3) (vp_lt hg10)) (fun _ _ _ => rfl) rfl rfl rfl ⟨Nat.le_of_ble_eq_true rfl, Nat.le_of_ble_eq_true rfl⟩ rfl (Nat.le_of_ble_eq_true rfl) dX7_begin_38 ⟨_, rfl⟩ rfl ?_
        refine G_iinc hΓ 0 [(2, .int (v7 + 1)), (0, .ref (ya (gl Γ) 0 0)), (1, .int p1)] dX7_begin_41 rfl rfl (by decide) rfl ?_
        refine G_goto hΓ (tgt := 27) dX7_begin_44 (by decide) ?_
        exact (ih _ _ hf)
  exact loop28 _ _ _ hf
theorem dX7_putByAll_0 : decode cX7_putByAll 0 = .ok (.iconst 1, 1) := by decide +kernel
theorem dX7_putByAll_1 : decode cX7_putByAll 1 = .ok (.istore_n 1, 1) := by decide +kernel
theorem dX7_putByAll_2 : decode cX7_putByAll 2 = .ok (.iconst 0, 1) := by decide +kernel
theorem dX7_putByAll_3 : decode cX7_putByAll 3 = .ok (.istore_n 2, 1) := by decide +kernel
theorem dX7_putByAll_4 : decode cX7_putByAll 4 = .ok (.iload_n 2, 1) := by decide +kernel
theorem dX7_putByAll_5 : decode cX7_putByAll 5 = .ok (.aload_n 0, 1) := by decide +kernel
theorem dX7_putByAll_6 : decode cX7_putByAll 6 = .ok (.getfield 179, 3) := by decide +kernel
theorem dX7_putByAll_9 : decode cX7_putByAll 9 = .ok (.if_icmp .ge 21, 3) := by decide +kernel
theorem dX7_putByAll_12 : decode cX7_putByAll 12 = .ok (.iload_n 1, 1) := by decide +kernel
theorem dX7_putByAll_13 : decode cX7_putByAll 13 = .ok (.aload_n 0, 1) := by decide +kernel
theorem dX7_putByAll_14 : decode cX7_putByAll 14 = .ok (.getfield 11, 3) := by decide +kernel
theorem dX7_putByAll_17 : decode cX7_putByAll 17 = .ok (.iload_n 2, 1) := by decide +kernel
theorem dX7_putByAll_18 : decode cX7_putByAll 18 = .ok (.aaload, 1) := by decide +kernel
theorem dX7_putByAll_19 : decode cX7_putByAll 19 = .ok (.invokevirtual 260, 3) := by decide +kernel
theorem dX7_putByAll_22 : decode cX7_putByAll 22 = .ok (.iand, 1) := by decide +kernel
theorem dX7_putByAll_23 : decode cX7_putByAll 23 = .ok (.istore_n 1, 1) := by decide +kernel
theorem dX7_putByAll_24 : decode cX7_putByAll 24 = .ok (.iinc 2 1, 3) := by decide +kernel
theorem dX7_putByAll_27 : decode cX7_putByAll 27 = .ok (.goto (-23), 3) := by decide +kernel
theorem dX7_putByAll_30 : decode cX7_putByAll 30 = .ok (.iload_n 1, 1) := by decide +kernel
theorem dX7_putByAll_31 : decode cX7_putByAll 31 = .ok (.ireturn, 1) := by decide +kernel
noncomputable def L_X7_putByAll_4  (k4 : CS × Int32 × Int32 → Option (CS × Int32)) : Nat → CS → Int32 → Int32 → Option (CS × Int32)
  | 0, _, _, _ => none
  | nn + 1, v1, v2, v3 => if (v1.1 0 0 8) ≤ v2 then k4 (v1, v2, v3) else gd (vp_in v2 32) (bd (f_X2_put (v1.2.2 v2.toNatClampNeg).1 (v1.2.2 v2.toNatClampNeg).2 (v1.1 3 v2.toNatClampNeg) (v1.1 4 v2.toNatClampNeg) (v1.1 13) (v1.1 15)) (fun ⟨u7, u8, u9, u10⟩ => lt (α := CS) (qNd v1 v2.toNatClampNeg u7 u8 u9 (v1.2.1 4 v2.toNatClampNeg) (v1.1 4 v2.toNatClampNeg) (v1.1 5 v2.toNatClampNeg) (v1.1 7 v2.toNatClampNeg) (v1.1 8 v2.toNatClampNeg) (v1.1 9 v2.toNatClampNeg) (v1.1 10 v2.toNatClampNeg) (v1.1 11 v2.toNatClampNeg) (v1.1 12 v2.toNatClampNeg)) (fun s11 => L_X7_putByAll_4  k4 nn s11 (v2 + 1) (v3 &&& u10))))
noncomputable def f_X7_putByAll  (s : CS)  : Option (CS × Int32) := jn (α := CS × Int32 × Int32) (fun ⟨v1, v2, v3⟩ => some (v1, v3)) (fun k4 => L_X7_putByAll_4  k4 fu s 0 1)
set_option maxHeartbeats 4000000 in
set_option maxRecDepth 100000 in
theorem c_X7_putByAll (l : Launch) (Λ : LY) (hF : FL Λ) (σ : CS)  (s : CS)    {s' : CS} {r9 : Int32} (hf : f_X7_putByAll s = some (s', r9)) : CM l yX7_putByAll (.code yX7_putByAll cX7_putByAll 3 (some .int) :: TT) ({ frames := 3, cells := 0, slots := 0, locals := 62 }) Λ [.ref (ya Λ 0 0)] (qC σ s) (qC σ s') (some (.int r9)) := by
  refine CM_intro (own := RX7) (by decide) rfl (Nat.le_of_ble_eq_true rfl) ?_
  intro Γ hg hl hΓ hE
  subst hg; subst hl
  show GG Γ (0, 0) (qC σ s) 0 [(0, .ref (ya (gl Γ) 0 0))] []
  unfold f_X7_putByAll at hf
  refine G_iconst (v := 1) hΓ dX7_putByAll_0 (by decide) ?_
  refine G_istore_n hΓ [(1, .int 1), (0, .ref (ya (gl Γ) 0 0))] dX7_putByAll_1 (by decide) rfl ?_
  refine G_iconst (v := 0) hΓ dX7_putByAll_2 (by decide) ?_
  refine G_istore_n hΓ [(2, .int 0), (1, .int 1), (0, .ref (ya (gl Γ) 0 0))] dX7_putByAll_3 (by decide) rfl ?_
  obtain ⟨k4, hk_k4, hf⟩ := jn_eq hf
  try dsimp only at hf
  have K5 : ∀ v1 v2 v3, k4 (v1, v2, v3) = some (s', r9) → GG Γ (0, 0) (qC σ v1) 30 [(2, .int v2), (1, .int v3), (0, .ref (ya (gl Γ) 0 0))] [] := by
    intro v1 v2 v3 hf
    subst hk_k4
    try dsimp only at hf
    refine G_iload_n hΓ 1 dX7_putByAll_30 rfl ?_
    cases hf
    exact G_iret hΓ hE dX7_putByAll_31
  clear hk_k4
  have loop14 : ∀ (nn : Nat) v1 v2 v3, L_X7_putByAll_4  k4 nn v1 v2 v3 = some (s', r9) → GG Γ (0, 0) (qC σ v1) 4 [(2, .int v2), (1, .int v3), (0, .ref (ya (gl Γ) 0 0))] [] := by
    intro nn
    induction nn with
    | zero => intro v1 v2 v3 hf; cases hf
    | succ nn ih =>
      intro v1 v2 v3 hf
      rw [L_X7_putByAll_4] at hf
      refine G_iload_n hΓ 0 dX7_putByAll_4 rfl ?_
      refine G_aload_n hΓ 2 dX7_putByAll_5 rfl ?_
      refine F_get hΓ (t := 0) (i := 0) (ci := 10) (C := RX7) (T := TX7) (N := 14) (fs7 (gl Γ) 0) (v := .int (v1.1 0 0 8)) (FLi hF (t := 0) (by decide)) (fun _ _ _ => rfl) rfl rfl rfl rfl inW7 8 (by decide) (TT_cons kw_299) rfl dX7_putByAll_6 ?_
      refine G_icmp_ge hΓ (tgt := 30) dX7_putByAll_9 (by decide) (fun hc13 => ?_) (fun hc13 => ?_)
      · rw [if_pos hc13] at hf
        exact (K5 _ _ _ hf)
      · rw [if_neg hc13] at hf
        refine G_iload_n hΓ 1 dX7_putByAll_12 rfl ?_
        refine G_aload_n hΓ 2 dX7_putByAll_13 rfl ?_
        refine F_get hΓ (t := 0) (i := 0) (ci := 10) (C := RX7) (T := TX7) (N := 14) (fs7 (gl Γ) 0) (v := .ref (ya (gl Γ) 1 0)) (FLi hF (t := 0) (by decide)) (fun _ _ _ => rfl) rfl rfl rfl rfl inW7 0 (by decide) (TT_cons kw_291) rfl dX7_putByAll_14 ?_
        refine G_iload_n hΓ 0 dX7_putByAll_17 rfl ?_
        obtain ⟨hg6, hf⟩ := gd_some hf
        refine F_aaN hΓ (FLi hF (t := 1) (by decide)) hg6 dX7_putByAll_18 ?_
        obtain ⟨⟨u7, u8, u9, u10⟩, hc12, hf⟩ := bd_some hf
        try dsimp only at hf
        obtain ⟨s11, hv_s11, hf⟩ := lt_eq hf
        refine G_callV hΓ (n := 0) (As := []) (t := 3) (i := v2.toNatClampNeg) (ci := 5) (T := TX2) (N := 10) (FS := fs2 (gl Γ) v2.toNatClampNeg) (σ' := (qC σ s11)) (c_X2_put (gL Γ) (gl Γ) hF (qC σ v1) v2.toNatClampNeg (v1.2.2 v2.toNatClampNeg).1 (v1.2.2 v2.toNatClampNeg).2 (v1.1 3 v2.toNatClampNeg) (v1.2.1 4 v2.toNatClampNeg) (v1.1 4 v2.toNatClampNeg) (v1.1 5 v2.toNatClampNeg) (v1.1 7 v2.toNatClampNeg) (v1.1 8 v2.toNatClampNeg) (v1.1 9 v2.toNatClampNeg) (v1.1 10 v2.toNatClampNeg) (v1.1 11 v2.toNatClampNeg) (v1.1 12 v2.toNatClampNeg) (v1.1 13) (v1.1 15)  (vp_lt hg6) rfl rfl hc12) (qNd_qC.trans (congrArg (qC σ) qNd_self)) (qNd_qC.trans (congrArg (qC σ) hv_s11.symm)) kw_660 kw_661 kw_662 kw_2 kw_663 ⟨rfl, by decide, by decide, by decide +kernel⟩ (FLi hF (t := 3) (vp_lt hg6)) (fun _ _ _ => rfl) rfl rfl rfl ⟨Nat.le_of_ble_eq_true rfl, Nat.le_of_ble_eq_true rfl⟩ rfl (Nat.le_of_ble_eq_true rfl) dX7_putByAll_19 ⟨_, rfl⟩ rfl ?_
        refine G_iand hΓ dX7_putByAll_22 ?_
        refine G_istore_n hΓ [(1, .int (v3 &&& u10)), (2, .int v2), (0, .ref (ya (gl Γ) 0 0))] dX7_putByAll_23 (by decide) rfl ?_
        refine G_iinc hΓ 1 [(2, .int (v2 + 1)), (1, .int (v3 &&& u10)), (0, .ref (ya (gl Γ) 0 0))] dX7_putByAll_24 rfl rfl (by decide) rfl ?_
        refine G_goto hΓ (tgt := 4) dX7_putByAll_27 (by decide) ?_
        exact (ih _ _ _ hf)
  exact loop14 _ _ _ _ hf
theorem dX7_finish_0 : decode cX7_finish 0 = .ok (.aload_n 0, 1) := by decide +kernel
theorem dX7_finish_1 : decode cX7_finish 1 = .ok (.getfield 11, 3) := by decide +kernel
theorem dX7_finish_4 : decode cX7_finish 4 = .ok (.iload_n 1, 1) := by decide +kernel
theorem dX7_finish_5 : decode cX7_finish 5 = .ok (.aaload, 1) := by decide +kernel
theorem dX7_finish_6 : decode cX7_finish 6 = .ok (.astore_n 2, 1) := by decide +kernel
theorem dX7_finish_7 : decode cX7_finish 7 = .ok (.aload_n 2, 1) := by decide +kernel
theorem dX7_finish_8 : decode cX7_finish 8 = .ok (.getfield 266, 3) := by decide +kernel
theorem dX7_finish_11 : decode cX7_finish 11 = .ok (.astore_n 3, 1) := by decide +kernel
theorem dX7_finish_12 : decode cX7_finish 12 = .ok (.aload_n 3, 1) := by decide +kernel
theorem dX7_finish_13 : decode cX7_finish 13 = .ok (.ifnull 13, 3) := by decide +kernel
theorem dX7_finish_16 : decode cX7_finish 16 = .ok (.aload_n 0, 1) := by decide +kernel
theorem dX7_finish_17 : decode cX7_finish 17 = .ok (.getfield 172, 3) := by decide +kernel
theorem dX7_finish_20 : decode cX7_finish 20 = .ok (.sipush 200, 3) := by decide +kernel
theorem dX7_finish_23 : decode cX7_finish 23 = .ok (.if_icmp .lt 4, 3) := by decide +kernel
theorem dX7_finish_26 : decode cX7_finish 26 = .ok (.return_, 1) := by decide +kernel
theorem dX7_finish_27 : decode cX7_finish 27 = .ok (.aload_n 3, 1) := by decide +kernel
theorem dX7_finish_28 : decode cX7_finish 28 = .ok (.iconst 1, 1) := by decide +kernel
theorem dX7_finish_29 : decode cX7_finish 29 = .ok (.putfield 133, 3) := by decide +kernel
theorem dX7_finish_32 : decode cX7_finish 32 = .ok (.aload_n 0, 1) := by decide +kernel
theorem dX7_finish_33 : decode cX7_finish 33 = .ok (.getfield 38, 3) := by decide +kernel
theorem dX7_finish_36 : decode cX7_finish 36 = .ok (.aload_n 0, 1) := by decide +kernel
theorem dX7_finish_37 : decode cX7_finish 37 = .ok (.getfield 172, 3) := by decide +kernel
theorem dX7_finish_40 : decode cX7_finish 40 = .ok (.aload_n 3, 1) := by decide +kernel
theorem dX7_finish_41 : decode cX7_finish 41 = .ok (.getfield 269, 3) := by decide +kernel
theorem dX7_finish_44 : decode cX7_finish 44 = .ok (.iastore, 1) := by decide +kernel
theorem dX7_finish_45 : decode cX7_finish 45 = .ok (.aload_n 0, 1) := by decide +kernel
theorem dX7_finish_46 : decode cX7_finish 46 = .ok (.getfield 41, 3) := by decide +kernel
theorem dX7_finish_49 : decode cX7_finish 49 = .ok (.aload_n 0, 1) := by decide +kernel
theorem dX7_finish_50 : decode cX7_finish 50 = .ok (.getfield 172, 3) := by decide +kernel
theorem dX7_finish_53 : decode cX7_finish 53 = .ok (.aload_n 0, 1) := by decide +kernel
theorem dX7_finish_54 : decode cX7_finish 54 = .ok (.getfield 155, 3) := by decide +kernel
theorem dX7_finish_57 : decode cX7_finish 57 = .ok (.iastore, 1) := by decide +kernel
theorem dX7_finish_58 : decode cX7_finish 58 = .ok (.aload_n 0, 1) := by decide +kernel
theorem dX7_finish_59 : decode cX7_finish 59 = .ok (.dup, 1) := by decide +kernel
theorem dX7_finish_60 : decode cX7_finish 60 = .ok (.getfield 172, 3) := by decide +kernel
theorem dX7_finish_63 : decode cX7_finish 63 = .ok (.iconst 1, 1) := by decide +kernel
theorem dX7_finish_64 : decode cX7_finish 64 = .ok (.iadd, 1) := by decide +kernel
theorem dX7_finish_65 : decode cX7_finish 65 = .ok (.putfield 172, 3) := by decide +kernel
theorem dX7_finish_68 : decode cX7_finish 68 = .ok (.aload_n 2, 1) := by decide +kernel
theorem dX7_finish_69 : decode cX7_finish 69 = .ok (.dup, 1) := by decide +kernel
theorem dX7_finish_70 : decode cX7_finish 70 = .ok (.getfield 106, 3) := by decide +kernel
theorem dX7_finish_73 : decode cX7_finish 73 = .ok (.iconst 1, 1) := by decide +kernel
theorem dX7_finish_74 : decode cX7_finish 74 = .ok (.isub, 1) := by decide +kernel
theorem dX7_finish_75 : decode cX7_finish 75 = .ok (.putfield 106, 3) := by decide +kernel
theorem dX7_finish_78 : decode cX7_finish 78 = .ok (.aload_n 2, 1) := by decide +kernel
theorem dX7_finish_79 : decode cX7_finish 79 = .ok (.aload_n 0, 1) := by decide +kernel
theorem dX7_finish_80 : decode cX7_finish 80 = .ok (.iload_n 1, 1) := by decide +kernel
theorem dX7_finish_81 : decode cX7_finish 81 = .ok (.invokevirtual 109, 3) := by decide +kernel
theorem dX7_finish_84 : decode cX7_finish 84 = .ok (.putfield 113, 3) := by decide +kernel
theorem dX7_finish_87 : decode cX7_finish 87 = .ok (.return_, 1) := by decide +kernel
noncomputable def f_X7_finish  (s : CS) (p1 : Int32) : Option (CS) := gd (vp_in p1 32) (lt (α := Option Nat) ((s.2.2 p1.toNatClampNeg).2) (fun q2 => oc q2 (some (s)) (fun j3 => gd (j3 < 200) (if (s.1 0 0 10) < 200 then lt (α := CS) (sZ s 13 j3 (upd (s.1 13 j3) 8 1)) (fun s5 => gd (vp_in (s5.1 0 0 10) 200) (lt (α := CS) (sZ s5 17 2 (upd (s5.1 17 2) (s5.1 0 0 10).toNatClampNeg (s5.1 13 j3 3))) (fun s7 => gd (vp_in (s7.1 0 0 10) 200) (lt (α := CS) (sZ s7 17 3 (upd (s7.1 17 3) (s7.1 0 0 10).toNatClampNeg (s7.1 0 0 13))) (fun s9 => lt (α := CS) (sZ s9 0 0 (upd (s9.1 0 0) 10 ((s9.1 0 0 10) + 1))) (fun s10 => lt (α := Int32) ((s10.1 3 p1.toNatClampNeg 6) - 1) (fun v11 => lt (α := CS) (sZ s10 3 p1.toNatClampNeg (upd (s10.1 3 p1.toNatClampNeg) 6 v11)) (fun s12 => bd (f_X7_firstOf s12 p1) (fun u13 => lt (α := CS) (sR s12 p1.toNatClampNeg (u13, (s12.2.2 p1.toNatClampNeg).2)) (fun s15 => some (s15))))))))))) else some (s)))))
set_option maxHeartbeats 4000000 in
set_option maxRecDepth 100000 in
theorem c_X7_finish (l : Launch) (Λ : LY) (hF : FL Λ) (σ : CS)  (s : CS) (p1 : Int32)   {s' : CS} (hf : f_X7_finish s p1 = some s') : CM l yX7_finish (.code yX7_finish cX7_finish 4 none :: TT) ({ frames := 2, cells := 0, slots := 0, locals := 46 }) Λ [.ref (ya Λ 0 0), .int p1] (qC σ s) (qC σ s') (none) := by
  refine CM_intro (own := RX7) (by decide) rfl (Nat.le_of_ble_eq_true rfl) ?_
  intro Γ hg hl hΓ hE
  subst hg; subst hl
  show GG Γ (0, 0) (qC σ s) 0 [(0, .ref (ya (gl Γ) 0 0)), (1, .int p1)] []
  unfold f_X7_finish at hf
  refine G_aload_n hΓ 0 dX7_finish_0 rfl ?_
  refine F_get hΓ (t := 0) (i := 0) (ci := 10) (C := RX7) (T := TX7) (N := 14) (fs7 (gl Γ) 0) (v := .ref (ya (gl Γ) 1 0)) (FLi hF (t := 0) (by decide)) (fun _ _ _ => rfl) rfl rfl rfl rfl inW7 0 (by decide) (TT_cons kw_291) rfl dX7_finish_1 ?_
  refine G_iload_n hΓ 1 dX7_finish_4 rfl ?_
  obtain ⟨hg1, hf⟩ := gd_some hf
  refine F_aaN hΓ (FLi hF (t := 1) (by decide)) hg1 dX7_finish_5 ?_
  refine G_astore_n hΓ [(2, .ref (ya (gl Γ) 3 p1.toNatClampNeg)), (0, .ref (ya (gl Γ) 0 0)), (1, .int p1)] dX7_finish_6 (by decide) rfl ?_
  refine G_aload_n hΓ 0 dX7_finish_7 rfl ?_
  obtain ⟨q2, hv_q2, hf⟩ := lt_eq hf
  refine F_getN hΓ (t := 3) (i := p1.toNatClampNeg) (ci := 5) (C := RX2) (T := TX2) (N := 10) (fs2 (gl Γ) p1.toNatClampNeg) (v := va_rf (((s.2.2 p1.toNatClampNeg).2).map (ya (gl Γ) 13))) (FLi hF (t := 3) (vp_lt hg1)) (fun _ _ _ => rfl) rfl rfl rfl rfl inW2 8 (by decide) 18 (host := "CanBits") rfl rfl dX7_finish_8 ?_
  refine G_topq hv_q2 ?_
  refine G_astore_nQ hΓ (q2.map (ya (gl Γ) 13)) [(3, va_rf (q2.map (ya (gl Γ) 13))), (2, .ref (ya (gl Γ) 3 p1.toNatClampNeg)), (0, .ref (ya (gl Γ) 0 0)), (1, .int p1)] dX7_finish_11 (by decide) rfl ?_
  refine G_aload_nQ hΓ (q2.map (ya (gl Γ) 13)) 0 dX7_finish_12 rfl ?_
  rcases q2 with _ | j3
  · replace hf := oc_n hf
    refine G_ifnullN hΓ (tgt := 26) dX7_finish_13 (by decide) ?_
    cases hf
    exact G_vret hΓ hE dX7_finish_26
  · replace hf := oc_s hf
    obtain ⟨hij3, hf⟩ := gd_some hf
    refine G_ifnull hΓ dX7_finish_13 ?_
    refine G_aload_n hΓ 2 dX7_finish_16 rfl ?_
    refine F_get hΓ (t := 0) (i := 0) (ci := 10) (C := RX7) (T := TX7) (N := 14) (fs7 (gl Γ) 0) (v := .int (s.1 0 0 10)) (FLi hF (t := 0) (by decide)) (fun _ _ _ => rfl) rfl rfl rfl rfl inW7 10 (by decide) (TT_cons kw_301) rfl dX7_finish_17 ?_
    refine G_sipush (v := 200) hΓ dX7_finish_20 (by decide) ?_
    refine G_icmp_lt hΓ (tgt := 27) dX7_finish_23 (by decide) (fun hc16 => ?_) (fun hc16 => ?_)
    · rw [if_pos hc16] at hf
      refine G_aload_n hΓ 0 dX7_finish_27 rfl ?_
      refine G_iconst (v := 1) hΓ dX7_finish_28 (by decide) ?_
      obtain ⟨s5, hv_s5, hf⟩ := lt_eq hf
      refine F_putN hΓ (t := 13) (i := j3) (ci := 3) (C := RX0) (T := TX0) (N := 9) (fs0 (gl Γ) j3) (f := (s.1 13 j3)) (f' := (upd (s.1 13 j3) 8 1)) (σ' := (qC σ s5)) (ty := .boolean) (v := .int 1) tyX0 tyX0_ok nmX0 (FLi hF (t := 13) hij3) (fun _ _ _ => rfl) rfl ((qC_s (by decide)).trans (congrArg (qC σ) hv_s5.symm)) rfl inW0 8 (by decide) 31 (host := "CanBits") rfl rfl (by decide +kernel) rfl (fit_z rfl) (fun _ _ => Nat.le_of_ble_eq_true rfl) (fun _ _ => rfl) dX7_finish_29 ?_
      refine G_aload_n hΓ 2 dX7_finish_32 rfl ?_
      refine F_get hΓ (t := 0) (i := 0) (ci := 10) (C := RX7) (T := TX7) (N := 14) (fs7 (gl Γ) 0) (v := .ref (ya (gl Γ) 17 2)) (FLi hF (t := 0) (by decide)) (fun _ _ _ => rfl) rfl rfl rfl rfl inW7 5 (by decide) (TT_cons kw_296) rfl dX7_finish_33 ?_
      refine G_aload_n hΓ 2 dX7_finish_36 rfl ?_
      refine F_get hΓ (t := 0) (i := 0) (ci := 10) (C := RX7) (T := TX7) (N := 14) (fs7 (gl Γ) 0) (v := .int (s5.1 0 0 10)) (FLi hF (t := 0) (by decide)) (fun _ _ _ => rfl) rfl rfl rfl rfl inW7 10 (by decide) (TT_cons kw_301) rfl dX7_finish_37 ?_
      refine G_aload_n hΓ 0 dX7_finish_40 rfl ?_
      refine F_getN hΓ (t := 13) (i := j3) (ci := 3) (C := RX0) (T := TX0) (N := 9) (fs0 (gl Γ) j3) (v := .int (s5.1 13 j3 3)) (FLi hF (t := 13) hij3) (fun _ _ _ => rfl) rfl rfl rfl rfl inW0 3 (by decide) 24 (host := "CanBits") rfl rfl dX7_finish_41 ?_
      obtain ⟨hg6, hf⟩ := gd_some hf
      obtain ⟨s7, hv_s7, hf⟩ := lt_eq hf
      refine F_iast hΓ (t := 17) (i := 2) (f := s5.1 17 2) (σ' := (qC σ s7)) (FLi hF (t := 17) (by decide)) (fun _ _ _ => rfl) rfl ((qC_s (by decide)).trans (congrArg (qC σ) hv_s7.symm)) hg6 dX7_finish_44 ?_
      refine G_aload_n hΓ 2 dX7_finish_45 rfl ?_
      refine F_get hΓ (t := 0) (i := 0) (ci := 10) (C := RX7) (T := TX7) (N := 14) (fs7 (gl Γ) 0) (v := .ref (ya (gl Γ) 17 3)) (FLi hF (t := 0) (by decide)) (fun _ _ _ => rfl) rfl rfl rfl rfl inW7 6 (by decide) (TT_cons kw_297) rfl dX7_finish_46 ?_
      refine G_aload_n hΓ 2 dX7_finish_49 rfl ?_
      refine F_get hΓ (t := 0) (i := 0) (ci := 10) (C := RX7) (T := TX7) (N := 14) (fs7 (gl Γ) 0) (v := .int (s7.1 0 0 10)) (FLi hF (t := 0) (by decide)) (fun _ _ _ => rfl) rfl rfl rfl rfl inW7 10 (by decide) (TT_cons kw_301) rfl dX7_finish_50 ?_
      refine G_aload_n hΓ 2 dX7_finish_53 rfl ?_
      refine F_get hΓ (t := 0) (i := 0) (ci := 10) (C := RX7) (T := TX7) (N := 14) (fs7 (gl Γ) 0) (v := .int (s7.1 0 0 13)) (FLi hF (t := 0) (by decide)) (fun _ _ _ => rfl) rfl rfl rfl rfl inW7 13 (by decide) (TT_cons kw_304) rfl dX7_finish_54 ?_
      obtain ⟨hg8, hf⟩ := gd_some hf
      obtain ⟨s9, hv_s9, hf⟩ := lt_eq hf
      refine F_iast hΓ (t := 17) (i := 3) (f := s7.1 17 3) (σ' := (qC σ s9)) (FLi hF (t := 17) (by decide)) (fun _ _ _ => rfl) rfl ((qC_s (by decide)).trans (congrArg (qC σ) hv_s9.symm)) hg8 dX7_finish_57 ?_
      refine G_aload_n hΓ 2 dX7_finish_58 rfl ?_
      refine G_dup hΓ dX7_finish_59 rfl ?_
      refine F_get hΓ (t := 0) (i := 0) (ci := 10) (C := RX7) (T := TX7) (N := 14) (fs7 (gl Γ) 0) (v := .int (s9.1 0 0 10)) (FLi hF (t := 0) (by decide)) (fun _ _ _ => rfl) rfl rfl rfl rfl inW7 10 (by decide) (TT_cons kw_301) rfl dX7_finish_60 ?_
      refine G_iconst (v := 1) hΓ dX7_finish_63 (by decide) ?_
      refine G_iadd hΓ dX7_finish_64 ?_
      obtain ⟨s10, hv_s10, hf⟩ := lt_eq hf
      refine F_put hΓ (t := 0) (i := 0) (ci := 10) (C := RX7) (T := TX7) (N := 14) (fs7 (gl Γ) 0) (f := (s9.1 0 0)) (f' := (upd (s9.1 0 0) 10 ((s9.1 0 0 10) + 1))) (σ' := (qC σ s10)) (ty := .int) (v := .int ((s9.1 0 0 10) + 1)) tyX7 tyX7_ok nmX7 (FLi hF (t := 0) (by decide)) (fun _ _ _ => rfl) rfl ((qC_s (by decide)).trans (congrArg (qC σ) hv_s10.symm)) rfl inW7 10 (by decide) (TT_cons kw_301) rfl (by decide +kernel) rfl rfl (fun _ _ => Nat.le_of_ble_eq_true rfl) (fun _ _ => rfl) dX7_finish_65 ?_
      refine G_aload_n hΓ 1 dX7_finish_68 rfl ?_
      refine G_dup hΓ dX7_finish_69 rfl ?_
      refine F_getN hΓ (t := 3) (i := p1.toNatClampNeg) (ci := 5) (C := RX2) (T := TX2) (N := 10) (fs2 (gl Γ) p1.toNatClampNeg) (v := .int (s10.1 3 p1.toNatClampNeg 6)) (FLi hF (t := 3) (vp_lt hg1)) (fun _ _ _ => rfl) rfl rfl rfl rfl inW2 6 (by decide) 16 (host := "CanBits") rfl rfl dX7_finish_70 ?_
      refine G_iconst (v := 1) hΓ dX7_finish_73 (by decide) ?_
      refine G_isub hΓ dX7_finish_74 ?_
      obtain ⟨v11, hv_v11, hf⟩ := lt_eq hf
      refine G_topi hv_v11 ?_
      obtain ⟨s12, hv_s12, hf⟩ := lt_eq hf
      refine F_putN hΓ (t := 3) (i := p1.toNatClampNeg) (ci := 5) (C := RX2) (T := TX2) (N := 10) (fs2 (gl Γ) p1.toNatClampNeg) (f := (s10.1 3 p1.toNatClampNeg)) (f' := (upd (s10.1 3 p1.toNatClampNeg) 6 v11)) (σ' := (qC σ s12)) (ty := .int) (v := .int v11) tyX2 tyX2_ok nmX2 (FLi hF (t := 3) (vp_lt hg1)) (fun _ _ _ => rfl) rfl ((qC_s (by decide)).trans (congrArg (qC σ) hv_s12.symm)) rfl inW2 6 (by decide) 16 (host := "CanBits") rfl rfl (by decide +kernel) rfl rfl (fun _ _ => Nat.le_of_ble_eq_true rfl) (fun _ _ => rfl) dX7_finish_75 ?_
      refine G_aload_n hΓ 1 dX7_finish_78 rfl ?_
      refine G_aload_n hΓ 2 dX7_finish_79 rfl ?_
      refine G_iload_n hΓ 3 dX7_finish_80 rfl ?_
      obtain ⟨u13, hc14, hf⟩ := bd_some hf
      refine G_callV hΓ (n := 1) (As := [.int p1]) (t := 0) (i := 0) (ci := 10) (T := TX7) (N := 14) (FS := fs7 (gl Γ) 0) (σ' := (qC σ s12)) (c_X7_firstOf (gL Γ) (gl Γ) hF σ  s12 p1  hc14) rfl rfl kw_595 kw_597 kp_9 kw_1 kw_598 ⟨rfl, by decide, by decide, by decide +kernel⟩ (FLi hF (t := 0) (by decide)) (fun _ _ _ => rfl) rfl rfl rfl ⟨Nat.le_of_ble_eq_true rfl, Nat.le_of_ble_eq_true rfl⟩ rfl (Nat.le_of_ble_eq_true rfl) dX7_finish_81 ⟨_, rfl⟩ rfl ?_
      obtain ⟨s15, hv_s15, hf⟩ := lt_eq hf
      refine F_putRN hΓ (i := p1.toNatClampNeg) (r' := (u13, (s12.2.2 p1.toNatClampNeg).2)) (σ' := (qC σ s15)) (ty := .object "CanBits$Frame") (v := va_rf (u13.map (ya (gl Γ) 13))) (FLi hF (t := 3) (vp_lt hg1)) rfl (qC_sR.trans (congrArg (qC σ) hv_s15.symm)) inW2 7 (by decide) 17 (host := "CanBits") rfl rfl (by decide +kernel) fits_rf.1 fits_rf.2 (fun _ _ => Nat.le_of_ble_eq_true rfl) (fun _ _ => rfl) dX7_finish_84 ?_
      cases hf
      exact G_vret hΓ hE dX7_finish_87
    · rw [if_neg hc16] at hf
      cases hf
      exact G_vret hΓ hE dX7_finish_26
theorem dX7_keep_0 : decode cX7_keep 0 = .ok (.iload_n 2, 1) := by decide +kernel
theorem dX7_keep_1 : decode cX7_keep 1 = .ok (.bipush 6, 2) := by decide +kernel
theorem dX7_keep_3 : decode cX7_keep 3 = .ok (.if_icmp .ne 11, 3) := by decide +kernel
theorem dX7_keep_6 : decode cX7_keep 6 = .ok (.aload_n 0, 1) := by decide +kernel
theorem dX7_keep_7 : decode cX7_keep 7 = .ok (.iload_n 1, 1) := by decide +kernel
theorem dX7_keep_8 : decode cX7_keep 8 = .ok (.invokevirtual 263, 3) := by decide +kernel
theorem dX7_keep_11 : decode cX7_keep 11 = .ok (.goto 46, 3) := by decide +kernel
theorem dX7_keep_14 : decode cX7_keep 14 = .ok (.iload_n 2, 1) := by decide +kernel
theorem dX7_keep_15 : decode cX7_keep 15 = .ok (.iconst (-1), 1) := by decide +kernel
theorem dX7_keep_16 : decode cX7_keep 16 = .ok (.if_icmp .eq 41, 3) := by decide +kernel
theorem dX7_keep_19 : decode cX7_keep 19 = .ok (.aload_n 0, 1) := by decide +kernel
theorem dX7_keep_20 : decode cX7_keep 20 = .ok (.getfield 248, 3) := by decide +kernel
theorem dX7_keep_23 : decode cX7_keep 23 = .ok (.ldc 44, 2) := by decide +kernel
theorem dX7_keep_25 : decode cX7_keep 25 = .ok (.if_icmp .ge 32, 3) := by decide +kernel
theorem dX7_keep_28 : decode cX7_keep 28 = .ok (.aload_n 0, 1) := by decide +kernel
theorem dX7_keep_29 : decode cX7_keep 29 = .ok (.getfield 45, 3) := by decide +kernel
theorem dX7_keep_32 : decode cX7_keep 32 = .ok (.aload_n 0, 1) := by decide +kernel
theorem dX7_keep_33 : decode cX7_keep 33 = .ok (.dup, 1) := by decide +kernel
theorem dX7_keep_34 : decode cX7_keep 34 = .ok (.getfield 248, 3) := by decide +kernel
theorem dX7_keep_37 : decode cX7_keep 37 = .ok (.dup_x1, 1) := by decide +kernel
theorem dX7_keep_38 : decode cX7_keep 38 = .ok (.iconst 1, 1) := by decide +kernel
theorem dX7_keep_39 : decode cX7_keep 39 = .ok (.iadd, 1) := by decide +kernel
theorem dX7_keep_40 : decode cX7_keep 40 = .ok (.putfield 248, 3) := by decide +kernel
theorem dX7_keep_43 : decode cX7_keep 43 = .ok (.aload_n 0, 1) := by decide +kernel
theorem dX7_keep_44 : decode cX7_keep 44 = .ok (.getfield 155, 3) := by decide +kernel
theorem dX7_keep_47 : decode cX7_keep 47 = .ok (.bipush 8, 2) := by decide +kernel
theorem dX7_keep_49 : decode cX7_keep 49 = .ok (.ishl, 1) := by decide +kernel
theorem dX7_keep_50 : decode cX7_keep 50 = .ok (.iload_n 1, 1) := by decide +kernel
theorem dX7_keep_51 : decode cX7_keep 51 = .ok (.iconst 3, 1) := by decide +kernel
theorem dX7_keep_52 : decode cX7_keep 52 = .ok (.ishl, 1) := by decide +kernel
theorem dX7_keep_53 : decode cX7_keep 53 = .ok (.ior, 1) := by decide +kernel
theorem dX7_keep_54 : decode cX7_keep 54 = .ok (.iload_n 2, 1) := by decide +kernel
theorem dX7_keep_55 : decode cX7_keep 55 = .ok (.ior, 1) := by decide +kernel
theorem dX7_keep_56 : decode cX7_keep 56 = .ok (.iastore, 1) := by decide +kernel
theorem dX7_keep_57 : decode cX7_keep 57 = .ok (.return_, 1) := by decide +kernel
noncomputable def f_X7_keep  (s : CS) (p1 : Int32) (p2 : Int32) : Option (CS) := jn (α := CS) (fun x1 => some (x1)) (fun k2 => if p2 = 6 then bd (f_X7_finish s p1) (fun u10 => k2 u10) else if p2 = (-1) then k2 s else if 80000 ≤ (s.1 0 0 11) then k2 s else lt (α := CS) (sZ s 0 0 (upd (s.1 0 0) 11 ((s.1 0 0 11) + 1))) (fun s4 => lt (α := Int32) ((((s4.1 0 0 13) <<< ((8 : Int32) &&& 31)) ||| (p1 <<< ((3 : Int32) &&& 31))) ||| p2) (fun v5 => gd (vp_in (s.1 0 0 11) 80000) (lt (α := CS) (sZ s4 17 4 (upd (s4.1 17 4) (s.1 0 0 11).toNatClampNeg v5)) (fun s7 => k2 s7)))))
set_option maxHeartbeats 4000000 in
set_option maxRecDepth 100000 in
theorem c_X7_keep (l : Launch) (Λ : LY) (hF : FL Λ) (σ : CS)  (s : CS) (p1 : Int32) (p2 : Int32)   {s' : CS} (hf : f_X7_keep s p1 p2 = some s') : CM l yX7_keep (.code yX7_keep cX7_keep 3 none :: TT) ({ frames := 3, cells := 0, slots := 0, locals := 69 }) Λ [.ref (ya Λ 0 0), .int p1, .int p2] (qC σ s) (qC σ s') (none) := by
  refine CM_intro (own := RX7) (by decide) rfl (Nat.le_of_ble_eq_true rfl) ?_
  intro Γ hg hl hΓ hE
  subst hg; subst hl
  show GG Γ (0, 0) (qC σ s) 0 [(0, .ref (ya (gl Γ) 0 0)), (1, .int p1), (2, .int p2)] []
  unfold f_X7_keep at hf
  refine G_iload_n hΓ 2 dX7_keep_0 rfl ?_
  refine G_bipush (v := 6) hΓ dX7_keep_1 (by decide) ?_
  obtain ⟨k2, hk_k2, hf⟩ := jn_eq hf
  try dsimp only at hf
  have K3 : ∀ x1, k2 x1 = some s' → GG Γ (0, 0) (qC σ x1) 57 [(0, .ref (ya (gl Γ) 0 0)), (1, .int p1), (2, .int p2)] [] := by
    intro x1 hf
    subst hk_k2
    try dsimp only at hf
    cases hf
    exact G_vret hΓ hE dX7_keep_57
  clear hk_k2
  refine G_icmp_ne hΓ (tgt := 14) dX7_keep_3 (by decide) (fun hc12 => ?_) (fun hc12 => ?_)
  · rw [if_neg hc12] at hf
    refine G_iload_n hΓ 2 dX7_keep_14 rfl ?_
    refine G_iconst (v := (-1)) hΓ dX7_keep_15 (by decide) ?_
    refine G_icmp_eq hΓ (tgt := 57) dX7_keep_16 (by decide) (fun hc9 => ?_) (fun hc9 => ?_)
    · rw [if_pos hc9] at hf
      exact K3 _ hf
    · rw [if_neg hc9] at hf
      refine G_aload_n hΓ 0 dX7_keep_19 rfl ?_
      refine F_get hΓ (t := 0) (i := 0) (ci := 10) (C := RX7) (T := TX7) (N := 14) (fs7 (gl Γ) 0) (v := .int (s.1 0 0 11)) (FLi hF (t := 0) (by decide)) (fun _ _ _ => rfl) rfl rfl rfl rfl inW7 11 (by decide) (TT_cons kw_302) rfl dX7_keep_20 ?_
      refine G_ldc hΓ (v := 80000) (TT_cons kw_274) dX7_keep_23 ?_
      refine G_icmp_ge hΓ (tgt := 57) dX7_keep_25 (by decide) (fun hc8 => ?_) (fun hc8 => ?_)
      · rw [if_pos hc8] at hf
        exact K3 _ hf
      · rw [if_neg hc8] at hf
        refine G_aload_n hΓ 0 dX7_keep_28 rfl ?_
        refine F_get hΓ (t := 0) (i := 0) (ci := 10) (C := RX7) (T := TX7) (N := 14) (fs7 (gl Γ) 0) (v := .ref (ya (gl Γ) 17 4)) (FLi hF (t := 0) (by decide)) (fun _ _ _ => rfl) rfl rfl rfl rfl inW7 7 (by decide) (TT_cons kw_298) rfl dX7_keep_29 ?_
        refine G_aload_n hΓ 0 dX7_keep_32 rfl ?_
        refine G_dup hΓ dX7_keep_33 rfl ?_
        refine F_get hΓ (t := 0) (i := 0) (ci := 10) (C := RX7) (T := TX7) (N := 14) (fs7 (gl Γ) 0) (v := .int (s.1 0 0 11)) (FLi hF (t := 0) (by decide)) (fun _ _ _ => rfl) rfl rfl rfl rfl inW7 11 (by decide) (TT_cons kw_302) rfl dX7_keep_34 ?_
        refine G_dup_x1 hΓ dX7_keep_37 rfl rfl ?_
        refine G_iconst (v := 1) hΓ dX7_keep_38 (by decide) ?_
        refine G_iadd hΓ dX7_keep_39 ?_
        obtain ⟨s4, hv_s4, hf⟩ := lt_eq hf
        refine F_put hΓ (t := 0) (i := 0) (ci := 10) (C := RX7) (T := TX7) (N := 14) (fs7 (gl Γ) 0) (f := (s.1 0 0)) (f' := (upd (s.1 0 0) 11 ((s.1 0 0 11) + 1))) (σ' := (qC σ s4)) (ty := .int) (v := .int ((s.1 0 0 11) + 1)) tyX7 tyX7_ok nmX7 (FLi hF (t := 0) (by decide)) (fun _ _ _ => rfl) rfl ((qC_s (by decide)).trans (congrArg (qC σ) hv_s4.symm)) rfl inW7 11 (by decide) (TT_cons kw_302) rfl (by decide +kernel) rfl rfl (fun _ _ => Nat.le_of_ble_eq_true rfl) (fun _ _ => rfl) dX7_keep_40 ?_
        refine G_aload_n hΓ 0 dX7_keep_43 rfl ?_
        refine F_get hΓ (t := 0) (i := 0) (ci := 10) (C := RX7) (T := TX7) (N := 14) (fs7 (gl Γ) 0) (v := .int (s4.1 0 0 13)) (FLi hF (t := 0) (by decide)) (fun _ _ _ => rfl) rfl rfl rfl rfl inW7 13 (by decide) (TT_cons kw_304) rfl dX7_keep_44 ?_
        refine G_bipush (v := 8) hΓ dX7_keep_47 (by decide) ?_
        refine G_ishl hΓ dX7_keep_49 ?_
        refine G_iload_n hΓ 1 dX7_keep_50 rfl ?_
        refine G_iconst (v := 3) hΓ dX7_keep_51 (by decide) ?_
        refine G_ishl hΓ dX7_keep_52 ?_
        refine G_ior hΓ dX7_keep_53 ?_
        refine G_iload_n hΓ 2 dX7_keep_54 rfl ?_
        refine G_ior hΓ dX7_keep_55 ?_
        obtain ⟨v5, hv_v5, hf⟩ := lt_eq hf
        refine G_topi hv_v5 ?_
        obtain ⟨hg6, hf⟩ := gd_some hf
        obtain ⟨s7, hv_s7, hf⟩ := lt_eq hf
        refine F_iast hΓ (t := 17) (i := 4) (f := s4.1 17 4) (σ' := (qC σ s7)) (FLi hF (t := 17) (by decide)) (fun _ _ _ => rfl) rfl ((qC_s (by decide)).trans (congrArg (qC σ) hv_s7.symm)) hg6 dX7_keep_56 ?_
        exact K3 _ hf
  · rw [if_pos hc12] at hf
    refine G_aload_n hΓ 0 dX7_keep_6 rfl ?_
    refine G_iload_n hΓ 1 dX7_keep_7 rfl ?_
    obtain ⟨u10, hc11, hf⟩ := bd_some hf
    refine G_callV hΓ (n := 1) (As := [.int p1]) (t := 0) (i := 0) (ci := 10) (T := TX7) (N := 14) (FS := fs7 (gl Γ) 0) (σ' := (qC σ u10)) (c_X7_finish (gL Γ) (gl Γ) hF σ  s p1  hc11) rfl rfl kw_785 kw_787 kp_28 kw_1 kw_788 ⟨rfl, by decide, by decide, by decide +kernel⟩ (FLi hF (t := 0) (by decide)) (fun _ _ _ => rfl) rfl rfl rfl ⟨Nat.le_of_ble_eq_true rfl, Nat.le_of_ble_eq_true rfl⟩ rfl (Nat.le_of_ble_eq_true rfl) dX7_keep_8 ⟨_, rfl⟩ rfl ?_
    refine G_goto hΓ (tgt := 57) dX7_keep_11 (by decide) ?_
    exact K3 _ hf
