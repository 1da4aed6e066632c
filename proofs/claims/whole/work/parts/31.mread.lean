theorem dX8_bitAt_0 : decode cX8_bitAt 0 = .ok (.aload_n 0, 1) := by decide +kernel
theorem dX8_bitAt_1 : decode cX8_bitAt 1 = .ok (.getfield 62, 3) := by decide +kernel
theorem dX8_bitAt_4 : decode cX8_bitAt 4 = .ok (.sipush 1200, 3) := by decide +kernel
theorem dX8_bitAt_7 : decode cX8_bitAt 7 = .ok (.iload_n 1, 1) := by decide +kernel
theorem dX8_bitAt_8 : decode cX8_bitAt 8 = .ok (.imul, 1) := by decide +kernel
theorem dX8_bitAt_9 : decode cX8_bitAt 9 = .ok (.iload_n 2, 1) := by decide +kernel
theorem dX8_bitAt_10 : decode cX8_bitAt 10 = .ok (.iadd, 1) := by decide +kernel
theorem dX8_bitAt_11 : decode cX8_bitAt 11 = .ok (.baload, 1) := by decide +kernel
theorem dX8_bitAt_12 : decode cX8_bitAt 12 = .ok (.ireturn, 1) := by decide +kernel
noncomputable def f_X8_bitAt  (m : Nat → Nat → Int32) (p1 : Int32) (p2 : Int32) : Option (Int32) := gd (vp_in ((1200 * p1) + p2) 38400) (some ((m 15) (((1200 * p1) + p2).toNatClampNeg)))
set_option maxHeartbeats 4000000 in
set_option maxRecDepth 100000 in
theorem c_X8_bitAt (l : Launch) (Λ : LY) (hF : FM Λ) (σ : CS)  (v : Nat → Int32) (m : Nat → Nat → Int32) (p1 : Int32) (p2 : Int32)   {r9 : Int32} (hf : f_X8_bitAt m p1 p2 = some r9) : CM l yX8_bitAt (.code yX8_bitAt cX8_bitAt 3 (some .int) :: TT) ({ frames := 0, cells := 0, slots := 0, locals := 0 }) Λ [.ref (ya Λ 18 0), .int p1, .int p2] (qM σ v m) (qM σ v m) (some (.int r9)) := by
  refine CM_intro (own := RX8) (by decide) rfl (Nat.le_of_ble_eq_true rfl) ?_
  intro Γ hg hl hΓ hE
  subst hg; subst hl
  show GG Γ (0, 0) (qM σ v m) 0 [(0, .ref (ya (gl Γ) 18 0)), (1, .int p1), (2, .int p2)] []
  unfold f_X8_bitAt at hf
  refine G_aload_n hΓ 0 dX8_bitAt_0 rfl ?_
  refine F_get hΓ (t := 18) (i := 0) (ci := 11) (C := RX8) (T := TX8) (N := 47) (fs8 (gl Γ) 0) (v := .ref (ya (gl Γ) 19 15)) (FMi hF (t := 18) (by decide)) (fun _ _ _ => rfl) rfl rfl rfl rfl inW8 20 (by decide) (TT_cons kw_900) rfl dX8_bitAt_1 ?_
  refine G_sipush (v := 1200) hΓ dX8_bitAt_4 (by decide) ?_
  refine G_iload_n hΓ 1 dX8_bitAt_7 rfl ?_
  refine G_imul hΓ dX8_bitAt_8 ?_
  refine G_iload_n hΓ 2 dX8_bitAt_9 rfl ?_
  refine G_iadd hΓ dX8_bitAt_10 ?_
  obtain ⟨hg1, hf⟩ := gd_some hf
  refine F_ald (G_bald hΓ) (t := 19) (i := 15) (f := (m 15)) (FMi hF (t := 19) (by decide)) (fun _ _ _ => rfl) rfl hg1 dX8_bitAt_11 ?_
  cases hf
  exact G_iret hΓ hE dX8_bitAt_12
theorem dX8_number_0 : decode cX8_number 0 = .ok (.iconst 0, 1) := by decide +kernel
theorem dX8_number_1 : decode cX8_number 1 = .ok (.istore_n 3, 1) := by decide +kernel
theorem dX8_number_2 : decode cX8_number 2 = .ok (.iload_n 1, 1) := by decide +kernel
theorem dX8_number_3 : decode cX8_number 3 = .ok (.istore 4, 2) := by decide +kernel
theorem dX8_number_5 : decode cX8_number 5 = .ok (.iload 4, 2) := by decide +kernel
theorem dX8_number_7 : decode cX8_number 7 = .ok (.iload_n 1, 1) := by decide +kernel
theorem dX8_number_8 : decode cX8_number 8 = .ok (.iload_n 2, 1) := by decide +kernel
theorem dX8_number_9 : decode cX8_number 9 = .ok (.iadd, 1) := by decide +kernel
theorem dX8_number_10 : decode cX8_number 10 = .ok (.if_icmp .ge 21, 3) := by decide +kernel
theorem dX8_number_13 : decode cX8_number 13 = .ok (.iconst 2, 1) := by decide +kernel
theorem dX8_number_14 : decode cX8_number 14 = .ok (.iload_n 3, 1) := by decide +kernel
theorem dX8_number_15 : decode cX8_number 15 = .ok (.imul, 1) := by decide +kernel
theorem dX8_number_16 : decode cX8_number 16 = .ok (.aload_n 0, 1) := by decide +kernel
theorem dX8_number_17 : decode cX8_number 17 = .ok (.getfield 98, 3) := by decide +kernel
theorem dX8_number_20 : decode cX8_number 20 = .ok (.iload 4, 2) := by decide +kernel
theorem dX8_number_22 : decode cX8_number 22 = .ok (.baload, 1) := by decide +kernel
theorem dX8_number_23 : decode cX8_number 23 = .ok (.iadd, 1) := by decide +kernel
theorem dX8_number_24 : decode cX8_number 24 = .ok (.istore_n 3, 1) := by decide +kernel
theorem dX8_number_25 : decode cX8_number 25 = .ok (.iinc 4 1, 3) := by decide +kernel
theorem dX8_number_28 : decode cX8_number 28 = .ok (.goto (-23), 3) := by decide +kernel
theorem dX8_number_31 : decode cX8_number 31 = .ok (.iload_n 3, 1) := by decide +kernel
theorem dX8_number_32 : decode cX8_number 32 = .ok (.ireturn, 1) := by decide +kernel
noncomputable def L_X8_number_5 (p1 : Int32) (p2 : Int32) (m : Nat → Nat → Int32) (k3 : Int32 × Int32 → Option (Int32)) : Nat → Int32 → Int32 → Option (Int32)
  | 0, _, _ => none
  | nn + 1, v1, v2 => if (p1 + p2) ≤ v1 then k3 (v1, v2) else gd (vp_in v1 700) (lt (α := Int32) ((2 * v2) + ((m 26) v1.toNatClampNeg)) (fun v6 => L_X8_number_5 p1 p2 m k3 nn (v1 + 1) v6))
noncomputable def f_X8_number  (m : Nat → Nat → Int32) (p1 : Int32) (p2 : Int32) : Option (Int32) := jn (α := Int32 × Int32) (fun ⟨v1, v2⟩ => some (v2)) (fun k3 => L_X8_number_5 p1 p2 m k3 fu p1 0)
set_option maxHeartbeats 4000000 in
set_option maxRecDepth 100000 in
theorem c_X8_number (l : Launch) (Λ : LY) (hF : FM Λ) (σ : CS)  (v : Nat → Int32) (m : Nat → Nat → Int32) (p1 : Int32) (p2 : Int32)   {r9 : Int32} (hf : f_X8_number m p1 p2 = some r9) : CM l yX8_number (.code yX8_number cX8_number 5 (some .int) :: TT) ({ frames := 0, cells := 0, slots := 0, locals := 0 }) Λ [.ref (ya Λ 18 0), .int p1, .int p2] (qM σ v m) (qM σ v m) (some (.int r9)) := by
  refine CM_intro (own := RX8) (by decide) rfl (Nat.le_of_ble_eq_true rfl) ?_
  intro Γ hg hl hΓ hE
  subst hg; subst hl
  show GG Γ (0, 0) (qM σ v m) 0 [(0, .ref (ya (gl Γ) 18 0)), (1, .int p1), (2, .int p2)] []
  unfold f_X8_number at hf
  refine G_iconst (v := 0) hΓ dX8_number_0 (by decide) ?_
  refine G_istore_n hΓ [(3, .int 0), (0, .ref (ya (gl Γ) 18 0)), (1, .int p1), (2, .int p2)] dX8_number_1 (by decide) rfl ?_
  refine G_iload_n hΓ 2 dX8_number_2 rfl ?_
  refine G_istore hΓ [(4, .int p1), (3, .int 0), (0, .ref (ya (gl Γ) 18 0)), (1, .int p1), (2, .int p2)] dX8_number_3 (by decide) rfl ?_
  obtain ⟨k3, hk_k3, hf⟩ := jn_eq hf
  try dsimp only at hf
  have K4 : ∀ v1 v2, k3 (v1, v2) = some r9 → GG Γ (0, 0) (qM σ v m) 31 [(4, .int v1), (3, .int v2), (0, .ref (ya (gl Γ) 18 0)), (1, .int p1), (2, .int p2)] [] := by
    intro v1 v2 hf
    subst hk_k3
    try dsimp only at hf
    refine G_iload_n hΓ 1 dX8_number_31 rfl ?_
    cases hf
    exact G_iret hΓ hE dX8_number_32
  clear hk_k3
  have loop8 : ∀ (nn : Nat) v1 v2, L_X8_number_5 p1 p2 m k3 nn v1 v2 = some r9 → GG Γ (0, 0) (qM σ v m) 5 [(4, .int v1), (3, .int v2), (0, .ref (ya (gl Γ) 18 0)), (1, .int p1), (2, .int p2)] [] := by
    intro nn
    induction nn with
    | zero => intro v1 v2 hf; cases hf
    | succ nn ih =>
      intro v1 v2 hf
      rw [L_X8_number_5] at hf
      refine G_iload hΓ 0 dX8_number_5 rfl ?_
      refine G_iload_n hΓ 3 dX8_number_7 rfl ?_
      refine G_iload_n hΓ 4 dX8_number_8 rfl ?_
      refine G_iadd hΓ dX8_number_9 ?_
      refine G_icmp_ge hΓ (tgt := 31) dX8_number_10 (by decide) (fun hc7 => ?_) (fun hc7 => ?_)
      · rw [if_pos hc7] at hf
        exact (K4 _ _ hf)
      · rw [if_neg hc7] at hf
        refine G_iconst (v := 2) hΓ dX8_number_13 (by decide) ?_
        refine G_iload_n hΓ 1 dX8_number_14 rfl ?_
        refine G_imul hΓ dX8_number_15 ?_
        refine G_aload_n hΓ 2 dX8_number_16 rfl ?_
        refine F_get hΓ (t := 18) (i := 0) (ci := 11) (C := RX8) (T := TX8) (N := 47) (fs8 (gl Γ) 0) (v := .ref (ya (gl Γ) 19 26)) (FMi hF (t := 18) (by decide)) (fun _ _ _ => rfl) rfl rfl rfl rfl inW8 33 (by decide) (TT_cons kw_913) rfl dX8_number_17 ?_
        refine G_iload hΓ 0 dX8_number_20 rfl ?_
        obtain ⟨hg5, hf⟩ := gd_some hf
        refine F_ald (G_bald hΓ) (t := 19) (i := 26) (f := (m 26)) (FMi hF (t := 19) (by decide)) (fun _ _ _ => rfl) rfl hg5 dX8_number_22 ?_
        refine G_iadd hΓ dX8_number_23 ?_
        obtain ⟨v6, hv_v6, hf⟩ := lt_eq hf
        refine G_topi hv_v6 ?_
        refine G_istore_n hΓ [(3, .int v6), (4, .int v1), (0, .ref (ya (gl Γ) 18 0)), (1, .int p1), (2, .int p2)] dX8_number_24 (by decide) rfl ?_
        refine G_iinc hΓ 1 [(4, .int (v1 + 1)), (3, .int v6), (0, .ref (ya (gl Γ) 18 0)), (1, .int p1), (2, .int p2)] dX8_number_25 rfl rfl (by decide) rfl ?_
        refine G_goto hΓ (tgt := 5) dX8_number_28 (by decide) ?_
        exact (ih _ _ hf)
  exact loop8 _ _ _ hf
theorem dX8_find_0 : decode cX8_find 0 = .ok (.aload_n 0, 1) := by decide +kernel
theorem dX8_find_1 : decode cX8_find 1 = .ok (.getfield 98, 3) := by decide +kernel
theorem dX8_find_4 : decode cX8_find 4 = .ok (.iload_n 1, 1) := by decide +kernel
theorem dX8_find_5 : decode cX8_find 5 = .ok (.ifCond .eq 8, 3) := by decide +kernel
theorem dX8_find_8 : decode cX8_find 8 = .ok (.bipush 32, 2) := by decide +kernel
theorem dX8_find_10 : decode cX8_find 10 = .ok (.goto 5, 3) := by decide +kernel
theorem dX8_find_13 : decode cX8_find 13 = .ok (.bipush 12, 2) := by decide +kernel
theorem dX8_find_15 : decode cX8_find 15 = .ok (.baload, 1) := by decide +kernel
theorem dX8_find_16 : decode cX8_find 16 = .ok (.iconst 1, 1) := by decide +kernel
theorem dX8_find_17 : decode cX8_find 17 = .ok (.if_icmp .ne 7, 3) := by decide +kernel
theorem dX8_find_20 : decode cX8_find 20 = .ok (.iconst 1, 1) := by decide +kernel
theorem dX8_find_21 : decode cX8_find 21 = .ok (.goto 4, 3) := by decide +kernel
theorem dX8_find_24 : decode cX8_find 24 = .ok (.iconst 0, 1) := by decide +kernel
theorem dX8_find_25 : decode cX8_find 25 = .ok (.istore 4, 2) := by decide +kernel
theorem dX8_find_27 : decode cX8_find 27 = .ok (.aload_n 0, 1) := by decide +kernel
theorem dX8_find_28 : decode cX8_find 28 = .ok (.iload_n 1, 1) := by decide +kernel
theorem dX8_find_29 : decode cX8_find 29 = .ok (.ifCond .eq 7, 3) := by decide +kernel
theorem dX8_find_32 : decode cX8_find 32 = .ok (.iconst 1, 1) := by decide +kernel
theorem dX8_find_33 : decode cX8_find 33 = .ok (.goto 4, 3) := by decide +kernel
theorem dX8_find_36 : decode cX8_find 36 = .ok (.iconst 0, 1) := by decide +kernel
theorem dX8_find_37 : decode cX8_find 37 = .ok (.iload_n 2, 1) := by decide +kernel
theorem dX8_find_38 : decode cX8_find 38 = .ok (.ifCond .eq 7, 3) := by decide +kernel
theorem dX8_find_41 : decode cX8_find 41 = .ok (.iconst 2, 1) := by decide +kernel
theorem dX8_find_42 : decode cX8_find 42 = .ok (.goto 13, 3) := by decide +kernel
theorem dX8_find_45 : decode cX8_find 45 = .ok (.iload 4, 2) := by decide +kernel
theorem dX8_find_47 : decode cX8_find 47 = .ok (.ifCond .eq 7, 3) := by decide +kernel
theorem dX8_find_50 : decode cX8_find 50 = .ok (.iconst 4, 1) := by decide +kernel
theorem dX8_find_51 : decode cX8_find 51 = .ok (.goto 4, 3) := by decide +kernel
theorem dX8_find_54 : decode cX8_find 54 = .ok (.iconst 0, 1) := by decide +kernel
theorem dX8_find_55 : decode cX8_find 55 = .ok (.iadd, 1) := by decide +kernel
theorem dX8_find_56 : decode cX8_find 56 = .ok (.putfield 206, 3) := by decide +kernel
theorem dX8_find_59 : decode cX8_find 59 = .ok (.aload_n 0, 1) := by decide +kernel
theorem dX8_find_60 : decode cX8_find 60 = .ok (.aload_n 0, 1) := by decide +kernel
theorem dX8_find_61 : decode cX8_find 61 = .ok (.iload_n 3, 1) := by decide +kernel
theorem dX8_find_62 : decode cX8_find 62 = .ok (.iconst 4, 1) := by decide +kernel
theorem dX8_find_63 : decode cX8_find 63 = .ok (.isub, 1) := by decide +kernel
theorem dX8_find_64 : decode cX8_find 64 = .ok (.iconst 4, 1) := by decide +kernel
theorem dX8_find_65 : decode cX8_find 65 = .ok (.invokevirtual 212, 3) := by decide +kernel
theorem dX8_find_68 : decode cX8_find 68 = .ok (.putfield 209, 3) := by decide +kernel
theorem dX8_find_71 : decode cX8_find 71 = .ok (.aload_n 0, 1) := by decide +kernel
theorem dX8_find_72 : decode cX8_find 72 = .ok (.aload_n 0, 1) := by decide +kernel
theorem dX8_find_73 : decode cX8_find 73 = .ok (.iconst 1, 1) := by decide +kernel
theorem dX8_find_74 : decode cX8_find 74 = .ok (.bipush 11, 2) := by decide +kernel
theorem dX8_find_76 : decode cX8_find 76 = .ok (.invokevirtual 212, 3) := by decide +kernel
theorem dX8_find_79 : decode cX8_find 79 = .ok (.putfield 215, 3) := by decide +kernel
theorem dX8_find_82 : decode cX8_find 82 = .ok (.iload_n 1, 1) := by decide +kernel
theorem dX8_find_83 : decode cX8_find 83 = .ok (.ifCond .eq 23, 3) := by decide +kernel
theorem dX8_find_86 : decode cX8_find 86 = .ok (.aload_n 0, 1) := by decide +kernel
theorem dX8_find_87 : decode cX8_find 87 = .ok (.aload_n 0, 1) := by decide +kernel
theorem dX8_find_88 : decode cX8_find 88 = .ok (.getfield 215, 3) := by decide +kernel
theorem dX8_find_91 : decode cX8_find 91 = .ok (.ldc 218, 2) := by decide +kernel
theorem dX8_find_93 : decode cX8_find 93 = .ok (.imul, 1) := by decide +kernel
theorem dX8_find_94 : decode cX8_find 94 = .ok (.aload_n 0, 1) := by decide +kernel
theorem dX8_find_95 : decode cX8_find 95 = .ok (.bipush 14, 2) := by decide +kernel
theorem dX8_find_97 : decode cX8_find 97 = .ok (.bipush 18, 2) := by decide +kernel
theorem dX8_find_99 : decode cX8_find 99 = .ok (.invokevirtual 212, 3) := by decide +kernel
theorem dX8_find_102 : decode cX8_find 102 = .ok (.iadd, 1) := by decide +kernel
theorem dX8_find_103 : decode cX8_find 103 = .ok (.putfield 215, 3) := by decide +kernel
theorem dX8_find_106 : decode cX8_find 106 = .ok (.return_, 1) := by decide +kernel
noncomputable def f_X8_find  (v : Nat → Int32) (m : Nat → Nat → Int32) (p1 : Int32) (p2 : Int32) (p3 : Int32) : Option ((Nat → Int32)) := lt (α := Int32) (if p1 = 0 then 12 else 32) (fun x1 => gd (vp_in x1 700) (lt (α := Int32) (if ((m 26) x1.toNatClampNeg) = 1 then 1 else 0) (fun x6 => lt (α := Int32) (if p1 = 0 then 0 else 1) (fun x10 => lt (α := Int32) (if p2 = 0 then if x6 = 0 then 0 else 4 else 2) (fun x14 => bd (f_X8_number m (p3 - 4) 4) (fun u19 => bd (f_X8_number m 1 11) (fun u21 => jn (α := Nat → Int32) (fun x23 => some (x23)) (fun k24 => if p1 = 0 then k24 (upd (upd (upd v 42 (x10 + x14)) 43 u19) 44 u21) else bd (f_X8_number m 14 18) (fun u26 => k24 (upd (upd (upd (upd v 42 (x10 + x14)) 43 u19) 44 u21) 44 ((u21 * 262144) + u26)))))))))))
set_option maxHeartbeats 4000000 in
set_option maxRecDepth 100000 in
theorem c_X8_find (l : Launch) (Λ : LY) (hF : FM Λ) (σ : CS)  (v : Nat → Int32) (m : Nat → Nat → Int32) (p1 : Int32) (p2 : Int32) (p3 : Int32)   {v' : Nat → Int32} (hf : f_X8_find v m p1 p2 p3 = some v') : CM l yX8_find (.code yX8_find cX8_find 5 none :: TT) ({ frames := 1, cells := 0, slots := 0, locals := 24 }) Λ [.ref (ya Λ 18 0), .int p1, .int p2, .int p3] (qM σ v m) (qM σ v' m) (none) := by
  refine CM_intro (own := RX8) (by decide) rfl (Nat.le_of_ble_eq_true rfl) ?_
  intro Γ hg hl hΓ hE
  subst hg; subst hl
  show GG Γ (0, 0) (qM σ v m) 0 [(0, .ref (ya (gl Γ) 18 0)), (1, .int p1), (2, .int p2), (3, .int p3)] []
  unfold f_X8_find at hf
  refine G_aload_n hΓ 0 dX8_find_0 rfl ?_
  refine F_get hΓ (t := 18) (i := 0) (ci := 11) (C := RX8) (T := TX8) (N := 47) (fs8 (gl Γ) 0) (v := .ref (ya (gl Γ) 19 26)) (FMi hF (t := 18) (by decide)) (fun _ _ _ => rfl) rfl rfl rfl rfl inW8 33 (by decide) (TT_cons kw_913) rfl dX8_find_1 ?_
  refine G_iload_n hΓ 1 dX8_find_4 rfl ?_
  obtain ⟨x1, he4, hf⟩ := lt_eq hf
  have K2 : GG Γ (0, 0) (qM σ v m) 15 [(0, .ref (ya (gl Γ) 18 0)), (1, .int p1), (2, .int p2), (3, .int p3)] [.int x1, .ref (ya (gl Γ) 19 26)] := by
    obtain ⟨hg5, hf⟩ := gd_some hf
    refine F_ald (G_bald hΓ) (t := 19) (i := 26) (f := (m 26)) (FMi hF (t := 19) (by decide)) (fun _ _ _ => rfl) rfl hg5 dX8_find_15 ?_
    refine G_iconst (v := 1) hΓ dX8_find_16 (by decide) ?_
    obtain ⟨x6, he9, hf⟩ := lt_eq hf
    have K7 : GG Γ (0, 0) (qM σ v m) 25 [(0, .ref (ya (gl Γ) 18 0)), (1, .int p1), (2, .int p2), (3, .int p3)] [.int x6] := by
      refine G_istore hΓ [(4, .int x6), (0, .ref (ya (gl Γ) 18 0)), (1, .int p1), (2, .int p2), (3, .int p3)] dX8_find_25 (by decide) rfl ?_
      refine G_aload_n hΓ 1 dX8_find_27 rfl ?_
      refine G_iload_n hΓ 2 dX8_find_28 rfl ?_
      obtain ⟨x10, he13, hf⟩ := lt_eq hf
      have K11 : GG Γ (0, 0) (qM σ v m) 37 [(4, .int x6), (0, .ref (ya (gl Γ) 18 0)), (1, .int p1), (2, .int p2), (3, .int p3)] [.int x10, .ref (ya (gl Γ) 18 0)] := by
        refine G_iload_n hΓ 3 dX8_find_37 rfl ?_
        obtain ⟨x14, he18, hf⟩ := lt_eq hf
        have K15 : GG Γ (0, 0) (qM σ v m) 55 [(4, .int x6), (0, .ref (ya (gl Γ) 18 0)), (1, .int p1), (2, .int p2), (3, .int p3)] [.int x14, .int x10, .ref (ya (gl Γ) 18 0)] := by
          refine G_iadd hΓ dX8_find_55 ?_
          refine F_put hΓ (t := 18) (i := 0) (ci := 11) (C := RX8) (T := TX8) (N := 47) (fs8 (gl Γ) 0) (f := v) (f' := (upd v 42 (x10 + x14))) (σ' := (qM σ (upd v 42 (x10 + x14)) m)) (ty := .int) (v := .int (x10 + x14)) tyX8 tyX8_ok nmX8 (FMi hF (t := 18) (by decide)) (fun _ _ _ => rfl) rfl qM_v rfl inW8 42 (by decide) (TT_cons kw_922) rfl (by decide +kernel) rfl rfl (fun _ _ => Nat.le_of_ble_eq_true rfl) (fun _ _ => rfl) dX8_find_56 ?_
          refine G_aload_n hΓ 1 dX8_find_59 rfl ?_
          refine G_aload_n hΓ 1 dX8_find_60 rfl ?_
          refine G_iload_n hΓ 4 dX8_find_61 rfl ?_
          refine G_iconst (v := 4) hΓ dX8_find_62 (by decide) ?_
          refine G_isub hΓ dX8_find_63 ?_
          refine G_iconst (v := 4) hΓ dX8_find_64 (by decide) ?_
          obtain ⟨u19, hc20, hf⟩ := bd_some hf
          refine G_callV hΓ (n := 2) (As := [.int (p3 - 4), .int 4]) (t := 18) (i := 0) (ci := 11) (T := TX8) (N := 47) (FS := fs8 (gl Γ) 0) (σ' := (qM σ (upd v 42 (x10 + x14)) m)) (c_X8_number (gL Γ) (gl Γ) hF σ  (upd v 42 (x10 + x14)) m (p3 - 4) 4  hc20) rfl rfl kw_1136 kw_1138 kp_45 kw_9 kw_1139 ⟨rfl, by decide, by decide, by decide +kernel⟩ (FMi hF (t := 18) (by decide)) (fun _ _ _ => rfl) rfl rfl rfl ⟨Nat.le_of_ble_eq_true rfl, Nat.le_of_ble_eq_true rfl⟩ rfl (Nat.le_of_ble_eq_true rfl) dX8_find_65 ⟨_, rfl⟩ rfl ?_
          refine F_put hΓ (t := 18) (i := 0) (ci := 11) (C := RX8) (T := TX8) (N := 47) (fs8 (gl Γ) 0) (f := (upd v 42 (x10 + x14))) (f' := (upd (upd v 42 (x10 + x14)) 43 u19)) (σ' := (qM σ (upd (upd v 42 (x10 + x14)) 43 u19) m)) (ty := .int) (v := .int u19) tyX8 tyX8_ok nmX8 (FMi hF (t := 18) (by decide)) (fun _ _ _ => rfl) rfl qM_v rfl inW8 43 (by decide) (TT_cons kw_923) rfl (by decide +kernel) rfl rfl (fun _ _ => Nat.le_of_ble_eq_true rfl) (fun _ _ => rfl) dX8_find_68 ?_
          refine G_aload_n hΓ 1 dX8_find_71 rfl ?_
          refine G_aload_n hΓ 1 dX8_find_72 rfl ?_
          refine G_iconst (v := 1) hΓ dX8_find_73 (by decide) ?_
          refine G_bipush (v := 11) hΓ dX8_find_74 (by decide) ?_
          obtain ⟨u21, hc22, hf⟩ := bd_some hf
          refine G_callV hΓ (n := 2) (As := [.int 1, .int 11]) (t := 18) (i := 0) (ci := 11) (T := TX8) (N := 47) (FS := fs8 (gl Γ) 0) (σ' := (qM σ (upd (upd v 42 (x10 + x14)) 43 u19) m)) (c_X8_number (gL Γ) (gl Γ) hF σ  (upd (upd v 42 (x10 + x14)) 43 u19) m 1 11  hc22) rfl rfl kw_1136 kw_1138 kp_45 kw_9 kw_1139 ⟨rfl, by decide, by decide, by decide +kernel⟩ (FMi hF (t := 18) (by decide)) (fun _ _ _ => rfl) rfl rfl rfl ⟨Nat.le_of_ble_eq_true rfl, Nat.le_of_ble_eq_true rfl⟩ rfl (Nat.le_of_ble_eq_true rfl) dX8_find_76 ⟨_, rfl⟩ rfl ?_
          refine F_put hΓ (t := 18) (i := 0) (ci := 11) (C := RX8) (T := TX8) (N := 47) (fs8 (gl Γ) 0) (f := (upd (upd v 42 (x10 + x14)) 43 u19)) (f' := (upd (upd (upd v 42 (x10 + x14)) 43 u19) 44 u21)) (σ' := (qM σ (upd (upd (upd v 42 (x10 + x14)) 43 u19) 44 u21) m)) (ty := .int) (v := .int u21) tyX8 tyX8_ok nmX8 (FMi hF (t := 18) (by decide)) (fun _ _ _ => rfl) rfl qM_v rfl inW8 44 (by decide) (TT_cons kw_924) rfl (by decide +kernel) rfl rfl (fun _ _ => Nat.le_of_ble_eq_true rfl) (fun _ _ => rfl) dX8_find_79 ?_
          refine G_iload_n hΓ 2 dX8_find_82 rfl ?_
          obtain ⟨k24, hk_k24, hf⟩ := jn_eq hf
          try dsimp only at hf
          have K25 : ∀ x23, k24 x23 = some v' → GG Γ (0, 0) (qM σ x23 m) 106 [(4, .int x6), (0, .ref (ya (gl Γ) 18 0)), (1, .int p1), (2, .int p2), (3, .int p3)] [] := by
            intro x23 hf
            subst hk_k24
            try dsimp only at hf
            cases hf
            exact G_vret hΓ hE dX8_find_106
          clear hk_k24
          refine G_if_eq hΓ (tgt := 106) dX8_find_83 (by decide) (fun hc28 => ?_) (fun hc28 => ?_)
          · rw [if_pos hc28] at hf
            exact K25 _ hf
          · rw [if_neg hc28] at hf
            refine G_aload_n hΓ 1 dX8_find_86 rfl ?_
            refine G_aload_n hΓ 1 dX8_find_87 rfl ?_
            refine F_get hΓ (t := 18) (i := 0) (ci := 11) (C := RX8) (T := TX8) (N := 47) (fs8 (gl Γ) 0) (v := .int u21) (FMi hF (t := 18) (by decide)) (fun _ _ _ => rfl) rfl rfl rfl rfl inW8 44 (by decide) (TT_cons kw_924) rfl dX8_find_88 ?_
            refine G_ldc hΓ (v := 262144) (TT_cons kw_1140) dX8_find_91 ?_
            refine G_imul hΓ dX8_find_93 ?_
            refine G_aload_n hΓ 1 dX8_find_94 rfl ?_
            refine G_bipush (v := 14) hΓ dX8_find_95 (by decide) ?_
            refine G_bipush (v := 18) hΓ dX8_find_97 (by decide) ?_
            obtain ⟨u26, hc27, hf⟩ := bd_some hf
            refine G_callV hΓ (n := 2) (As := [.int 14, .int 18]) (t := 18) (i := 0) (ci := 11) (T := TX8) (N := 47) (FS := fs8 (gl Γ) 0) (σ' := (qM σ (upd (upd (upd v 42 (x10 + x14)) 43 u19) 44 u21) m)) (c_X8_number (gL Γ) (gl Γ) hF σ  (upd (upd (upd v 42 (x10 + x14)) 43 u19) 44 u21) m 14 18  hc27) rfl rfl kw_1136 kw_1138 kp_45 kw_9 kw_1139 ⟨rfl, by decide, by decide, by decide +kernel⟩ (FMi hF (t := 18) (by decide)) (fun _ _ _ => rfl) rfl rfl rfl ⟨Nat.le_of_ble_eq_true rfl, Nat.le_of_ble_eq_true rfl⟩ rfl (Nat.le_of_ble_eq_true rfl) dX8_find_99 ⟨_, rfl⟩ rfl ?_
            refine G_iadd hΓ dX8_find_102 ?_
            refine F_put hΓ (t := 18) (i := 0) (ci := 11) (C := RX8) (T := TX8) (N := 47) (fs8 (gl Γ) 0) (f := (upd (upd (upd v 42 (x10 + x14)) 43 u19) 44 u21)) (f' := (upd (upd (upd (upd v 42 (x10 + x14)) 43 u19) 44 u21) 44 ((u21 * 262144) + u26))) (σ' := (qM σ (upd (upd (upd (upd v 42 (x10 + x14)) 43 u19) 44 u21) 44 ((u21 * 262144) + u26)) m)) (ty := .int) (v := .int ((u21 * 262144) + u26)) tyX8 tyX8_ok nmX8 (FMi hF (t := 18) (by decide)) (fun _ _ _ => rfl) rfl qM_v rfl inW8 44 (by decide) (TT_cons kw_924) rfl (by decide +kernel) rfl rfl (fun _ _ => Nat.le_of_ble_eq_true rfl) (fun _ _ => rfl) dX8_find_103 ?_
            exact K25 _ hf
        have he := he18
        refine G_if_eq hΓ (tgt := 45) dX8_find_38 (by decide) (fun hc17 => ?_) (fun hc17 => ?_)
        · rw [if_pos hc17] at he
          refine G_iload hΓ 0 dX8_find_45 rfl ?_
          refine G_if_eq hΓ (tgt := 54) dX8_find_47 (by decide) (fun hc16 => ?_) (fun hc16 => ?_)
          · rw [if_pos hc16] at he
            refine G_iconst (v := 0) hΓ dX8_find_54 (by decide) ?_
            subst he
            exact K15
          · rw [if_neg hc16] at he
            refine G_iconst (v := 4) hΓ dX8_find_50 (by decide) ?_
            refine G_goto hΓ (tgt := 55) dX8_find_51 (by decide) ?_
            subst he
            exact K15
        · rw [if_neg hc17] at he
          refine G_iconst (v := 2) hΓ dX8_find_41 (by decide) ?_
          refine G_goto hΓ (tgt := 55) dX8_find_42 (by decide) ?_
          subst he
          exact K15
      have he := he13
      refine G_if_eq hΓ (tgt := 36) dX8_find_29 (by decide) (fun hc12 => ?_) (fun hc12 => ?_)
      · rw [if_pos hc12] at he
        refine G_iconst (v := 0) hΓ dX8_find_36 (by decide) ?_
        subst he
        exact K11
      · rw [if_neg hc12] at he
        refine G_iconst (v := 1) hΓ dX8_find_32 (by decide) ?_
        refine G_goto hΓ (tgt := 37) dX8_find_33 (by decide) ?_
        subst he
        exact K11
    have he := he9
    refine G_icmp_ne hΓ (tgt := 24) dX8_find_17 (by decide) (fun hc8 => ?_) (fun hc8 => ?_)
    · rw [if_neg hc8] at he
      refine G_iconst (v := 0) hΓ dX8_find_24 (by decide) ?_
      subst he
      exact K7
    · rw [if_pos hc8] at he
      refine G_iconst (v := 1) hΓ dX8_find_20 (by decide) ?_
      refine G_goto hΓ (tgt := 25) dX8_find_21 (by decide) ?_
      subst he
      exact K7
  have he := he4
  refine G_if_eq hΓ (tgt := 13) dX8_find_5 (by decide) (fun hc3 => ?_) (fun hc3 => ?_)
  · rw [if_pos hc3] at he
    refine G_bipush (v := 12) hΓ dX8_find_13 (by decide) ?_
    subst he
    exact K2
  · rw [if_neg hc3] at he
    refine G_bipush (v := 32) hΓ dX8_find_8 (by decide) ?_
    refine G_goto hΓ (tgt := 15) dX8_find_10 (by decide) ?_
    subst he
    exact K2
theorem dX8_body_0 : decode cX8_body 0 = .ok (.aload_n 0, 1) := by decide +kernel
theorem dX8_body_1 : decode cX8_body 1 = .ok (.getfield 58, 3) := by decide +kernel
theorem dX8_body_4 : decode cX8_body 4 = .ok (.iload_n 1, 1) := by decide +kernel
theorem dX8_body_5 : decode cX8_body 5 = .ok (.iaload, 1) := by decide +kernel
theorem dX8_body_6 : decode cX8_body 6 = .ok (.iconst 1, 1) := by decide +kernel
theorem dX8_body_7 : decode cX8_body 7 = .ok (.isub, 1) := by decide +kernel
theorem dX8_body_8 : decode cX8_body 8 = .ok (.istore_n 2, 1) := by decide +kernel
theorem dX8_body_9 : decode cX8_body 9 = .ok (.iconst 1, 1) := by decide +kernel
theorem dX8_body_10 : decode cX8_body 10 = .ok (.istore_n 3, 1) := by decide +kernel
theorem dX8_body_11 : decode cX8_body 11 = .ok (.iconst 0, 1) := by decide +kernel
theorem dX8_body_12 : decode cX8_body 12 = .ok (.istore 4, 2) := by decide +kernel
theorem dX8_body_14 : decode cX8_body 14 = .ok (.sipush 20000, 3) := by decide +kernel
theorem dX8_body_17 : decode cX8_body 17 = .ok (.istore 5, 2) := by decide +kernel
theorem dX8_body_19 : decode cX8_body 19 = .ok (.iconst 0, 1) := by decide +kernel
theorem dX8_body_20 : decode cX8_body 20 = .ok (.istore 6, 2) := by decide +kernel
theorem dX8_body_22 : decode cX8_body 22 = .ok (.iconst 0, 1) := by decide +kernel
theorem dX8_body_23 : decode cX8_body 23 = .ok (.istore 7, 2) := by decide +kernel
theorem dX8_body_25 : decode cX8_body 25 = .ok (.aload_n 0, 1) := by decide +kernel
theorem dX8_body_26 : decode cX8_body 26 = .ok (.iconst (-1), 1) := by decide +kernel
theorem dX8_body_27 : decode cX8_body 27 = .ok (.putfield 193, 3) := by decide +kernel
theorem dX8_body_30 : decode cX8_body 30 = .ok (.aload_n 0, 1) := by decide +kernel
theorem dX8_body_31 : decode cX8_body 31 = .ok (.iconst 0, 1) := by decide +kernel
theorem dX8_body_32 : decode cX8_body 32 = .ok (.putfield 196, 3) := by decide +kernel
theorem dX8_body_35 : decode cX8_body 35 = .ok (.aload_n 0, 1) := by decide +kernel
theorem dX8_body_36 : decode cX8_body 36 = .ok (.iconst 0, 1) := by decide +kernel
theorem dX8_body_37 : decode cX8_body 37 = .ok (.putfield 143, 3) := by decide +kernel
theorem dX8_body_40 : decode cX8_body 40 = .ok (.aload_n 0, 1) := by decide +kernel
theorem dX8_body_41 : decode cX8_body 41 = .ok (.iconst 0, 1) := by decide +kernel
theorem dX8_body_42 : decode cX8_body 42 = .ok (.putfield 153, 3) := by decide +kernel
theorem dX8_body_45 : decode cX8_body 45 = .ok (.iconst 0, 1) := by decide +kernel
theorem dX8_body_46 : decode cX8_body 46 = .ok (.istore 8, 2) := by decide +kernel
theorem dX8_body_48 : decode cX8_body 48 = .ok (.iload 8, 2) := by decide +kernel
theorem dX8_body_50 : decode cX8_body 50 = .ok (.iload_n 2, 1) := by decide +kernel
theorem dX8_body_51 : decode cX8_body 51 = .ok (.if_icmp .gt 345, 3) := by decide +kernel
theorem dX8_body_54 : decode cX8_body 54 = .ok (.aload_n 0, 1) := by decide +kernel
theorem dX8_body_55 : decode cX8_body 55 = .ok (.iload_n 1, 1) := by decide +kernel
theorem dX8_body_56 : decode cX8_body 56 = .ok (.iload 8, 2) := by decide +kernel
theorem dX8_body_58 : decode cX8_body 58 = .ok (.invokevirtual 199, 3) := by decide +kernel
theorem dX8_body_61 : decode cX8_body 61 = .ok (.istore 9, 2) := by decide +kernel
theorem dX8_body_63 : decode cX8_body 63 = .ok (.aload_n 0, 1) := by decide +kernel
theorem dX8_body_64 : decode cX8_body 64 = .ok (.iload 9, 2) := by decide +kernel
theorem dX8_body_66 : decode cX8_body 66 = .ok (.invokevirtual 167, 3) := by decide +kernel
theorem dX8_body_69 : decode cX8_body 69 = .ok (.iload 4, 2) := by decide +kernel
theorem dX8_body_71 : decode cX8_body 71 = .ok (.iconst 5, 1) := by decide +kernel
theorem dX8_body_72 : decode cX8_body 72 = .ok (.if_icmp .ne 49, 3) := by decide +kernel
theorem dX8_body_75 : decode cX8_body 75 = .ok (.iload 9, 2) := by decide +kernel
theorem dX8_body_77 : decode cX8_body 77 = .ok (.iload_n 3, 1) := by decide +kernel
theorem dX8_body_78 : decode cX8_body 78 = .ok (.if_icmp .ne 5, 3) := by decide +kernel
theorem dX8_body_81 : decode cX8_body 81 = .ok (.iconst 1, 1) := by decide +kernel
theorem dX8_body_82 : decode cX8_body 82 = .ok (.ireturn, 1) := by decide +kernel
theorem dX8_body_83 : decode cX8_body 83 = .ok (.iconst 1, 1) := by decide +kernel
theorem dX8_body_84 : decode cX8_body 84 = .ok (.istore 4, 2) := by decide +kernel
theorem dX8_body_86 : decode cX8_body 86 = .ok (.iload 9, 2) := by decide +kernel
theorem dX8_body_88 : decode cX8_body 88 = .ok (.istore_n 3, 1) := by decide +kernel
theorem dX8_body_89 : decode cX8_body 89 = .ok (.aload_n 0, 1) := by decide +kernel
theorem dX8_body_90 : decode cX8_body 90 = .ok (.dup, 1) := by decide +kernel
theorem dX8_body_91 : decode cX8_body 91 = .ok (.getfield 196, 3) := by decide +kernel
theorem dX8_body_94 : decode cX8_body 94 = .ok (.iconst 1, 1) := by decide +kernel
theorem dX8_body_95 : decode cX8_body 95 = .ok (.iadd, 1) := by decide +kernel
theorem dX8_body_96 : decode cX8_body 96 = .ok (.putfield 196, 3) := by decide +kernel
theorem dX8_body_99 : decode cX8_body 99 = .ok (.aload_n 0, 1) := by decide +kernel
theorem dX8_body_100 : decode cX8_body 100 = .ok (.getfield 143, 3) := by decide +kernel
theorem dX8_body_103 : decode cX8_body 103 = .ok (.iload 5, 2) := by decide +kernel
theorem dX8_body_105 : decode cX8_body 105 = .ok (.bipush 15, 2) := by decide +kernel
theorem dX8_body_107 : decode cX8_body 107 = .ok (.iadd, 1) := by decide +kernel
theorem dX8_body_108 : decode cX8_body 108 = .ok (.if_icmp .ne 282, 3) := by decide +kernel
theorem dX8_body_111 : decode cX8_body 111 = .ok (.aload_n 0, 1) := by decide +kernel
theorem dX8_body_112 : decode cX8_body 112 = .ok (.iload 8, 2) := by decide +kernel
theorem dX8_body_114 : decode cX8_body 114 = .ok (.iconst 1, 1) := by decide +kernel
theorem dX8_body_115 : decode cX8_body 115 = .ok (.iadd, 1) := by decide +kernel
theorem dX8_body_116 : decode cX8_body 116 = .ok (.putfield 193, 3) := by decide +kernel
theorem dX8_body_119 : decode cX8_body 119 = .ok (.iconst (-1), 1) := by decide +kernel
theorem dX8_body_120 : decode cX8_body 120 = .ok (.ireturn, 1) := by decide +kernel
theorem dX8_body_121 : decode cX8_body 121 = .ok (.iload 9, 2) := by decide +kernel
theorem dX8_body_123 : decode cX8_body 123 = .ok (.iload_n 3, 1) := by decide +kernel
theorem dX8_body_124 : decode cX8_body 124 = .ok (.if_icmp .ne 10, 3) := by decide +kernel
theorem dX8_body_127 : decode cX8_body 127 = .ok (.iload 4, 2) := by decide +kernel
theorem dX8_body_129 : decode cX8_body 129 = .ok (.iconst 1, 1) := by decide +kernel
theorem dX8_body_130 : decode cX8_body 130 = .ok (.iadd, 1) := by decide +kernel
theorem dX8_body_131 : decode cX8_body 131 = .ok (.goto 4, 3) := by decide +kernel
theorem dX8_body_134 : decode cX8_body 134 = .ok (.iconst 1, 1) := by decide +kernel
theorem dX8_body_135 : decode cX8_body 135 = .ok (.istore 4, 2) := by decide +kernel
theorem dX8_body_137 : decode cX8_body 137 = .ok (.iload 9, 2) := by decide +kernel
theorem dX8_body_139 : decode cX8_body 139 = .ok (.istore_n 3, 1) := by decide +kernel
theorem dX8_body_140 : decode cX8_body 140 = .ok (.aload_n 0, 1) := by decide +kernel
theorem dX8_body_141 : decode cX8_body 141 = .ok (.getfield 98, 3) := by decide +kernel
theorem dX8_body_144 : decode cX8_body 144 = .ok (.aload_n 0, 1) := by decide +kernel
theorem dX8_body_145 : decode cX8_body 145 = .ok (.getfield 143, 3) := by decide +kernel
theorem dX8_body_148 : decode cX8_body 148 = .ok (.iload 9, 2) := by decide +kernel
theorem dX8_body_150 : decode cX8_body 150 = .ok (.i2b, 1) := by decide +kernel
theorem dX8_body_151 : decode cX8_body 151 = .ok (.bastore, 1) := by decide +kernel
theorem dX8_body_152 : decode cX8_body 152 = .ok (.aload_n 0, 1) := by decide +kernel
theorem dX8_body_153 : decode cX8_body 153 = .ok (.dup, 1) := by decide +kernel
theorem dX8_body_154 : decode cX8_body 154 = .ok (.getfield 143, 3) := by decide +kernel
theorem dX8_body_157 : decode cX8_body 157 = .ok (.iconst 1, 1) := by decide +kernel
theorem dX8_body_158 : decode cX8_body 158 = .ok (.iadd, 1) := by decide +kernel
theorem dX8_body_159 : decode cX8_body 159 = .ok (.putfield 143, 3) := by decide +kernel
theorem dX8_body_162 : decode cX8_body 162 = .ok (.aload_n 0, 1) := by decide +kernel
theorem dX8_body_163 : decode cX8_body 163 = .ok (.getfield 143, 3) := by decide +kernel
theorem dX8_body_166 : decode cX8_body 166 = .ok (.bipush 14, 2) := by decide +kernel
theorem dX8_body_168 : decode cX8_body 168 = .ok (.if_icmp .ne 16, 3) := by decide +kernel
theorem dX8_body_171 : decode cX8_body 171 = .ok (.iload 9, 2) := by decide +kernel
theorem dX8_body_173 : decode cX8_body 173 = .ok (.iconst 1, 1) := by decide +kernel
theorem dX8_body_174 : decode cX8_body 174 = .ok (.if_icmp .ne 7, 3) := by decide +kernel
theorem dX8_body_177 : decode cX8_body 177 = .ok (.iconst 1, 1) := by decide +kernel
theorem dX8_body_178 : decode cX8_body 178 = .ok (.goto 4, 3) := by decide +kernel
theorem dX8_body_181 : decode cX8_body 181 = .ok (.iconst 0, 1) := by decide +kernel
theorem dX8_body_182 : decode cX8_body 182 = .ok (.istore 6, 2) := by decide +kernel
theorem dX8_body_184 : decode cX8_body 184 = .ok (.iload 6, 2) := by decide +kernel
theorem dX8_body_186 : decode cX8_body 186 = .ok (.ifCond .eq 8, 3) := by decide +kernel
theorem dX8_body_189 : decode cX8_body 189 = .ok (.bipush 33, 2) := by decide +kernel
theorem dX8_body_191 : decode cX8_body 191 = .ok (.goto 5, 3) := by decide +kernel
theorem dX8_body_194 : decode cX8_body 194 = .ok (.bipush 14, 2) := by decide +kernel
theorem dX8_body_196 : decode cX8_body 196 = .ok (.istore 10, 2) := by decide +kernel
theorem dX8_body_198 : decode cX8_body 198 = .ok (.aload_n 0, 1) := by decide +kernel
theorem dX8_body_199 : decode cX8_body 199 = .ok (.getfield 143, 3) := by decide +kernel
theorem dX8_body_202 : decode cX8_body 202 = .ok (.bipush 13, 2) := by decide +kernel
theorem dX8_body_204 : decode cX8_body 204 = .ok (.if_icmp .le 27, 3) := by decide +kernel
theorem dX8_body_207 : decode cX8_body 207 = .ok (.aload_n 0, 1) := by decide +kernel
theorem dX8_body_208 : decode cX8_body 208 = .ok (.getfield 143, 3) := by decide +kernel
theorem dX8_body_211 : decode cX8_body 211 = .ok (.iload 10, 2) := by decide +kernel
theorem dX8_body_213 : decode cX8_body 213 = .ok (.iconst 1, 1) := by decide +kernel
theorem dX8_body_214 : decode cX8_body 214 = .ok (.iadd, 1) := by decide +kernel
theorem dX8_body_215 : decode cX8_body 215 = .ok (.if_icmp .ne 16, 3) := by decide +kernel
theorem dX8_body_218 : decode cX8_body 218 = .ok (.iload 9, 2) := by decide +kernel
theorem dX8_body_220 : decode cX8_body 220 = .ok (.iconst 1, 1) := by decide +kernel
theorem dX8_body_221 : decode cX8_body 221 = .ok (.if_icmp .ne 7, 3) := by decide +kernel
theorem dX8_body_224 : decode cX8_body 224 = .ok (.iconst 1, 1) := by decide +kernel
theorem dX8_body_225 : decode cX8_body 225 = .ok (.goto 4, 3) := by decide +kernel
theorem dX8_body_228 : decode cX8_body 228 = .ok (.iconst 0, 1) := by decide +kernel
theorem dX8_body_229 : decode cX8_body 229 = .ok (.istore 7, 2) := by decide +kernel
theorem dX8_body_231 : decode cX8_body 231 = .ok (.aload_n 0, 1) := by decide +kernel
theorem dX8_body_232 : decode cX8_body 232 = .ok (.getfield 143, 3) := by decide +kernel
theorem dX8_body_235 : decode cX8_body 235 = .ok (.iload 10, 2) := by decide +kernel
theorem dX8_body_237 : decode cX8_body 237 = .ok (.iconst 2, 1) := by decide +kernel
theorem dX8_body_238 : decode cX8_body 238 = .ok (.iadd, 1) := by decide +kernel
theorem dX8_body_239 : decode cX8_body 239 = .ok (.if_icmp .ne 16, 3) := by decide +kernel
theorem dX8_body_242 : decode cX8_body 242 = .ok (.iload 7, 2) := by decide +kernel
theorem dX8_body_244 : decode cX8_body 244 = .ok (.ifCond .eq 11, 3) := by decide +kernel
theorem dX8_body_247 : decode cX8_body 247 = .ok (.iload 9, 2) := by decide +kernel
theorem dX8_body_249 : decode cX8_body 249 = .ok (.iconst 1, 1) := by decide +kernel
theorem dX8_body_250 : decode cX8_body 250 = .ok (.if_icmp .ne 5, 3) := by decide +kernel
theorem dX8_body_253 : decode cX8_body 253 = .ok (.iconst 2, 1) := by decide +kernel
theorem dX8_body_254 : decode cX8_body 254 = .ok (.ireturn, 1) := by decide +kernel
theorem dX8_body_255 : decode cX8_body 255 = .ok (.iload 10, 2) := by decide +kernel
theorem dX8_body_257 : decode cX8_body 257 = .ok (.iload 7, 2) := by decide +kernel
theorem dX8_body_259 : decode cX8_body 259 = .ok (.ifCond .eq 8, 3) := by decide +kernel
theorem dX8_body_262 : decode cX8_body 262 = .ok (.bipush 8, 2) := by decide +kernel
theorem dX8_body_264 : decode cX8_body 264 = .ok (.goto 14, 3) := by decide +kernel
theorem dX8_body_267 : decode cX8_body 267 = .ok (.iload 6, 2) := by decide +kernel
theorem dX8_body_269 : decode cX8_body 269 = .ok (.ifCond .eq 8, 3) := by decide +kernel
theorem dX8_body_272 : decode cX8_body 272 = .ok (.bipush 6, 2) := by decide +kernel
theorem dX8_body_274 : decode cX8_body 274 = .ok (.goto 4, 3) := by decide +kernel
theorem dX8_body_277 : decode cX8_body 277 = .ok (.iconst 5, 1) := by decide +kernel
theorem dX8_body_278 : decode cX8_body 278 = .ok (.iadd, 1) := by decide +kernel
theorem dX8_body_279 : decode cX8_body 279 = .ok (.istore 11, 2) := by decide +kernel
theorem dX8_body_281 : decode cX8_body 281 = .ok (.aload_n 0, 1) := by decide +kernel
theorem dX8_body_282 : decode cX8_body 282 = .ok (.getfield 143, 3) := by decide +kernel
theorem dX8_body_285 : decode cX8_body 285 = .ok (.iload 10, 2) := by decide +kernel
theorem dX8_body_287 : decode cX8_body 287 = .ok (.if_icmp .le 41, 3) := by decide +kernel
theorem dX8_body_290 : decode cX8_body 290 = .ok (.aload_n 0, 1) := by decide +kernel
theorem dX8_body_291 : decode cX8_body 291 = .ok (.getfield 143, 3) := by decide +kernel
theorem dX8_body_294 : decode cX8_body 294 = .ok (.iload 11, 2) := by decide +kernel
theorem dX8_body_296 : decode cX8_body 296 = .ok (.if_icmp .ne 32, 3) := by decide +kernel
theorem dX8_body_299 : decode cX8_body 299 = .ok (.aload_n 0, 1) := by decide +kernel
theorem dX8_body_300 : decode cX8_body 300 = .ok (.iload 6, 2) := by decide +kernel
theorem dX8_body_302 : decode cX8_body 302 = .ok (.iload 7, 2) := by decide +kernel
theorem dX8_body_304 : decode cX8_body 304 = .ok (.iload 11, 2) := by decide +kernel
theorem dX8_body_306 : decode cX8_body 306 = .ok (.invokevirtual 202, 3) := by decide +kernel
theorem dX8_body_309 : decode cX8_body 309 = .ok (.iload 11, 2) := by decide +kernel
theorem dX8_body_311 : decode cX8_body 311 = .ok (.bipush 8, 2) := by decide +kernel
theorem dX8_body_313 : decode cX8_body 313 = .ok (.aload_n 0, 1) := by decide +kernel
theorem dX8_body_314 : decode cX8_body 314 = .ok (.getfield 206, 3) := by decide +kernel
theorem dX8_body_317 : decode cX8_body 317 = .ok (.aload_n 0, 1) := by decide +kernel
theorem dX8_body_318 : decode cX8_body 318 = .ok (.getfield 209, 3) := by decide +kernel
theorem dX8_body_321 : decode cX8_body 321 = .ok (.invokestatic 139, 3) := by decide +kernel
theorem dX8_body_324 : decode cX8_body 324 = .ok (.imul, 1) := by decide +kernel
theorem dX8_body_325 : decode cX8_body 325 = .ok (.iadd, 1) := by decide +kernel
theorem dX8_body_326 : decode cX8_body 326 = .ok (.istore 5, 2) := by decide +kernel
theorem dX8_body_328 : decode cX8_body 328 = .ok (.iload 7, 2) := by decide +kernel
theorem dX8_body_330 : decode cX8_body 330 = .ok (.ifCond .eq 20, 3) := by decide +kernel
theorem dX8_body_333 : decode cX8_body 333 = .ok (.aload_n 0, 1) := by decide +kernel
theorem dX8_body_334 : decode cX8_body 334 = .ok (.getfield 143, 3) := by decide +kernel
theorem dX8_body_337 : decode cX8_body 337 = .ok (.iload 5, 2) := by decide +kernel
theorem dX8_body_339 : decode cX8_body 339 = .ok (.if_icmp .ne 7, 3) := by decide +kernel
theorem dX8_body_342 : decode cX8_body 342 = .ok (.iconst 1, 1) := by decide +kernel
theorem dX8_body_343 : decode cX8_body 343 = .ok (.goto 30, 3) := by decide +kernel
theorem dX8_body_346 : decode cX8_body 346 = .ok (.iconst 0, 1) := by decide +kernel
theorem dX8_body_347 : decode cX8_body 347 = .ok (.goto 26, 3) := by decide +kernel
theorem dX8_body_350 : decode cX8_body 350 = .ok (.aload_n 0, 1) := by decide +kernel
theorem dX8_body_351 : decode cX8_body 351 = .ok (.getfield 143, 3) := by decide +kernel
theorem dX8_body_354 : decode cX8_body 354 = .ok (.iload 5, 2) := by decide +kernel
theorem dX8_body_356 : decode cX8_body 356 = .ok (.bipush 15, 2) := by decide +kernel
theorem dX8_body_358 : decode cX8_body 358 = .ok (.iadd, 1) := by decide +kernel
theorem dX8_body_359 : decode cX8_body 359 = .ok (.if_icmp .ne 13, 3) := by decide +kernel
theorem dX8_body_362 : decode cX8_body 362 = .ok (.iload 4, 2) := by decide +kernel
theorem dX8_body_364 : decode cX8_body 364 = .ok (.iconst 5, 1) := by decide +kernel
theorem dX8_body_365 : decode cX8_body 365 = .ok (.if_icmp .ge 7, 3) := by decide +kernel
theorem dX8_body_368 : decode cX8_body 368 = .ok (.iconst 1, 1) := by decide +kernel
theorem dX8_body_369 : decode cX8_body 369 = .ok (.goto 4, 3) := by decide +kernel
theorem dX8_body_372 : decode cX8_body 372 = .ok (.iconst 0, 1) := by decide +kernel
theorem dX8_body_373 : decode cX8_body 373 = .ok (.istore 12, 2) := by decide +kernel
theorem dX8_body_375 : decode cX8_body 375 = .ok (.iload 12, 2) := by decide +kernel
theorem dX8_body_377 : decode cX8_body 377 = .ok (.ifCond .eq 13, 3) := by decide +kernel
theorem dX8_body_380 : decode cX8_body 380 = .ok (.aload_n 0, 1) := by decide +kernel
theorem dX8_body_381 : decode cX8_body 381 = .ok (.iload 8, 2) := by decide +kernel
theorem dX8_body_383 : decode cX8_body 383 = .ok (.iconst 1, 1) := by decide +kernel
theorem dX8_body_384 : decode cX8_body 384 = .ok (.iadd, 1) := by decide +kernel
theorem dX8_body_385 : decode cX8_body 385 = .ok (.putfield 193, 3) := by decide +kernel
theorem dX8_body_388 : decode cX8_body 388 = .ok (.iconst (-1), 1) := by decide +kernel
theorem dX8_body_389 : decode cX8_body 389 = .ok (.ireturn, 1) := by decide +kernel
theorem dX8_body_390 : decode cX8_body 390 = .ok (.iinc 8 1, 3) := by decide +kernel
theorem dX8_body_393 : decode cX8_body 393 = .ok (.goto (-345), 3) := by decide +kernel
theorem dX8_body_396 : decode cX8_body 396 = .ok (.iconst (-1), 1) := by decide +kernel
theorem dX8_body_397 : decode cX8_body 397 = .ok (.ireturn, 1) := by decide +kernel
noncomputable def L_X8_body_48 (v2 : Int32) (p1 : Int32) (k11 : (Nat → Int32) × (Nat → Nat → Int32) × Int32 × Int32 × Int32 × Int32 × Int32 × Int32 → Option ((Nat → Int32) × (Nat → Nat → Int32) × Int32)) : Nat → (Nat → Int32) → (Nat → Nat → Int32) → Int32 → Int32 → Int32 → Int32 → Int32 → Int32 → Option ((Nat → Int32) × (Nat → Nat → Int32) × Int32)
  | 0, _, _, _, _, _, _, _, _ => none
  | nn + 1, v3, v4, v5, v6, v7, v8, v9, v10 => if v2 < v5 then k11 (v3, v4, v5, v6, v7, v8, v9, v10) else bd (f_X8_bitAt v4 p1 v5) (fun u13 => bd (f_X8_check v3 v4 u13) (fun ⟨u15, u16⟩ => if v9 = 5 then if u13 = v10 then some (u15, u16, 1) else if (u15 34) = (v8 + 15) then some ((upd (upd u15 46 ((u15 46) + 1)) 45 (v5 + 1)), u16, (-1)) else L_X8_body_48 v2 p1 k11 nn (upd u15 46 ((u15 46) + 1)) u16 (v5 + 1) v6 v7 v8 1 u13 else lt (α := Int32) (if u13 = v10 then (v9 + 1) else 1) (fun x18 => gd (vp_in (u15 34) 700) (jn (α := Int32) (fun x23 => lt (α := Int32) (if x23 = 0 then 14 else 33) (fun x31 => jn (α := Int32) (fun x35 => if ((u15 34) + 1) = (x31 + 2) then if x35 = 0 then lt (α := Int32) (if x35 = 0 then if x23 = 0 then 5 else 6 else 8) (fun x66 => jn (α := Int32 × (Nat → Int32)) (fun ⟨x71, x72⟩ => lt (α := Int32) (if x35 = 0 then if (x72 34) = (x71 + 15) then if 5 ≤ x18 then 0 else 1 else 0 else if (x72 34) = x71 then 1 else 0) (fun x75 => if x75 = 0 then L_X8_body_48 v2 p1 k11 nn x72 (va_up u16 26 (upd (u16 26) ((u15 34).toNatClampNeg) (vp_nar .byte u13.toInt8.toInt32))) (v5 + 1) x35 x23 x71 x18 u13 else some ((upd x72 45 (v5 + 1)), (va_up u16 26 (upd (u16 26) ((u15 34).toNatClampNeg) (vp_nar .byte u13.toInt8.toInt32))), (-1)))) (fun k73 => if ((u15 34) + 1) ≤ x31 then k73 (v8, (upd u15 34 ((u15 34) + 1))) else if ((u15 34) + 1) = (x31 + x66) then bd (f_X8_find (upd u15 34 ((u15 34) + 1)) (va_up u16 26 (upd (u16 26) ((u15 34).toNatClampNeg) (vp_nar .byte u13.toInt8.toInt32))) x23 x35 (x31 + x66)) (fun u83 => bd (f_X8_octetsOf (u83 42) (u83 43)) (fun u85 => k73 ((x31 + x66) + (8 * u85), u83))) else k73 (v8, (upd u15 34 ((u15 34) + 1))))) else if u13 = 1 then some ((upd u15 34 ((u15 34) + 1)), (va_up u16 26 (upd (u16 26) ((u15 34).toNatClampNeg) (vp_nar .byte u13.toInt8.toInt32))), 2) else lt (α := Int32) (if x35 = 0 then if x23 = 0 then 5 else 6 else 8) (fun x89 => jn (α := Int32 × (Nat → Int32)) (fun ⟨x94, x95⟩ => lt (α := Int32) (if x35 = 0 then if (x95 34) = (x94 + 15) then if 5 ≤ x18 then 0 else 1 else 0 else if (x95 34) = x94 then 1 else 0) (fun x98 => if x98 = 0 then L_X8_body_48 v2 p1 k11 nn x95 (va_up u16 26 (upd (u16 26) ((u15 34).toNatClampNeg) (vp_nar .byte u13.toInt8.toInt32))) (v5 + 1) x35 x23 x94 x18 u13 else some ((upd x95 45 (v5 + 1)), (va_up u16 26 (upd (u16 26) ((u15 34).toNatClampNeg) (vp_nar .byte u13.toInt8.toInt32))), (-1)))) (fun k96 => if ((u15 34) + 1) ≤ x31 then k96 (v8, (upd u15 34 ((u15 34) + 1))) else if ((u15 34) + 1) = (x31 + x89) then bd (f_X8_find (upd u15 34 ((u15 34) + 1)) (va_up u16 26 (upd (u16 26) ((u15 34).toNatClampNeg) (vp_nar .byte u13.toInt8.toInt32))) x23 x35 (x31 + x89)) (fun u106 => bd (f_X8_octetsOf (u106 42) (u106 43)) (fun u108 => k96 ((x31 + x89) + (8 * u108), u106))) else k96 (v8, (upd u15 34 ((u15 34) + 1))))) else lt (α := Int32) (if x35 = 0 then if x23 = 0 then 5 else 6 else 8) (fun x43 => jn (α := Int32 × (Nat → Int32)) (fun ⟨x48, x49⟩ => lt (α := Int32) (if x35 = 0 then if (x49 34) = (x48 + 15) then if 5 ≤ x18 then 0 else 1 else 0 else if (x49 34) = x48 then 1 else 0) (fun x52 => if x52 = 0 then L_X8_body_48 v2 p1 k11 nn x49 (va_up u16 26 (upd (u16 26) ((u15 34).toNatClampNeg) (vp_nar .byte u13.toInt8.toInt32))) (v5 + 1) x35 x23 x48 x18 u13 else some ((upd x49 45 (v5 + 1)), (va_up u16 26 (upd (u16 26) ((u15 34).toNatClampNeg) (vp_nar .byte u13.toInt8.toInt32))), (-1)))) (fun k50 => if ((u15 34) + 1) ≤ x31 then k50 (v8, (upd u15 34 ((u15 34) + 1))) else if ((u15 34) + 1) = (x31 + x43) then bd (f_X8_find (upd u15 34 ((u15 34) + 1)) (va_up u16 26 (upd (u16 26) ((u15 34).toNatClampNeg) (vp_nar .byte u13.toInt8.toInt32))) x23 x35 (x31 + x43)) (fun u60 => bd (f_X8_octetsOf (u60 42) (u60 43)) (fun u62 => k50 ((x31 + x43) + (8 * u62), u60))) else k50 (v8, (upd u15 34 ((u15 34) + 1)))))) (fun k41 => if ((u15 34) + 1) ≤ 13 then k41 v6 else if ((u15 34) + 1) = (x31 + 1) then lt (α := Int32) (if u13 = 1 then 1 else 0) (fun x115 => k41 x115) else k41 v6))) (fun k29 => if ((u15 34) + 1) = 14 then lt (α := Int32) (if u13 = 1 then 1 else 0) (fun x121 => k29 x121) else k29 v7)))))
noncomputable def f_X8_body  (v : Nat → Int32) (m : Nat → Nat → Int32) (p1 : Int32) : Option ((Nat → Int32) × (Nat → Nat → Int32) × Int32) := gd (vp_in p1 32) (lt (α := Int32) (((m 14) p1.toNatClampNeg) - 1) (fun v2 => jn (α := (Nat → Int32) × (Nat → Nat → Int32) × Int32 × Int32 × Int32 × Int32 × Int32 × Int32) (fun ⟨v3, v4, v5, v6, v7, v8, v9, v10⟩ => some (v3, v4, (-1))) (fun k11 => L_X8_body_48 v2 p1 k11 fu (upd (upd (upd (upd v 45 (-1)) 46 0) 34 0) 41 0) m 0 0 0 20000 0 1)))
set_option maxHeartbeats 4000000 in
set_option maxRecDepth 100000 in
theorem c_X8_body (l : Launch) (Λ : LY) (hF : FM Λ) (σ : CS)  (v : Nat → Int32) (m : Nat → Nat → Int32) (p1 : Int32)   {v' : Nat → Int32} {m' : Nat → Nat → Int32} {r9 : Int32} (hf : f_X8_body v m p1 = some (v', m', r9)) : CM l yX8_body (.code yX8_body cX8_body 13 (some .int) :: TT) ({ frames := 2, cells := 0, slots := 0, locals := 48 }) Λ [.ref (ya Λ 18 0), .int p1] (qM σ v m) (qM σ v' m') (some (.int r9)) := by
  refine CM_intro (own := RX8) (by decide) rfl (Nat.le_of_ble_eq_true rfl) ?_
  intro Γ hg hl hΓ hE
  subst hg; subst hl
  show GG Γ (0, 0) (qM σ v m) 0 [(0, .ref (ya (gl Γ) 18 0)), (1, .int p1)] []
  unfold f_X8_body at hf
  refine G_aload_n hΓ 0 dX8_body_0 rfl ?_
  refine F_get hΓ (t := 18) (i := 0) (ci := 11) (C := RX8) (T := TX8) (N := 47) (fs8 (gl Γ) 0) (v := .ref (ya (gl Γ) 19 14)) (FMi hF (t := 18) (by decide)) (fun _ _ _ => rfl) rfl rfl rfl rfl inW8 19 (by decide) (TT_cons kw_899) rfl dX8_body_1 ?_
  refine G_iload_n hΓ 1 dX8_body_4 rfl ?_
  obtain ⟨hg1, hf⟩ := gd_some hf
  refine F_ald (G_iald hΓ) (t := 19) (i := 14) (f := (m 14)) (FMi hF (t := 19) (by decide)) (fun _ _ _ => rfl) rfl hg1 dX8_body_5 ?_
  refine G_iconst (v := 1) hΓ dX8_body_6 (by decide) ?_
  refine G_isub hΓ dX8_body_7 ?_
  obtain ⟨v2, hv_v2, hf⟩ := lt_eq hf
  refine G_topi hv_v2 ?_
  refine G_istore_n hΓ [(2, .int v2), (0, .ref (ya (gl Γ) 18 0)), (1, .int p1)] dX8_body_8 (by decide) rfl ?_
  refine G_iconst (v := 1) hΓ dX8_body_9 (by decide) ?_
  refine G_istore_n hΓ [(3, .int 1), (2, .int v2), (0, .ref (ya (gl Γ) 18 0)), (1, .int p1)] dX8_body_10 (by decide) rfl ?_
  refine G_iconst (v := 0) hΓ dX8_body_11 (by decide) ?_
  refine G_istore hΓ [(4, .int 0), (3, .int 1), (2, .int v2), (0, .ref (ya (gl Γ) 18 0)), (1, .int p1)] dX8_body_12 (by decide) rfl ?_
  refine G_sipush (v := 20000) hΓ dX8_body_14 (by decide) ?_
  refine G_istore hΓ [(5, .int 20000), (4, .int 0), (3, .int 1), (2, .int v2), (0, .ref (ya (gl Γ) 18 0)), (1, .int p1)] dX8_body_17 (by decide) rfl ?_
  refine G_iconst (v := 0) hΓ dX8_body_19 (by decide) ?_
  refine G_istore hΓ [(6, .int 0), (5, .int 20000), (4, .int 0), (3, .int 1), (2, .int v2), (0, .ref (ya (gl Γ) 18 0)), (1, .int p1)] dX8_body_20 (by decide) rfl ?_
  refine G_iconst (v := 0) hΓ dX8_body_22 (by decide) ?_
  refine G_istore hΓ [(7, .int 0), (6, .int 0), (5, .int 20000), (4, .int 0), (3, .int 1), (2, .int v2), (0, .ref (ya (gl Γ) 18 0)), (1, .int p1)] dX8_body_23 (by decide) rfl ?_
  refine G_aload_n hΓ 6 dX8_body_25 rfl ?_
  refine G_iconst (v := (-1)) hΓ dX8_body_26 (by decide) ?_
  refine F_put hΓ (t := 18) (i := 0) (ci := 11) (C := RX8) (T := TX8) (N := 47) (fs8 (gl Γ) 0) (f := v) (f' := (upd v 45 (-1))) (σ' := (qM σ (upd v 45 (-1)) m)) (ty := .int) (v := .int (-1)) tyX8 tyX8_ok nmX8 (FMi hF (t := 18) (by decide)) (fun _ _ _ => rfl) rfl qM_v rfl inW8 45 (by decide) (TT_cons kw_925) rfl (by decide +kernel) rfl rfl (fun _ _ => Nat.le_of_ble_eq_true rfl) (fun _ _ => rfl) dX8_body_27 ?_
  refine G_aload_n hΓ 6 dX8_body_30 rfl ?_
  refine G_iconst (v := 0) hΓ dX8_body_31 (by decide) ?_
  refine F_put hΓ (t := 18) (i := 0) (ci := 11) (C := RX8) (T := TX8) (N := 47) (fs8 (gl Γ) 0) (f := (upd v 45 (-1))) (f' := (upd (upd v 45 (-1)) 46 0)) (σ' := (qM σ (upd (upd v 45 (-1)) 46 0) m)) (ty := .int) (v := .int 0) tyX8 tyX8_ok nmX8 (FMi hF (t := 18) (by decide)) (fun _ _ _ => rfl) rfl qM_v rfl inW8 46 (by decide) (TT_cons kw_926) rfl (by decide +kernel) rfl rfl (fun _ _ => Nat.le_of_ble_eq_true rfl) (fun _ _ => rfl) dX8_body_32 ?_
  refine G_aload_n hΓ 6 dX8_body_35 rfl ?_
  refine G_iconst (v := 0) hΓ dX8_body_36 (by decide) ?_
  refine F_put hΓ (t := 18) (i := 0) (ci := 11) (C := RX8) (T := TX8) (N := 47) (fs8 (gl Γ) 0) (f := (upd (upd v 45 (-1)) 46 0)) (f' := (upd (upd (upd v 45 (-1)) 46 0) 34 0)) (σ' := (qM σ (upd (upd (upd v 45 (-1)) 46 0) 34 0) m)) (ty := .int) (v := .int 0) tyX8 tyX8_ok nmX8 (FMi hF (t := 18) (by decide)) (fun _ _ _ => rfl) rfl qM_v rfl inW8 34 (by decide) (TT_cons kw_914) rfl (by decide +kernel) rfl rfl (fun _ _ => Nat.le_of_ble_eq_true rfl) (fun _ _ => rfl) dX8_body_37 ?_
  refine G_aload_n hΓ 6 dX8_body_40 rfl ?_
  refine G_iconst (v := 0) hΓ dX8_body_41 (by decide) ?_
  refine F_put hΓ (t := 18) (i := 0) (ci := 11) (C := RX8) (T := TX8) (N := 47) (fs8 (gl Γ) 0) (f := (upd (upd (upd v 45 (-1)) 46 0) 34 0)) (f' := (upd (upd (upd (upd v 45 (-1)) 46 0) 34 0) 41 0)) (σ' := (qM σ (upd (upd (upd (upd v 45 (-1)) 46 0) 34 0) 41 0) m)) (ty := .int) (v := .int 0) tyX8 tyX8_ok nmX8 (FMi hF (t := 18) (by decide)) (fun _ _ _ => rfl) rfl qM_v rfl inW8 41 (by decide) (TT_cons kw_921) rfl (by decide +kernel) rfl rfl (fun _ _ => Nat.le_of_ble_eq_true rfl) (fun _ _ => rfl) dX8_body_42 ?_
  refine G_iconst (v := 0) hΓ dX8_body_45 (by decide) ?_
  refine G_istore hΓ [(8, .int 0), (7, .int 0), (6, .int 0), (5, .int 20000), (4, .int 0), (3, .int 1), (2, .int v2), (0, .ref (ya (gl Γ) 18 0)), (1, .int p1)] dX8_body_46 (by decide) rfl ?_
  obtain ⟨k11, hk_k11, hf⟩ := jn_eq hf
  try dsimp only at hf
  have K12 : ∀ v3 v4 v5 v6 v7 v8 v9 v10, k11 (v3, v4, v5, v6, v7, v8, v9, v10) = some (v', m', r9) → GG Γ (0, 0) (qM σ v3 v4) 396 [(8, .int v5), (7, .int v6), (6, .int v7), (5, .int v8), (4, .int v9), (3, .int v10), (2, .int v2), (0, .ref (ya (gl Γ) 18 0)), (1, .int p1)] [] := by
    intro v3 v4 v5 v6 v7 v8 v9 v10 hf
    subst hk_k11
    try dsimp only at hf
    refine G_iconst (v := (-1)) hΓ dX8_body_396 (by decide) ?_
    cases hf
    exact G_iret hΓ hE dX8_body_397
  clear hk_k11
  have loop130 : ∀ (nn : Nat) v3 v4 v5 v6 v7 v8 v9 v10, L_X8_body_48 v2 p1 k11 nn v3 v4 v5 v6 v7 v8 v9 v10 = some (v', m', r9) → GG Γ (0, 0) (qM σ v3 v4) 48 [(8, .int v5), (7, .int v6), (6, .int v7), (5, .int v8), (4, .int v9), (3, .int v10), (2, .int v2), (0, .ref (ya (gl Γ) 18 0)), (1, .int p1)] [] := by
    intro nn
    induction nn with
    | zero => intro v3 v4 v5 v6 v7 v8 v9 v10 hf; cases hf
    | succ nn ih =>
      intro v3 v4 v5 v6 v7 v8 v9 v10 hf
      rw [L_X8_body_48] at hf
      refine G_iload hΓ 0 dX8_body_48 rfl ?_
      refine G_iload_n hΓ 6 dX8_body_50 rfl ?_
      refine G_icmp_gt hΓ (tgt := 396) dX8_body_51 (by decide) (fun hc129 => ?_) (fun hc129 => ?_)
      · rw [if_pos hc129] at hf
        exact (K12 _ _ _ _ _ _ _ _ hf)
      · rw [if_neg hc129] at hf
        refine G_aload_n hΓ 7 dX8_body_54 rfl ?_
        refine G_iload_n hΓ 8 dX8_body_55 rfl ?_
        refine G_iload hΓ 0 dX8_body_56 rfl ?_
        obtain ⟨u13, hc14, hf⟩ := bd_some hf
        refine G_callV hΓ (n := 2) (As := [.int p1, .int v5]) (t := 18) (i := 0) (ci := 11) (T := TX8) (N := 47) (FS := fs8 (gl Γ) 0) (σ' := (qM σ v3 v4)) (c_X8_bitAt (gL Γ) (gl Γ) hF σ  v3 v4 p1 v5  hc14) rfl rfl kw_1128 kw_1130 kp_43 kw_9 kw_1131 ⟨rfl, by decide, by decide, by decide +kernel⟩ (FMi hF (t := 18) (by decide)) (fun _ _ _ => rfl) rfl rfl rfl ⟨Nat.le_of_ble_eq_true rfl, Nat.le_of_ble_eq_true rfl⟩ rfl (Nat.le_of_ble_eq_true rfl) dX8_body_58 ⟨_, rfl⟩ rfl ?_
        refine G_istore hΓ [(9, .int u13), (8, .int v5), (7, .int v6), (6, .int v7), (5, .int v8), (4, .int v9), (3, .int v10), (2, .int v2), (0, .ref (ya (gl Γ) 18 0)), (1, .int p1)] dX8_body_61 (by decide) rfl ?_
        refine G_aload_n hΓ 8 dX8_body_63 rfl ?_
        refine G_iload hΓ 0 dX8_body_64 rfl ?_
        obtain ⟨⟨u15, u16⟩, hc17, hf⟩ := bd_some hf
        try dsimp only at hf
        refine G_callV hΓ (n := 1) (As := [.int u13]) (t := 18) (i := 0) (ci := 11) (T := TX8) (N := 47) (FS := fs8 (gl Γ) 0) (σ' := (qM σ u15 u16)) (c_X8_check (gL Γ) (gl Γ) hF σ  v3 v4 u13  hc17) rfl rfl kw_1068 kw_1070 kp_34 kw_9 kw_1071 ⟨rfl, by decide, by decide, by decide +kernel⟩ (FMi hF (t := 18) (by decide)) (fun _ _ _ => rfl) rfl rfl rfl ⟨Nat.le_of_ble_eq_true rfl, Nat.le_of_ble_eq_true rfl⟩ rfl (Nat.le_of_ble_eq_true rfl) dX8_body_66 ⟨_, rfl⟩ rfl ?_
        refine G_iload hΓ 5 dX8_body_69 rfl ?_
        refine G_iconst (v := 5) hΓ dX8_body_71 (by decide) ?_
        refine G_icmp_ne hΓ (tgt := 121) dX8_body_72 (by decide) (fun hc128 => ?_) (fun hc128 => ?_)
        · rw [if_neg hc128] at hf
          refine G_iload hΓ 0 dX8_body_121 rfl ?_
          refine G_iload_n hΓ 6 dX8_body_123 rfl ?_
          obtain ⟨x18, he21, hf⟩ := lt_eq hf
          have K19 : GG Γ (0, 0) (qM σ u15 u16) 135 [(9, .int u13), (8, .int v5), (7, .int v6), (6, .int v7), (5, .int v8), (4, .int v9), (3, .int v10), (2, .int v2), (0, .ref (ya (gl Γ) 18 0)), (1, .int p1)] [.int x18] := by
            refine G_istore hΓ [(4, .int x18), (9, .int u13), (8, .int v5), (7, .int v6), (6, .int v7), (5, .int v8), (3, .int v10), (2, .int v2), (0, .ref (ya (gl Γ) 18 0)), (1, .int p1)] dX8_body_135 (by decide) rfl ?_
            refine G_iload hΓ 1 dX8_body_137 rfl ?_
            refine G_istore_n hΓ [(3, .int u13), (4, .int x18), (9, .int u13), (8, .int v5), (7, .int v6), (6, .int v7), (5, .int v8), (2, .int v2), (0, .ref (ya (gl Γ) 18 0)), (1, .int p1)] dX8_body_139 (by decide) rfl ?_
            refine G_aload_n hΓ 8 dX8_body_140 rfl ?_
            refine F_get hΓ (t := 18) (i := 0) (ci := 11) (C := RX8) (T := TX8) (N := 47) (fs8 (gl Γ) 0) (v := .ref (ya (gl Γ) 19 26)) (FMi hF (t := 18) (by decide)) (fun _ _ _ => rfl) rfl rfl rfl rfl inW8 33 (by decide) (TT_cons kw_913) rfl dX8_body_141 ?_
            refine G_aload_n hΓ 8 dX8_body_144 rfl ?_
            refine F_get hΓ (t := 18) (i := 0) (ci := 11) (C := RX8) (T := TX8) (N := 47) (fs8 (gl Γ) 0) (v := .int (u15 34)) (FMi hF (t := 18) (by decide)) (fun _ _ _ => rfl) rfl rfl rfl rfl inW8 34 (by decide) (TT_cons kw_914) rfl dX8_body_145 ?_
            refine G_iload hΓ 2 dX8_body_148 rfl ?_
            refine G_i2b hΓ dX8_body_150 ?_
            obtain ⟨hg22, hf⟩ := gd_some hf
            refine F_bast hΓ (t := 19) (i := 26) (f := (u16 26)) (σ' := (qM σ u15 (va_up u16 26 (upd (u16 26) ((u15 34).toNatClampNeg) (vp_nar .byte u13.toInt8.toInt32))))) (FMi hF (t := 19) (by decide)) (fun _ _ _ => rfl) rfl qM_m hg22 dX8_body_151 ?_
            refine G_aload_n hΓ 8 dX8_body_152 rfl ?_
            refine G_dup hΓ dX8_body_153 rfl ?_
            refine F_get hΓ (t := 18) (i := 0) (ci := 11) (C := RX8) (T := TX8) (N := 47) (fs8 (gl Γ) 0) (v := .int (u15 34)) (FMi hF (t := 18) (by decide)) (fun _ _ _ => rfl) rfl rfl rfl rfl inW8 34 (by decide) (TT_cons kw_914) rfl dX8_body_154 ?_
            refine G_iconst (v := 1) hΓ dX8_body_157 (by decide) ?_
            refine G_iadd hΓ dX8_body_158 ?_
            refine F_put hΓ (t := 18) (i := 0) (ci := 11) (C := RX8) (T := TX8) (N := 47) (fs8 (gl Γ) 0) (f := u15) (f' := (upd u15 34 ((u15 34) + 1))) (σ' := (qM σ (upd u15 34 ((u15 34) + 1)) (va_up u16 26 (upd (u16 26) ((u15 34).toNatClampNeg) (vp_nar .byte u13.toInt8.toInt32))))) (ty := .int) (v := .int ((u15 34) + 1)) tyX8 tyX8_ok nmX8 (FMi hF (t := 18) (by decide)) (fun _ _ _ => rfl) rfl qM_v rfl inW8 34 (by decide) (TT_cons kw_914) rfl (by decide +kernel) rfl rfl (fun _ _ => Nat.le_of_ble_eq_true rfl) (fun _ _ => rfl) dX8_body_159 ?_
            refine G_aload_n hΓ 8 dX8_body_162 rfl ?_
            refine F_get hΓ (t := 18) (i := 0) (ci := 11) (C := RX8) (T := TX8) (N := 47) (fs8 (gl Γ) 0) (v := .int ((u15 34) + 1)) (FMi hF (t := 18) (by decide)) (fun _ _ _ => rfl) rfl rfl rfl rfl inW8 34 (by decide) (TT_cons kw_914) rfl dX8_body_163 ?_
            refine G_bipush (v := 14) hΓ dX8_body_166 (by decide) ?_
            obtain ⟨k29, hk_k29, hf⟩ := jn_eq hf
            try dsimp only at hf
            have K30 : ∀ x23, k29 x23 = some (v', m', r9) → GG Γ (0, 0) (qM σ (upd u15 34 ((u15 34) + 1)) (va_up u16 26 (upd (u16 26) ((u15 34).toNatClampNeg) (vp_nar .byte u13.toInt8.toInt32)))) 184 [(3, .int u13), (4, .int x18), (9, .int u13), (8, .int v5), (7, .int v6), (6, .int x23), (5, .int v8), (2, .int v2), (0, .ref (ya (gl Γ) 18 0)), (1, .int p1)] [] := by
              intro x23 hf
              subst hk_k29
              try dsimp only at hf
              refine G_iload hΓ 5 dX8_body_184 rfl ?_
              obtain ⟨x31, he34, hf⟩ := lt_eq hf
              have K32 : GG Γ (0, 0) (qM σ (upd u15 34 ((u15 34) + 1)) (va_up u16 26 (upd (u16 26) ((u15 34).toNatClampNeg) (vp_nar .byte u13.toInt8.toInt32)))) 196 [(3, .int u13), (4, .int x18), (9, .int u13), (8, .int v5), (7, .int v6), (6, .int x23), (5, .int v8), (2, .int v2), (0, .ref (ya (gl Γ) 18 0)), (1, .int p1)] [.int x31] := by
                refine G_istore hΓ [(10, .int x31), (3, .int u13), (4, .int x18), (9, .int u13), (8, .int v5), (7, .int v6), (6, .int x23), (5, .int v8), (2, .int v2), (0, .ref (ya (gl Γ) 18 0)), (1, .int p1)] dX8_body_196 (by decide) rfl ?_
                refine G_aload_n hΓ 9 dX8_body_198 rfl ?_
                refine F_get hΓ (t := 18) (i := 0) (ci := 11) (C := RX8) (T := TX8) (N := 47) (fs8 (gl Γ) 0) (v := .int ((u15 34) + 1)) (FMi hF (t := 18) (by decide)) (fun _ _ _ => rfl) rfl rfl rfl rfl inW8 34 (by decide) (TT_cons kw_914) rfl dX8_body_199 ?_
                refine G_bipush (v := 13) hΓ dX8_body_202 (by decide) ?_
                obtain ⟨k41, hk_k41, hf⟩ := jn_eq hf
                try dsimp only at hf
                have K42 : ∀ x35, k41 x35 = some (v', m', r9) → GG Γ (0, 0) (qM σ (upd u15 34 ((u15 34) + 1)) (va_up u16 26 (upd (u16 26) ((u15 34).toNatClampNeg) (vp_nar .byte u13.toInt8.toInt32)))) 231 [(10, .int x31), (3, .int u13), (4, .int x18), (9, .int u13), (8, .int v5), (7, .int x35), (6, .int x23), (5, .int v8), (2, .int v2), (0, .ref (ya (gl Γ) 18 0)), (1, .int p1)] [] := by
                  intro x35 hf
                  subst hk_k41
                  try dsimp only at hf
                  refine G_aload_n hΓ 9 dX8_body_231 rfl ?_
                  refine F_get hΓ (t := 18) (i := 0) (ci := 11) (C := RX8) (T := TX8) (N := 47) (fs8 (gl Γ) 0) (v := .int ((u15 34) + 1)) (FMi hF (t := 18) (by decide)) (fun _ _ _ => rfl) rfl rfl rfl rfl inW8 34 (by decide) (TT_cons kw_914) rfl dX8_body_232 ?_
                  refine G_iload hΓ 0 dX8_body_235 rfl ?_
                  refine G_iconst (v := 2) hΓ dX8_body_237 (by decide) ?_
                  refine G_iadd hΓ dX8_body_238 ?_
                  refine G_icmp_ne hΓ (tgt := 255) dX8_body_239 (by decide) (fun hc114 => ?_) (fun hc114 => ?_)
                  · rw [if_neg hc114] at hf
                    refine G_iload hΓ 0 dX8_body_255 rfl ?_
                    refine G_iload hΓ 5 dX8_body_257 rfl ?_
                    obtain ⟨x43, he47, hf⟩ := lt_eq hf
                    have K44 : GG Γ (0, 0) (qM σ (upd u15 34 ((u15 34) + 1)) (va_up u16 26 (upd (u16 26) ((u15 34).toNatClampNeg) (vp_nar .byte u13.toInt8.toInt32)))) 278 [(10, .int x31), (3, .int u13), (4, .int x18), (9, .int u13), (8, .int v5), (7, .int x35), (6, .int x23), (5, .int v8), (2, .int v2), (0, .ref (ya (gl Γ) 18 0)), (1, .int p1)] [.int x43, .int x31] := by
                      refine G_iadd hΓ dX8_body_278 ?_
                      refine G_istore hΓ [(11, .int (x31 + x43)), (10, .int x31), (3, .int u13), (4, .int x18), (9, .int u13), (8, .int v5), (7, .int x35), (6, .int x23), (5, .int v8), (2, .int v2), (0, .ref (ya (gl Γ) 18 0)), (1, .int p1)] dX8_body_279 (by decide) rfl ?_
                      refine G_aload_n hΓ 10 dX8_body_281 rfl ?_
                      refine F_get hΓ (t := 18) (i := 0) (ci := 11) (C := RX8) (T := TX8) (N := 47) (fs8 (gl Γ) 0) (v := .int ((u15 34) + 1)) (FMi hF (t := 18) (by decide)) (fun _ _ _ => rfl) rfl rfl rfl rfl inW8 34 (by decide) (TT_cons kw_914) rfl dX8_body_282 ?_
                      refine G_iload hΓ 1 dX8_body_285 rfl ?_
                      obtain ⟨k50, hk_k50, hf⟩ := jn_eq hf
                      try dsimp only at hf
                      have K51 : ∀ x48 x49, k50 (x48, x49) = some (v', m', r9) → GG Γ (0, 0) (qM σ x49 (va_up u16 26 (upd (u16 26) ((u15 34).toNatClampNeg) (vp_nar .byte u13.toInt8.toInt32)))) 328 [(11, .int (x31 + x43)), (10, .int x31), (3, .int u13), (4, .int x18), (9, .int u13), (8, .int v5), (7, .int x35), (6, .int x23), (5, .int x48), (2, .int v2), (0, .ref (ya (gl Γ) 18 0)), (1, .int p1)] [] := by
                        intro x48 x49 hf
                        subst hk_k50
                        try dsimp only at hf
                        refine G_iload hΓ 6 dX8_body_328 rfl ?_
                        obtain ⟨x52, he58, hf⟩ := lt_eq hf
                        have K53 : GG Γ (0, 0) (qM σ x49 (va_up u16 26 (upd (u16 26) ((u15 34).toNatClampNeg) (vp_nar .byte u13.toInt8.toInt32)))) 373 [(11, .int (x31 + x43)), (10, .int x31), (3, .int u13), (4, .int x18), (9, .int u13), (8, .int v5), (7, .int x35), (6, .int x23), (5, .int x48), (2, .int v2), (0, .ref (ya (gl Γ) 18 0)), (1, .int p1)] [.int x52] := by
                          refine G_istore hΓ [(12, .int x52), (11, .int (x31 + x43)), (10, .int x31), (3, .int u13), (4, .int x18), (9, .int u13), (8, .int v5), (7, .int x35), (6, .int x23), (5, .int x48), (2, .int v2), (0, .ref (ya (gl Γ) 18 0)), (1, .int p1)] dX8_body_373 (by decide) rfl ?_
                          refine G_iload hΓ 0 dX8_body_375 rfl ?_
                          refine G_if_eq hΓ (tgt := 390) dX8_body_377 (by decide) (fun hc59 => ?_) (fun hc59 => ?_)
                          · rw [if_pos hc59] at hf
                            refine G_iinc hΓ 6 [(8, .int (v5 + 1)), (12, .int x52), (11, .int (x31 + x43)), (10, .int x31), (3, .int u13), (4, .int x18), (9, .int u13), (7, .int x35), (6, .int x23), (5, .int x48), (2, .int v2), (0, .ref (ya (gl Γ) 18 0)), (1, .int p1)] dX8_body_390 rfl rfl (by decide) rfl ?_
                            refine G_goto hΓ (tgt := 48) dX8_body_393 (by decide) ?_
                            exact G_loc [0, 7, 8, 9, 5, 4, 10, 11, 12] rfl (ih _ _ _ _ _ _ _ _ hf)
                          · rw [if_neg hc59] at hf
                            refine G_aload_n hΓ 11 dX8_body_380 rfl ?_
                            refine G_iload hΓ 6 dX8_body_381 rfl ?_
                            refine G_iconst (v := 1) hΓ dX8_body_383 (by decide) ?_
                            refine G_iadd hΓ dX8_body_384 ?_
                            refine F_put hΓ (t := 18) (i := 0) (ci := 11) (C := RX8) (T := TX8) (N := 47) (fs8 (gl Γ) 0) (f := x49) (f' := (upd x49 45 (v5 + 1))) (σ' := (qM σ (upd x49 45 (v5 + 1)) (va_up u16 26 (upd (u16 26) ((u15 34).toNatClampNeg) (vp_nar .byte u13.toInt8.toInt32))))) (ty := .int) (v := .int (v5 + 1)) tyX8 tyX8_ok nmX8 (FMi hF (t := 18) (by decide)) (fun _ _ _ => rfl) rfl qM_v rfl inW8 45 (by decide) (TT_cons kw_925) rfl (by decide +kernel) rfl rfl (fun _ _ => Nat.le_of_ble_eq_true rfl) (fun _ _ => rfl) dX8_body_385 ?_
                            refine G_iconst (v := (-1)) hΓ dX8_body_388 (by decide) ?_
                            cases hf
                            exact G_iret hΓ hE dX8_body_389
                        have he := he58
                        refine G_if_eq hΓ (tgt := 350) dX8_body_330 (by decide) (fun hc57 => ?_) (fun hc57 => ?_)
                        · rw [if_pos hc57] at he
                          refine G_aload_n hΓ 10 dX8_body_350 rfl ?_
                          refine F_get hΓ (t := 18) (i := 0) (ci := 11) (C := RX8) (T := TX8) (N := 47) (fs8 (gl Γ) 0) (v := .int (x49 34)) (FMi hF (t := 18) (by decide)) (fun _ _ _ => rfl) rfl rfl rfl rfl inW8 34 (by decide) (TT_cons kw_914) rfl dX8_body_351 ?_
                          refine G_iload hΓ 8 dX8_body_354 rfl ?_
                          refine G_bipush (v := 15) hΓ dX8_body_356 (by decide) ?_
                          refine G_iadd hΓ dX8_body_358 ?_
                          refine G_icmp_ne hΓ (tgt := 372) dX8_body_359 (by decide) (fun hc55 => ?_) (fun hc55 => ?_)
                          · rw [if_neg hc55] at he
                            refine G_iconst (v := 0) hΓ dX8_body_372 (by decide) ?_
                            subst he
                            exact K53
                          · rw [if_pos hc55] at he
                            refine G_iload hΓ 3 dX8_body_362 rfl ?_
                            refine G_iconst (v := 5) hΓ dX8_body_364 (by decide) ?_
                            refine G_icmp_ge hΓ (tgt := 372) dX8_body_365 (by decide) (fun hc54 => ?_) (fun hc54 => ?_)
                            · rw [if_pos hc54] at he
                              refine G_iconst (v := 0) hΓ dX8_body_372 (by decide) ?_
                              subst he
                              exact K53
                            · rw [if_neg hc54] at he
                              refine G_iconst (v := 1) hΓ dX8_body_368 (by decide) ?_
                              refine G_goto hΓ (tgt := 373) dX8_body_369 (by decide) ?_
                              subst he
                              exact K53
                        · rw [if_neg hc57] at he
                          refine G_aload_n hΓ 10 dX8_body_333 rfl ?_
                          refine F_get hΓ (t := 18) (i := 0) (ci := 11) (C := RX8) (T := TX8) (N := 47) (fs8 (gl Γ) 0) (v := .int (x49 34)) (FMi hF (t := 18) (by decide)) (fun _ _ _ => rfl) rfl rfl rfl rfl inW8 34 (by decide) (TT_cons kw_914) rfl dX8_body_334 ?_
                          refine G_iload hΓ 8 dX8_body_337 rfl ?_
                          refine G_icmp_ne hΓ (tgt := 346) dX8_body_339 (by decide) (fun hc56 => ?_) (fun hc56 => ?_)
                          · rw [if_neg hc56] at he
                            refine G_iconst (v := 0) hΓ dX8_body_346 (by decide) ?_
                            refine G_goto hΓ (tgt := 373) dX8_body_347 (by decide) ?_
                            subst he
                            exact K53
                          · rw [if_pos hc56] at he
                            refine G_iconst (v := 1) hΓ dX8_body_342 (by decide) ?_
                            refine G_goto hΓ (tgt := 373) dX8_body_343 (by decide) ?_
                            subst he
                            exact K53
                      clear hk_k50
                      refine G_icmp_le hΓ (tgt := 328) dX8_body_287 (by decide) (fun hc65 => ?_) (fun hc65 => ?_)
                      · rw [if_pos hc65] at hf
                        exact K51 _ _ hf
                      · rw [if_neg hc65] at hf
                        refine G_aload_n hΓ 10 dX8_body_290 rfl ?_
                        refine F_get hΓ (t := 18) (i := 0) (ci := 11) (C := RX8) (T := TX8) (N := 47) (fs8 (gl Γ) 0) (v := .int ((u15 34) + 1)) (FMi hF (t := 18) (by decide)) (fun _ _ _ => rfl) rfl rfl rfl rfl inW8 34 (by decide) (TT_cons kw_914) rfl dX8_body_291 ?_
                        refine G_iload hΓ 0 dX8_body_294 rfl ?_
                        refine G_icmp_ne hΓ (tgt := 328) dX8_body_296 (by decide) (fun hc64 => ?_) (fun hc64 => ?_)
                        · rw [if_neg hc64] at hf
                          exact K51 _ _ hf
                        · rw [if_pos hc64] at hf
                          refine G_aload_n hΓ 10 dX8_body_299 rfl ?_
                          refine G_iload hΓ 7 dX8_body_300 rfl ?_
                          refine G_iload hΓ 6 dX8_body_302 rfl ?_
                          refine G_iload hΓ 0 dX8_body_304 rfl ?_
                          obtain ⟨u60, hc61, hf⟩ := bd_some hf
                          refine G_callV hΓ (n := 3) (As := [.int x23, .int x35, .int (x31 + x43)]) (t := 18) (i := 0) (ci := 11) (T := TX8) (N := 47) (FS := fs8 (gl Γ) 0) (σ' := (qM σ u60 (va_up u16 26 (upd (u16 26) ((u15 34).toNatClampNeg) (vp_nar .byte u13.toInt8.toInt32))))) (c_X8_find (gL Γ) (gl Γ) hF σ  (upd u15 34 ((u15 34) + 1)) (va_up u16 26 (upd (u16 26) ((u15 34).toNatClampNeg) (vp_nar .byte u13.toInt8.toInt32))) x23 x35 (x31 + x43)  hc61) rfl rfl kw_1132 kw_1134 kp_44 kw_9 kw_1135 ⟨rfl, by decide, by decide, by decide +kernel⟩ (FMi hF (t := 18) (by decide)) (fun _ _ _ => rfl) rfl rfl rfl ⟨Nat.le_of_ble_eq_true rfl, Nat.le_of_ble_eq_true rfl⟩ rfl (Nat.le_of_ble_eq_true rfl) dX8_body_306 ⟨_, rfl⟩ rfl ?_
                          refine G_iload hΓ 0 dX8_body_309 rfl ?_
                          refine G_bipush (v := 8) hΓ dX8_body_311 (by decide) ?_
                          refine G_aload_n hΓ 10 dX8_body_313 rfl ?_
                          refine F_get hΓ (t := 18) (i := 0) (ci := 11) (C := RX8) (T := TX8) (N := 47) (fs8 (gl Γ) 0) (v := .int (u60 42)) (FMi hF (t := 18) (by decide)) (fun _ _ _ => rfl) rfl rfl rfl rfl inW8 42 (by decide) (TT_cons kw_922) rfl dX8_body_314 ?_
                          refine G_aload_n hΓ 10 dX8_body_317 rfl ?_
                          refine F_get hΓ (t := 18) (i := 0) (ci := 11) (C := RX8) (T := TX8) (N := 47) (fs8 (gl Γ) 0) (v := .int (u60 43)) (FMi hF (t := 18) (by decide)) (fun _ _ _ => rfl) rfl rfl rfl rfl inW8 43 (by decide) (TT_cons kw_923) rfl dX8_body_318 ?_
                          obtain ⟨u62, hc63, hf⟩ := bd_some hf
                          refine G_callS hΓ (n := 2) (As := [.int (u60 42), .int (u60 43)]) (σ' := (qM σ u60 (va_up u16 26 (upd (u16 26) ((u15 34).toNatClampNeg) (vp_nar .byte u13.toInt8.toInt32))))) (c_X8_octetsOf (gL Γ) (gl Γ) hF (qM σ u60 (va_up u16 26 (upd (u16 26) ((u15 34).toNatClampNeg) (vp_nar .byte u13.toInt8.toInt32))))   (u60 42) (u60 43)  hc63) rfl rfl kw_1048 kw_1049 kw_9 kw_1050 ⟨by decide, by decide, by decide +kernel⟩ rfl rfl ⟨Nat.le_of_ble_eq_true rfl, Nat.le_of_ble_eq_true rfl⟩ rfl (Nat.le_of_ble_eq_true rfl) dX8_body_321 ⟨_, rfl⟩ rfl ?_
                          refine G_imul hΓ dX8_body_324 ?_
                          refine G_iadd hΓ dX8_body_325 ?_
                          refine G_istore hΓ [(5, .int ((x31 + x43) + (8 * u62))), (11, .int (x31 + x43)), (10, .int x31), (3, .int u13), (4, .int x18), (9, .int u13), (8, .int v5), (7, .int x35), (6, .int x23), (2, .int v2), (0, .ref (ya (gl Γ) 18 0)), (1, .int p1)] dX8_body_326 (by decide) rfl ?_
                          exact G_loc [1, 2, 3, 4, 5, 6, 7, 8, 0, 9, 10, 11] rfl (K51 _ _ hf)
                    have he := he47
                    refine G_if_eq hΓ (tgt := 267) dX8_body_259 (by decide) (fun hc46 => ?_) (fun hc46 => ?_)
                    · rw [if_pos hc46] at he
                      refine G_iload hΓ 6 dX8_body_267 rfl ?_
                      refine G_if_eq hΓ (tgt := 277) dX8_body_269 (by decide) (fun hc45 => ?_) (fun hc45 => ?_)
                      · rw [if_pos hc45] at he
                        refine G_iconst (v := 5) hΓ dX8_body_277 (by decide) ?_
                        subst he
                        exact K44
                      · rw [if_neg hc45] at he
                        refine G_bipush (v := 6) hΓ dX8_body_272 (by decide) ?_
                        refine G_goto hΓ (tgt := 278) dX8_body_274 (by decide) ?_
                        subst he
                        exact K44
                    · rw [if_neg hc46] at he
                      refine G_bipush (v := 8) hΓ dX8_body_262 (by decide) ?_
                      refine G_goto hΓ (tgt := 278) dX8_body_264 (by decide) ?_
                      subst he
                      exact K44
                  · rw [if_pos hc114] at hf
                    refine G_iload hΓ 5 dX8_body_242 rfl ?_
                    refine G_if_eq hΓ (tgt := 255) dX8_body_244 (by decide) (fun hc113 => ?_) (fun hc113 => ?_)
                    · rw [if_pos hc113] at hf
                      refine G_iload hΓ 0 dX8_body_255 rfl ?_
                      refine G_iload hΓ 5 dX8_body_257 rfl ?_
                      obtain ⟨x66, he70, hf⟩ := lt_eq hf
                      have K67 : GG Γ (0, 0) (qM σ (upd u15 34 ((u15 34) + 1)) (va_up u16 26 (upd (u16 26) ((u15 34).toNatClampNeg) (vp_nar .byte u13.toInt8.toInt32)))) 278 [(10, .int x31), (3, .int u13), (4, .int x18), (9, .int u13), (8, .int v5), (7, .int x35), (6, .int x23), (5, .int v8), (2, .int v2), (0, .ref (ya (gl Γ) 18 0)), (1, .int p1)] [.int x66, .int x31] := by
                        refine G_iadd hΓ dX8_body_278 ?_
                        refine G_istore hΓ [(11, .int (x31 + x66)), (10, .int x31), (3, .int u13), (4, .int x18), (9, .int u13), (8, .int v5), (7, .int x35), (6, .int x23), (5, .int v8), (2, .int v2), (0, .ref (ya (gl Γ) 18 0)), (1, .int p1)] dX8_body_279 (by decide) rfl ?_
                        refine G_aload_n hΓ 10 dX8_body_281 rfl ?_
                        refine F_get hΓ (t := 18) (i := 0) (ci := 11) (C := RX8) (T := TX8) (N := 47) (fs8 (gl Γ) 0) (v := .int ((u15 34) + 1)) (FMi hF (t := 18) (by decide)) (fun _ _ _ => rfl) rfl rfl rfl rfl inW8 34 (by decide) (TT_cons kw_914) rfl dX8_body_282 ?_
                        refine G_iload hΓ 1 dX8_body_285 rfl ?_
                        obtain ⟨k73, hk_k73, hf⟩ := jn_eq hf
                        try dsimp only at hf
                        have K74 : ∀ x71 x72, k73 (x71, x72) = some (v', m', r9) → GG Γ (0, 0) (qM σ x72 (va_up u16 26 (upd (u16 26) ((u15 34).toNatClampNeg) (vp_nar .byte u13.toInt8.toInt32)))) 328 [(11, .int (x31 + x66)), (10, .int x31), (3, .int u13), (4, .int x18), (9, .int u13), (8, .int v5), (7, .int x35), (6, .int x23), (5, .int x71), (2, .int v2), (0, .ref (ya (gl Γ) 18 0)), (1, .int p1)] [] := by
                          intro x71 x72 hf
                          subst hk_k73
                          try dsimp only at hf
                          refine G_iload hΓ 6 dX8_body_328 rfl ?_
                          obtain ⟨x75, he81, hf⟩ := lt_eq hf
                          have K76 : GG Γ (0, 0) (qM σ x72 (va_up u16 26 (upd (u16 26) ((u15 34).toNatClampNeg) (vp_nar .byte u13.toInt8.toInt32)))) 373 [(11, .int (x31 + x66)), (10, .int x31), (3, .int u13), (4, .int x18), (9, .int u13), (8, .int v5), (7, .int x35), (6, .int x23), (5, .int x71), (2, .int v2), (0, .ref (ya (gl Γ) 18 0)), (1, .int p1)] [.int x75] := by
                            refine G_istore hΓ [(12, .int x75), (11, .int (x31 + x66)), (10, .int x31), (3, .int u13), (4, .int x18), (9, .int u13), (8, .int v5), (7, .int x35), (6, .int x23), (5, .int x71), (2, .int v2), (0, .ref (ya (gl Γ) 18 0)), (1, .int p1)] dX8_body_373 (by decide) rfl ?_
                            refine G_iload hΓ 0 dX8_body_375 rfl ?_
                            refine G_if_eq hΓ (tgt := 390) dX8_body_377 (by decide) (fun hc82 => ?_) (fun hc82 => ?_)
                            · rw [if_pos hc82] at hf
                              refine G_iinc hΓ 6 [(8, .int (v5 + 1)), (12, .int x75), (11, .int (x31 + x66)), (10, .int x31), (3, .int u13), (4, .int x18), (9, .int u13), (7, .int x35), (6, .int x23), (5, .int x71), (2, .int v2), (0, .ref (ya (gl Γ) 18 0)), (1, .int p1)] dX8_body_390 rfl rfl (by decide) rfl ?_
                              refine G_goto hΓ (tgt := 48) dX8_body_393 (by decide) ?_
                              exact G_loc [0, 7, 8, 9, 5, 4, 10, 11, 12] rfl (ih _ _ _ _ _ _ _ _ hf)
                            · rw [if_neg hc82] at hf
                              refine G_aload_n hΓ 11 dX8_body_380 rfl ?_
                              refine G_iload hΓ 6 dX8_body_381 rfl ?_
                              refine G_iconst (v := 1) hΓ dX8_body_383 (by decide) ?_
                              refine G_iadd hΓ dX8_body_384 ?_
                              refine F_put hΓ (t := 18) (i := 0) (ci := 11) (C := RX8) (T := TX8) (N := 47) (fs8 (gl Γ) 0) (f := x72) (f' := (upd x72 45 (v5 + 1))) (σ' := (qM σ (upd x72 45 (v5 + 1)) (va_up u16 26 (upd (u16 26) ((u15 34).toNatClampNeg) (vp_nar .byte u13.toInt8.toInt32))))) (ty := .int) (v := .int (v5 + 1)) tyX8 tyX8_ok nmX8 (FMi hF (t := 18) (by decide)) (fun _ _ _ => rfl) rfl qM_v rfl inW8 45 (by decide) (TT_cons kw_925) rfl (by decide +kernel) rfl rfl (fun _ _ => Nat.le_of_ble_eq_true rfl) (fun _ _ => rfl) dX8_body_385 ?_
                              refine G_iconst (v := (-1)) hΓ dX8_body_388 (by decide) ?_
                              cases hf
                              exact G_iret hΓ hE dX8_body_389
                          have he := he81
                          refine G_if_eq hΓ (tgt := 350) dX8_body_330 (by decide) (fun hc80 => ?_) (fun hc80 => ?_)
                          · rw [if_pos hc80] at he
                            refine G_aload_n hΓ 10 dX8_body_350 rfl ?_
                            refine F_get hΓ (t := 18) (i := 0) (ci := 11) (C := RX8) (T := TX8) (N := 47) (fs8 (gl Γ) 0) (v := .int (x72 34)) (FMi hF (t := 18) (by decide)) (fun _ _ _ => rfl) rfl rfl rfl rfl inW8 34 (by decide) (TT_cons kw_914) rfl dX8_body_351 ?_
                            refine G_iload hΓ 8 dX8_body_354 rfl ?_
                            refine G_bipush (v := 15) hΓ dX8_body_356 (by decide) ?_
                            refine G_iadd hΓ dX8_body_358 ?_
                            refine G_icmp_ne hΓ (tgt := 372) dX8_body_359 (by decide) (fun hc78 => ?_) (fun hc78 => ?_)
                            · rw [if_neg hc78] at he
                              refine G_iconst (v := 0) hΓ dX8_body_372 (by decide) ?_
                              subst he
                              exact K76
                            · rw [if_pos hc78] at he
                              refine G_iload hΓ 3 dX8_body_362 rfl ?_
                              refine G_iconst (v := 5) hΓ dX8_body_364 (by decide) ?_
                              refine G_icmp_ge hΓ (tgt := 372) dX8_body_365 (by decide) (fun hc77 => ?_) (fun hc77 => ?_)
                              · rw [if_pos hc77] at he
                                refine G_iconst (v := 0) hΓ dX8_body_372 (by decide) ?_
                                subst he
                                exact K76
                              · rw [if_neg hc77] at he
                                refine G_iconst (v := 1) hΓ dX8_body_368 (by decide) ?_
                                refine G_goto hΓ (tgt := 373) dX8_body_369 (by decide) ?_
                                subst he
                                exact K76
                          · rw [if_neg hc80] at he
                            refine G_aload_n hΓ 10 dX8_body_333 rfl ?_
                            refine F_get hΓ (t := 18) (i := 0) (ci := 11) (C := RX8) (T := TX8) (N := 47) (fs8 (gl Γ) 0) (v := .int (x72 34)) (FMi hF (t := 18) (by decide)) (fun _ _ _ => rfl) rfl rfl rfl rfl inW8 34 (by decide) (TT_cons kw_914) rfl dX8_body_334 ?_
                            refine G_iload hΓ 8 dX8_body_337 rfl ?_
                            refine G_icmp_ne hΓ (tgt := 346) dX8_body_339 (by decide) (fun hc79 => ?_) (fun hc79 => ?_)
                            · rw [if_neg hc79] at he
                              refine G_iconst (v := 0) hΓ dX8_body_346 (by decide) ?_
                              refine G_goto hΓ (tgt := 373) dX8_body_347 (by decide) ?_
                              subst he
                              exact K76
                            · rw [if_pos hc79] at he
                              refine G_iconst (v := 1) hΓ dX8_body_342 (by decide) ?_
                              refine G_goto hΓ (tgt := 373) dX8_body_343 (by decide) ?_
                              subst he
                              exact K76
                        clear hk_k73
                        refine G_icmp_le hΓ (tgt := 328) dX8_body_287 (by decide) (fun hc88 => ?_) (fun hc88 => ?_)
                        · rw [if_pos hc88] at hf
                          exact K74 _ _ hf
                        · rw [if_neg hc88] at hf
                          refine G_aload_n hΓ 10 dX8_body_290 rfl ?_
                          refine F_get hΓ (t := 18) (i := 0) (ci := 11) (C := RX8) (T := TX8) (N := 47) (fs8 (gl Γ) 0) (v := .int ((u15 34) + 1)) (FMi hF (t := 18) (by decide)) (fun _ _ _ => rfl) rfl rfl rfl rfl inW8 34 (by decide) (TT_cons kw_914) rfl dX8_body_291 ?_
                          refine G_iload hΓ 0 dX8_body_294 rfl ?_
                          refine G_icmp_ne hΓ (tgt := 328) dX8_body_296 (by decide) (fun hc87 => ?_) (fun hc87 => ?_)
                          · rw [if_neg hc87] at hf
                            exact K74 _ _ hf
                          · rw [if_pos hc87] at hf
                            refine G_aload_n hΓ 10 dX8_body_299 rfl ?_
                            refine G_iload hΓ 7 dX8_body_300 rfl ?_
                            refine G_iload hΓ 6 dX8_body_302 rfl ?_
                            refine G_iload hΓ 0 dX8_body_304 rfl ?_
                            obtain ⟨u83, hc84, hf⟩ := bd_some hf
                            refine G_callV hΓ (n := 3) (As := [.int x23, .int x35, .int (x31 + x66)]) (t := 18) (i := 0) (ci := 11) (T := TX8) (N := 47) (FS := fs8 (gl Γ) 0) (σ' := (qM σ u83 (va_up u16 26 (upd (u16 26) ((u15 34).toNatClampNeg) (vp_nar .byte u13.toInt8.toInt32))))) (c_X8_find (gL Γ) (gl Γ) hF σ  (upd u15 34 ((u15 34) + 1)) (va_up u16 26 (upd (u16 26) ((u15 34).toNatClampNeg) (vp_nar .byte u13.toInt8.toInt32))) x23 x35 (x31 + x66)  hc84) rfl rfl kw_1132 kw_1134 kp_44 kw_9 kw_1135 ⟨rfl, by decide, by decide, by decide +kernel⟩ (FMi hF (t := 18) (by decide)) (fun _ _ _ => rfl) rfl rfl rfl ⟨Nat.le_of_ble_eq_true rfl, Nat.le_of_ble_eq_true rfl⟩ rfl (Nat.le_of_ble_eq_true rfl) dX8_body_306 ⟨_, rfl⟩ rfl ?_
                            refine G_iload hΓ 0 dX8_body_309 rfl ?_
                            refine G_bipush (v := 8) hΓ dX8_body_311 (by decide) ?_
                            refine G_aload_n hΓ 10 dX8_body_313 rfl ?_
                            refine F_get hΓ (t := 18) (i := 0) (ci := 11) (C := RX8) (T := TX8) (N := 47) (fs8 (gl Γ) 0) (v := .int (u83 42)) (FMi hF (t := 18) (by decide)) (fun _ _ _ => rfl) rfl rfl rfl rfl inW8 42 (by decide) (TT_cons kw_922) rfl dX8_body_314 ?_
                            refine G_aload_n hΓ 10 dX8_body_317 rfl ?_
                            refine F_get hΓ (t := 18) (i := 0) (ci := 11) (C := RX8) (T := TX8) (N := 47) (fs8 (gl Γ) 0) (v := .int (u83 43)) (FMi hF (t := 18) (by decide)) (fun _ _ _ => rfl) rfl rfl rfl rfl inW8 43 (by decide) (TT_cons kw_923) rfl dX8_body_318 ?_
                            obtain ⟨u85, hc86, hf⟩ := bd_some hf
                            refine G_callS hΓ (n := 2) (As := [.int (u83 42), .int (u83 43)]) (σ' := (qM σ u83 (va_up u16 26 (upd (u16 26) ((u15 34).toNatClampNeg) (vp_nar .byte u13.toInt8.toInt32))))) (c_X8_octetsOf (gL Γ) (gl Γ) hF (qM σ u83 (va_up u16 26 (upd (u16 26) ((u15 34).toNatClampNeg) (vp_nar .byte u13.toInt8.toInt32))))   (u83 42) (u83 43)  hc86) rfl rfl kw_1048 kw_1049 kw_9 kw_1050 ⟨by decide, by decide, by decide +kernel⟩ rfl rfl ⟨Nat.le_of_ble_eq_true rfl, Nat.le_of_ble_eq_true rfl⟩ rfl (Nat.le_of_ble_eq_true rfl) dX8_body_321 ⟨_, rfl⟩ rfl ?_
                            refine G_imul hΓ dX8_body_324 ?_
                            refine G_iadd hΓ dX8_body_325 ?_
                            refine G_istore hΓ [(5, .int ((x31 + x66) + (8 * u85))), (11, .int (x31 + x66)), (10, .int x31), (3, .int u13), (4, .int x18), (9, .int u13), (8, .int v5), (7, .int x35), (6, .int x23), (2, .int v2), (0, .ref (ya (gl Γ) 18 0)), (1, .int p1)] dX8_body_326 (by decide) rfl ?_
                            exact G_loc [1, 2, 3, 4, 5, 6, 7, 8, 0, 9, 10, 11] rfl (K74 _ _ hf)
                      have he := he70
                      refine G_if_eq hΓ (tgt := 267) dX8_body_259 (by decide) (fun hc69 => ?_) (fun hc69 => ?_)
                      · rw [if_pos hc69] at he
                        refine G_iload hΓ 6 dX8_body_267 rfl ?_
                        refine G_if_eq hΓ (tgt := 277) dX8_body_269 (by decide) (fun hc68 => ?_) (fun hc68 => ?_)
                        · rw [if_pos hc68] at he
                          refine G_iconst (v := 5) hΓ dX8_body_277 (by decide) ?_
                          subst he
                          exact K67
                        · rw [if_neg hc68] at he
                          refine G_bipush (v := 6) hΓ dX8_body_272 (by decide) ?_
                          refine G_goto hΓ (tgt := 278) dX8_body_274 (by decide) ?_
                          subst he
                          exact K67
                      · rw [if_neg hc69] at he
                        refine G_bipush (v := 8) hΓ dX8_body_262 (by decide) ?_
                        refine G_goto hΓ (tgt := 278) dX8_body_264 (by decide) ?_
                        subst he
                        exact K67
                    · rw [if_neg hc113] at hf
                      refine G_iload hΓ 3 dX8_body_247 rfl ?_
                      refine G_iconst (v := 1) hΓ dX8_body_249 (by decide) ?_
                      refine G_icmp_ne hΓ (tgt := 255) dX8_body_250 (by decide) (fun hc112 => ?_) (fun hc112 => ?_)
                      · rw [if_neg hc112] at hf
                        refine G_iload hΓ 0 dX8_body_255 rfl ?_
                        refine G_iload hΓ 5 dX8_body_257 rfl ?_
                        obtain ⟨x89, he93, hf⟩ := lt_eq hf
                        have K90 : GG Γ (0, 0) (qM σ (upd u15 34 ((u15 34) + 1)) (va_up u16 26 (upd (u16 26) ((u15 34).toNatClampNeg) (vp_nar .byte u13.toInt8.toInt32)))) 278 [(10, .int x31), (3, .int u13), (4, .int x18), (9, .int u13), (8, .int v5), (7, .int x35), (6, .int x23), (5, .int v8), (2, .int v2), (0, .ref (ya (gl Γ) 18 0)), (1, .int p1)] [.int x89, .int x31] := by
                          refine G_iadd hΓ dX8_body_278 ?_
                          refine G_istore hΓ [(11, .int (x31 + x89)), (10, .int x31), (3, .int u13), (4, .int x18), (9, .int u13), (8, .int v5), (7, .int x35), (6, .int x23), (5, .int v8), (2, .int v2), (0, .ref (ya (gl Γ) 18 0)), (1, .int p1)] dX8_body_279 (by decide) rfl ?_
                          refine G_aload_n hΓ 10 dX8_body_281 rfl ?_
                          refine F_get hΓ (t := 18) (i := 0) (ci := 11) (C := RX8) (T := TX8) (N := 47) (fs8 (gl Γ) 0) (v := .int ((u15 34) + 1)) (FMi hF (t := 18) (by decide)) (fun _ _ _ => rfl) rfl rfl rfl rfl inW8 34 (by decide) (TT_cons kw_914) rfl dX8_body_282 ?_
                          refine G_iload hΓ 1 dX8_body_285 rfl ?_
                          obtain ⟨k96, hk_k96, hf⟩ := jn_eq hf
                          try dsimp only at hf
                          have K97 : ∀ x94 x95, k96 (x94, x95) = some (v', m', r9) → GG Γ (0, 0) (qM σ x95 (va_up u16 26 (upd (u16 26) ((u15 34).toNatClampNeg) (vp_nar .byte u13.toInt8.toInt32)))) 328 [(11, .int (x31 + x89)), (10, .int x31), (3, .int u13), (4, .int x18), (9, .int u13), (8, .int v5), (7, .int x35), (6, .int x23), (5, .int x94), (2, .int v2), (0, .ref (ya (gl Γ) 18 0)), (1, .int p1)] [] := by
                            intro x94 x95 hf
                            subst hk_k96
                            try dsimp only at hf
                            refine G_iload hΓ 6 dX8_body_328 rfl ?_
                            obtain ⟨x98, he104, hf⟩ := lt_eq hf
                            have K99 : GG Γ (0, 0) (qM σ x95 (va_up u16 26 (upd (u16 26) ((u15 34).toNatClampNeg) (vp_nar .byte u13.toInt8.toInt32)))) 373 [(11, .int (x31 + x89)), (10, .int x31), (3, .int u13), (4, .int x18), (9, .int u13), (8, .int v5), (7, .int x35), (6, .int x23), (5, .int x94), (2, .int v2), (0, .ref (ya (gl Γ) 18 0)), (1, .int p1)] [.int x98] := by
                              refine G_istore hΓ [(12, .int x98), (11, .int (x31 + x89)), (10, .int x31), (3, .int u13), (4, .int x18), (9, .int u13), (8, .int v5), (7, .int x35), (6, .int x23), (5, .int x94), (2, .int v2), (0, .ref (ya (gl Γ) 18 0)), (1, .int p1)] dX8_body_373 (by decide) rfl ?_
                              refine G_iload hΓ 0 dX8_body_375 rfl ?_
                              refine G_if_eq hΓ (tgt := 390) dX8_body_377 (by decide) (fun hc105 => ?_) (fun hc105 => ?_)
                              · rw [if_pos hc105] at hf
                                refine G_iinc hΓ 6 [(8, .int (v5 + 1)), (12, .int x98), (11, .int (x31 + x89)), (10, .int x31), (3, .int u13), (4, .int x18), (9, .int u13), (7, .int x35), (6, .int x23), (5, .int x94), (2, .int v2), (0, .ref (ya (gl Γ) 18 0)), (1, .int p1)] dX8_body_390 rfl rfl (by decide) rfl ?_
                                refine G_goto hΓ (tgt := 48) dX8_body_393 (by decide) ?_
                                exact G_loc [0, 7, 8, 9, 5, 4, 10, 11, 12] rfl (ih _ _ _ _ _ _ _ _ hf)
                              · rw [if_neg hc105] at hf
                                refine G_aload_n hΓ 11 dX8_body_380 rfl ?_
                                refine G_iload hΓ 6 dX8_body_381 rfl ?_
                                refine G_iconst (v := 1) hΓ dX8_body_383 (by decide) ?_
                                refine G_iadd hΓ dX8_body_384 ?_
                                refine F_put hΓ (t := 18) (i := 0) (ci := 11) (C := RX8) (T := TX8) (N := 47) (fs8 (gl Γ) 0) (f := x95) (f' := (upd x95 45 (v5 + 1))) (σ' := (qM σ (upd x95 45 (v5 + 1)) (va_up u16 26 (upd (u16 26) ((u15 34).toNatClampNeg) (vp_nar .byte u13.toInt8.toInt32))))) (ty := .int) (v := .int (v5 + 1)) tyX8 tyX8_ok nmX8 (FMi hF (t := 18) (by decide)) (fun _ _ _ => rfl) rfl qM_v rfl inW8 45 (by decide) (TT_cons kw_925) rfl (by decide +kernel) rfl rfl (fun _ _ => Nat.le_of_ble_eq_true rfl) (fun _ _ => rfl) dX8_body_385 ?_
                                refine G_iconst (v := (-1)) hΓ dX8_body_388 (by decide) ?_
                                cases hf
                                exact G_iret hΓ hE dX8_body_389
                            have he := he104
                            refine G_if_eq hΓ (tgt := 350) dX8_body_330 (by decide) (fun hc103 => ?_) (fun hc103 => ?_)
                            · rw [if_pos hc103] at he
                              refine G_aload_n hΓ 10 dX8_body_350 rfl ?_
                              refine F_get hΓ (t := 18) (i := 0) (ci := 11) (C := RX8) (T := TX8) (N := 47) (fs8 (gl Γ) 0) (v := .int (x95 34)) (FMi hF (t := 18) (by decide)) (fun _ _ _ => rfl) rfl rfl rfl rfl inW8 34 (by decide) (TT_cons kw_914) rfl dX8_body_351 ?_
                              refine G_iload hΓ 8 dX8_body_354 rfl ?_
                              refine G_bipush (v := 15) hΓ dX8_body_356 (by decide) ?_
                              refine G_iadd hΓ dX8_body_358 ?_
                              refine G_icmp_ne hΓ (tgt := 372) dX8_body_359 (by decide) (fun hc101 => ?_) (fun hc101 => ?_)
                              · rw [if_neg hc101] at he
                                refine G_iconst (v := 0) hΓ dX8_body_372 (by decide) ?_
                                subst he
                                exact K99
                              · rw [if_pos hc101] at he
                                refine G_iload hΓ 3 dX8_body_362 rfl ?_
                                refine G_iconst (v := 5) hΓ dX8_body_364 (by decide) ?_
                                refine G_icmp_ge hΓ (tgt := 372) dX8_body_365 (by decide) (fun hc100 => ?_) (fun hc100 => ?_)
                                · rw [if_pos hc100] at he
                                  refine G_iconst (v := 0) hΓ dX8_body_372 (by decide) ?_
                                  subst he
                                  exact K99
                                · rw [if_neg hc100] at he
                                  refine G_iconst (v := 1) hΓ dX8_body_368 (by decide) ?_
                                  refine G_goto hΓ (tgt := 373) dX8_body_369 (by decide) ?_
                                  subst he
                                  exact K99
                            · rw [if_neg hc103] at he
                              refine G_aload_n hΓ 10 dX8_body_333 rfl ?_
                              refine F_get hΓ (t := 18) (i := 0) (ci := 11) (C := RX8) (T := TX8) (N := 47) (fs8 (gl Γ) 0) (v := .int (x95 34)) (FMi hF (t := 18) (by decide)) (fun _ _ _ => rfl) rfl rfl rfl rfl inW8 34 (by decide) (TT_cons kw_914) rfl dX8_body_334 ?_
                              refine G_iload hΓ 8 dX8_body_337 rfl ?_
                              refine G_icmp_ne hΓ (tgt := 346) dX8_body_339 (by decide) (fun hc102 => ?_) (fun hc102 => ?_)
                              · rw [if_neg hc102] at he
                                refine G_iconst (v := 0) hΓ dX8_body_346 (by decide) ?_
                                refine G_goto hΓ (tgt := 373) dX8_body_347 (by decide) ?_
                                subst he
                                exact K99
                              · rw [if_pos hc102] at he
                                refine G_iconst (v := 1) hΓ dX8_body_342 (by decide) ?_
                                refine G_goto hΓ (tgt := 373) dX8_body_343 (by decide) ?_
                                subst he
                                exact K99
                          clear hk_k96
                          refine G_icmp_le hΓ (tgt := 328) dX8_body_287 (by decide) (fun hc111 => ?_) (fun hc111 => ?_)
                          · rw [if_pos hc111] at hf
                            exact K97 _ _ hf
                          · rw [if_neg hc111] at hf
                            refine G_aload_n hΓ 10 dX8_body_290 rfl ?_
                            refine F_get hΓ (t := 18) (i := 0) (ci := 11) (C := RX8) (T := TX8) (N := 47) (fs8 (gl Γ) 0) (v := .int ((u15 34) + 1)) (FMi hF (t := 18) (by decide)) (fun _ _ _ => rfl) rfl rfl rfl rfl inW8 34 (by decide) (TT_cons kw_914) rfl dX8_body_291 ?_
                            refine G_iload hΓ 0 dX8_body_294 rfl ?_
                            refine G_icmp_ne hΓ (tgt := 328) dX8_body_296 (by decide) (fun hc110 => ?_) (fun hc110 => ?_)
                            · rw [if_neg hc110] at hf
                              exact K97 _ _ hf
                            · rw [if_pos hc110] at hf
                              refine G_aload_n hΓ 10 dX8_body_299 rfl ?_
                              refine G_iload hΓ 7 dX8_body_300 rfl ?_
                              refine G_iload hΓ 6 dX8_body_302 rfl ?_
                              refine G_iload hΓ 0 dX8_body_304 rfl ?_
                              obtain ⟨u106, hc107, hf⟩ := bd_some hf
                              refine G_callV hΓ (n := 3) (As := [.int x23, .int x35, .int (x31 + x89)]) (t := 18) (i := 0) (ci := 11) (T := TX8) (N := 47) (FS := fs8 (gl Γ) 0) (σ' := (qM σ u106 (va_up u16 26 (upd (u16 26) ((u15 34).toNatClampNeg) (vp_nar .byte u13.toInt8.toInt32))))) (c_X8_find (gL Γ) (gl Γ) hF σ  (upd u15 34 ((u15 34) + 1)) (va_up u16 26 (upd (u16 26) ((u15 34).toNatClampNeg) (vp_nar .byte u13.toInt8.toInt32))) x23 x35 (x31 + x89)  hc107) rfl rfl kw_1132 kw_1134 kp_44 kw_9 kw_1135 ⟨rfl, by decide, by decide, by decide +kernel⟩ (FMi hF (t := 18) (by decide)) (fun _ _ _ => rfl) rfl rfl rfl ⟨Nat.le_of_ble_eq_true rfl, Nat.le_of_ble_eq_true rfl⟩ rfl (Nat.le_of_ble_eq_true rfl) dX8_body_306 ⟨_, rfl⟩ rfl ?_
                              refine G_iload hΓ 0 dX8_body_309 rfl ?_
                              refine G_bipush (v := 8) hΓ dX8_body_311 (by decide) ?_
                              refine G_aload_n hΓ 10 dX8_body_313 rfl ?_
                              refine F_get hΓ (t := 18) (i := 0) (ci := 11) (C := RX8) (T := TX8) (N := 47) (fs8 (gl Γ) 0) (v := .int (u106 42)) (FMi hF (t := 18) (by decide)) (fun _ _ _ => rfl) rfl rfl rfl rfl inW8 42 (by decide) (TT_cons kw_922) rfl dX8_body_314 ?_
                              refine G_aload_n hΓ 10 dX8_body_317 rfl ?_
                              refine F_get hΓ (t := 18) (i := 0) (ci := 11) (C := RX8) (T := TX8) (N := 47) (fs8 (gl Γ) 0) (v := .int (u106 43)) (FMi hF (t := 18) (by decide)) (fun _ _ _ => rfl) rfl rfl rfl rfl inW8 43 (by decide) (TT_cons kw_923) rfl dX8_body_318 ?_
                              obtain ⟨u108, hc109, hf⟩ := bd_some hf
                              refine G_callS hΓ (n := 2) (As := [.int (u106 42), .int (u106 43)]) (σ' := (qM σ u106 (va_up u16 26 (upd (u16 26) ((u15 34).toNatClampNeg) (vp_nar .byte u13.toInt8.toInt32))))) (c_X8_octetsOf (gL Γ) (gl Γ) hF (qM σ u106 (va_up u16 26 (upd (u16 26) ((u15 34).toNatClampNeg) (vp_nar .byte u13.toInt8.toInt32))))   (u106 42) (u106 43)  hc109) rfl rfl kw_1048 kw_1049 kw_9 kw_1050 ⟨by decide, by decide, by decide +kernel⟩ rfl rfl ⟨Nat.le_of_ble_eq_true rfl, Nat.le_of_ble_eq_true rfl⟩ rfl (Nat.le_of_ble_eq_true rfl) dX8_body_321 ⟨_, rfl⟩ rfl ?_
                              refine G_imul hΓ dX8_body_324 ?_
                              refine G_iadd hΓ dX8_body_325 ?_
                              refine G_istore hΓ [(5, .int ((x31 + x89) + (8 * u108))), (11, .int (x31 + x89)), (10, .int x31), (3, .int u13), (4, .int x18), (9, .int u13), (8, .int v5), (7, .int x35), (6, .int x23), (2, .int v2), (0, .ref (ya (gl Γ) 18 0)), (1, .int p1)] dX8_body_326 (by decide) rfl ?_
                              exact G_loc [1, 2, 3, 4, 5, 6, 7, 8, 0, 9, 10, 11] rfl (K97 _ _ hf)
                        have he := he93
                        refine G_if_eq hΓ (tgt := 267) dX8_body_259 (by decide) (fun hc92 => ?_) (fun hc92 => ?_)
                        · rw [if_pos hc92] at he
                          refine G_iload hΓ 6 dX8_body_267 rfl ?_
                          refine G_if_eq hΓ (tgt := 277) dX8_body_269 (by decide) (fun hc91 => ?_) (fun hc91 => ?_)
                          · rw [if_pos hc91] at he
                            refine G_iconst (v := 5) hΓ dX8_body_277 (by decide) ?_
                            subst he
                            exact K90
                          · rw [if_neg hc91] at he
                            refine G_bipush (v := 6) hΓ dX8_body_272 (by decide) ?_
                            refine G_goto hΓ (tgt := 278) dX8_body_274 (by decide) ?_
                            subst he
                            exact K90
                        · rw [if_neg hc92] at he
                          refine G_bipush (v := 8) hΓ dX8_body_262 (by decide) ?_
                          refine G_goto hΓ (tgt := 278) dX8_body_264 (by decide) ?_
                          subst he
                          exact K90
                      · rw [if_pos hc112] at hf
                        refine G_iconst (v := 2) hΓ dX8_body_253 (by decide) ?_
                        cases hf
                        exact G_iret hΓ hE dX8_body_254
                clear hk_k41
                refine G_icmp_le hΓ (tgt := 231) dX8_body_204 (by decide) (fun hc120 => ?_) (fun hc120 => ?_)
                · rw [if_pos hc120] at hf
                  exact K42 _ hf
                · rw [if_neg hc120] at hf
                  refine G_aload_n hΓ 9 dX8_body_207 rfl ?_
                  refine F_get hΓ (t := 18) (i := 0) (ci := 11) (C := RX8) (T := TX8) (N := 47) (fs8 (gl Γ) 0) (v := .int ((u15 34) + 1)) (FMi hF (t := 18) (by decide)) (fun _ _ _ => rfl) rfl rfl rfl rfl inW8 34 (by decide) (TT_cons kw_914) rfl dX8_body_208 ?_
                  refine G_iload hΓ 0 dX8_body_211 rfl ?_
                  refine G_iconst (v := 1) hΓ dX8_body_213 (by decide) ?_
                  refine G_iadd hΓ dX8_body_214 ?_
                  refine G_icmp_ne hΓ (tgt := 231) dX8_body_215 (by decide) (fun hc119 => ?_) (fun hc119 => ?_)
                  · rw [if_neg hc119] at hf
                    exact K42 _ hf
                  · rw [if_pos hc119] at hf
                    refine G_iload hΓ 3 dX8_body_218 rfl ?_
                    refine G_iconst (v := 1) hΓ dX8_body_220 (by decide) ?_
                    obtain ⟨x115, he118, hf⟩ := lt_eq hf
                    have K116 : GG Γ (0, 0) (qM σ (upd u15 34 ((u15 34) + 1)) (va_up u16 26 (upd (u16 26) ((u15 34).toNatClampNeg) (vp_nar .byte u13.toInt8.toInt32)))) 229 [(10, .int x31), (3, .int u13), (4, .int x18), (9, .int u13), (8, .int v5), (7, .int v6), (6, .int x23), (5, .int v8), (2, .int v2), (0, .ref (ya (gl Γ) 18 0)), (1, .int p1)] [.int x115] := by
                      refine G_istore hΓ [(7, .int x115), (10, .int x31), (3, .int u13), (4, .int x18), (9, .int u13), (8, .int v5), (6, .int x23), (5, .int v8), (2, .int v2), (0, .ref (ya (gl Γ) 18 0)), (1, .int p1)] dX8_body_229 (by decide) rfl ?_
                      exact G_loc [1, 2, 3, 4, 5, 0, 6, 7, 8, 9, 10] rfl (K42 _ hf)
                    have he := he118
                    refine G_icmp_ne hΓ (tgt := 228) dX8_body_221 (by decide) (fun hc117 => ?_) (fun hc117 => ?_)
                    · rw [if_neg hc117] at he
                      refine G_iconst (v := 0) hΓ dX8_body_228 (by decide) ?_
                      subst he
                      exact K116
                    · rw [if_pos hc117] at he
                      refine G_iconst (v := 1) hΓ dX8_body_224 (by decide) ?_
                      refine G_goto hΓ (tgt := 229) dX8_body_225 (by decide) ?_
                      subst he
                      exact K116
              have he := he34
              refine G_if_eq hΓ (tgt := 194) dX8_body_186 (by decide) (fun hc33 => ?_) (fun hc33 => ?_)
              · rw [if_pos hc33] at he
                refine G_bipush (v := 14) hΓ dX8_body_194 (by decide) ?_
                subst he
                exact K32
              · rw [if_neg hc33] at he
                refine G_bipush (v := 33) hΓ dX8_body_189 (by decide) ?_
                refine G_goto hΓ (tgt := 196) dX8_body_191 (by decide) ?_
                subst he
                exact K32
            clear hk_k29
            refine G_icmp_ne hΓ (tgt := 184) dX8_body_168 (by decide) (fun hc125 => ?_) (fun hc125 => ?_)
            · rw [if_neg hc125] at hf
              exact K30 _ hf
            · rw [if_pos hc125] at hf
              refine G_iload hΓ 2 dX8_body_171 rfl ?_
              refine G_iconst (v := 1) hΓ dX8_body_173 (by decide) ?_
              obtain ⟨x121, he124, hf⟩ := lt_eq hf
              have K122 : GG Γ (0, 0) (qM σ (upd u15 34 ((u15 34) + 1)) (va_up u16 26 (upd (u16 26) ((u15 34).toNatClampNeg) (vp_nar .byte u13.toInt8.toInt32)))) 182 [(3, .int u13), (4, .int x18), (9, .int u13), (8, .int v5), (7, .int v6), (6, .int v7), (5, .int v8), (2, .int v2), (0, .ref (ya (gl Γ) 18 0)), (1, .int p1)] [.int x121] := by
                refine G_istore hΓ [(6, .int x121), (3, .int u13), (4, .int x18), (9, .int u13), (8, .int v5), (7, .int v6), (5, .int v8), (2, .int v2), (0, .ref (ya (gl Γ) 18 0)), (1, .int p1)] dX8_body_182 (by decide) rfl ?_
                exact G_loc [1, 2, 3, 4, 5, 0, 6, 7, 8, 9] rfl (K30 _ hf)
              have he := he124
              refine G_icmp_ne hΓ (tgt := 181) dX8_body_174 (by decide) (fun hc123 => ?_) (fun hc123 => ?_)
              · rw [if_neg hc123] at he
                refine G_iconst (v := 0) hΓ dX8_body_181 (by decide) ?_
                subst he
                exact K122
              · rw [if_pos hc123] at he
                refine G_iconst (v := 1) hΓ dX8_body_177 (by decide) ?_
                refine G_goto hΓ (tgt := 182) dX8_body_178 (by decide) ?_
                subst he
                exact K122
          have he := he21
          refine G_icmp_ne hΓ (tgt := 134) dX8_body_124 (by decide) (fun hc20 => ?_) (fun hc20 => ?_)
          · rw [if_neg hc20] at he
            refine G_iconst (v := 1) hΓ dX8_body_134 (by decide) ?_
            subst he
            exact K19
          · rw [if_pos hc20] at he
            refine G_iload hΓ 5 dX8_body_127 rfl ?_
            refine G_iconst (v := 1) hΓ dX8_body_129 (by decide) ?_
            refine G_iadd hΓ dX8_body_130 ?_
            refine G_goto hΓ (tgt := 135) dX8_body_131 (by decide) ?_
            subst he
            exact K19
        · rw [if_pos hc128] at hf
          refine G_iload hΓ 0 dX8_body_75 rfl ?_
          refine G_iload_n hΓ 6 dX8_body_77 rfl ?_
          refine G_icmp_ne hΓ (tgt := 83) dX8_body_78 (by decide) (fun hc127 => ?_) (fun hc127 => ?_)
          · rw [if_neg hc127] at hf
            refine G_iconst (v := 1) hΓ dX8_body_83 (by decide) ?_
            refine G_istore hΓ [(4, .int 1), (9, .int u13), (8, .int v5), (7, .int v6), (6, .int v7), (5, .int v8), (3, .int v10), (2, .int v2), (0, .ref (ya (gl Γ) 18 0)), (1, .int p1)] dX8_body_84 (by decide) rfl ?_
            refine G_iload hΓ 1 dX8_body_86 rfl ?_
            refine G_istore_n hΓ [(3, .int u13), (4, .int 1), (9, .int u13), (8, .int v5), (7, .int v6), (6, .int v7), (5, .int v8), (2, .int v2), (0, .ref (ya (gl Γ) 18 0)), (1, .int p1)] dX8_body_88 (by decide) rfl ?_
            refine G_aload_n hΓ 8 dX8_body_89 rfl ?_
            refine G_dup hΓ dX8_body_90 rfl ?_
            refine F_get hΓ (t := 18) (i := 0) (ci := 11) (C := RX8) (T := TX8) (N := 47) (fs8 (gl Γ) 0) (v := .int (u15 46)) (FMi hF (t := 18) (by decide)) (fun _ _ _ => rfl) rfl rfl rfl rfl inW8 46 (by decide) (TT_cons kw_926) rfl dX8_body_91 ?_
            refine G_iconst (v := 1) hΓ dX8_body_94 (by decide) ?_
            refine G_iadd hΓ dX8_body_95 ?_
            refine F_put hΓ (t := 18) (i := 0) (ci := 11) (C := RX8) (T := TX8) (N := 47) (fs8 (gl Γ) 0) (f := u15) (f' := (upd u15 46 ((u15 46) + 1))) (σ' := (qM σ (upd u15 46 ((u15 46) + 1)) u16)) (ty := .int) (v := .int ((u15 46) + 1)) tyX8 tyX8_ok nmX8 (FMi hF (t := 18) (by decide)) (fun _ _ _ => rfl) rfl qM_v rfl inW8 46 (by decide) (TT_cons kw_926) rfl (by decide +kernel) rfl rfl (fun _ _ => Nat.le_of_ble_eq_true rfl) (fun _ _ => rfl) dX8_body_96 ?_
            refine G_aload_n hΓ 8 dX8_body_99 rfl ?_
            refine F_get hΓ (t := 18) (i := 0) (ci := 11) (C := RX8) (T := TX8) (N := 47) (fs8 (gl Γ) 0) (v := .int (u15 34)) (FMi hF (t := 18) (by decide)) (fun _ _ _ => rfl) rfl rfl rfl rfl inW8 34 (by decide) (TT_cons kw_914) rfl dX8_body_100 ?_
            refine G_iload hΓ 6 dX8_body_103 rfl ?_
            refine G_bipush (v := 15) hΓ dX8_body_105 (by decide) ?_
            refine G_iadd hΓ dX8_body_107 ?_
            refine G_icmp_ne hΓ (tgt := 390) dX8_body_108 (by decide) (fun hc126 => ?_) (fun hc126 => ?_)
            · rw [if_neg hc126] at hf
              refine G_iinc hΓ 3 [(8, .int (v5 + 1)), (3, .int u13), (4, .int 1), (9, .int u13), (7, .int v6), (6, .int v7), (5, .int v8), (2, .int v2), (0, .ref (ya (gl Γ) 18 0)), (1, .int p1)] dX8_body_390 rfl rfl (by decide) rfl ?_
              refine G_goto hΓ (tgt := 48) dX8_body_393 (by decide) ?_
              exact G_loc [0, 4, 5, 6, 2, 1, 7, 8, 9] rfl (ih _ _ _ _ _ _ _ _ hf)
            · rw [if_pos hc126] at hf
              refine G_aload_n hΓ 8 dX8_body_111 rfl ?_
              refine G_iload hΓ 3 dX8_body_112 rfl ?_
              refine G_iconst (v := 1) hΓ dX8_body_114 (by decide) ?_
              refine G_iadd hΓ dX8_body_115 ?_
              refine F_put hΓ (t := 18) (i := 0) (ci := 11) (C := RX8) (T := TX8) (N := 47) (fs8 (gl Γ) 0) (f := (upd u15 46 ((u15 46) + 1))) (f' := (upd (upd u15 46 ((u15 46) + 1)) 45 (v5 + 1))) (σ' := (qM σ (upd (upd u15 46 ((u15 46) + 1)) 45 (v5 + 1)) u16)) (ty := .int) (v := .int (v5 + 1)) tyX8 tyX8_ok nmX8 (FMi hF (t := 18) (by decide)) (fun _ _ _ => rfl) rfl qM_v rfl inW8 45 (by decide) (TT_cons kw_925) rfl (by decide +kernel) rfl rfl (fun _ _ => Nat.le_of_ble_eq_true rfl) (fun _ _ => rfl) dX8_body_116 ?_
              refine G_iconst (v := (-1)) hΓ dX8_body_119 (by decide) ?_
              cases hf
              exact G_iret hΓ hE dX8_body_120
          · rw [if_pos hc127] at hf
            refine G_iconst (v := 1) hΓ dX8_body_81 (by decide) ?_
            cases hf
            exact G_iret hΓ hE dX8_body_82
  exact loop130 _ _ _ _ _ _ _ _ _ hf
theorem dX8_width_0 : decode cX8_width 0 = .ok (.aload_n 0, 1) := by decide +kernel
theorem dX8_width_1 : decode cX8_width 1 = .ok (.getfield 206, 3) := by decide +kernel
theorem dX8_width_4 : decode cX8_width 4 = .ok (.iconst 2, 1) := by decide +kernel
theorem dX8_width_5 : decode cX8_width 5 = .ok (.if_icmp .eq 16, 3) := by decide +kernel
theorem dX8_width_8 : decode cX8_width 8 = .ok (.aload_n 0, 1) := by decide +kernel
theorem dX8_width_9 : decode cX8_width 9 = .ok (.getfield 206, 3) := by decide +kernel
theorem dX8_width_12 : decode cX8_width 12 = .ok (.iconst 3, 1) := by decide +kernel
theorem dX8_width_13 : decode cX8_width 13 = .ok (.if_icmp .eq 8, 3) := by decide +kernel
theorem dX8_width_16 : decode cX8_width 16 = .ok (.bipush 15, 2) := by decide +kernel
theorem dX8_width_18 : decode cX8_width 18 = .ok (.goto 26, 3) := by decide +kernel
theorem dX8_width_21 : decode cX8_width 21 = .ok (.aload_n 0, 1) := by decide +kernel
theorem dX8_width_22 : decode cX8_width 22 = .ok (.getfield 206, 3) := by decide +kernel
theorem dX8_width_25 : decode cX8_width 25 = .ok (.aload_n 0, 1) := by decide +kernel
theorem dX8_width_26 : decode cX8_width 26 = .ok (.getfield 209, 3) := by decide +kernel
theorem dX8_width_29 : decode cX8_width 29 = .ok (.invokestatic 139, 3) := by decide +kernel
theorem dX8_width_32 : decode cX8_width 32 = .ok (.bipush 16, 2) := by decide +kernel
theorem dX8_width_34 : decode cX8_width 34 = .ok (.if_icmp .le 8, 3) := by decide +kernel
theorem dX8_width_37 : decode cX8_width 37 = .ok (.bipush 21, 2) := by decide +kernel
theorem dX8_width_39 : decode cX8_width 39 = .ok (.goto 5, 3) := by decide +kernel
theorem dX8_width_42 : decode cX8_width 42 = .ok (.bipush 17, 2) := by decide +kernel
theorem dX8_width_44 : decode cX8_width 44 = .ok (.ireturn, 1) := by decide +kernel
noncomputable def f_X8_width  (v : Nat → Int32)  : Option (Int32) := jn (α := Int32) (fun x1 => some (x1)) (fun k3 => if (v 42) = 2 then bd (f_X8_octetsOf (v 42) (v 43)) (fun u5 => if u5 ≤ 16 then k3 17 else k3 21) else if (v 42) = 3 then bd (f_X8_octetsOf (v 42) (v 43)) (fun u8 => if u8 ≤ 16 then k3 17 else k3 21) else k3 15)
set_option maxHeartbeats 4000000 in
set_option maxRecDepth 100000 in
theorem c_X8_width (l : Launch) (Λ : LY) (hF : FM Λ) (σ : CS)  (v : Nat → Int32) (m : Nat → Nat → Int32)    {r9 : Int32} (hf : f_X8_width v = some r9) : CM l yX8_width (.code yX8_width cX8_width 1 (some .int) :: TT) ({ frames := 1, cells := 0, slots := 0, locals := 21 }) Λ [.ref (ya Λ 18 0)] (qM σ v m) (qM σ v m) (some (.int r9)) := by
  refine CM_intro (own := RX8) (by decide) rfl (Nat.le_of_ble_eq_true rfl) ?_
  intro Γ hg hl hΓ hE
  subst hg; subst hl
  show GG Γ (0, 0) (qM σ v m) 0 [(0, .ref (ya (gl Γ) 18 0))] []
  unfold f_X8_width at hf
  refine G_aload_n hΓ 0 dX8_width_0 rfl ?_
  refine F_get hΓ (t := 18) (i := 0) (ci := 11) (C := RX8) (T := TX8) (N := 47) (fs8 (gl Γ) 0) (v := .int (v 42)) (FMi hF (t := 18) (by decide)) (fun _ _ _ => rfl) rfl rfl rfl rfl inW8 42 (by decide) (TT_cons kw_922) rfl dX8_width_1 ?_
  refine G_iconst (v := 2) hΓ dX8_width_4 (by decide) ?_
  obtain ⟨k3, hk_k3, hf⟩ := jn_eq hf
  try dsimp only at hf
  have K4 : ∀ x1, k3 x1 = some r9 → GG Γ (0, 0) (qM σ v m) 44 [(0, .ref (ya (gl Γ) 18 0))] [.int x1] := by
    intro x1 hf
    subst hk_k3
    try dsimp only at hf
    cases hf
    exact G_iret hΓ hE dX8_width_44
  clear hk_k3
  refine G_icmp_eq hΓ (tgt := 21) dX8_width_5 (by decide) (fun hc12 => ?_) (fun hc12 => ?_)
  · rw [if_pos hc12] at hf
    refine G_aload_n hΓ 0 dX8_width_21 rfl ?_
    refine F_get hΓ (t := 18) (i := 0) (ci := 11) (C := RX8) (T := TX8) (N := 47) (fs8 (gl Γ) 0) (v := .int (v 42)) (FMi hF (t := 18) (by decide)) (fun _ _ _ => rfl) rfl rfl rfl rfl inW8 42 (by decide) (TT_cons kw_922) rfl dX8_width_22 ?_
    refine G_aload_n hΓ 0 dX8_width_25 rfl ?_
    refine F_get hΓ (t := 18) (i := 0) (ci := 11) (C := RX8) (T := TX8) (N := 47) (fs8 (gl Γ) 0) (v := .int (v 43)) (FMi hF (t := 18) (by decide)) (fun _ _ _ => rfl) rfl rfl rfl rfl inW8 43 (by decide) (TT_cons kw_923) rfl dX8_width_26 ?_
    obtain ⟨u5, hc6, hf⟩ := bd_some hf
    refine G_callS hΓ (n := 2) (As := [.int (v 42), .int (v 43)]) (σ' := (qM σ v m)) (c_X8_octetsOf (gL Γ) (gl Γ) hF (qM σ v m)   (v 42) (v 43)  hc6) rfl rfl kw_1048 kw_1049 kw_9 kw_1050 ⟨by decide, by decide, by decide +kernel⟩ rfl rfl ⟨Nat.le_of_ble_eq_true rfl, Nat.le_of_ble_eq_true rfl⟩ rfl (Nat.le_of_ble_eq_true rfl) dX8_width_29 ⟨_, rfl⟩ rfl ?_
    refine G_bipush (v := 16) hΓ dX8_width_32 (by decide) ?_
    refine G_icmp_le hΓ (tgt := 42) dX8_width_34 (by decide) (fun hc7 => ?_) (fun hc7 => ?_)
    · rw [if_pos hc7] at hf
      refine G_bipush (v := 17) hΓ dX8_width_42 (by decide) ?_
      exact K4 _ hf
    · rw [if_neg hc7] at hf
      refine G_bipush (v := 21) hΓ dX8_width_37 (by decide) ?_
      refine G_goto hΓ (tgt := 44) dX8_width_39 (by decide) ?_
      exact K4 _ hf
  · rw [if_neg hc12] at hf
    refine G_aload_n hΓ 0 dX8_width_8 rfl ?_
    refine F_get hΓ (t := 18) (i := 0) (ci := 11) (C := RX8) (T := TX8) (N := 47) (fs8 (gl Γ) 0) (v := .int (v 42)) (FMi hF (t := 18) (by decide)) (fun _ _ _ => rfl) rfl rfl rfl rfl inW8 42 (by decide) (TT_cons kw_922) rfl dX8_width_9 ?_
    refine G_iconst (v := 3) hΓ dX8_width_12 (by decide) ?_
    refine G_icmp_eq hΓ (tgt := 21) dX8_width_13 (by decide) (fun hc11 => ?_) (fun hc11 => ?_)
    · rw [if_pos hc11] at hf
      refine G_aload_n hΓ 0 dX8_width_21 rfl ?_
      refine F_get hΓ (t := 18) (i := 0) (ci := 11) (C := RX8) (T := TX8) (N := 47) (fs8 (gl Γ) 0) (v := .int (v 42)) (FMi hF (t := 18) (by decide)) (fun _ _ _ => rfl) rfl rfl rfl rfl inW8 42 (by decide) (TT_cons kw_922) rfl dX8_width_22 ?_
      refine G_aload_n hΓ 0 dX8_width_25 rfl ?_
      refine F_get hΓ (t := 18) (i := 0) (ci := 11) (C := RX8) (T := TX8) (N := 47) (fs8 (gl Γ) 0) (v := .int (v 43)) (FMi hF (t := 18) (by decide)) (fun _ _ _ => rfl) rfl rfl rfl rfl inW8 43 (by decide) (TT_cons kw_923) rfl dX8_width_26 ?_
      obtain ⟨u8, hc9, hf⟩ := bd_some hf
      refine G_callS hΓ (n := 2) (As := [.int (v 42), .int (v 43)]) (σ' := (qM σ v m)) (c_X8_octetsOf (gL Γ) (gl Γ) hF (qM σ v m)   (v 42) (v 43)  hc9) rfl rfl kw_1048 kw_1049 kw_9 kw_1050 ⟨by decide, by decide, by decide +kernel⟩ rfl rfl ⟨Nat.le_of_ble_eq_true rfl, Nat.le_of_ble_eq_true rfl⟩ rfl (Nat.le_of_ble_eq_true rfl) dX8_width_29 ⟨_, rfl⟩ rfl ?_
      refine G_bipush (v := 16) hΓ dX8_width_32 (by decide) ?_
      refine G_icmp_le hΓ (tgt := 42) dX8_width_34 (by decide) (fun hc10 => ?_) (fun hc10 => ?_)
      · rw [if_pos hc10] at hf
        refine G_bipush (v := 17) hΓ dX8_width_42 (by decide) ?_
        exact K4 _ hf
      · rw [if_neg hc10] at hf
        refine G_bipush (v := 21) hΓ dX8_width_37 (by decide) ?_
        refine G_goto hΓ (tgt := 44) dX8_width_39 (by decide) ?_
        exact K4 _ hf
    · rw [if_neg hc11] at hf
      refine G_bipush (v := 15) hΓ dX8_width_16 (by decide) ?_
      refine G_goto hΓ (tgt := 44) dX8_width_18 (by decide) ?_
      exact K4 _ hf
theorem dX8_tail_0 : decode cX8_tail 0 = .ok (.aload_n 0, 1) := by decide +kernel
theorem dX8_tail_1 : decode cX8_tail 1 = .ok (.getfield 206, 3) := by decide +kernel
theorem dX8_tail_4 : decode cX8_tail 4 = .ok (.iconst 2, 1) := by decide +kernel
theorem dX8_tail_5 : decode cX8_tail 5 = .ok (.if_icmp .eq 13, 3) := by decide +kernel
theorem dX8_tail_8 : decode cX8_tail 8 = .ok (.aload_n 0, 1) := by decide +kernel
theorem dX8_tail_9 : decode cX8_tail 9 = .ok (.getfield 206, 3) := by decide +kernel
theorem dX8_tail_12 : decode cX8_tail 12 = .ok (.iconst 3, 1) := by decide +kernel
theorem dX8_tail_13 : decode cX8_tail 13 = .ok (.if_icmp .eq 5, 3) := by decide +kernel
theorem dX8_tail_16 : decode cX8_tail 16 = .ok (.iconst 0, 1) := by decide +kernel
theorem dX8_tail_17 : decode cX8_tail 17 = .ok (.ireturn, 1) := by decide +kernel
theorem dX8_tail_18 : decode cX8_tail 18 = .ok (.iconst 4, 1) := by decide +kernel
theorem dX8_tail_19 : decode cX8_tail 19 = .ok (.aload_n 0, 1) := by decide +kernel
theorem dX8_tail_20 : decode cX8_tail 20 = .ok (.invokevirtual 219, 3) := by decide +kernel
theorem dX8_tail_23 : decode cX8_tail 23 = .ok (.iadd, 1) := by decide +kernel
theorem dX8_tail_24 : decode cX8_tail 24 = .ok (.istore_n 1, 1) := by decide +kernel
theorem dX8_tail_25 : decode cX8_tail 25 = .ok (.iload_n 1, 1) := by decide +kernel
theorem dX8_tail_26 : decode cX8_tail 26 = .ok (.iload_n 1, 1) := by decide +kernel
theorem dX8_tail_27 : decode cX8_tail 27 = .ok (.iconst 3, 1) := by decide +kernel
theorem dX8_tail_28 : decode cX8_tail 28 = .ok (.iadd, 1) := by decide +kernel
theorem dX8_tail_29 : decode cX8_tail 29 = .ok (.iconst 4, 1) := by decide +kernel
theorem dX8_tail_30 : decode cX8_tail 30 = .ok (.idiv, 1) := by decide +kernel
theorem dX8_tail_31 : decode cX8_tail 31 = .ok (.iadd, 1) := by decide +kernel
theorem dX8_tail_32 : decode cX8_tail 32 = .ok (.ireturn, 1) := by decide +kernel
noncomputable def f_X8_tail  (v : Nat → Int32)  : Option (Int32) := if (v 42) = 2 then bd (f_X8_width v) (fun u1 => some ((4 + u1) + (((4 + u1) + 3) / 4))) else if (v 42) = 3 then bd (f_X8_width v) (fun u3 => some ((4 + u3) + (((4 + u3) + 3) / 4))) else some (0)
set_option maxHeartbeats 4000000 in
set_option maxRecDepth 100000 in
theorem c_X8_tail (l : Launch) (Λ : LY) (hF : FM Λ) (σ : CS)  (v : Nat → Int32) (m : Nat → Nat → Int32)    {r9 : Int32} (hf : f_X8_tail v = some r9) : CM l yX8_tail (.code yX8_tail cX8_tail 2 (some .int) :: TT) ({ frames := 2, cells := 0, slots := 0, locals := 41 }) Λ [.ref (ya Λ 18 0)] (qM σ v m) (qM σ v m) (some (.int r9)) := by
  refine CM_intro (own := RX8) (by decide) rfl (Nat.le_of_ble_eq_true rfl) ?_
  intro Γ hg hl hΓ hE
  subst hg; subst hl
  show GG Γ (0, 0) (qM σ v m) 0 [(0, .ref (ya (gl Γ) 18 0))] []
  unfold f_X8_tail at hf
  refine G_aload_n hΓ 0 dX8_tail_0 rfl ?_
  refine F_get hΓ (t := 18) (i := 0) (ci := 11) (C := RX8) (T := TX8) (N := 47) (fs8 (gl Γ) 0) (v := .int (v 42)) (FMi hF (t := 18) (by decide)) (fun _ _ _ => rfl) rfl rfl rfl rfl inW8 42 (by decide) (TT_cons kw_922) rfl dX8_tail_1 ?_
  refine G_iconst (v := 2) hΓ dX8_tail_4 (by decide) ?_
  refine G_icmp_eq hΓ (tgt := 18) dX8_tail_5 (by decide) (fun hc6 => ?_) (fun hc6 => ?_)
  · rw [if_pos hc6] at hf
    refine G_iconst (v := 4) hΓ dX8_tail_18 (by decide) ?_
    refine G_aload_n hΓ 0 dX8_tail_19 rfl ?_
    obtain ⟨u1, hc2, hf⟩ := bd_some hf
    refine G_callV hΓ (n := 0) (As := []) (t := 18) (i := 0) (ci := 11) (T := TX8) (N := 47) (FS := fs8 (gl Γ) 0) (σ' := (qM σ v m)) (c_X8_width (gL Γ) (gl Γ) hF σ  v m   hc2) rfl rfl kw_1145 kw_1147 kp_47 kw_9 kw_1148 ⟨rfl, by decide, by decide, by decide +kernel⟩ (FMi hF (t := 18) (by decide)) (fun _ _ _ => rfl) rfl rfl rfl ⟨Nat.le_of_ble_eq_true rfl, Nat.le_of_ble_eq_true rfl⟩ rfl (Nat.le_of_ble_eq_true rfl) dX8_tail_20 ⟨_, rfl⟩ rfl ?_
    refine G_iadd hΓ dX8_tail_23 ?_
    refine G_istore_n hΓ [(1, .int (4 + u1)), (0, .ref (ya (gl Γ) 18 0))] dX8_tail_24 (by decide) rfl ?_
    refine G_iload_n hΓ 0 dX8_tail_25 rfl ?_
    refine G_iload_n hΓ 0 dX8_tail_26 rfl ?_
    refine G_iconst (v := 3) hΓ dX8_tail_27 (by decide) ?_
    refine G_iadd hΓ dX8_tail_28 ?_
    refine G_iconst (v := 4) hΓ dX8_tail_29 (by decide) ?_
    refine G_idiv hΓ dX8_tail_30 (by decide) ?_
    refine G_iadd hΓ dX8_tail_31 ?_
    cases hf
    exact G_iret hΓ hE dX8_tail_32
  · rw [if_neg hc6] at hf
    refine G_aload_n hΓ 0 dX8_tail_8 rfl ?_
    refine F_get hΓ (t := 18) (i := 0) (ci := 11) (C := RX8) (T := TX8) (N := 47) (fs8 (gl Γ) 0) (v := .int (v 42)) (FMi hF (t := 18) (by decide)) (fun _ _ _ => rfl) rfl rfl rfl rfl inW8 42 (by decide) (TT_cons kw_922) rfl dX8_tail_9 ?_
    refine G_iconst (v := 3) hΓ dX8_tail_12 (by decide) ?_
    refine G_icmp_eq hΓ (tgt := 18) dX8_tail_13 (by decide) (fun hc5 => ?_) (fun hc5 => ?_)
    · rw [if_pos hc5] at hf
      refine G_iconst (v := 4) hΓ dX8_tail_18 (by decide) ?_
      refine G_aload_n hΓ 0 dX8_tail_19 rfl ?_
      obtain ⟨u3, hc4, hf⟩ := bd_some hf
      refine G_callV hΓ (n := 0) (As := []) (t := 18) (i := 0) (ci := 11) (T := TX8) (N := 47) (FS := fs8 (gl Γ) 0) (σ' := (qM σ v m)) (c_X8_width (gL Γ) (gl Γ) hF σ  v m   hc4) rfl rfl kw_1145 kw_1147 kp_47 kw_9 kw_1148 ⟨rfl, by decide, by decide, by decide +kernel⟩ (FMi hF (t := 18) (by decide)) (fun _ _ _ => rfl) rfl rfl rfl ⟨Nat.le_of_ble_eq_true rfl, Nat.le_of_ble_eq_true rfl⟩ rfl (Nat.le_of_ble_eq_true rfl) dX8_tail_20 ⟨_, rfl⟩ rfl ?_
      refine G_iadd hΓ dX8_tail_23 ?_
      refine G_istore_n hΓ [(1, .int (4 + u3)), (0, .ref (ya (gl Γ) 18 0))] dX8_tail_24 (by decide) rfl ?_
      refine G_iload_n hΓ 0 dX8_tail_25 rfl ?_
      refine G_iload_n hΓ 0 dX8_tail_26 rfl ?_
      refine G_iconst (v := 3) hΓ dX8_tail_27 (by decide) ?_
      refine G_iadd hΓ dX8_tail_28 ?_
      refine G_iconst (v := 4) hΓ dX8_tail_29 (by decide) ?_
      refine G_idiv hΓ dX8_tail_30 (by decide) ?_
      refine G_iadd hΓ dX8_tail_31 ?_
      cases hf
      exact G_iret hΓ hE dX8_tail_32
    · rw [if_neg hc5] at hf
      refine G_iconst (v := 0) hΓ dX8_tail_16 (by decide) ?_
      cases hf
      exact G_iret hΓ hE dX8_tail_17
theorem dX8_right_0 : decode cX8_right 0 = .ok (.aload_n 0, 1) := by decide +kernel
theorem dX8_right_1 : decode cX8_right 1 = .ok (.invokevirtual 219, 3) := by decide +kernel
theorem dX8_right_4 : decode cX8_right 4 = .ok (.istore_n 2, 1) := by decide +kernel
theorem dX8_right_5 : decode cX8_right 5 = .ok (.iconst 0, 1) := by decide +kernel
theorem dX8_right_6 : decode cX8_right 6 = .ok (.istore_n 3, 1) := by decide +kernel
theorem dX8_right_7 : decode cX8_right 7 = .ok (.aload_n 0, 1) := by decide +kernel
theorem dX8_right_8 : decode cX8_right 8 = .ok (.invokevirtual 223, 3) := by decide +kernel
theorem dX8_right_11 : decode cX8_right 11 = .ok (.ifCond .ne 70, 3) := by decide +kernel
theorem dX8_right_14 : decode cX8_right 14 = .ok (.aload_n 0, 1) := by decide +kernel
theorem dX8_right_15 : decode cX8_right 15 = .ok (.aload_n 0, 1) := by decide +kernel
theorem dX8_right_16 : decode cX8_right 16 = .ok (.getfield 143, 3) := by decide +kernel
theorem dX8_right_19 : decode cX8_right 19 = .ok (.bipush 15, 2) := by decide +kernel
theorem dX8_right_21 : decode cX8_right 21 = .ok (.isub, 1) := by decide +kernel
theorem dX8_right_22 : decode cX8_right 22 = .ok (.bipush 15, 2) := by decide +kernel
theorem dX8_right_24 : decode cX8_right 24 = .ok (.invokevirtual 212, 3) := by decide +kernel
theorem dX8_right_27 : decode cX8_right 27 = .ok (.istore_n 3, 1) := by decide +kernel
theorem dX8_right_28 : decode cX8_right 28 = .ok (.aload_n 0, 1) := by decide +kernel
theorem dX8_right_29 : decode cX8_right 29 = .ok (.iconst 0, 1) := by decide +kernel
theorem dX8_right_30 : decode cX8_right 30 = .ok (.putfield 153, 3) := by decide +kernel
theorem dX8_right_33 : decode cX8_right 33 = .ok (.iconst 0, 1) := by decide +kernel
theorem dX8_right_34 : decode cX8_right 34 = .ok (.istore 4, 2) := by decide +kernel
theorem dX8_right_36 : decode cX8_right 36 = .ok (.iload 4, 2) := by decide +kernel
theorem dX8_right_38 : decode cX8_right 38 = .ok (.aload_n 0, 1) := by decide +kernel
theorem dX8_right_39 : decode cX8_right 39 = .ok (.getfield 143, 3) := by decide +kernel
theorem dX8_right_42 : decode cX8_right 42 = .ok (.bipush 15, 2) := by decide +kernel
theorem dX8_right_44 : decode cX8_right 44 = .ok (.isub, 1) := by decide +kernel
theorem dX8_right_45 : decode cX8_right 45 = .ok (.if_icmp .ge 20, 3) := by decide +kernel
theorem dX8_right_48 : decode cX8_right 48 = .ok (.aload_n 0, 1) := by decide +kernel
theorem dX8_right_49 : decode cX8_right 49 = .ok (.aload_n 0, 1) := by decide +kernel
theorem dX8_right_50 : decode cX8_right 50 = .ok (.getfield 98, 3) := by decide +kernel
theorem dX8_right_53 : decode cX8_right 53 = .ok (.iload 4, 2) := by decide +kernel
theorem dX8_right_55 : decode cX8_right 55 = .ok (.baload, 1) := by decide +kernel
theorem dX8_right_56 : decode cX8_right 56 = .ok (.invokevirtual 167, 3) := by decide +kernel
theorem dX8_right_59 : decode cX8_right 59 = .ok (.iinc 4 1, 3) := by decide +kernel
theorem dX8_right_62 : decode cX8_right 62 = .ok (.goto (-26), 3) := by decide +kernel
theorem dX8_right_65 : decode cX8_right 65 = .ok (.iload_n 3, 1) := by decide +kernel
theorem dX8_right_66 : decode cX8_right 66 = .ok (.aload_n 0, 1) := by decide +kernel
theorem dX8_right_67 : decode cX8_right 67 = .ok (.bipush 15, 2) := by decide +kernel
theorem dX8_right_69 : decode cX8_right 69 = .ok (.invokevirtual 170, 3) := by decide +kernel
theorem dX8_right_72 : decode cX8_right 72 = .ok (.if_icmp .ne 7, 3) := by decide +kernel
theorem dX8_right_75 : decode cX8_right 75 = .ok (.iconst 1, 1) := by decide +kernel
theorem dX8_right_76 : decode cX8_right 76 = .ok (.goto 4, 3) := by decide +kernel
theorem dX8_right_79 : decode cX8_right 79 = .ok (.iconst 0, 1) := by decide +kernel
theorem dX8_right_80 : decode cX8_right 80 = .ok (.ireturn, 1) := by decide +kernel
theorem dX8_right_81 : decode cX8_right 81 = .ok (.iconst 0, 1) := by decide +kernel
theorem dX8_right_82 : decode cX8_right 82 = .ok (.istore 4, 2) := by decide +kernel
theorem dX8_right_84 : decode cX8_right 84 = .ok (.iconst 0, 1) := by decide +kernel
theorem dX8_right_85 : decode cX8_right 85 = .ok (.istore 5, 2) := by decide +kernel
theorem dX8_right_87 : decode cX8_right 87 = .ok (.iload 5, 2) := by decide +kernel
theorem dX8_right_89 : decode cX8_right 89 = .ok (.aload_n 0, 1) := by decide +kernel
theorem dX8_right_90 : decode cX8_right 90 = .ok (.invokevirtual 223, 3) := by decide +kernel
theorem dX8_right_93 : decode cX8_right 93 = .ok (.if_icmp .ge 58, 3) := by decide +kernel
theorem dX8_right_96 : decode cX8_right 96 = .ok (.iload 5, 2) := by decide +kernel
theorem dX8_right_98 : decode cX8_right 98 = .ok (.iconst 5, 1) := by decide +kernel
theorem dX8_right_99 : decode cX8_right 99 = .ok (.irem, 1) := by decide +kernel
theorem dX8_right_100 : decode cX8_right 100 = .ok (.ifCond .ne 6, 3) := by decide +kernel
theorem dX8_right_103 : decode cX8_right 103 = .ok (.goto 42, 3) := by decide +kernel
theorem dX8_right_106 : decode cX8_right 106 = .ok (.aload_n 0, 1) := by decide +kernel
theorem dX8_right_107 : decode cX8_right 107 = .ok (.iload_n 1, 1) := by decide +kernel
theorem dX8_right_108 : decode cX8_right 108 = .ok (.aload_n 0, 1) := by decide +kernel
theorem dX8_right_109 : decode cX8_right 109 = .ok (.getfield 193, 3) := by decide +kernel
theorem dX8_right_112 : decode cX8_right 112 = .ok (.iload 5, 2) := by decide +kernel
theorem dX8_right_114 : decode cX8_right 114 = .ok (.iadd, 1) := by decide +kernel
theorem dX8_right_115 : decode cX8_right 115 = .ok (.invokevirtual 199, 3) := by decide +kernel
theorem dX8_right_118 : decode cX8_right 118 = .ok (.istore 6, 2) := by decide +kernel
theorem dX8_right_120 : decode cX8_right 120 = .ok (.iload 4, 2) := by decide +kernel
theorem dX8_right_122 : decode cX8_right 122 = .ok (.iconst 4, 1) := by decide +kernel
theorem dX8_right_123 : decode cX8_right 123 = .ok (.if_icmp .ge 12, 3) := by decide +kernel
theorem dX8_right_126 : decode cX8_right 126 = .ok (.aload_n 0, 1) := by decide +kernel
theorem dX8_right_127 : decode cX8_right 127 = .ok (.iload 6, 2) := by decide +kernel
theorem dX8_right_129 : decode cX8_right 129 = .ok (.invokevirtual 167, 3) := by decide +kernel
theorem dX8_right_132 : decode cX8_right 132 = .ok (.goto 10, 3) := by decide +kernel
theorem dX8_right_135 : decode cX8_right 135 = .ok (.iconst 2, 1) := by decide +kernel
theorem dX8_right_136 : decode cX8_right 136 = .ok (.iload_n 3, 1) := by decide +kernel
theorem dX8_right_137 : decode cX8_right 137 = .ok (.imul, 1) := by decide +kernel
theorem dX8_right_138 : decode cX8_right 138 = .ok (.iload 6, 2) := by decide +kernel
theorem dX8_right_140 : decode cX8_right 140 = .ok (.iadd, 1) := by decide +kernel
theorem dX8_right_141 : decode cX8_right 141 = .ok (.istore_n 3, 1) := by decide +kernel
theorem dX8_right_142 : decode cX8_right 142 = .ok (.iinc 4 1, 3) := by decide +kernel
theorem dX8_right_145 : decode cX8_right 145 = .ok (.iinc 5 1, 3) := by decide +kernel
theorem dX8_right_148 : decode cX8_right 148 = .ok (.goto (-61), 3) := by decide +kernel
theorem dX8_right_151 : decode cX8_right 151 = .ok (.iload_n 3, 1) := by decide +kernel
theorem dX8_right_152 : decode cX8_right 152 = .ok (.aload_n 0, 1) := by decide +kernel
theorem dX8_right_153 : decode cX8_right 153 = .ok (.iload_n 2, 1) := by decide +kernel
theorem dX8_right_154 : decode cX8_right 154 = .ok (.invokevirtual 170, 3) := by decide +kernel
theorem dX8_right_157 : decode cX8_right 157 = .ok (.if_icmp .ne 7, 3) := by decide +kernel
theorem dX8_right_160 : decode cX8_right 160 = .ok (.iconst 1, 1) := by decide +kernel
theorem dX8_right_161 : decode cX8_right 161 = .ok (.goto 4, 3) := by decide +kernel
theorem dX8_right_164 : decode cX8_right 164 = .ok (.iconst 0, 1) := by decide +kernel
theorem dX8_right_165 : decode cX8_right 165 = .ok (.ireturn, 1) := by decide +kernel
noncomputable def L_X8_right_87 (p1 : Int32) (k10 : (Nat → Int32) × (Nat → Nat → Int32) × Int32 × Int32 × Int32 → Option ((Nat → Int32) × (Nat → Nat → Int32) × Int32)) : Nat → (Nat → Int32) → (Nat → Nat → Int32) → Int32 → Int32 → Int32 → Option ((Nat → Int32) × (Nat → Nat → Int32) × Int32)
  | 0, _, _, _, _, _ => none
  | nn + 1, v5, v6, v7, v8, v9 => bd (f_X8_tail v5) (fun u12 => if u12 ≤ v7 then k10 (v5, v6, v7, v8, v9) else jn (α := Int32 × Int32 × (Nat → Int32) × (Nat → Nat → Int32)) (fun ⟨x14, x15, x16, x17⟩ => L_X8_right_87 p1 k10 nn x16 x17 (v7 + 1) x15 x14) (fun k18 => if (v7 - v7 / 5 * 5) = 0 then k18 (v9, v8, v5, v6) else bd (f_X8_bitAt v6 p1 ((v5 45) + v7)) (fun u20 => jn (α := Int32 × (Nat → Int32) × (Nat → Nat → Int32)) (fun ⟨x22, x23, x24⟩ => k18 (x22, v8 + 1, x23, x24)) (fun k25 => if 4 ≤ v8 then k25 ((2 * v9) + u20, v5, v6) else bd (f_X8_check v5 v6 u20) (fun ⟨u27, u28⟩ => k25 (v9, u27, u28))))))
noncomputable def L_X8_right_36  (k45 : (Nat → Int32) × (Nat → Nat → Int32) × Int32 → Option ((Nat → Int32) × (Nat → Nat → Int32) × Int32)) : Nat → (Nat → Int32) → (Nat → Nat → Int32) → Int32 → Option ((Nat → Int32) × (Nat → Nat → Int32) × Int32)
  | 0, _, _, _ => none
  | nn + 1, v42, v43, v44 => if ((v42 34) - 15) ≤ v44 then k45 (v42, v43, v44) else gd (vp_in v44 700) (bd (f_X8_check v42 v43 ((v43 26) v44.toNatClampNeg)) (fun ⟨u48, u49⟩ => L_X8_right_36  k45 nn u48 u49 (v44 + 1)))
noncomputable def f_X8_right  (v : Nat → Int32) (m : Nat → Nat → Int32) (p1 : Int32) : Option ((Nat → Int32) × (Nat → Nat → Int32) × Int32) := bd (f_X8_width v) (fun u1 => bd (f_X8_tail v) (fun u3 => if u3 = 0 then bd (f_X8_number m ((v 34) - 15) 15) (fun u40 => jn (α := (Nat → Int32) × (Nat → Nat → Int32) × Int32) (fun ⟨v42, v43, v44⟩ => bd (f_X8_checkOf v42 v43 15) (fun u52 => lt (α := Int32) (if u40 = u52 then 1 else 0) (fun x54 => some (v42, v43, x54)))) (fun k45 => L_X8_right_36  k45 fu (upd v 41 0) m 0)) else jn (α := (Nat → Int32) × (Nat → Nat → Int32) × Int32 × Int32 × Int32) (fun ⟨v5, v6, v7, v8, v9⟩ => bd (f_X8_checkOf v5 v6 u1) (fun u33 => lt (α := Int32) (if v9 = u33 then 1 else 0) (fun x35 => some (v5, v6, x35)))) (fun k10 => L_X8_right_87 p1 k10 fu v m 0 0 0)))
set_option maxHeartbeats 4000000 in
set_option maxRecDepth 100000 in
theorem c_X8_right (l : Launch) (Λ : LY) (hF : FM Λ) (σ : CS)  (v : Nat → Int32) (m : Nat → Nat → Int32) (p1 : Int32)   {v' : Nat → Int32} {m' : Nat → Nat → Int32} {r9 : Int32} (hf : f_X8_right v m p1 = some (v', m', r9)) : CM l yX8_right (.code yX8_right cX8_right 7 (some .boolean) :: TT) ({ frames := 3, cells := 0, slots := 0, locals := 62 }) Λ [.ref (ya Λ 18 0), .int p1] (qM σ v m) (qM σ v' m') (some (.int r9)) := by
  refine CM_intro (own := RX8) (by decide) rfl (Nat.le_of_ble_eq_true rfl) ?_
  intro Γ hg hl hΓ hE
  subst hg; subst hl
  show GG Γ (0, 0) (qM σ v m) 0 [(0, .ref (ya (gl Γ) 18 0)), (1, .int p1)] []
  unfold f_X8_right at hf
  refine G_aload_n hΓ 0 dX8_right_0 rfl ?_
  obtain ⟨u1, hc2, hf⟩ := bd_some hf
  refine G_callV hΓ (n := 0) (As := []) (t := 18) (i := 0) (ci := 11) (T := TX8) (N := 47) (FS := fs8 (gl Γ) 0) (σ' := (qM σ v m)) (c_X8_width (gL Γ) (gl Γ) hF σ  v m   hc2) rfl rfl kw_1145 kw_1147 kp_47 kw_9 kw_1148 ⟨rfl, by decide, by decide, by decide +kernel⟩ (FMi hF (t := 18) (by decide)) (fun _ _ _ => rfl) rfl rfl rfl ⟨Nat.le_of_ble_eq_true rfl, Nat.le_of_ble_eq_true rfl⟩ rfl (Nat.le_of_ble_eq_true rfl) dX8_right_1 ⟨_, rfl⟩ rfl ?_
  refine G_istore_n hΓ [(2, .int u1), (0, .ref (ya (gl Γ) 18 0)), (1, .int p1)] dX8_right_4 (by decide) rfl ?_
  refine G_iconst (v := 0) hΓ dX8_right_5 (by decide) ?_
  refine G_istore_n hΓ [(3, .int 0), (2, .int u1), (0, .ref (ya (gl Γ) 18 0)), (1, .int p1)] dX8_right_6 (by decide) rfl ?_
  refine G_aload_n hΓ 2 dX8_right_7 rfl ?_
  obtain ⟨u3, hc4, hf⟩ := bd_some hf
  refine G_callV hΓ (n := 0) (As := []) (t := 18) (i := 0) (ci := 11) (T := TX8) (N := 47) (FS := fs8 (gl Γ) 0) (σ' := (qM σ v m)) (c_X8_tail (gL Γ) (gl Γ) hF σ  v m   hc4) rfl rfl kw_1141 kw_1143 kp_46 kw_9 kw_1144 ⟨rfl, by decide, by decide, by decide +kernel⟩ (FMi hF (t := 18) (by decide)) (fun _ _ _ => rfl) rfl rfl rfl ⟨Nat.le_of_ble_eq_true rfl, Nat.le_of_ble_eq_true rfl⟩ rfl (Nat.le_of_ble_eq_true rfl) dX8_right_8 ⟨_, rfl⟩ rfl ?_
  refine G_if_ne hΓ (tgt := 81) dX8_right_11 (by decide) (fun hc59 => ?_) (fun hc59 => ?_)
  · rw [if_neg hc59] at hf
    refine G_iconst (v := 0) hΓ dX8_right_81 (by decide) ?_
    refine G_istore hΓ [(4, .int 0), (3, .int 0), (2, .int u1), (0, .ref (ya (gl Γ) 18 0)), (1, .int p1)] dX8_right_82 (by decide) rfl ?_
    refine G_iconst (v := 0) hΓ dX8_right_84 (by decide) ?_
    refine G_istore hΓ [(5, .int 0), (4, .int 0), (3, .int 0), (2, .int u1), (0, .ref (ya (gl Γ) 18 0)), (1, .int p1)] dX8_right_85 (by decide) rfl ?_
    obtain ⟨k10, hk_k10, hf⟩ := jn_eq hf
    try dsimp only at hf
    have K11 : ∀ v5 v6 v7 v8 v9, k10 (v5, v6, v7, v8, v9) = some (v', m', r9) → GG Γ (0, 0) (qM σ v5 v6) 151 [(5, .int v7), (4, .int v8), (3, .int v9), (2, .int u1), (0, .ref (ya (gl Γ) 18 0)), (1, .int p1)] [] := by
      intro v5 v6 v7 v8 v9 hf
      subst hk_k10
      try dsimp only at hf
      refine G_iload_n hΓ 2 dX8_right_151 rfl ?_
      refine G_aload_n hΓ 4 dX8_right_152 rfl ?_
      refine G_iload_n hΓ 3 dX8_right_153 rfl ?_
      obtain ⟨u33, hc34, hf⟩ := bd_some hf
      refine G_callV hΓ (n := 1) (As := [.int u1]) (t := 18) (i := 0) (ci := 11) (T := TX8) (N := 47) (FS := fs8 (gl Γ) 0) (σ' := (qM σ v5 v6)) (c_X8_checkOf (gL Γ) (gl Γ) hF σ  v5 v6 u1  hc34) rfl rfl kw_1072 kw_1074 kp_35 kw_9 kw_1075 ⟨rfl, by decide, by decide, by decide +kernel⟩ (FMi hF (t := 18) (by decide)) (fun _ _ _ => rfl) rfl rfl rfl ⟨Nat.le_of_ble_eq_true rfl, Nat.le_of_ble_eq_true rfl⟩ rfl (Nat.le_of_ble_eq_true rfl) dX8_right_154 ⟨_, rfl⟩ rfl ?_
      obtain ⟨x35, he38, hf⟩ := lt_eq hf
      have K36 : GG Γ (0, 0) (qM σ v5 v6) 165 [(5, .int v7), (4, .int v8), (3, .int v9), (2, .int u1), (0, .ref (ya (gl Γ) 18 0)), (1, .int p1)] [.int x35] := by
        cases hf
        exact G_zret hΓ (by rw [he38]; (repeat' split) <;> rfl) hE dX8_right_165
      have he := he38
      refine G_icmp_ne hΓ (tgt := 164) dX8_right_157 (by decide) (fun hc37 => ?_) (fun hc37 => ?_)
      · rw [if_neg hc37] at he
        refine G_iconst (v := 0) hΓ dX8_right_164 (by decide) ?_
        subst he
        exact K36
      · rw [if_pos hc37] at he
        refine G_iconst (v := 1) hΓ dX8_right_160 (by decide) ?_
        refine G_goto hΓ (tgt := 165) dX8_right_161 (by decide) ?_
        subst he
        exact K36
    clear hk_k10
    have loop39 : ∀ (nn : Nat) v5 v6 v7 v8 v9, L_X8_right_87 p1 k10 nn v5 v6 v7 v8 v9 = some (v', m', r9) → GG Γ (0, 0) (qM σ v5 v6) 87 [(5, .int v7), (4, .int v8), (3, .int v9), (2, .int u1), (0, .ref (ya (gl Γ) 18 0)), (1, .int p1)] [] := by
      intro nn
      induction nn with
      | zero => intro v5 v6 v7 v8 v9 hf; cases hf
      | succ nn ih =>
        intro v5 v6 v7 v8 v9 hf
        rw [L_X8_right_87] at hf
        refine G_iload hΓ 0 dX8_right_87 rfl ?_
        refine G_aload_n hΓ 4 dX8_right_89 rfl ?_
        obtain ⟨u12, hc13, hf⟩ := bd_some hf
        refine G_callV hΓ (n := 0) (As := []) (t := 18) (i := 0) (ci := 11) (T := TX8) (N := 47) (FS := fs8 (gl Γ) 0) (σ' := (qM σ v5 v6)) (c_X8_tail (gL Γ) (gl Γ) hF σ  v5 v6   hc13) rfl rfl kw_1141 kw_1143 kp_46 kw_9 kw_1144 ⟨rfl, by decide, by decide, by decide +kernel⟩ (FMi hF (t := 18) (by decide)) (fun _ _ _ => rfl) rfl rfl rfl ⟨Nat.le_of_ble_eq_true rfl, Nat.le_of_ble_eq_true rfl⟩ rfl (Nat.le_of_ble_eq_true rfl) dX8_right_90 ⟨_, rfl⟩ rfl ?_
        refine G_icmp_ge hΓ (tgt := 151) dX8_right_93 (by decide) (fun hc32 => ?_) (fun hc32 => ?_)
        · rw [if_pos hc32] at hf
          exact (K11 _ _ _ _ _ hf)
        · rw [if_neg hc32] at hf
          refine G_iload hΓ 0 dX8_right_96 rfl ?_
          refine G_iconst (v := 5) hΓ dX8_right_98 (by decide) ?_
          refine G_irem hΓ dX8_right_99 (by decide) ?_
          obtain ⟨k18, hk_k18, hf⟩ := jn_eq hf
          try dsimp only at hf
          have K19 : ∀ x14 x15 x16 x17, k18 (x14, x15, x16, x17) = some (v', m', r9) → GG Γ (0, 0) (qM σ x16 x17) 145 [(4, .int x15), (3, .int x14), (5, .int v7), (2, .int u1), (0, .ref (ya (gl Γ) 18 0)), (1, .int p1)] [] := by
            intro x14 x15 x16 x17 hf
            subst hk_k18
            try dsimp only at hf
            refine G_iinc hΓ 2 [(5, .int (v7 + 1)), (4, .int x15), (3, .int x14), (2, .int u1), (0, .ref (ya (gl Γ) 18 0)), (1, .int p1)] dX8_right_145 rfl rfl (by decide) rfl ?_
            refine G_goto hΓ (tgt := 87) dX8_right_148 (by decide) ?_
            exact (ih _ _ _ _ _ hf)
          clear hk_k18
          refine G_if_ne hΓ (tgt := 106) dX8_right_100 (by decide) (fun hc31 => ?_) (fun hc31 => ?_)
          · rw [if_neg hc31] at hf
            refine G_aload_n hΓ 4 dX8_right_106 rfl ?_
            refine G_iload_n hΓ 5 dX8_right_107 rfl ?_
            refine G_aload_n hΓ 4 dX8_right_108 rfl ?_
            refine F_get hΓ (t := 18) (i := 0) (ci := 11) (C := RX8) (T := TX8) (N := 47) (fs8 (gl Γ) 0) (v := .int (v5 45)) (FMi hF (t := 18) (by decide)) (fun _ _ _ => rfl) rfl rfl rfl rfl inW8 45 (by decide) (TT_cons kw_925) rfl dX8_right_109 ?_
            refine G_iload hΓ 0 dX8_right_112 rfl ?_
            refine G_iadd hΓ dX8_right_114 ?_
            obtain ⟨u20, hc21, hf⟩ := bd_some hf
            refine G_callV hΓ (n := 2) (As := [.int p1, .int ((v5 45) + v7)]) (t := 18) (i := 0) (ci := 11) (T := TX8) (N := 47) (FS := fs8 (gl Γ) 0) (σ' := (qM σ v5 v6)) (c_X8_bitAt (gL Γ) (gl Γ) hF σ  v5 v6 p1 ((v5 45) + v7)  hc21) rfl rfl kw_1128 kw_1130 kp_43 kw_9 kw_1131 ⟨rfl, by decide, by decide, by decide +kernel⟩ (FMi hF (t := 18) (by decide)) (fun _ _ _ => rfl) rfl rfl rfl ⟨Nat.le_of_ble_eq_true rfl, Nat.le_of_ble_eq_true rfl⟩ rfl (Nat.le_of_ble_eq_true rfl) dX8_right_115 ⟨_, rfl⟩ rfl ?_
            refine G_istore hΓ [(6, .int u20), (5, .int v7), (4, .int v8), (3, .int v9), (2, .int u1), (0, .ref (ya (gl Γ) 18 0)), (1, .int p1)] dX8_right_118 (by decide) rfl ?_
            refine G_iload hΓ 2 dX8_right_120 rfl ?_
            refine G_iconst (v := 4) hΓ dX8_right_122 (by decide) ?_
            obtain ⟨k25, hk_k25, hf⟩ := jn_eq hf
            try dsimp only at hf
            have K26 : ∀ x22 x23 x24, k25 (x22, x23, x24) = some (v', m', r9) → GG Γ (0, 0) (qM σ x23 x24) 142 [(3, .int x22), (6, .int u20), (5, .int v7), (4, .int v8), (2, .int u1), (0, .ref (ya (gl Γ) 18 0)), (1, .int p1)] [] := by
              intro x22 x23 x24 hf
              subst hk_k25
              try dsimp only at hf
              refine G_iinc hΓ 3 [(4, .int (v8 + 1)), (3, .int x22), (6, .int u20), (5, .int v7), (2, .int u1), (0, .ref (ya (gl Γ) 18 0)), (1, .int p1)] dX8_right_142 rfl rfl (by decide) rfl ?_
              exact G_loc [0, 1, 3, 4, 5, 6] rfl (K19 _ _ _ _ hf)
            clear hk_k25
            refine G_icmp_ge hΓ (tgt := 135) dX8_right_123 (by decide) (fun hc30 => ?_) (fun hc30 => ?_)
            · rw [if_pos hc30] at hf
              refine G_iconst (v := 2) hΓ dX8_right_135 (by decide) ?_
              refine G_iload_n hΓ 3 dX8_right_136 rfl ?_
              refine G_imul hΓ dX8_right_137 ?_
              refine G_iload hΓ 0 dX8_right_138 rfl ?_
              refine G_iadd hΓ dX8_right_140 ?_
              refine G_istore_n hΓ [(3, .int ((2 * v9) + u20)), (6, .int u20), (5, .int v7), (4, .int v8), (2, .int u1), (0, .ref (ya (gl Γ) 18 0)), (1, .int p1)] dX8_right_141 (by decide) rfl ?_
              exact K26 _ _ _ hf
            · rw [if_neg hc30] at hf
              refine G_aload_n hΓ 5 dX8_right_126 rfl ?_
              refine G_iload hΓ 0 dX8_right_127 rfl ?_
              obtain ⟨⟨u27, u28⟩, hc29, hf⟩ := bd_some hf
              try dsimp only at hf
              refine G_callV hΓ (n := 1) (As := [.int u20]) (t := 18) (i := 0) (ci := 11) (T := TX8) (N := 47) (FS := fs8 (gl Γ) 0) (σ' := (qM σ u27 u28)) (c_X8_check (gL Γ) (gl Γ) hF σ  v5 v6 u20  hc29) rfl rfl kw_1068 kw_1070 kp_34 kw_9 kw_1071 ⟨rfl, by decide, by decide, by decide +kernel⟩ (FMi hF (t := 18) (by decide)) (fun _ _ _ => rfl) rfl rfl rfl ⟨Nat.le_of_ble_eq_true rfl, Nat.le_of_ble_eq_true rfl⟩ rfl (Nat.le_of_ble_eq_true rfl) dX8_right_129 ⟨_, rfl⟩ rfl ?_
              refine G_goto hΓ (tgt := 142) dX8_right_132 (by decide) ?_
              exact G_loc [3, 0, 1, 2, 4, 5, 6] rfl (K26 _ _ _ hf)
          · rw [if_pos hc31] at hf
            refine G_goto hΓ (tgt := 145) dX8_right_103 (by decide) ?_
            exact G_loc [1, 2, 0, 3, 4, 5] rfl (K19 _ _ _ _ hf)
    exact loop39 _ _ _ _ _ _ hf
  · rw [if_pos hc59] at hf
    refine G_aload_n hΓ 2 dX8_right_14 rfl ?_
    refine G_aload_n hΓ 2 dX8_right_15 rfl ?_
    refine F_get hΓ (t := 18) (i := 0) (ci := 11) (C := RX8) (T := TX8) (N := 47) (fs8 (gl Γ) 0) (v := .int (v 34)) (FMi hF (t := 18) (by decide)) (fun _ _ _ => rfl) rfl rfl rfl rfl inW8 34 (by decide) (TT_cons kw_914) rfl dX8_right_16 ?_
    refine G_bipush (v := 15) hΓ dX8_right_19 (by decide) ?_
    refine G_isub hΓ dX8_right_21 ?_
    refine G_bipush (v := 15) hΓ dX8_right_22 (by decide) ?_
    obtain ⟨u40, hc41, hf⟩ := bd_some hf
    refine G_callV hΓ (n := 2) (As := [.int ((v 34) - 15), .int 15]) (t := 18) (i := 0) (ci := 11) (T := TX8) (N := 47) (FS := fs8 (gl Γ) 0) (σ' := (qM σ v m)) (c_X8_number (gL Γ) (gl Γ) hF σ  v m ((v 34) - 15) 15  hc41) rfl rfl kw_1136 kw_1138 kp_45 kw_9 kw_1139 ⟨rfl, by decide, by decide, by decide +kernel⟩ (FMi hF (t := 18) (by decide)) (fun _ _ _ => rfl) rfl rfl rfl ⟨Nat.le_of_ble_eq_true rfl, Nat.le_of_ble_eq_true rfl⟩ rfl (Nat.le_of_ble_eq_true rfl) dX8_right_24 ⟨_, rfl⟩ rfl ?_
    refine G_istore_n hΓ [(3, .int u40), (2, .int u1), (0, .ref (ya (gl Γ) 18 0)), (1, .int p1)] dX8_right_27 (by decide) rfl ?_
    refine G_aload_n hΓ 2 dX8_right_28 rfl ?_
    refine G_iconst (v := 0) hΓ dX8_right_29 (by decide) ?_
    refine F_put hΓ (t := 18) (i := 0) (ci := 11) (C := RX8) (T := TX8) (N := 47) (fs8 (gl Γ) 0) (f := v) (f' := (upd v 41 0)) (σ' := (qM σ (upd v 41 0) m)) (ty := .int) (v := .int 0) tyX8 tyX8_ok nmX8 (FMi hF (t := 18) (by decide)) (fun _ _ _ => rfl) rfl qM_v rfl inW8 41 (by decide) (TT_cons kw_921) rfl (by decide +kernel) rfl rfl (fun _ _ => Nat.le_of_ble_eq_true rfl) (fun _ _ => rfl) dX8_right_30 ?_
    refine G_iconst (v := 0) hΓ dX8_right_33 (by decide) ?_
    refine G_istore hΓ [(4, .int 0), (3, .int u40), (2, .int u1), (0, .ref (ya (gl Γ) 18 0)), (1, .int p1)] dX8_right_34 (by decide) rfl ?_
    obtain ⟨k45, hk_k45, hf⟩ := jn_eq hf
    try dsimp only at hf
    have K46 : ∀ v42 v43 v44, k45 (v42, v43, v44) = some (v', m', r9) → GG Γ (0, 0) (qM σ v42 v43) 65 [(4, .int v44), (3, .int u40), (2, .int u1), (0, .ref (ya (gl Γ) 18 0)), (1, .int p1)] [] := by
      intro v42 v43 v44 hf
      subst hk_k45
      try dsimp only at hf
      refine G_iload_n hΓ 1 dX8_right_65 rfl ?_
      refine G_aload_n hΓ 3 dX8_right_66 rfl ?_
      refine G_bipush (v := 15) hΓ dX8_right_67 (by decide) ?_
      obtain ⟨u52, hc53, hf⟩ := bd_some hf
      refine G_callV hΓ (n := 1) (As := [.int 15]) (t := 18) (i := 0) (ci := 11) (T := TX8) (N := 47) (FS := fs8 (gl Γ) 0) (σ' := (qM σ v42 v43)) (c_X8_checkOf (gL Γ) (gl Γ) hF σ  v42 v43 15  hc53) rfl rfl kw_1072 kw_1074 kp_35 kw_9 kw_1075 ⟨rfl, by decide, by decide, by decide +kernel⟩ (FMi hF (t := 18) (by decide)) (fun _ _ _ => rfl) rfl rfl rfl ⟨Nat.le_of_ble_eq_true rfl, Nat.le_of_ble_eq_true rfl⟩ rfl (Nat.le_of_ble_eq_true rfl) dX8_right_69 ⟨_, rfl⟩ rfl ?_
      obtain ⟨x54, he57, hf⟩ := lt_eq hf
      have K55 : GG Γ (0, 0) (qM σ v42 v43) 80 [(4, .int v44), (3, .int u40), (2, .int u1), (0, .ref (ya (gl Γ) 18 0)), (1, .int p1)] [.int x54] := by
        cases hf
        exact G_zret hΓ (by rw [he57]; (repeat' split) <;> rfl) hE dX8_right_80
      have he := he57
      refine G_icmp_ne hΓ (tgt := 79) dX8_right_72 (by decide) (fun hc56 => ?_) (fun hc56 => ?_)
      · rw [if_neg hc56] at he
        refine G_iconst (v := 0) hΓ dX8_right_79 (by decide) ?_
        subst he
        exact K55
      · rw [if_pos hc56] at he
        refine G_iconst (v := 1) hΓ dX8_right_75 (by decide) ?_
        refine G_goto hΓ (tgt := 80) dX8_right_76 (by decide) ?_
        subst he
        exact K55
    clear hk_k45
    have loop58 : ∀ (nn : Nat) v42 v43 v44, L_X8_right_36  k45 nn v42 v43 v44 = some (v', m', r9) → GG Γ (0, 0) (qM σ v42 v43) 36 [(4, .int v44), (3, .int u40), (2, .int u1), (0, .ref (ya (gl Γ) 18 0)), (1, .int p1)] [] := by
      intro nn
      induction nn with
      | zero => intro v42 v43 v44 hf; cases hf
      | succ nn ih =>
        intro v42 v43 v44 hf
        rw [L_X8_right_36] at hf
        refine G_iload hΓ 0 dX8_right_36 rfl ?_
        refine G_aload_n hΓ 3 dX8_right_38 rfl ?_
        refine F_get hΓ (t := 18) (i := 0) (ci := 11) (C := RX8) (T := TX8) (N := 47) (fs8 (gl Γ) 0) (v := .int (v42 34)) (FMi hF (t := 18) (by decide)) (fun _ _ _ => rfl) rfl rfl rfl rfl inW8 34 (by decide) (TT_cons kw_914) rfl dX8_right_39 ?_
        refine G_bipush (v := 15) hΓ dX8_right_42 (by decide) ?_
        refine G_isub hΓ dX8_right_44 ?_
        refine G_icmp_ge hΓ (tgt := 65) dX8_right_45 (by decide) (fun hc51 => ?_) (fun hc51 => ?_)
        · rw [if_pos hc51] at hf
          exact (K46 _ _ _ hf)
        · rw [if_neg hc51] at hf
          refine G_aload_n hΓ 3 dX8_right_48 rfl ?_
          refine G_aload_n hΓ 3 dX8_right_49 rfl ?_
          refine F_get hΓ (t := 18) (i := 0) (ci := 11) (C := RX8) (T := TX8) (N := 47) (fs8 (gl Γ) 0) (v := .ref (ya (gl Γ) 19 26)) (FMi hF (t := 18) (by decide)) (fun _ _ _ => rfl) rfl rfl rfl rfl inW8 33 (by decide) (TT_cons kw_913) rfl dX8_right_50 ?_
          refine G_iload hΓ 0 dX8_right_53 rfl ?_
          obtain ⟨hg47, hf⟩ := gd_some hf
          refine F_ald (G_bald hΓ) (t := 19) (i := 26) (f := (v43 26)) (FMi hF (t := 19) (by decide)) (fun _ _ _ => rfl) rfl hg47 dX8_right_55 ?_
          obtain ⟨⟨u48, u49⟩, hc50, hf⟩ := bd_some hf
          try dsimp only at hf
          refine G_callV hΓ (n := 1) (As := [.int ((v43 26) v44.toNatClampNeg)]) (t := 18) (i := 0) (ci := 11) (T := TX8) (N := 47) (FS := fs8 (gl Γ) 0) (σ' := (qM σ u48 u49)) (c_X8_check (gL Γ) (gl Γ) hF σ  v42 v43 ((v43 26) v44.toNatClampNeg)  hc50) rfl rfl kw_1068 kw_1070 kp_34 kw_9 kw_1071 ⟨rfl, by decide, by decide, by decide +kernel⟩ (FMi hF (t := 18) (by decide)) (fun _ _ _ => rfl) rfl rfl rfl ⟨Nat.le_of_ble_eq_true rfl, Nat.le_of_ble_eq_true rfl⟩ rfl (Nat.le_of_ble_eq_true rfl) dX8_right_56 ⟨_, rfl⟩ rfl ?_
          refine G_iinc hΓ 0 [(4, .int (v44 + 1)), (3, .int u40), (2, .int u1), (0, .ref (ya (gl Γ) 18 0)), (1, .int p1)] dX8_right_59 rfl rfl (by decide) rfl ?_
          refine G_goto hΓ (tgt := 36) dX8_right_62 (by decide) ?_
          exact (ih _ _ _ hf)
    exact loop58 _ _ _ _ hf
theorem dX8_read_0 : decode cX8_read 0 = .ok (.aload_n 0, 1) := by decide +kernel
theorem dX8_read_1 : decode cX8_read 1 = .ok (.iload_n 1, 1) := by decide +kernel
theorem dX8_read_2 : decode cX8_read 2 = .ok (.invokevirtual 226, 3) := by decide +kernel
theorem dX8_read_5 : decode cX8_read 5 = .ok (.istore_n 2, 1) := by decide +kernel
theorem dX8_read_6 : decode cX8_read 6 = .ok (.iload_n 2, 1) := by decide +kernel
theorem dX8_read_7 : decode cX8_read 7 = .ok (.iconst (-1), 1) := by decide +kernel
theorem dX8_read_8 : decode cX8_read 8 = .ok (.if_icmp .ne 11, 3) := by decide +kernel
theorem dX8_read_11 : decode cX8_read 11 = .ok (.aload_n 0, 1) := by decide +kernel
theorem dX8_read_12 : decode cX8_read 12 = .ok (.getfield 193, 3) := by decide +kernel
theorem dX8_read_15 : decode cX8_read 15 = .ok (.iconst (-1), 1) := by decide +kernel
theorem dX8_read_16 : decode cX8_read 16 = .ok (.if_icmp .ne 5, 3) := by decide +kernel
theorem dX8_read_19 : decode cX8_read 19 = .ok (.iload_n 2, 1) := by decide +kernel
theorem dX8_read_20 : decode cX8_read 20 = .ok (.ireturn, 1) := by decide +kernel
theorem dX8_read_21 : decode cX8_read 21 = .ok (.aload_n 0, 1) := by decide +kernel
theorem dX8_read_22 : decode cX8_read 22 = .ok (.getfield 58, 3) := by decide +kernel
theorem dX8_read_25 : decode cX8_read 25 = .ok (.iload_n 1, 1) := by decide +kernel
theorem dX8_read_26 : decode cX8_read 26 = .ok (.iaload, 1) := by decide +kernel
theorem dX8_read_27 : decode cX8_read 27 = .ok (.iconst 1, 1) := by decide +kernel
theorem dX8_read_28 : decode cX8_read 28 = .ok (.isub, 1) := by decide +kernel
theorem dX8_read_29 : decode cX8_read 29 = .ok (.istore_n 3, 1) := by decide +kernel
theorem dX8_read_30 : decode cX8_read 30 = .ok (.aload_n 0, 1) := by decide +kernel
theorem dX8_read_31 : decode cX8_read 31 = .ok (.iload_n 1, 1) := by decide +kernel
theorem dX8_read_32 : decode cX8_read 32 = .ok (.iload_n 3, 1) := by decide +kernel
theorem dX8_read_33 : decode cX8_read 33 = .ok (.invokevirtual 199, 3) := by decide +kernel
theorem dX8_read_36 : decode cX8_read 36 = .ok (.istore 4, 2) := by decide +kernel
theorem dX8_read_38 : decode cX8_read 38 = .ok (.iload_n 3, 1) := by decide +kernel
theorem dX8_read_39 : decode cX8_read 39 = .ok (.aload_n 0, 1) := by decide +kernel
theorem dX8_read_40 : decode cX8_read 40 = .ok (.getfield 193, 3) := by decide +kernel
theorem dX8_read_43 : decode cX8_read 43 = .ok (.isub, 1) := by decide +kernel
theorem dX8_read_44 : decode cX8_read 44 = .ok (.istore 5, 2) := by decide +kernel
theorem dX8_read_46 : decode cX8_read 46 = .ok (.iload 5, 2) := by decide +kernel
theorem dX8_read_48 : decode cX8_read 48 = .ok (.ifCond .ge 5, 3) := by decide +kernel
theorem dX8_read_51 : decode cX8_read 51 = .ok (.iconst (-1), 1) := by decide +kernel
theorem dX8_read_52 : decode cX8_read 52 = .ok (.ireturn, 1) := by decide +kernel
theorem dX8_read_53 : decode cX8_read 53 = .ok (.iload 5, 2) := by decide +kernel
theorem dX8_read_55 : decode cX8_read 55 = .ok (.aload_n 0, 1) := by decide +kernel
theorem dX8_read_56 : decode cX8_read 56 = .ok (.invokevirtual 223, 3) := by decide +kernel
theorem dX8_read_59 : decode cX8_read 59 = .ok (.if_icmp .ge 96, 3) := by decide +kernel
theorem dX8_read_62 : decode cX8_read 62 = .ok (.iload 5, 2) := by decide +kernel
theorem dX8_read_64 : decode cX8_read 64 = .ok (.iconst 5, 1) := by decide +kernel
theorem dX8_read_65 : decode cX8_read 65 = .ok (.irem, 1) := by decide +kernel
theorem dX8_read_66 : decode cX8_read 66 = .ok (.ifCond .ne 22, 3) := by decide +kernel
theorem dX8_read_69 : decode cX8_read 69 = .ok (.iload 4, 2) := by decide +kernel
theorem dX8_read_71 : decode cX8_read 71 = .ok (.aload_n 0, 1) := by decide +kernel
theorem dX8_read_72 : decode cX8_read 72 = .ok (.iload_n 1, 1) := by decide +kernel
theorem dX8_read_73 : decode cX8_read 73 = .ok (.iload_n 3, 1) := by decide +kernel
theorem dX8_read_74 : decode cX8_read 74 = .ok (.iconst 1, 1) := by decide +kernel
theorem dX8_read_75 : decode cX8_read 75 = .ok (.isub, 1) := by decide +kernel
theorem dX8_read_76 : decode cX8_read 76 = .ok (.invokevirtual 199, 3) := by decide +kernel
theorem dX8_read_79 : decode cX8_read 79 = .ok (.if_icmp .ne 7, 3) := by decide +kernel
theorem dX8_read_82 : decode cX8_read 82 = .ok (.iconst 1, 1) := by decide +kernel
theorem dX8_read_83 : decode cX8_read 83 = .ok (.goto 4, 3) := by decide +kernel
theorem dX8_read_86 : decode cX8_read 86 = .ok (.iconst (-1), 1) := by decide +kernel
theorem dX8_read_87 : decode cX8_read 87 = .ok (.ireturn, 1) := by decide +kernel
theorem dX8_read_88 : decode cX8_read 88 = .ok (.iconst 0, 1) := by decide +kernel
theorem dX8_read_89 : decode cX8_read 89 = .ok (.istore 6, 2) := by decide +kernel
theorem dX8_read_91 : decode cX8_read 91 = .ok (.iconst 1, 1) := by decide +kernel
theorem dX8_read_92 : decode cX8_read 92 = .ok (.istore 7, 2) := by decide +kernel
theorem dX8_read_94 : decode cX8_read 94 = .ok (.iload 7, 2) := by decide +kernel
theorem dX8_read_96 : decode cX8_read 96 = .ok (.iconst 5, 1) := by decide +kernel
theorem dX8_read_97 : decode cX8_read 97 = .ok (.if_icmp .ge 34, 3) := by decide +kernel
theorem dX8_read_100 : decode cX8_read 100 = .ok (.iload 5, 2) := by decide +kernel
theorem dX8_read_102 : decode cX8_read 102 = .ok (.iconst 4, 1) := by decide +kernel
theorem dX8_read_103 : decode cX8_read 103 = .ok (.if_icmp .ne 28, 3) := by decide +kernel
theorem dX8_read_106 : decode cX8_read 106 = .ok (.iconst 2, 1) := by decide +kernel
theorem dX8_read_107 : decode cX8_read 107 = .ok (.iload 6, 2) := by decide +kernel
theorem dX8_read_109 : decode cX8_read 109 = .ok (.imul, 1) := by decide +kernel
theorem dX8_read_110 : decode cX8_read 110 = .ok (.aload_n 0, 1) := by decide +kernel
theorem dX8_read_111 : decode cX8_read 111 = .ok (.iload_n 1, 1) := by decide +kernel
theorem dX8_read_112 : decode cX8_read 112 = .ok (.aload_n 0, 1) := by decide +kernel
theorem dX8_read_113 : decode cX8_read 113 = .ok (.getfield 193, 3) := by decide +kernel
theorem dX8_read_116 : decode cX8_read 116 = .ok (.iload 7, 2) := by decide +kernel
theorem dX8_read_118 : decode cX8_read 118 = .ok (.iadd, 1) := by decide +kernel
theorem dX8_read_119 : decode cX8_read 119 = .ok (.invokevirtual 199, 3) := by decide +kernel
theorem dX8_read_122 : decode cX8_read 122 = .ok (.iadd, 1) := by decide +kernel
theorem dX8_read_123 : decode cX8_read 123 = .ok (.istore 6, 2) := by decide +kernel
theorem dX8_read_125 : decode cX8_read 125 = .ok (.iinc 7 1, 3) := by decide +kernel
theorem dX8_read_128 : decode cX8_read 128 = .ok (.goto (-34), 3) := by decide +kernel
theorem dX8_read_131 : decode cX8_read 131 = .ok (.iload 5, 2) := by decide +kernel
theorem dX8_read_133 : decode cX8_read 133 = .ok (.iconst 4, 1) := by decide +kernel
theorem dX8_read_134 : decode cX8_read 134 = .ok (.if_icmp .ne 19, 3) := by decide +kernel
theorem dX8_read_137 : decode cX8_read 137 = .ok (.iload 6, 2) := by decide +kernel
theorem dX8_read_139 : decode cX8_read 139 = .ok (.aload_n 0, 1) := by decide +kernel
theorem dX8_read_140 : decode cX8_read 140 = .ok (.getfield 196, 3) := by decide +kernel
theorem dX8_read_143 : decode cX8_read 143 = .ok (.invokestatic 184, 3) := by decide +kernel
theorem dX8_read_146 : decode cX8_read 146 = .ok (.if_icmp .eq 7, 3) := by decide +kernel
theorem dX8_read_149 : decode cX8_read 149 = .ok (.iconst 1, 1) := by decide +kernel
theorem dX8_read_150 : decode cX8_read 150 = .ok (.goto 4, 3) := by decide +kernel
theorem dX8_read_153 : decode cX8_read 153 = .ok (.iconst (-1), 1) := by decide +kernel
theorem dX8_read_154 : decode cX8_read 154 = .ok (.ireturn, 1) := by decide +kernel
theorem dX8_read_155 : decode cX8_read 155 = .ok (.iload 5, 2) := by decide +kernel
theorem dX8_read_157 : decode cX8_read 157 = .ok (.aload_n 0, 1) := by decide +kernel
theorem dX8_read_158 : decode cX8_read 158 = .ok (.invokevirtual 223, 3) := by decide +kernel
theorem dX8_read_161 : decode cX8_read 161 = .ok (.isub, 1) := by decide +kernel
theorem dX8_read_162 : decode cX8_read 162 = .ok (.istore 5, 2) := by decide +kernel
theorem dX8_read_164 : decode cX8_read 164 = .ok (.iload 5, 2) := by decide +kernel
theorem dX8_read_166 : decode cX8_read 166 = .ok (.iconst 1, 1) := by decide +kernel
theorem dX8_read_167 : decode cX8_read 167 = .ok (.if_icmp .ne 5, 3) := by decide +kernel
theorem dX8_read_170 : decode cX8_read 170 = .ok (.iconst (-1), 1) := by decide +kernel
theorem dX8_read_171 : decode cX8_read 171 = .ok (.ireturn, 1) := by decide +kernel
theorem dX8_read_172 : decode cX8_read 172 = .ok (.iload 5, 2) := by decide +kernel
theorem dX8_read_174 : decode cX8_read 174 = .ok (.bipush 9, 2) := by decide +kernel
theorem dX8_read_176 : decode cX8_read 176 = .ok (.if_icmp .ne 16, 3) := by decide +kernel
theorem dX8_read_179 : decode cX8_read 179 = .ok (.iload 4, 2) := by decide +kernel
theorem dX8_read_181 : decode cX8_read 181 = .ok (.iconst 1, 1) := by decide +kernel
theorem dX8_read_182 : decode cX8_read 182 = .ok (.if_icmp .ne 8, 3) := by decide +kernel
theorem dX8_read_185 : decode cX8_read 185 = .ok (.bipush 11, 2) := by decide +kernel
theorem dX8_read_187 : decode cX8_read 187 = .ok (.goto 4, 3) := by decide +kernel
theorem dX8_read_190 : decode cX8_read 190 = .ok (.iconst 5, 1) := by decide +kernel
theorem dX8_read_191 : decode cX8_read 191 = .ok (.ireturn, 1) := by decide +kernel
theorem dX8_read_192 : decode cX8_read 192 = .ok (.iload 4, 2) := by decide +kernel
theorem dX8_read_194 : decode cX8_read 194 = .ok (.ifCond .ne 5, 3) := by decide +kernel
theorem dX8_read_197 : decode cX8_read 197 = .ok (.iconst 2, 1) := by decide +kernel
theorem dX8_read_198 : decode cX8_read 198 = .ok (.ireturn, 1) := by decide +kernel
theorem dX8_read_199 : decode cX8_read 199 = .ok (.iload 5, 2) := by decide +kernel
theorem dX8_read_201 : decode cX8_read 201 = .ok (.iconst 2, 1) := by decide +kernel
theorem dX8_read_202 : decode cX8_read 202 = .ok (.if_icmp .ne 17, 3) := by decide +kernel
theorem dX8_read_205 : decode cX8_read 205 = .ok (.aload_n 0, 1) := by decide +kernel
theorem dX8_read_206 : decode cX8_read 206 = .ok (.iload_n 1, 1) := by decide +kernel
theorem dX8_read_207 : decode cX8_read 207 = .ok (.invokevirtual 229, 3) := by decide +kernel
theorem dX8_read_210 : decode cX8_read 210 = .ok (.ifCond .eq 7, 3) := by decide +kernel
theorem dX8_read_213 : decode cX8_read 213 = .ok (.iconst (-1), 1) := by decide +kernel
theorem dX8_read_214 : decode cX8_read 214 = .ok (.goto 4, 3) := by decide +kernel
theorem dX8_read_217 : decode cX8_read 217 = .ok (.iconst 3, 1) := by decide +kernel
theorem dX8_read_218 : decode cX8_read 218 = .ok (.ireturn, 1) := by decide +kernel
theorem dX8_read_219 : decode cX8_read 219 = .ok (.iload 5, 2) := by decide +kernel
theorem dX8_read_221 : decode cX8_read 221 = .ok (.bipush 8, 2) := by decide +kernel
theorem dX8_read_223 : decode cX8_read 223 = .ok (.if_icmp .ne 8, 3) := by decide +kernel
theorem dX8_read_226 : decode cX8_read 226 = .ok (.bipush 10, 2) := by decide +kernel
theorem dX8_read_228 : decode cX8_read 228 = .ok (.goto 4, 3) := by decide +kernel
theorem dX8_read_231 : decode cX8_read 231 = .ok (.iconst (-1), 1) := by decide +kernel
theorem dX8_read_232 : decode cX8_read 232 = .ok (.ireturn, 1) := by decide +kernel
noncomputable def L_X8_read_94 (v6 : Int32) (u1 : Nat → Int32) (u2 : Nat → Nat → Int32) (p1 : Int32) (k35 : Int32 × Int32 → Option ((Nat → Int32) × (Nat → Nat → Int32) × Int32)) : Nat → Int32 → Int32 → Option ((Nat → Int32) × (Nat → Nat → Int32) × Int32)
  | 0, _, _ => none
  | nn + 1, v33, v34 => if 5 ≤ v33 then k35 (v33, v34) else if (v6 - (u1 45)) = 4 then bd (f_X8_bitAt u2 p1 ((u1 45) + v33)) (fun u37 => L_X8_read_94 v6 u1 u2 p1 k35 nn (v33 + 1) ((2 * v34) + u37)) else k35 (v33, v34)
noncomputable def f_X8_read  (v : Nat → Int32) (m : Nat → Nat → Int32) (p1 : Int32) : Option ((Nat → Int32) × (Nat → Nat → Int32) × Int32) := bd (f_X8_body v m p1) (fun ⟨u1, u2, u3⟩ => if u3 = (-1) then if (u1 45) = (-1) then some (u1, u2, u3) else gd (vp_in p1 32) (lt (α := Int32) (((u2 14) p1.toNatClampNeg) - 1) (fun v6 => bd (f_X8_bitAt u2 p1 v6) (fun u7 => if 0 ≤ (v6 - (u1 45)) then bd (f_X8_tail u1) (fun u9 => if u9 ≤ (v6 - (u1 45)) then bd (f_X8_tail u1) (fun u11 => if ((v6 - (u1 45)) - u11) = 1 then some (u1, u2, (-1)) else if ((v6 - (u1 45)) - u11) = 9 then lt (α := Int32) (if u7 = 1 then 11 else 5) (fun x27 => some (u1, u2, x27)) else if u7 = 0 then some (u1, u2, 2) else if ((v6 - (u1 45)) - u11) = 2 then bd (f_X8_right u1 u2 p1) (fun ⟨u17, u18, u19⟩ => lt (α := Int32) (if u19 = 0 then 3 else (-1)) (fun x21 => some (u17, u18, x21))) else lt (α := Int32) (if ((v6 - (u1 45)) - u11) = 8 then 10 else (-1)) (fun x13 => some (u1, u2, x13))) else if ((v6 - (u1 45)) - (v6 - (u1 45)) / 5 * 5) = 0 then bd (f_X8_bitAt u2 p1 (v6 - 1)) (fun u50 => lt (α := Int32) (if u7 = u50 then 1 else (-1)) (fun x52 => some (u1, u2, x52))) else jn (α := Int32 × Int32) (fun ⟨v33, v34⟩ => jn (α := Int32) (fun x41 => some (u1, u2, x41)) (fun k43 => if (v6 - (u1 45)) = 4 then bd (f_X8_countOf (u1 46)) (fun u45 => if v34 = u45 then k43 (-1) else k43 1) else k43 (-1))) (fun k35 => L_X8_read_94 v6 u1 u2 p1 k35 fu 1 0)) else some (u1, u2, (-1))))) else some (u1, u2, u3))
set_option maxHeartbeats 4000000 in
set_option maxRecDepth 100000 in
theorem c_X8_read (l : Launch) (Λ : LY) (hF : FM Λ) (σ : CS)  (v : Nat → Int32) (m : Nat → Nat → Int32) (p1 : Int32)   {v' : Nat → Int32} {m' : Nat → Nat → Int32} {r9 : Int32} (hf : f_X8_read v m p1 = some (v', m', r9)) : CM l yX8_read (.code yX8_read cX8_read 8 (some .int) :: TT) ({ frames := 4, cells := 0, slots := 0, locals := 88 }) Λ [.ref (ya Λ 18 0), .int p1] (qM σ v m) (qM σ v' m') (some (.int r9)) := by
  refine CM_intro (own := RX8) (by decide) rfl (Nat.le_of_ble_eq_true rfl) ?_
  intro Γ hg hl hΓ hE
  subst hg; subst hl
  show GG Γ (0, 0) (qM σ v m) 0 [(0, .ref (ya (gl Γ) 18 0)), (1, .int p1)] []
  unfold f_X8_read at hf
  refine G_aload_n hΓ 0 dX8_read_0 rfl ?_
  refine G_iload_n hΓ 1 dX8_read_1 rfl ?_
  obtain ⟨⟨u1, u2, u3⟩, hc4, hf⟩ := bd_some hf
  try dsimp only at hf
  refine G_callV hΓ (n := 1) (As := [.int p1]) (t := 18) (i := 0) (ci := 11) (T := TX8) (N := 47) (FS := fs8 (gl Γ) 0) (σ' := (qM σ u1 u2)) (c_X8_body (gL Γ) (gl Γ) hF σ  v m p1  hc4) rfl rfl kw_1124 kw_1126 kp_42 kw_9 kw_1127 ⟨rfl, by decide, by decide, by decide +kernel⟩ (FMi hF (t := 18) (by decide)) (fun _ _ _ => rfl) rfl rfl rfl ⟨Nat.le_of_ble_eq_true rfl, Nat.le_of_ble_eq_true rfl⟩ rfl (Nat.le_of_ble_eq_true rfl) dX8_read_2 ⟨_, rfl⟩ rfl ?_
  refine G_istore_n hΓ [(2, .int u3), (0, .ref (ya (gl Γ) 18 0)), (1, .int p1)] dX8_read_5 (by decide) rfl ?_
  refine G_iload_n hΓ 0 dX8_read_6 rfl ?_
  refine G_iconst (v := (-1)) hΓ dX8_read_7 (by decide) ?_
  refine G_icmp_ne hΓ (tgt := 19) dX8_read_8 (by decide) (fun hc60 => ?_) (fun hc60 => ?_)
  · rw [if_neg hc60] at hf
    refine G_iload_n hΓ 0 dX8_read_19 rfl ?_
    cases hf
    exact G_iret hΓ hE dX8_read_20
  · rw [if_pos hc60] at hf
    refine G_aload_n hΓ 1 dX8_read_11 rfl ?_
    refine F_get hΓ (t := 18) (i := 0) (ci := 11) (C := RX8) (T := TX8) (N := 47) (fs8 (gl Γ) 0) (v := .int (u1 45)) (FMi hF (t := 18) (by decide)) (fun _ _ _ => rfl) rfl rfl rfl rfl inW8 45 (by decide) (TT_cons kw_925) rfl dX8_read_12 ?_
    refine G_iconst (v := (-1)) hΓ dX8_read_15 (by decide) ?_
    refine G_icmp_ne hΓ (tgt := 21) dX8_read_16 (by decide) (fun hc59 => ?_) (fun hc59 => ?_)
    · rw [if_neg hc59] at hf
      refine G_aload_n hΓ 1 dX8_read_21 rfl ?_
      refine F_get hΓ (t := 18) (i := 0) (ci := 11) (C := RX8) (T := TX8) (N := 47) (fs8 (gl Γ) 0) (v := .ref (ya (gl Γ) 19 14)) (FMi hF (t := 18) (by decide)) (fun _ _ _ => rfl) rfl rfl rfl rfl inW8 19 (by decide) (TT_cons kw_899) rfl dX8_read_22 ?_
      refine G_iload_n hΓ 2 dX8_read_25 rfl ?_
      obtain ⟨hg5, hf⟩ := gd_some hf
      refine F_ald (G_iald hΓ) (t := 19) (i := 14) (f := (u2 14)) (FMi hF (t := 19) (by decide)) (fun _ _ _ => rfl) rfl hg5 dX8_read_26 ?_
      refine G_iconst (v := 1) hΓ dX8_read_27 (by decide) ?_
      refine G_isub hΓ dX8_read_28 ?_
      obtain ⟨v6, hv_v6, hf⟩ := lt_eq hf
      refine G_topi hv_v6 ?_
      refine G_istore_n hΓ [(3, .int v6), (2, .int u3), (0, .ref (ya (gl Γ) 18 0)), (1, .int p1)] dX8_read_29 (by decide) rfl ?_
      refine G_aload_n hΓ 2 dX8_read_30 rfl ?_
      refine G_iload_n hΓ 3 dX8_read_31 rfl ?_
      refine G_iload_n hΓ 0 dX8_read_32 rfl ?_
      obtain ⟨u7, hc8, hf⟩ := bd_some hf
      refine G_callV hΓ (n := 2) (As := [.int p1, .int v6]) (t := 18) (i := 0) (ci := 11) (T := TX8) (N := 47) (FS := fs8 (gl Γ) 0) (σ' := (qM σ u1 u2)) (c_X8_bitAt (gL Γ) (gl Γ) hF σ  u1 u2 p1 v6  hc8) rfl rfl kw_1128 kw_1130 kp_43 kw_9 kw_1131 ⟨rfl, by decide, by decide, by decide +kernel⟩ (FMi hF (t := 18) (by decide)) (fun _ _ _ => rfl) rfl rfl rfl ⟨Nat.le_of_ble_eq_true rfl, Nat.le_of_ble_eq_true rfl⟩ rfl (Nat.le_of_ble_eq_true rfl) dX8_read_33 ⟨_, rfl⟩ rfl ?_
      refine G_istore hΓ [(4, .int u7), (3, .int v6), (2, .int u3), (0, .ref (ya (gl Γ) 18 0)), (1, .int p1)] dX8_read_36 (by decide) rfl ?_
      refine G_iload_n hΓ 1 dX8_read_38 rfl ?_
      refine G_aload_n hΓ 3 dX8_read_39 rfl ?_
      refine F_get hΓ (t := 18) (i := 0) (ci := 11) (C := RX8) (T := TX8) (N := 47) (fs8 (gl Γ) 0) (v := .int (u1 45)) (FMi hF (t := 18) (by decide)) (fun _ _ _ => rfl) rfl rfl rfl rfl inW8 45 (by decide) (TT_cons kw_925) rfl dX8_read_40 ?_
      refine G_isub hΓ dX8_read_43 ?_
      refine G_istore hΓ [(5, .int (v6 - (u1 45))), (4, .int u7), (3, .int v6), (2, .int u3), (0, .ref (ya (gl Γ) 18 0)), (1, .int p1)] dX8_read_44 (by decide) rfl ?_
      refine G_iload hΓ 0 dX8_read_46 rfl ?_
      refine G_if_ge hΓ (tgt := 53) dX8_read_48 (by decide) (fun hc58 => ?_) (fun hc58 => ?_)
      · rw [if_pos hc58] at hf
        refine G_iload hΓ 0 dX8_read_53 rfl ?_
        refine G_aload_n hΓ 4 dX8_read_55 rfl ?_
        obtain ⟨u9, hc10, hf⟩ := bd_some hf
        refine G_callV hΓ (n := 0) (As := []) (t := 18) (i := 0) (ci := 11) (T := TX8) (N := 47) (FS := fs8 (gl Γ) 0) (σ' := (qM σ u1 u2)) (c_X8_tail (gL Γ) (gl Γ) hF σ  u1 u2   hc10) rfl rfl kw_1141 kw_1143 kp_46 kw_9 kw_1144 ⟨rfl, by decide, by decide, by decide +kernel⟩ (FMi hF (t := 18) (by decide)) (fun _ _ _ => rfl) rfl rfl rfl ⟨Nat.le_of_ble_eq_true rfl, Nat.le_of_ble_eq_true rfl⟩ rfl (Nat.le_of_ble_eq_true rfl) dX8_read_56 ⟨_, rfl⟩ rfl ?_
        refine G_icmp_ge hΓ (tgt := 155) dX8_read_59 (by decide) (fun hc57 => ?_) (fun hc57 => ?_)
        · rw [if_pos hc57] at hf
          refine G_iload hΓ 0 dX8_read_155 rfl ?_
          refine G_aload_n hΓ 4 dX8_read_157 rfl ?_
          obtain ⟨u11, hc12, hf⟩ := bd_some hf
          refine G_callV hΓ (n := 0) (As := []) (t := 18) (i := 0) (ci := 11) (T := TX8) (N := 47) (FS := fs8 (gl Γ) 0) (σ' := (qM σ u1 u2)) (c_X8_tail (gL Γ) (gl Γ) hF σ  u1 u2   hc12) rfl rfl kw_1141 kw_1143 kp_46 kw_9 kw_1144 ⟨rfl, by decide, by decide, by decide +kernel⟩ (FMi hF (t := 18) (by decide)) (fun _ _ _ => rfl) rfl rfl rfl ⟨Nat.le_of_ble_eq_true rfl, Nat.le_of_ble_eq_true rfl⟩ rfl (Nat.le_of_ble_eq_true rfl) dX8_read_158 ⟨_, rfl⟩ rfl ?_
          refine G_isub hΓ dX8_read_161 ?_
          refine G_istore hΓ [(5, .int ((v6 - (u1 45)) - u11)), (4, .int u7), (3, .int v6), (2, .int u3), (0, .ref (ya (gl Γ) 18 0)), (1, .int p1)] dX8_read_162 (by decide) rfl ?_
          refine G_iload hΓ 0 dX8_read_164 rfl ?_
          refine G_iconst (v := 1) hΓ dX8_read_166 (by decide) ?_
          refine G_icmp_ne hΓ (tgt := 172) dX8_read_167 (by decide) (fun hc32 => ?_) (fun hc32 => ?_)
          · rw [if_neg hc32] at hf
            refine G_iload hΓ 0 dX8_read_172 rfl ?_
            refine G_bipush (v := 9) hΓ dX8_read_174 (by decide) ?_
            refine G_icmp_ne hΓ (tgt := 192) dX8_read_176 (by decide) (fun hc31 => ?_) (fun hc31 => ?_)
            · rw [if_neg hc31] at hf
              refine G_iload hΓ 1 dX8_read_192 rfl ?_
              refine G_if_ne hΓ (tgt := 199) dX8_read_194 (by decide) (fun hc26 => ?_) (fun hc26 => ?_)
              · rw [if_neg hc26] at hf
                refine G_iload hΓ 0 dX8_read_199 rfl ?_
                refine G_iconst (v := 2) hΓ dX8_read_201 (by decide) ?_
                refine G_icmp_ne hΓ (tgt := 219) dX8_read_202 (by decide) (fun hc25 => ?_) (fun hc25 => ?_)
                · rw [if_neg hc25] at hf
                  refine G_iload hΓ 0 dX8_read_219 rfl ?_
                  refine G_bipush (v := 8) hΓ dX8_read_221 (by decide) ?_
                  obtain ⟨x13, he16, hf⟩ := lt_eq hf
                  have K14 : GG Γ (0, 0) (qM σ u1 u2) 232 [(5, .int ((v6 - (u1 45)) - u11)), (4, .int u7), (3, .int v6), (2, .int u3), (0, .ref (ya (gl Γ) 18 0)), (1, .int p1)] [.int x13] := by
                    cases hf
                    exact G_iret hΓ hE dX8_read_232
                  have he := he16
                  refine G_icmp_ne hΓ (tgt := 231) dX8_read_223 (by decide) (fun hc15 => ?_) (fun hc15 => ?_)
                  · rw [if_neg hc15] at he
                    refine G_iconst (v := (-1)) hΓ dX8_read_231 (by decide) ?_
                    subst he
                    exact K14
                  · rw [if_pos hc15] at he
                    refine G_bipush (v := 10) hΓ dX8_read_226 (by decide) ?_
                    refine G_goto hΓ (tgt := 232) dX8_read_228 (by decide) ?_
                    subst he
                    exact K14
                · rw [if_pos hc25] at hf
                  refine G_aload_n hΓ 4 dX8_read_205 rfl ?_
                  refine G_iload_n hΓ 5 dX8_read_206 rfl ?_
                  obtain ⟨⟨u17, u18, u19⟩, hc20, hf⟩ := bd_some hf
                  try dsimp only at hf
                  refine G_callV hΓ (n := 1) (As := [.int p1]) (t := 18) (i := 0) (ci := 11) (T := TX8) (N := 47) (FS := fs8 (gl Γ) 0) (σ' := (qM σ u17 u18)) (c_X8_right (gL Γ) (gl Γ) hF σ  u1 u2 p1  hc20) rfl rfl kw_1149 kw_1151 kp_48 kw_9 kw_1152 ⟨rfl, by decide, by decide, by decide +kernel⟩ (FMi hF (t := 18) (by decide)) (fun _ _ _ => rfl) rfl rfl rfl ⟨Nat.le_of_ble_eq_true rfl, Nat.le_of_ble_eq_true rfl⟩ rfl (Nat.le_of_ble_eq_true rfl) dX8_read_207 ⟨_, rfl⟩ rfl ?_
                  obtain ⟨x21, he24, hf⟩ := lt_eq hf
                  have K22 : GG Γ (0, 0) (qM σ u17 u18) 218 [(5, .int ((v6 - (u1 45)) - u11)), (4, .int u7), (3, .int v6), (2, .int u3), (0, .ref (ya (gl Γ) 18 0)), (1, .int p1)] [.int x21] := by
                    cases hf
                    exact G_iret hΓ hE dX8_read_218
                  have he := he24
                  refine G_if_eq hΓ (tgt := 217) dX8_read_210 (by decide) (fun hc23 => ?_) (fun hc23 => ?_)
                  · rw [if_pos hc23] at he
                    refine G_iconst (v := 3) hΓ dX8_read_217 (by decide) ?_
                    subst he
                    exact K22
                  · rw [if_neg hc23] at he
                    refine G_iconst (v := (-1)) hΓ dX8_read_213 (by decide) ?_
                    refine G_goto hΓ (tgt := 218) dX8_read_214 (by decide) ?_
                    subst he
                    exact K22
              · rw [if_pos hc26] at hf
                refine G_iconst (v := 2) hΓ dX8_read_197 (by decide) ?_
                cases hf
                exact G_iret hΓ hE dX8_read_198
            · rw [if_pos hc31] at hf
              refine G_iload hΓ 1 dX8_read_179 rfl ?_
              refine G_iconst (v := 1) hΓ dX8_read_181 (by decide) ?_
              obtain ⟨x27, he30, hf⟩ := lt_eq hf
              have K28 : GG Γ (0, 0) (qM σ u1 u2) 191 [(5, .int ((v6 - (u1 45)) - u11)), (4, .int u7), (3, .int v6), (2, .int u3), (0, .ref (ya (gl Γ) 18 0)), (1, .int p1)] [.int x27] := by
                cases hf
                exact G_iret hΓ hE dX8_read_191
              have he := he30
              refine G_icmp_ne hΓ (tgt := 190) dX8_read_182 (by decide) (fun hc29 => ?_) (fun hc29 => ?_)
              · rw [if_neg hc29] at he
                refine G_iconst (v := 5) hΓ dX8_read_190 (by decide) ?_
                subst he
                exact K28
              · rw [if_pos hc29] at he
                refine G_bipush (v := 11) hΓ dX8_read_185 (by decide) ?_
                refine G_goto hΓ (tgt := 191) dX8_read_187 (by decide) ?_
                subst he
                exact K28
          · rw [if_pos hc32] at hf
            refine G_iconst (v := (-1)) hΓ dX8_read_170 (by decide) ?_
            cases hf
            exact G_iret hΓ hE dX8_read_171
        · rw [if_neg hc57] at hf
          refine G_iload hΓ 0 dX8_read_62 rfl ?_
          refine G_iconst (v := 5) hΓ dX8_read_64 (by decide) ?_
          refine G_irem hΓ dX8_read_65 (by decide) ?_
          refine G_if_ne hΓ (tgt := 88) dX8_read_66 (by decide) (fun hc56 => ?_) (fun hc56 => ?_)
          · rw [if_neg hc56] at hf
            refine G_iconst (v := 0) hΓ dX8_read_88 (by decide) ?_
            refine G_istore hΓ [(6, .int 0), (5, .int (v6 - (u1 45))), (4, .int u7), (3, .int v6), (2, .int u3), (0, .ref (ya (gl Γ) 18 0)), (1, .int p1)] dX8_read_89 (by decide) rfl ?_
            refine G_iconst (v := 1) hΓ dX8_read_91 (by decide) ?_
            refine G_istore hΓ [(7, .int 1), (6, .int 0), (5, .int (v6 - (u1 45))), (4, .int u7), (3, .int v6), (2, .int u3), (0, .ref (ya (gl Γ) 18 0)), (1, .int p1)] dX8_read_92 (by decide) rfl ?_
            obtain ⟨k35, hk_k35, hf⟩ := jn_eq hf
            try dsimp only at hf
            have K36 : ∀ v33 v34, k35 (v33, v34) = some (v', m', r9) → GG Γ (0, 0) (qM σ u1 u2) 131 [(7, .int v33), (6, .int v34), (5, .int (v6 - (u1 45))), (4, .int u7), (3, .int v6), (2, .int u3), (0, .ref (ya (gl Γ) 18 0)), (1, .int p1)] [] := by
              intro v33 v34 hf
              subst hk_k35
              try dsimp only at hf
              refine G_iload hΓ 2 dX8_read_131 rfl ?_
              refine G_iconst (v := 4) hΓ dX8_read_133 (by decide) ?_
              obtain ⟨k43, hk_k43, hf⟩ := jn_eq hf
              try dsimp only at hf
              have K44 : ∀ x41, k43 x41 = some (v', m', r9) → GG Γ (0, 0) (qM σ u1 u2) 154 [(7, .int v33), (6, .int v34), (5, .int (v6 - (u1 45))), (4, .int u7), (3, .int v6), (2, .int u3), (0, .ref (ya (gl Γ) 18 0)), (1, .int p1)] [.int x41] := by
                intro x41 hf
                subst hk_k43
                try dsimp only at hf
                cases hf
                exact G_iret hΓ hE dX8_read_154
              clear hk_k43
              refine G_icmp_ne hΓ (tgt := 153) dX8_read_134 (by decide) (fun hc48 => ?_) (fun hc48 => ?_)
              · rw [if_neg hc48] at hf
                refine G_iconst (v := (-1)) hΓ dX8_read_153 (by decide) ?_
                exact K44 _ hf
              · rw [if_pos hc48] at hf
                refine G_iload hΓ 1 dX8_read_137 rfl ?_
                refine G_aload_n hΓ 6 dX8_read_139 rfl ?_
                refine F_get hΓ (t := 18) (i := 0) (ci := 11) (C := RX8) (T := TX8) (N := 47) (fs8 (gl Γ) 0) (v := .int (u1 46)) (FMi hF (t := 18) (by decide)) (fun _ _ _ => rfl) rfl rfl rfl rfl inW8 46 (by decide) (TT_cons kw_926) rfl dX8_read_140 ?_
                obtain ⟨u45, hc46, hf⟩ := bd_some hf
                refine G_callS hΓ (n := 1) (As := [.int (u1 46)]) (σ' := (qM σ u1 u2)) (c_X8_countOf (gL Γ) (gl Γ) hF (qM σ u1 u2)   (u1 46)  hc46) rfl rfl kw_1086 kw_1087 kw_9 kw_1088 ⟨by decide, by decide, by decide +kernel⟩ rfl rfl ⟨Nat.le_of_ble_eq_true rfl, Nat.le_of_ble_eq_true rfl⟩ rfl (Nat.le_of_ble_eq_true rfl) dX8_read_143 ⟨_, rfl⟩ rfl ?_
                refine G_icmp_eq hΓ (tgt := 153) dX8_read_146 (by decide) (fun hc47 => ?_) (fun hc47 => ?_)
                · rw [if_pos hc47] at hf
                  refine G_iconst (v := (-1)) hΓ dX8_read_153 (by decide) ?_
                  exact K44 _ hf
                · rw [if_neg hc47] at hf
                  refine G_iconst (v := 1) hΓ dX8_read_149 (by decide) ?_
                  refine G_goto hΓ (tgt := 154) dX8_read_150 (by decide) ?_
                  exact K44 _ hf
            clear hk_k35
            have loop49 : ∀ (nn : Nat) v33 v34, L_X8_read_94 v6 u1 u2 p1 k35 nn v33 v34 = some (v', m', r9) → GG Γ (0, 0) (qM σ u1 u2) 94 [(7, .int v33), (6, .int v34), (5, .int (v6 - (u1 45))), (4, .int u7), (3, .int v6), (2, .int u3), (0, .ref (ya (gl Γ) 18 0)), (1, .int p1)] [] := by
              intro nn
              induction nn with
              | zero => intro v33 v34 hf; cases hf
              | succ nn ih =>
                intro v33 v34 hf
                rw [L_X8_read_94] at hf
                refine G_iload hΓ 0 dX8_read_94 rfl ?_
                refine G_iconst (v := 5) hΓ dX8_read_96 (by decide) ?_
                refine G_icmp_ge hΓ (tgt := 131) dX8_read_97 (by decide) (fun hc40 => ?_) (fun hc40 => ?_)
                · rw [if_pos hc40] at hf
                  exact (K36 _ _ hf)
                · rw [if_neg hc40] at hf
                  refine G_iload hΓ 2 dX8_read_100 rfl ?_
                  refine G_iconst (v := 4) hΓ dX8_read_102 (by decide) ?_
                  refine G_icmp_ne hΓ (tgt := 131) dX8_read_103 (by decide) (fun hc39 => ?_) (fun hc39 => ?_)
                  · rw [if_neg hc39] at hf
                    exact (K36 _ _ hf)
                  · rw [if_pos hc39] at hf
                    refine G_iconst (v := 2) hΓ dX8_read_106 (by decide) ?_
                    refine G_iload hΓ 1 dX8_read_107 rfl ?_
                    refine G_imul hΓ dX8_read_109 ?_
                    refine G_aload_n hΓ 6 dX8_read_110 rfl ?_
                    refine G_iload_n hΓ 7 dX8_read_111 rfl ?_
                    refine G_aload_n hΓ 6 dX8_read_112 rfl ?_
                    refine F_get hΓ (t := 18) (i := 0) (ci := 11) (C := RX8) (T := TX8) (N := 47) (fs8 (gl Γ) 0) (v := .int (u1 45)) (FMi hF (t := 18) (by decide)) (fun _ _ _ => rfl) rfl rfl rfl rfl inW8 45 (by decide) (TT_cons kw_925) rfl dX8_read_113 ?_
                    refine G_iload hΓ 0 dX8_read_116 rfl ?_
                    refine G_iadd hΓ dX8_read_118 ?_
                    obtain ⟨u37, hc38, hf⟩ := bd_some hf
                    refine G_callV hΓ (n := 2) (As := [.int p1, .int ((u1 45) + v33)]) (t := 18) (i := 0) (ci := 11) (T := TX8) (N := 47) (FS := fs8 (gl Γ) 0) (σ' := (qM σ u1 u2)) (c_X8_bitAt (gL Γ) (gl Γ) hF σ  u1 u2 p1 ((u1 45) + v33)  hc38) rfl rfl kw_1128 kw_1130 kp_43 kw_9 kw_1131 ⟨rfl, by decide, by decide, by decide +kernel⟩ (FMi hF (t := 18) (by decide)) (fun _ _ _ => rfl) rfl rfl rfl ⟨Nat.le_of_ble_eq_true rfl, Nat.le_of_ble_eq_true rfl⟩ rfl (Nat.le_of_ble_eq_true rfl) dX8_read_119 ⟨_, rfl⟩ rfl ?_
                    refine G_iadd hΓ dX8_read_122 ?_
                    refine G_istore hΓ [(6, .int ((2 * v34) + u37)), (7, .int v33), (5, .int (v6 - (u1 45))), (4, .int u7), (3, .int v6), (2, .int u3), (0, .ref (ya (gl Γ) 18 0)), (1, .int p1)] dX8_read_123 (by decide) rfl ?_
                    refine G_iinc hΓ 1 [(7, .int (v33 + 1)), (6, .int ((2 * v34) + u37)), (5, .int (v6 - (u1 45))), (4, .int u7), (3, .int v6), (2, .int u3), (0, .ref (ya (gl Γ) 18 0)), (1, .int p1)] dX8_read_125 rfl rfl (by decide) rfl ?_
                    refine G_goto hΓ (tgt := 94) dX8_read_128 (by decide) ?_
                    exact (ih _ _ hf)
            exact loop49 _ _ _ hf
          · rw [if_pos hc56] at hf
            refine G_iload hΓ 1 dX8_read_69 rfl ?_
            refine G_aload_n hΓ 4 dX8_read_71 rfl ?_
            refine G_iload_n hΓ 5 dX8_read_72 rfl ?_
            refine G_iload_n hΓ 2 dX8_read_73 rfl ?_
            refine G_iconst (v := 1) hΓ dX8_read_74 (by decide) ?_
            refine G_isub hΓ dX8_read_75 ?_
            obtain ⟨u50, hc51, hf⟩ := bd_some hf
            refine G_callV hΓ (n := 2) (As := [.int p1, .int (v6 - 1)]) (t := 18) (i := 0) (ci := 11) (T := TX8) (N := 47) (FS := fs8 (gl Γ) 0) (σ' := (qM σ u1 u2)) (c_X8_bitAt (gL Γ) (gl Γ) hF σ  u1 u2 p1 (v6 - 1)  hc51) rfl rfl kw_1128 kw_1130 kp_43 kw_9 kw_1131 ⟨rfl, by decide, by decide, by decide +kernel⟩ (FMi hF (t := 18) (by decide)) (fun _ _ _ => rfl) rfl rfl rfl ⟨Nat.le_of_ble_eq_true rfl, Nat.le_of_ble_eq_true rfl⟩ rfl (Nat.le_of_ble_eq_true rfl) dX8_read_76 ⟨_, rfl⟩ rfl ?_
            obtain ⟨x52, he55, hf⟩ := lt_eq hf
            have K53 : GG Γ (0, 0) (qM σ u1 u2) 87 [(5, .int (v6 - (u1 45))), (4, .int u7), (3, .int v6), (2, .int u3), (0, .ref (ya (gl Γ) 18 0)), (1, .int p1)] [.int x52] := by
              cases hf
              exact G_iret hΓ hE dX8_read_87
            have he := he55
            refine G_icmp_ne hΓ (tgt := 86) dX8_read_79 (by decide) (fun hc54 => ?_) (fun hc54 => ?_)
            · rw [if_neg hc54] at he
              refine G_iconst (v := (-1)) hΓ dX8_read_86 (by decide) ?_
              subst he
              exact K53
            · rw [if_pos hc54] at he
              refine G_iconst (v := 1) hΓ dX8_read_82 (by decide) ?_
              refine G_goto hΓ (tgt := 87) dX8_read_83 (by decide) ?_
              subst he
              exact K53
      · rw [if_neg hc58] at hf
        refine G_iconst (v := (-1)) hΓ dX8_read_51 (by decide) ?_
        cases hf
        exact G_iret hΓ hE dX8_read_52
    · rw [if_pos hc59] at hf
      refine G_iload_n hΓ 0 dX8_read_19 rfl ?_
      cases hf
      exact G_iret hΓ hE dX8_read_20
theorem dX8_answers_0 : decode cX8_answers 0 = .ok (.aload_n 0, 1) := by decide +kernel
theorem dX8_answers_1 : decode cX8_answers 1 = .ok (.iload_n 1, 1) := by decide +kernel
theorem dX8_answers_2 : decode cX8_answers 2 = .ok (.invokevirtual 226, 3) := by decide +kernel
theorem dX8_answers_5 : decode cX8_answers 5 = .ok (.istore_n 2, 1) := by decide +kernel
theorem dX8_answers_6 : decode cX8_answers 6 = .ok (.iload_n 2, 1) := by decide +kernel
theorem dX8_answers_7 : decode cX8_answers 7 = .ok (.iconst (-1), 1) := by decide +kernel
theorem dX8_answers_8 : decode cX8_answers 8 = .ok (.if_icmp .ne 43, 3) := by decide +kernel
theorem dX8_answers_11 : decode cX8_answers 11 = .ok (.aload_n 0, 1) := by decide +kernel
theorem dX8_answers_12 : decode cX8_answers 12 = .ok (.getfield 193, 3) := by decide +kernel
theorem dX8_answers_15 : decode cX8_answers 15 = .ok (.iconst (-1), 1) := by decide +kernel
theorem dX8_answers_16 : decode cX8_answers 16 = .ok (.if_icmp .eq 35, 3) := by decide +kernel
theorem dX8_answers_19 : decode cX8_answers 19 = .ok (.aload_n 0, 1) := by decide +kernel
theorem dX8_answers_20 : decode cX8_answers 20 = .ok (.getfield 58, 3) := by decide +kernel
theorem dX8_answers_23 : decode cX8_answers 23 = .ok (.iload_n 1, 1) := by decide +kernel
theorem dX8_answers_24 : decode cX8_answers 24 = .ok (.iaload, 1) := by decide +kernel
theorem dX8_answers_25 : decode cX8_answers 25 = .ok (.aload_n 0, 1) := by decide +kernel
theorem dX8_answers_26 : decode cX8_answers 26 = .ok (.getfield 193, 3) := by decide +kernel
theorem dX8_answers_29 : decode cX8_answers 29 = .ok (.aload_n 0, 1) := by decide +kernel
theorem dX8_answers_30 : decode cX8_answers 30 = .ok (.invokevirtual 223, 3) := by decide +kernel
theorem dX8_answers_33 : decode cX8_answers 33 = .ok (.iadd, 1) := by decide +kernel
theorem dX8_answers_34 : decode cX8_answers 34 = .ok (.iconst 1, 1) := by decide +kernel
theorem dX8_answers_35 : decode cX8_answers 35 = .ok (.iadd, 1) := by decide +kernel
theorem dX8_answers_36 : decode cX8_answers 36 = .ok (.if_icmp .ne 15, 3) := by decide +kernel
theorem dX8_answers_39 : decode cX8_answers 39 = .ok (.aload_n 0, 1) := by decide +kernel
theorem dX8_answers_40 : decode cX8_answers 40 = .ok (.iload_n 1, 1) := by decide +kernel
theorem dX8_answers_41 : decode cX8_answers 41 = .ok (.invokevirtual 229, 3) := by decide +kernel
theorem dX8_answers_44 : decode cX8_answers 44 = .ok (.ifCond .eq 7, 3) := by decide +kernel
theorem dX8_answers_47 : decode cX8_answers 47 = .ok (.iconst 1, 1) := by decide +kernel
theorem dX8_answers_48 : decode cX8_answers 48 = .ok (.goto 4, 3) := by decide +kernel
theorem dX8_answers_51 : decode cX8_answers 51 = .ok (.iconst 0, 1) := by decide +kernel
theorem dX8_answers_52 : decode cX8_answers 52 = .ok (.ireturn, 1) := by decide +kernel
noncomputable def f_X8_answers  (v : Nat → Int32) (m : Nat → Nat → Int32) (p1 : Int32) : Option ((Nat → Int32) × (Nat → Nat → Int32) × Int32) := bd (f_X8_body v m p1) (fun ⟨u1, u2, u3⟩ => jn (α := (Nat → Int32) × (Nat → Nat → Int32) × Int32) (fun ⟨x5, x6, x7⟩ => some (x5, x6, x7)) (fun k8 => if u3 = (-1) then if (u1 45) = (-1) then k8 (u1, u2, 0) else gd (vp_in p1 32) (bd (f_X8_tail u1) (fun u11 => if ((u2 14) p1.toNatClampNeg) = (((u1 45) + u11) + 1) then bd (f_X8_right u1 u2 p1) (fun ⟨u13, u14, u15⟩ => if u15 = 0 then k8 (u13, u14, 0) else k8 (u13, u14, 1)) else k8 (u1, u2, 0))) else k8 (u1, u2, 0)))
set_option maxHeartbeats 4000000 in
set_option maxRecDepth 100000 in
theorem c_X8_answers (l : Launch) (Λ : LY) (hF : FM Λ) (σ : CS)  (v : Nat → Int32) (m : Nat → Nat → Int32) (p1 : Int32)   {v' : Nat → Int32} {m' : Nat → Nat → Int32} {r9 : Int32} (hf : f_X8_answers v m p1 = some (v', m', r9)) : CM l yX8_answers (.code yX8_answers cX8_answers 3 (some .boolean) :: TT) ({ frames := 4, cells := 0, slots := 0, locals := 88 }) Λ [.ref (ya Λ 18 0), .int p1] (qM σ v m) (qM σ v' m') (some (.int r9)) := by
  refine CM_intro (own := RX8) (by decide) rfl (Nat.le_of_ble_eq_true rfl) ?_
  intro Γ hg hl hΓ hE
  subst hg; subst hl
  show GG Γ (0, 0) (qM σ v m) 0 [(0, .ref (ya (gl Γ) 18 0)), (1, .int p1)] []
  unfold f_X8_answers at hf
  refine G_aload_n hΓ 0 dX8_answers_0 rfl ?_
  refine G_iload_n hΓ 1 dX8_answers_1 rfl ?_
  obtain ⟨⟨u1, u2, u3⟩, hc4, hf⟩ := bd_some hf
  try dsimp only at hf
  refine G_callV hΓ (n := 1) (As := [.int p1]) (t := 18) (i := 0) (ci := 11) (T := TX8) (N := 47) (FS := fs8 (gl Γ) 0) (σ' := (qM σ u1 u2)) (c_X8_body (gL Γ) (gl Γ) hF σ  v m p1  hc4) rfl rfl kw_1124 kw_1126 kp_42 kw_9 kw_1127 ⟨rfl, by decide, by decide, by decide +kernel⟩ (FMi hF (t := 18) (by decide)) (fun _ _ _ => rfl) rfl rfl rfl ⟨Nat.le_of_ble_eq_true rfl, Nat.le_of_ble_eq_true rfl⟩ rfl (Nat.le_of_ble_eq_true rfl) dX8_answers_2 ⟨_, rfl⟩ rfl ?_
  refine G_istore_n hΓ [(2, .int u3), (0, .ref (ya (gl Γ) 18 0)), (1, .int p1)] dX8_answers_5 (by decide) rfl ?_
  refine G_iload_n hΓ 0 dX8_answers_6 rfl ?_
  refine G_iconst (v := (-1)) hΓ dX8_answers_7 (by decide) ?_
  obtain ⟨k8, hk_k8, hf⟩ := jn_eq hf
  try dsimp only at hf
  have K9 : ∀ x5 x6 x7, (x7 = 0 ∨ x7 = 1) → k8 (x5, x6, x7) = some (v', m', r9) → GG Γ (0, 0) (qM σ x5 x6) 52 [(2, .int u3), (0, .ref (ya (gl Γ) 18 0)), (1, .int p1)] [.int x7] := by
    intro x5 x6 x7 hb_x7 hf
    subst hk_k8
    try dsimp only at hf
    cases hf
    exact G_zret hΓ (nar01 hb_x7) hE dX8_answers_52
  clear hk_k8
  refine G_icmp_ne hΓ (tgt := 51) dX8_answers_8 (by decide) (fun hc20 => ?_) (fun hc20 => ?_)
  · rw [if_neg hc20] at hf
    refine G_iconst (v := 0) hΓ dX8_answers_51 (by decide) ?_
    exact K9 _ _ _ (Or.inl rfl) hf
  · rw [if_pos hc20] at hf
    refine G_aload_n hΓ 1 dX8_answers_11 rfl ?_
    refine F_get hΓ (t := 18) (i := 0) (ci := 11) (C := RX8) (T := TX8) (N := 47) (fs8 (gl Γ) 0) (v := .int (u1 45)) (FMi hF (t := 18) (by decide)) (fun _ _ _ => rfl) rfl rfl rfl rfl inW8 45 (by decide) (TT_cons kw_925) rfl dX8_answers_12 ?_
    refine G_iconst (v := (-1)) hΓ dX8_answers_15 (by decide) ?_
    refine G_icmp_eq hΓ (tgt := 51) dX8_answers_16 (by decide) (fun hc19 => ?_) (fun hc19 => ?_)
    · rw [if_pos hc19] at hf
      refine G_iconst (v := 0) hΓ dX8_answers_51 (by decide) ?_
      exact K9 _ _ _ (Or.inl rfl) hf
    · rw [if_neg hc19] at hf
      refine G_aload_n hΓ 1 dX8_answers_19 rfl ?_
      refine F_get hΓ (t := 18) (i := 0) (ci := 11) (C := RX8) (T := TX8) (N := 47) (fs8 (gl Γ) 0) (v := .ref (ya (gl Γ) 19 14)) (FMi hF (t := 18) (by decide)) (fun _ _ _ => rfl) rfl rfl rfl rfl inW8 19 (by decide) (TT_cons kw_899) rfl dX8_answers_20 ?_
      refine G_iload_n hΓ 2 dX8_answers_23 rfl ?_
      obtain ⟨hg10, hf⟩ := gd_some hf
      refine F_ald (G_iald hΓ) (t := 19) (i := 14) (f := (u2 14)) (FMi hF (t := 19) (by decide)) (fun _ _ _ => rfl) rfl hg10 dX8_answers_24 ?_
      refine G_aload_n hΓ 1 dX8_answers_25 rfl ?_
      refine F_get hΓ (t := 18) (i := 0) (ci := 11) (C := RX8) (T := TX8) (N := 47) (fs8 (gl Γ) 0) (v := .int (u1 45)) (FMi hF (t := 18) (by decide)) (fun _ _ _ => rfl) rfl rfl rfl rfl inW8 45 (by decide) (TT_cons kw_925) rfl dX8_answers_26 ?_
      refine G_aload_n hΓ 1 dX8_answers_29 rfl ?_
      obtain ⟨u11, hc12, hf⟩ := bd_some hf
      refine G_callV hΓ (n := 0) (As := []) (t := 18) (i := 0) (ci := 11) (T := TX8) (N := 47) (FS := fs8 (gl Γ) 0) (σ' := (qM σ u1 u2)) (c_X8_tail (gL Γ) (gl Γ) hF σ  u1 u2   hc12) rfl rfl kw_1141 kw_1143 kp_46 kw_9 kw_1144 ⟨rfl, by decide, by decide, by decide +kernel⟩ (FMi hF (t := 18) (by decide)) (fun _ _ _ => rfl) rfl rfl rfl ⟨Nat.le_of_ble_eq_true rfl, Nat.le_of_ble_eq_true rfl⟩ rfl (Nat.le_of_ble_eq_true rfl) dX8_answers_30 ⟨_, rfl⟩ rfl ?_
      refine G_iadd hΓ dX8_answers_33 ?_
      refine G_iconst (v := 1) hΓ dX8_answers_34 (by decide) ?_
      refine G_iadd hΓ dX8_answers_35 ?_
      refine G_icmp_ne hΓ (tgt := 51) dX8_answers_36 (by decide) (fun hc18 => ?_) (fun hc18 => ?_)
      · rw [if_neg hc18] at hf
        refine G_iconst (v := 0) hΓ dX8_answers_51 (by decide) ?_
        exact K9 _ _ _ (Or.inl rfl) hf
      · rw [if_pos hc18] at hf
        refine G_aload_n hΓ 1 dX8_answers_39 rfl ?_
        refine G_iload_n hΓ 2 dX8_answers_40 rfl ?_
        obtain ⟨⟨u13, u14, u15⟩, hc16, hf⟩ := bd_some hf
        try dsimp only at hf
        refine G_callV hΓ (n := 1) (As := [.int p1]) (t := 18) (i := 0) (ci := 11) (T := TX8) (N := 47) (FS := fs8 (gl Γ) 0) (σ' := (qM σ u13 u14)) (c_X8_right (gL Γ) (gl Γ) hF σ  u1 u2 p1  hc16) rfl rfl kw_1149 kw_1151 kp_48 kw_9 kw_1152 ⟨rfl, by decide, by decide, by decide +kernel⟩ (FMi hF (t := 18) (by decide)) (fun _ _ _ => rfl) rfl rfl rfl ⟨Nat.le_of_ble_eq_true rfl, Nat.le_of_ble_eq_true rfl⟩ rfl (Nat.le_of_ble_eq_true rfl) dX8_answers_41 ⟨_, rfl⟩ rfl ?_
        refine G_if_eq hΓ (tgt := 51) dX8_answers_44 (by decide) (fun hc17 => ?_) (fun hc17 => ?_)
        · rw [if_pos hc17] at hf
          refine G_iconst (v := 0) hΓ dX8_answers_51 (by decide) ?_
          exact K9 _ _ _ (Or.inl rfl) hf
        · rw [if_neg hc17] at hf
          refine G_iconst (v := 1) hΓ dX8_answers_47 (by decide) ?_
          refine G_goto hΓ (tgt := 52) dX8_answers_48 (by decide) ?_
          exact K9 _ _ _ (Or.inr rfl) hf
theorem dX8_take_0 : decode cX8_take 0 = .ok (.aload_n 0, 1) := by decide +kernel
theorem dX8_take_1 : decode cX8_take 1 = .ok (.iload_n 1, 1) := by decide +kernel
theorem dX8_take_2 : decode cX8_take 2 = .ok (.invokevirtual 226, 3) := by decide +kernel
theorem dX8_take_5 : decode cX8_take 5 = .ok (.istore_n 2, 1) := by decide +kernel
theorem dX8_take_6 : decode cX8_take 6 = .ok (.aload_n 0, 1) := by decide +kernel
theorem dX8_take_7 : decode cX8_take 7 = .ok (.getfield 215, 3) := by decide +kernel
theorem dX8_take_10 : decode cX8_take 10 = .ok (.aload_n 0, 1) := by decide +kernel
theorem dX8_take_11 : decode cX8_take 11 = .ok (.getfield 52, 3) := by decide +kernel
theorem dX8_take_14 : decode cX8_take 14 = .ok (.iload_n 1, 1) := by decide +kernel
theorem dX8_take_15 : decode cX8_take 15 = .ok (.iaload, 1) := by decide +kernel
theorem dX8_take_16 : decode cX8_take 16 = .ok (.iand, 1) := by decide +kernel
theorem dX8_take_17 : decode cX8_take 17 = .ok (.aload_n 0, 1) := by decide +kernel
theorem dX8_take_18 : decode cX8_take 18 = .ok (.getfield 55, 3) := by decide +kernel
theorem dX8_take_21 : decode cX8_take 21 = .ok (.iload_n 1, 1) := by decide +kernel
theorem dX8_take_22 : decode cX8_take 22 = .ok (.iaload, 1) := by decide +kernel
theorem dX8_take_23 : decode cX8_take 23 = .ok (.if_icmp .eq 4, 3) := by decide +kernel
theorem dX8_take_26 : decode cX8_take 26 = .ok (.return_, 1) := by decide +kernel
theorem dX8_take_27 : decode cX8_take 27 = .ok (.aload_n 0, 1) := by decide +kernel
theorem dX8_take_28 : decode cX8_take 28 = .ok (.getfield 69, 3) := by decide +kernel
theorem dX8_take_31 : decode cX8_take 31 = .ok (.aload_n 0, 1) := by decide +kernel
theorem dX8_take_32 : decode cX8_take 32 = .ok (.getfield 125, 3) := by decide +kernel
theorem dX8_take_35 : decode cX8_take 35 = .ok (.iload_n 1, 1) := by decide +kernel
theorem dX8_take_36 : decode cX8_take 36 = .ok (.iastore, 1) := by decide +kernel
theorem dX8_take_37 : decode cX8_take 37 = .ok (.aload_n 0, 1) := by decide +kernel
theorem dX8_take_38 : decode cX8_take 38 = .ok (.getfield 72, 3) := by decide +kernel
theorem dX8_take_41 : decode cX8_take 41 = .ok (.aload_n 0, 1) := by decide +kernel
theorem dX8_take_42 : decode cX8_take 42 = .ok (.getfield 125, 3) := by decide +kernel
theorem dX8_take_45 : decode cX8_take 45 = .ok (.aload_n 0, 1) := by decide +kernel
theorem dX8_take_46 : decode cX8_take 46 = .ok (.getfield 215, 3) := by decide +kernel
theorem dX8_take_49 : decode cX8_take 49 = .ok (.iastore, 1) := by decide +kernel
theorem dX8_take_50 : decode cX8_take 50 = .ok (.aload_n 0, 1) := by decide +kernel
theorem dX8_take_51 : decode cX8_take 51 = .ok (.getfield 75, 3) := by decide +kernel
theorem dX8_take_54 : decode cX8_take 54 = .ok (.aload_n 0, 1) := by decide +kernel
theorem dX8_take_55 : decode cX8_take 55 = .ok (.getfield 125, 3) := by decide +kernel
theorem dX8_take_58 : decode cX8_take 58 = .ok (.aload_n 0, 1) := by decide +kernel
theorem dX8_take_59 : decode cX8_take 59 = .ok (.getfield 206, 3) := by decide +kernel
theorem dX8_take_62 : decode cX8_take 62 = .ok (.i2b, 1) := by decide +kernel
theorem dX8_take_63 : decode cX8_take 63 = .ok (.bastore, 1) := by decide +kernel
theorem dX8_take_64 : decode cX8_take 64 = .ok (.aload_n 0, 1) := by decide +kernel
theorem dX8_take_65 : decode cX8_take 65 = .ok (.getfield 78, 3) := by decide +kernel
theorem dX8_take_68 : decode cX8_take 68 = .ok (.aload_n 0, 1) := by decide +kernel
theorem dX8_take_69 : decode cX8_take 69 = .ok (.getfield 125, 3) := by decide +kernel
theorem dX8_take_72 : decode cX8_take 72 = .ok (.aload_n 0, 1) := by decide +kernel
theorem dX8_take_73 : decode cX8_take 73 = .ok (.getfield 209, 3) := by decide +kernel
theorem dX8_take_76 : decode cX8_take 76 = .ok (.i2b, 1) := by decide +kernel
theorem dX8_take_77 : decode cX8_take 77 = .ok (.bastore, 1) := by decide +kernel
theorem dX8_take_78 : decode cX8_take 78 = .ok (.aload_n 0, 1) := by decide +kernel
theorem dX8_take_79 : decode cX8_take 79 = .ok (.getfield 81, 3) := by decide +kernel
theorem dX8_take_82 : decode cX8_take 82 = .ok (.aload_n 0, 1) := by decide +kernel
theorem dX8_take_83 : decode cX8_take 83 = .ok (.getfield 125, 3) := by decide +kernel
theorem dX8_take_86 : decode cX8_take 86 = .ok (.aload_n 0, 1) := by decide +kernel
theorem dX8_take_87 : decode cX8_take 87 = .ok (.getfield 116, 3) := by decide +kernel
theorem dX8_take_90 : decode cX8_take 90 = .ok (.iastore, 1) := by decide +kernel
theorem dX8_take_91 : decode cX8_take 91 = .ok (.aload_n 0, 1) := by decide +kernel
theorem dX8_take_92 : decode cX8_take 92 = .ok (.getfield 206, 3) := by decide +kernel
theorem dX8_take_95 : decode cX8_take 95 = .ok (.aload_n 0, 1) := by decide +kernel
theorem dX8_take_96 : decode cX8_take 96 = .ok (.getfield 209, 3) := by decide +kernel
theorem dX8_take_99 : decode cX8_take 99 = .ok (.invokestatic 139, 3) := by decide +kernel
theorem dX8_take_102 : decode cX8_take 102 = .ok (.istore_n 3, 1) := by decide +kernel
theorem dX8_take_103 : decode cX8_take 103 = .ok (.aload_n 0, 1) := by decide +kernel
theorem dX8_take_104 : decode cX8_take 104 = .ok (.getfield 206, 3) := by decide +kernel
theorem dX8_take_107 : decode cX8_take 107 = .ok (.iconst 2, 1) := by decide +kernel
theorem dX8_take_108 : decode cX8_take 108 = .ok (.if_icmp .ne 8, 3) := by decide +kernel
theorem dX8_take_111 : decode cX8_take 111 = .ok (.bipush 22, 2) := by decide +kernel
theorem dX8_take_113 : decode cX8_take 113 = .ok (.goto 33, 3) := by decide +kernel
theorem dX8_take_116 : decode cX8_take 116 = .ok (.aload_n 0, 1) := by decide +kernel
theorem dX8_take_117 : decode cX8_take 117 = .ok (.getfield 206, 3) := by decide +kernel
theorem dX8_take_120 : decode cX8_take 120 = .ok (.iconst 3, 1) := by decide +kernel
theorem dX8_take_121 : decode cX8_take 121 = .ok (.if_icmp .ne 8, 3) := by decide +kernel
theorem dX8_take_124 : decode cX8_take 124 = .ok (.bipush 41, 2) := by decide +kernel
theorem dX8_take_126 : decode cX8_take 126 = .ok (.goto 20, 3) := by decide +kernel
theorem dX8_take_129 : decode cX8_take 129 = .ok (.aload_n 0, 1) := by decide +kernel
theorem dX8_take_130 : decode cX8_take 130 = .ok (.getfield 206, 3) := by decide +kernel
theorem dX8_take_133 : decode cX8_take 133 = .ok (.iconst 2, 1) := by decide +kernel
theorem dX8_take_134 : decode cX8_take 134 = .ok (.irem, 1) := by decide +kernel
theorem dX8_take_135 : decode cX8_take 135 = .ok (.iconst 1, 1) := by decide +kernel
theorem dX8_take_136 : decode cX8_take 136 = .ok (.if_icmp .ne 8, 3) := by decide +kernel
theorem dX8_take_139 : decode cX8_take 139 = .ok (.bipush 39, 2) := by decide +kernel
theorem dX8_take_141 : decode cX8_take 141 = .ok (.goto 5, 3) := by decide +kernel
theorem dX8_take_144 : decode cX8_take 144 = .ok (.bipush 19, 2) := by decide +kernel
theorem dX8_take_146 : decode cX8_take 146 = .ok (.istore 4, 2) := by decide +kernel
theorem dX8_take_148 : decode cX8_take 148 = .ok (.iconst 0, 1) := by decide +kernel
theorem dX8_take_149 : decode cX8_take 149 = .ok (.istore 5, 2) := by decide +kernel
theorem dX8_take_151 : decode cX8_take 151 = .ok (.iload 5, 2) := by decide +kernel
theorem dX8_take_153 : decode cX8_take 153 = .ok (.iload_n 3, 1) := by decide +kernel
theorem dX8_take_154 : decode cX8_take 154 = .ok (.if_icmp .ge 39, 3) := by decide +kernel
theorem dX8_take_157 : decode cX8_take 157 = .ok (.aload_n 0, 1) := by decide +kernel
theorem dX8_take_158 : decode cX8_take 158 = .ok (.getfield 85, 3) := by decide +kernel
theorem dX8_take_161 : decode cX8_take 161 = .ok (.bipush 64, 2) := by decide +kernel
theorem dX8_take_163 : decode cX8_take 163 = .ok (.aload_n 0, 1) := by decide +kernel
theorem dX8_take_164 : decode cX8_take 164 = .ok (.getfield 125, 3) := by decide +kernel
theorem dX8_take_167 : decode cX8_take 167 = .ok (.imul, 1) := by decide +kernel
theorem dX8_take_168 : decode cX8_take 168 = .ok (.iload 5, 2) := by decide +kernel
theorem dX8_take_170 : decode cX8_take 170 = .ok (.iadd, 1) := by decide +kernel
theorem dX8_take_171 : decode cX8_take 171 = .ok (.aload_n 0, 1) := by decide +kernel
theorem dX8_take_172 : decode cX8_take 172 = .ok (.iload 4, 2) := by decide +kernel
theorem dX8_take_174 : decode cX8_take 174 = .ok (.bipush 8, 2) := by decide +kernel
theorem dX8_take_176 : decode cX8_take 176 = .ok (.iload 5, 2) := by decide +kernel
theorem dX8_take_178 : decode cX8_take 178 = .ok (.imul, 1) := by decide +kernel
theorem dX8_take_179 : decode cX8_take 179 = .ok (.iadd, 1) := by decide +kernel
theorem dX8_take_180 : decode cX8_take 180 = .ok (.bipush 8, 2) := by decide +kernel
theorem dX8_take_182 : decode cX8_take 182 = .ok (.invokevirtual 212, 3) := by decide +kernel
theorem dX8_take_185 : decode cX8_take 185 = .ok (.i2b, 1) := by decide +kernel
theorem dX8_take_186 : decode cX8_take 186 = .ok (.bastore, 1) := by decide +kernel
theorem dX8_take_187 : decode cX8_take 187 = .ok (.iinc 5 1, 3) := by decide +kernel
theorem dX8_take_190 : decode cX8_take 190 = .ok (.goto (-39), 3) := by decide +kernel
theorem dX8_take_193 : decode cX8_take 193 = .ok (.aload_n 0, 1) := by decide +kernel
theorem dX8_take_194 : decode cX8_take 194 = .ok (.dup, 1) := by decide +kernel
theorem dX8_take_195 : decode cX8_take 195 = .ok (.getfield 125, 3) := by decide +kernel
theorem dX8_take_198 : decode cX8_take 198 = .ok (.iconst 1, 1) := by decide +kernel
theorem dX8_take_199 : decode cX8_take 199 = .ok (.iadd, 1) := by decide +kernel
theorem dX8_take_200 : decode cX8_take 200 = .ok (.putfield 125, 3) := by decide +kernel
theorem dX8_take_203 : decode cX8_take 203 = .ok (.return_, 1) := by decide +kernel
noncomputable def L_X8_take_151 (u12 : Int32) (x14 : Int32) (u1 : Nat → Int32) (k22 : (Nat → Nat → Int32) × Int32 → Option ((Nat → Int32) × (Nat → Nat → Int32))) : Nat → (Nat → Nat → Int32) → Int32 → Option ((Nat → Int32) × (Nat → Nat → Int32))
  | 0, _, _ => none
  | nn + 1, v20, v21 => if u12 ≤ v21 then k22 (v20, v21) else bd (f_X8_number v20 (x14 + (8 * v21)) 8) (fun u24 => gd (vp_in ((64 * (u1 22)) + v21) 896000) (L_X8_take_151 u12 x14 u1 k22 nn (va_up v20 22 (upd (v20 22) (((64 * (u1 22)) + v21).toNatClampNeg) (vp_nar .byte u24.toInt8.toInt32))) (v21 + 1)))
noncomputable def f_X8_take  (v : Nat → Int32) (m : Nat → Nat → Int32) (p1 : Int32) : Option ((Nat → Int32) × (Nat → Nat → Int32)) := bd (f_X8_body v m p1) (fun ⟨u1, u2, u3⟩ => gd (vp_in p1 32) (gd (vp_in p1 32) (if ((u1 44) &&& ((u2 12) p1.toNatClampNeg)) = ((u2 13) p1.toNatClampNeg) then gd (vp_in (u1 22) 14000) (gd (vp_in (u1 22) 14000) (gd (vp_in (u1 22) 14000) (gd (vp_in (u1 22) 14000) (gd (vp_in (u1 22) 14000) (bd (f_X8_octetsOf (u1 42) (u1 43)) (fun u12 => lt (α := Int32) (if (u1 42) = 2 then 22 else if (u1 42) = 3 then 41 else if ((u1 42) - (u1 42) / 2 * 2) = 1 then 39 else 19) (fun x14 => jn (α := (Nat → Nat → Int32) × Int32) (fun ⟨v20, v21⟩ => some ((upd u1 22 ((u1 22) + 1)), v20)) (fun k22 => L_X8_take_151 u12 x14 u1 k22 fu (va_up (va_up (va_up (va_up (va_up u2 17 (upd (u2 17) ((u1 22).toNatClampNeg) p1)) 18 (upd (u2 18) ((u1 22).toNatClampNeg) (u1 44))) 19 (upd (u2 19) ((u1 22).toNatClampNeg) (vp_nar .byte ((u1 42).toInt8.toInt32)))) 20 (upd (u2 20) ((u1 22).toNatClampNeg) (vp_nar .byte ((u1 43).toInt8.toInt32)))) 21 (upd (u2 21) ((u1 22).toNatClampNeg) (u1 2))) 0)))))))) else some (u1, u2))))
set_option maxHeartbeats 4000000 in
set_option maxRecDepth 100000 in
theorem c_X8_take (l : Launch) (Λ : LY) (hF : FM Λ) (σ : CS)  (v : Nat → Int32) (m : Nat → Nat → Int32) (p1 : Int32)   {v' : Nat → Int32} {m' : Nat → Nat → Int32} (hf : f_X8_take v m p1 = some (v', m')) : CM l yX8_take (.code yX8_take cX8_take 6 none :: TT) ({ frames := 3, cells := 0, slots := 0, locals := 80 }) Λ [.ref (ya Λ 18 0), .int p1] (qM σ v m) (qM σ v' m') (none) := by
  refine CM_intro (own := RX8) (by decide) rfl (Nat.le_of_ble_eq_true rfl) ?_
  intro Γ hg hl hΓ hE
  subst hg; subst hl
  show GG Γ (0, 0) (qM σ v m) 0 [(0, .ref (ya (gl Γ) 18 0)), (1, .int p1)] []
  unfold f_X8_take at hf
  refine G_aload_n hΓ 0 dX8_take_0 rfl ?_
  refine G_iload_n hΓ 1 dX8_take_1 rfl ?_
  obtain ⟨⟨u1, u2, u3⟩, hc4, hf⟩ := bd_some hf
  try dsimp only at hf
  refine G_callV hΓ (n := 1) (As := [.int p1]) (t := 18) (i := 0) (ci := 11) (T := TX8) (N := 47) (FS := fs8 (gl Γ) 0) (σ' := (qM σ u1 u2)) (c_X8_body (gL Γ) (gl Γ) hF σ  v m p1  hc4) rfl rfl kw_1124 kw_1126 kp_42 kw_9 kw_1127 ⟨rfl, by decide, by decide, by decide +kernel⟩ (FMi hF (t := 18) (by decide)) (fun _ _ _ => rfl) rfl rfl rfl ⟨Nat.le_of_ble_eq_true rfl, Nat.le_of_ble_eq_true rfl⟩ rfl (Nat.le_of_ble_eq_true rfl) dX8_take_2 ⟨_, rfl⟩ rfl ?_
  refine G_istore_n hΓ [(2, .int u3), (0, .ref (ya (gl Γ) 18 0)), (1, .int p1)] dX8_take_5 (by decide) rfl ?_
  refine G_aload_n hΓ 1 dX8_take_6 rfl ?_
  refine F_get hΓ (t := 18) (i := 0) (ci := 11) (C := RX8) (T := TX8) (N := 47) (fs8 (gl Γ) 0) (v := .int (u1 44)) (FMi hF (t := 18) (by decide)) (fun _ _ _ => rfl) rfl rfl rfl rfl inW8 44 (by decide) (TT_cons kw_924) rfl dX8_take_7 ?_
  refine G_aload_n hΓ 1 dX8_take_10 rfl ?_
  refine F_get hΓ (t := 18) (i := 0) (ci := 11) (C := RX8) (T := TX8) (N := 47) (fs8 (gl Γ) 0) (v := .ref (ya (gl Γ) 19 12)) (FMi hF (t := 18) (by decide)) (fun _ _ _ => rfl) rfl rfl rfl rfl inW8 17 (by decide) (TT_cons kw_897) rfl dX8_take_11 ?_
  refine G_iload_n hΓ 2 dX8_take_14 rfl ?_
  obtain ⟨hg5, hf⟩ := gd_some hf
  refine F_ald (G_iald hΓ) (t := 19) (i := 12) (f := (u2 12)) (FMi hF (t := 19) (by decide)) (fun _ _ _ => rfl) rfl hg5 dX8_take_15 ?_
  refine G_iand hΓ dX8_take_16 ?_
  refine G_aload_n hΓ 1 dX8_take_17 rfl ?_
  refine F_get hΓ (t := 18) (i := 0) (ci := 11) (C := RX8) (T := TX8) (N := 47) (fs8 (gl Γ) 0) (v := .ref (ya (gl Γ) 19 13)) (FMi hF (t := 18) (by decide)) (fun _ _ _ => rfl) rfl rfl rfl rfl inW8 18 (by decide) (TT_cons kw_898) rfl dX8_take_18 ?_
  refine G_iload_n hΓ 2 dX8_take_21 rfl ?_
  obtain ⟨hg6, hf⟩ := gd_some hf
  refine F_ald (G_iald hΓ) (t := 19) (i := 13) (f := (u2 13)) (FMi hF (t := 19) (by decide)) (fun _ _ _ => rfl) rfl hg6 dX8_take_22 ?_
  refine G_icmp_eq hΓ (tgt := 27) dX8_take_23 (by decide) (fun hc29 => ?_) (fun hc29 => ?_)
  · rw [if_pos hc29] at hf
    refine G_aload_n hΓ 1 dX8_take_27 rfl ?_
    refine F_get hΓ (t := 18) (i := 0) (ci := 11) (C := RX8) (T := TX8) (N := 47) (fs8 (gl Γ) 0) (v := .ref (ya (gl Γ) 19 17)) (FMi hF (t := 18) (by decide)) (fun _ _ _ => rfl) rfl rfl rfl rfl inW8 23 (by decide) (TT_cons kw_903) rfl dX8_take_28 ?_
    refine G_aload_n hΓ 1 dX8_take_31 rfl ?_
    refine F_get hΓ (t := 18) (i := 0) (ci := 11) (C := RX8) (T := TX8) (N := 47) (fs8 (gl Γ) 0) (v := .int (u1 22)) (FMi hF (t := 18) (by decide)) (fun _ _ _ => rfl) rfl rfl rfl rfl inW8 22 (by decide) (TT_cons kw_902) rfl dX8_take_32 ?_
    refine G_iload_n hΓ 2 dX8_take_35 rfl ?_
    obtain ⟨hg7, hf⟩ := gd_some hf
    refine F_iast hΓ (t := 19) (i := 17) (f := (u2 17)) (σ' := (qM σ u1 (va_up u2 17 (upd (u2 17) ((u1 22).toNatClampNeg) p1)))) (FMi hF (t := 19) (by decide)) (fun _ _ _ => rfl) rfl qM_m hg7 dX8_take_36 ?_
    refine G_aload_n hΓ 1 dX8_take_37 rfl ?_
    refine F_get hΓ (t := 18) (i := 0) (ci := 11) (C := RX8) (T := TX8) (N := 47) (fs8 (gl Γ) 0) (v := .ref (ya (gl Γ) 19 18)) (FMi hF (t := 18) (by decide)) (fun _ _ _ => rfl) rfl rfl rfl rfl inW8 24 (by decide) (TT_cons kw_904) rfl dX8_take_38 ?_
    refine G_aload_n hΓ 1 dX8_take_41 rfl ?_
    refine F_get hΓ (t := 18) (i := 0) (ci := 11) (C := RX8) (T := TX8) (N := 47) (fs8 (gl Γ) 0) (v := .int (u1 22)) (FMi hF (t := 18) (by decide)) (fun _ _ _ => rfl) rfl rfl rfl rfl inW8 22 (by decide) (TT_cons kw_902) rfl dX8_take_42 ?_
    refine G_aload_n hΓ 1 dX8_take_45 rfl ?_
    refine F_get hΓ (t := 18) (i := 0) (ci := 11) (C := RX8) (T := TX8) (N := 47) (fs8 (gl Γ) 0) (v := .int (u1 44)) (FMi hF (t := 18) (by decide)) (fun _ _ _ => rfl) rfl rfl rfl rfl inW8 44 (by decide) (TT_cons kw_924) rfl dX8_take_46 ?_
    obtain ⟨hg8, hf⟩ := gd_some hf
    refine F_iast hΓ (t := 19) (i := 18) (f := (u2 18)) (σ' := (qM σ u1 (va_up (va_up u2 17 (upd (u2 17) ((u1 22).toNatClampNeg) p1)) 18 (upd (u2 18) ((u1 22).toNatClampNeg) (u1 44))))) (FMi hF (t := 19) (by decide)) (fun _ _ _ => rfl) rfl qM_m hg8 dX8_take_49 ?_
    refine G_aload_n hΓ 1 dX8_take_50 rfl ?_
    refine F_get hΓ (t := 18) (i := 0) (ci := 11) (C := RX8) (T := TX8) (N := 47) (fs8 (gl Γ) 0) (v := .ref (ya (gl Γ) 19 19)) (FMi hF (t := 18) (by decide)) (fun _ _ _ => rfl) rfl rfl rfl rfl inW8 25 (by decide) (TT_cons kw_905) rfl dX8_take_51 ?_
    refine G_aload_n hΓ 1 dX8_take_54 rfl ?_
    refine F_get hΓ (t := 18) (i := 0) (ci := 11) (C := RX8) (T := TX8) (N := 47) (fs8 (gl Γ) 0) (v := .int (u1 22)) (FMi hF (t := 18) (by decide)) (fun _ _ _ => rfl) rfl rfl rfl rfl inW8 22 (by decide) (TT_cons kw_902) rfl dX8_take_55 ?_
    refine G_aload_n hΓ 1 dX8_take_58 rfl ?_
    refine F_get hΓ (t := 18) (i := 0) (ci := 11) (C := RX8) (T := TX8) (N := 47) (fs8 (gl Γ) 0) (v := .int (u1 42)) (FMi hF (t := 18) (by decide)) (fun _ _ _ => rfl) rfl rfl rfl rfl inW8 42 (by decide) (TT_cons kw_922) rfl dX8_take_59 ?_
    refine G_i2b hΓ dX8_take_62 ?_
    obtain ⟨hg9, hf⟩ := gd_some hf
    refine F_bast hΓ (t := 19) (i := 19) (f := (u2 19)) (σ' := (qM σ u1 (va_up (va_up (va_up u2 17 (upd (u2 17) ((u1 22).toNatClampNeg) p1)) 18 (upd (u2 18) ((u1 22).toNatClampNeg) (u1 44))) 19 (upd (u2 19) ((u1 22).toNatClampNeg) (vp_nar .byte ((u1 42).toInt8.toInt32)))))) (FMi hF (t := 19) (by decide)) (fun _ _ _ => rfl) rfl qM_m hg9 dX8_take_63 ?_
    refine G_aload_n hΓ 1 dX8_take_64 rfl ?_
    refine F_get hΓ (t := 18) (i := 0) (ci := 11) (C := RX8) (T := TX8) (N := 47) (fs8 (gl Γ) 0) (v := .ref (ya (gl Γ) 19 20)) (FMi hF (t := 18) (by decide)) (fun _ _ _ => rfl) rfl rfl rfl rfl inW8 26 (by decide) (TT_cons kw_906) rfl dX8_take_65 ?_
    refine G_aload_n hΓ 1 dX8_take_68 rfl ?_
    refine F_get hΓ (t := 18) (i := 0) (ci := 11) (C := RX8) (T := TX8) (N := 47) (fs8 (gl Γ) 0) (v := .int (u1 22)) (FMi hF (t := 18) (by decide)) (fun _ _ _ => rfl) rfl rfl rfl rfl inW8 22 (by decide) (TT_cons kw_902) rfl dX8_take_69 ?_
    refine G_aload_n hΓ 1 dX8_take_72 rfl ?_
    refine F_get hΓ (t := 18) (i := 0) (ci := 11) (C := RX8) (T := TX8) (N := 47) (fs8 (gl Γ) 0) (v := .int (u1 43)) (FMi hF (t := 18) (by decide)) (fun _ _ _ => rfl) rfl rfl rfl rfl inW8 43 (by decide) (TT_cons kw_923) rfl dX8_take_73 ?_
    refine G_i2b hΓ dX8_take_76 ?_
    obtain ⟨hg10, hf⟩ := gd_some hf
    refine F_bast hΓ (t := 19) (i := 20) (f := (u2 20)) (σ' := (qM σ u1 (va_up (va_up (va_up (va_up u2 17 (upd (u2 17) ((u1 22).toNatClampNeg) p1)) 18 (upd (u2 18) ((u1 22).toNatClampNeg) (u1 44))) 19 (upd (u2 19) ((u1 22).toNatClampNeg) (vp_nar .byte ((u1 42).toInt8.toInt32)))) 20 (upd (u2 20) ((u1 22).toNatClampNeg) (vp_nar .byte ((u1 43).toInt8.toInt32)))))) (FMi hF (t := 19) (by decide)) (fun _ _ _ => rfl) rfl qM_m hg10 dX8_take_77 ?_
    refine G_aload_n hΓ 1 dX8_take_78 rfl ?_
    refine F_get hΓ (t := 18) (i := 0) (ci := 11) (C := RX8) (T := TX8) (N := 47) (fs8 (gl Γ) 0) (v := .ref (ya (gl Γ) 19 21)) (FMi hF (t := 18) (by decide)) (fun _ _ _ => rfl) rfl rfl rfl rfl inW8 27 (by decide) (TT_cons kw_907) rfl dX8_take_79 ?_
    refine G_aload_n hΓ 1 dX8_take_82 rfl ?_
    refine F_get hΓ (t := 18) (i := 0) (ci := 11) (C := RX8) (T := TX8) (N := 47) (fs8 (gl Γ) 0) (v := .int (u1 22)) (FMi hF (t := 18) (by decide)) (fun _ _ _ => rfl) rfl rfl rfl rfl inW8 22 (by decide) (TT_cons kw_902) rfl dX8_take_83 ?_
    refine G_aload_n hΓ 1 dX8_take_86 rfl ?_
    refine F_get hΓ (t := 18) (i := 0) (ci := 11) (C := RX8) (T := TX8) (N := 47) (fs8 (gl Γ) 0) (v := .int (u1 2)) (FMi hF (t := 18) (by decide)) (fun _ _ _ => rfl) rfl rfl rfl rfl inW8 2 (by decide) (TT_cons kw_882) rfl dX8_take_87 ?_
    obtain ⟨hg11, hf⟩ := gd_some hf
    refine F_iast hΓ (t := 19) (i := 21) (f := (u2 21)) (σ' := (qM σ u1 (va_up (va_up (va_up (va_up (va_up u2 17 (upd (u2 17) ((u1 22).toNatClampNeg) p1)) 18 (upd (u2 18) ((u1 22).toNatClampNeg) (u1 44))) 19 (upd (u2 19) ((u1 22).toNatClampNeg) (vp_nar .byte ((u1 42).toInt8.toInt32)))) 20 (upd (u2 20) ((u1 22).toNatClampNeg) (vp_nar .byte ((u1 43).toInt8.toInt32)))) 21 (upd (u2 21) ((u1 22).toNatClampNeg) (u1 2))))) (FMi hF (t := 19) (by decide)) (fun _ _ _ => rfl) rfl qM_m hg11 dX8_take_90 ?_
    refine G_aload_n hΓ 1 dX8_take_91 rfl ?_
    refine F_get hΓ (t := 18) (i := 0) (ci := 11) (C := RX8) (T := TX8) (N := 47) (fs8 (gl Γ) 0) (v := .int (u1 42)) (FMi hF (t := 18) (by decide)) (fun _ _ _ => rfl) rfl rfl rfl rfl inW8 42 (by decide) (TT_cons kw_922) rfl dX8_take_92 ?_
    refine G_aload_n hΓ 1 dX8_take_95 rfl ?_
    refine F_get hΓ (t := 18) (i := 0) (ci := 11) (C := RX8) (T := TX8) (N := 47) (fs8 (gl Γ) 0) (v := .int (u1 43)) (FMi hF (t := 18) (by decide)) (fun _ _ _ => rfl) rfl rfl rfl rfl inW8 43 (by decide) (TT_cons kw_923) rfl dX8_take_96 ?_
    obtain ⟨u12, hc13, hf⟩ := bd_some hf
    refine G_callS hΓ (n := 2) (As := [.int (u1 42), .int (u1 43)]) (σ' := (qM σ u1 (va_up (va_up (va_up (va_up (va_up u2 17 (upd (u2 17) ((u1 22).toNatClampNeg) p1)) 18 (upd (u2 18) ((u1 22).toNatClampNeg) (u1 44))) 19 (upd (u2 19) ((u1 22).toNatClampNeg) (vp_nar .byte ((u1 42).toInt8.toInt32)))) 20 (upd (u2 20) ((u1 22).toNatClampNeg) (vp_nar .byte ((u1 43).toInt8.toInt32)))) 21 (upd (u2 21) ((u1 22).toNatClampNeg) (u1 2))))) (c_X8_octetsOf (gL Γ) (gl Γ) hF (qM σ u1 (va_up (va_up (va_up (va_up (va_up u2 17 (upd (u2 17) ((u1 22).toNatClampNeg) p1)) 18 (upd (u2 18) ((u1 22).toNatClampNeg) (u1 44))) 19 (upd (u2 19) ((u1 22).toNatClampNeg) (vp_nar .byte ((u1 42).toInt8.toInt32)))) 20 (upd (u2 20) ((u1 22).toNatClampNeg) (vp_nar .byte ((u1 43).toInt8.toInt32)))) 21 (upd (u2 21) ((u1 22).toNatClampNeg) (u1 2))))   (u1 42) (u1 43)  hc13) rfl rfl kw_1048 kw_1049 kw_9 kw_1050 ⟨by decide, by decide, by decide +kernel⟩ rfl rfl ⟨Nat.le_of_ble_eq_true rfl, Nat.le_of_ble_eq_true rfl⟩ rfl (Nat.le_of_ble_eq_true rfl) dX8_take_99 ⟨_, rfl⟩ rfl ?_
    refine G_istore_n hΓ [(3, .int u12), (2, .int u3), (0, .ref (ya (gl Γ) 18 0)), (1, .int p1)] dX8_take_102 (by decide) rfl ?_
    refine G_aload_n hΓ 2 dX8_take_103 rfl ?_
    refine F_get hΓ (t := 18) (i := 0) (ci := 11) (C := RX8) (T := TX8) (N := 47) (fs8 (gl Γ) 0) (v := .int (u1 42)) (FMi hF (t := 18) (by decide)) (fun _ _ _ => rfl) rfl rfl rfl rfl inW8 42 (by decide) (TT_cons kw_922) rfl dX8_take_104 ?_
    refine G_iconst (v := 2) hΓ dX8_take_107 (by decide) ?_
    obtain ⟨x14, he19, hf⟩ := lt_eq hf
    have K15 : GG Γ (0, 0) (qM σ u1 (va_up (va_up (va_up (va_up (va_up u2 17 (upd (u2 17) ((u1 22).toNatClampNeg) p1)) 18 (upd (u2 18) ((u1 22).toNatClampNeg) (u1 44))) 19 (upd (u2 19) ((u1 22).toNatClampNeg) (vp_nar .byte ((u1 42).toInt8.toInt32)))) 20 (upd (u2 20) ((u1 22).toNatClampNeg) (vp_nar .byte ((u1 43).toInt8.toInt32)))) 21 (upd (u2 21) ((u1 22).toNatClampNeg) (u1 2)))) 146 [(3, .int u12), (2, .int u3), (0, .ref (ya (gl Γ) 18 0)), (1, .int p1)] [.int x14] := by
      refine G_istore hΓ [(4, .int x14), (3, .int u12), (2, .int u3), (0, .ref (ya (gl Γ) 18 0)), (1, .int p1)] dX8_take_146 (by decide) rfl ?_
      refine G_iconst (v := 0) hΓ dX8_take_148 (by decide) ?_
      refine G_istore hΓ [(5, .int 0), (4, .int x14), (3, .int u12), (2, .int u3), (0, .ref (ya (gl Γ) 18 0)), (1, .int p1)] dX8_take_149 (by decide) rfl ?_
      obtain ⟨k22, hk_k22, hf⟩ := jn_eq hf
      try dsimp only at hf
      have K23 : ∀ v20 v21, k22 (v20, v21) = some (v', m') → GG Γ (0, 0) (qM σ u1 v20) 193 [(5, .int v21), (4, .int x14), (3, .int u12), (2, .int u3), (0, .ref (ya (gl Γ) 18 0)), (1, .int p1)] [] := by
        intro v20 v21 hf
        subst hk_k22
        try dsimp only at hf
        refine G_aload_n hΓ 4 dX8_take_193 rfl ?_
        refine G_dup hΓ dX8_take_194 rfl ?_
        refine F_get hΓ (t := 18) (i := 0) (ci := 11) (C := RX8) (T := TX8) (N := 47) (fs8 (gl Γ) 0) (v := .int (u1 22)) (FMi hF (t := 18) (by decide)) (fun _ _ _ => rfl) rfl rfl rfl rfl inW8 22 (by decide) (TT_cons kw_902) rfl dX8_take_195 ?_
        refine G_iconst (v := 1) hΓ dX8_take_198 (by decide) ?_
        refine G_iadd hΓ dX8_take_199 ?_
        refine F_put hΓ (t := 18) (i := 0) (ci := 11) (C := RX8) (T := TX8) (N := 47) (fs8 (gl Γ) 0) (f := u1) (f' := (upd u1 22 ((u1 22) + 1))) (σ' := (qM σ (upd u1 22 ((u1 22) + 1)) v20)) (ty := .int) (v := .int ((u1 22) + 1)) tyX8 tyX8_ok nmX8 (FMi hF (t := 18) (by decide)) (fun _ _ _ => rfl) rfl qM_v rfl inW8 22 (by decide) (TT_cons kw_902) rfl (by decide +kernel) rfl rfl (fun _ _ => Nat.le_of_ble_eq_true rfl) (fun _ _ => rfl) dX8_take_200 ?_
        cases hf
        exact G_vret hΓ hE dX8_take_203
      clear hk_k22
      have loop28 : ∀ (nn : Nat) v20 v21, L_X8_take_151 u12 x14 u1 k22 nn v20 v21 = some (v', m') → GG Γ (0, 0) (qM σ u1 v20) 151 [(5, .int v21), (4, .int x14), (3, .int u12), (2, .int u3), (0, .ref (ya (gl Γ) 18 0)), (1, .int p1)] [] := by
        intro nn
        induction nn with
        | zero => intro v20 v21 hf; cases hf
        | succ nn ih =>
          intro v20 v21 hf
          rw [L_X8_take_151] at hf
          refine G_iload hΓ 0 dX8_take_151 rfl ?_
          refine G_iload_n hΓ 2 dX8_take_153 rfl ?_
          refine G_icmp_ge hΓ (tgt := 193) dX8_take_154 (by decide) (fun hc27 => ?_) (fun hc27 => ?_)
          · rw [if_pos hc27] at hf
            exact (K23 _ _ hf)
          · rw [if_neg hc27] at hf
            refine G_aload_n hΓ 4 dX8_take_157 rfl ?_
            refine F_get hΓ (t := 18) (i := 0) (ci := 11) (C := RX8) (T := TX8) (N := 47) (fs8 (gl Γ) 0) (v := .ref (ya (gl Γ) 19 22)) (FMi hF (t := 18) (by decide)) (fun _ _ _ => rfl) rfl rfl rfl rfl inW8 28 (by decide) (TT_cons kw_908) rfl dX8_take_158 ?_
            refine G_bipush (v := 64) hΓ dX8_take_161 (by decide) ?_
            refine G_aload_n hΓ 4 dX8_take_163 rfl ?_
            refine F_get hΓ (t := 18) (i := 0) (ci := 11) (C := RX8) (T := TX8) (N := 47) (fs8 (gl Γ) 0) (v := .int (u1 22)) (FMi hF (t := 18) (by decide)) (fun _ _ _ => rfl) rfl rfl rfl rfl inW8 22 (by decide) (TT_cons kw_902) rfl dX8_take_164 ?_
            refine G_imul hΓ dX8_take_167 ?_
            refine G_iload hΓ 0 dX8_take_168 rfl ?_
            refine G_iadd hΓ dX8_take_170 ?_
            refine G_aload_n hΓ 4 dX8_take_171 rfl ?_
            refine G_iload hΓ 1 dX8_take_172 rfl ?_
            refine G_bipush (v := 8) hΓ dX8_take_174 (by decide) ?_
            refine G_iload hΓ 0 dX8_take_176 rfl ?_
            refine G_imul hΓ dX8_take_178 ?_
            refine G_iadd hΓ dX8_take_179 ?_
            refine G_bipush (v := 8) hΓ dX8_take_180 (by decide) ?_
            obtain ⟨u24, hc25, hf⟩ := bd_some hf
            refine G_callV hΓ (n := 2) (As := [.int (x14 + (8 * v21)), .int 8]) (t := 18) (i := 0) (ci := 11) (T := TX8) (N := 47) (FS := fs8 (gl Γ) 0) (σ' := (qM σ u1 v20)) (c_X8_number (gL Γ) (gl Γ) hF σ  u1 v20 (x14 + (8 * v21)) 8  hc25) rfl rfl kw_1136 kw_1138 kp_45 kw_9 kw_1139 ⟨rfl, by decide, by decide, by decide +kernel⟩ (FMi hF (t := 18) (by decide)) (fun _ _ _ => rfl) rfl rfl rfl ⟨Nat.le_of_ble_eq_true rfl, Nat.le_of_ble_eq_true rfl⟩ rfl (Nat.le_of_ble_eq_true rfl) dX8_take_182 ⟨_, rfl⟩ rfl ?_
            refine G_i2b hΓ dX8_take_185 ?_
            obtain ⟨hg26, hf⟩ := gd_some hf
            refine F_bast hΓ (t := 19) (i := 22) (f := (v20 22)) (σ' := (qM σ u1 (va_up v20 22 (upd (v20 22) (((64 * (u1 22)) + v21).toNatClampNeg) (vp_nar .byte u24.toInt8.toInt32))))) (FMi hF (t := 19) (by decide)) (fun _ _ _ => rfl) rfl qM_m hg26 dX8_take_186 ?_
            refine G_iinc hΓ 0 [(5, .int (v21 + 1)), (4, .int x14), (3, .int u12), (2, .int u3), (0, .ref (ya (gl Γ) 18 0)), (1, .int p1)] dX8_take_187 rfl rfl (by decide) rfl ?_
            refine G_goto hΓ (tgt := 151) dX8_take_190 (by decide) ?_
            exact (ih _ _ hf)
      exact loop28 _ _ _ hf
    have he := he19
    refine G_icmp_ne hΓ (tgt := 116) dX8_take_108 (by decide) (fun hc18 => ?_) (fun hc18 => ?_)
    · rw [if_neg hc18] at he
      refine G_aload_n hΓ 2 dX8_take_116 rfl ?_
      refine F_get hΓ (t := 18) (i := 0) (ci := 11) (C := RX8) (T := TX8) (N := 47) (fs8 (gl Γ) 0) (v := .int (u1 42)) (FMi hF (t := 18) (by decide)) (fun _ _ _ => rfl) rfl rfl rfl rfl inW8 42 (by decide) (TT_cons kw_922) rfl dX8_take_117 ?_
      refine G_iconst (v := 3) hΓ dX8_take_120 (by decide) ?_
      refine G_icmp_ne hΓ (tgt := 129) dX8_take_121 (by decide) (fun hc17 => ?_) (fun hc17 => ?_)
      · rw [if_neg hc17] at he
        refine G_aload_n hΓ 2 dX8_take_129 rfl ?_
        refine F_get hΓ (t := 18) (i := 0) (ci := 11) (C := RX8) (T := TX8) (N := 47) (fs8 (gl Γ) 0) (v := .int (u1 42)) (FMi hF (t := 18) (by decide)) (fun _ _ _ => rfl) rfl rfl rfl rfl inW8 42 (by decide) (TT_cons kw_922) rfl dX8_take_130 ?_
        refine G_iconst (v := 2) hΓ dX8_take_133 (by decide) ?_
        refine G_irem hΓ dX8_take_134 (by decide) ?_
        refine G_iconst (v := 1) hΓ dX8_take_135 (by decide) ?_
        refine G_icmp_ne hΓ (tgt := 144) dX8_take_136 (by decide) (fun hc16 => ?_) (fun hc16 => ?_)
        · rw [if_neg hc16] at he
          refine G_bipush (v := 19) hΓ dX8_take_144 (by decide) ?_
          subst he
          exact K15
        · rw [if_pos hc16] at he
          refine G_bipush (v := 39) hΓ dX8_take_139 (by decide) ?_
          refine G_goto hΓ (tgt := 146) dX8_take_141 (by decide) ?_
          subst he
          exact K15
      · rw [if_pos hc17] at he
        refine G_bipush (v := 41) hΓ dX8_take_124 (by decide) ?_
        refine G_goto hΓ (tgt := 146) dX8_take_126 (by decide) ?_
        subst he
        exact K15
    · rw [if_pos hc18] at he
      refine G_bipush (v := 22) hΓ dX8_take_111 (by decide) ?_
      refine G_goto hΓ (tgt := 146) dX8_take_113 (by decide) ?_
      subst he
      exact K15
  · rw [if_neg hc29] at hf
    cases hf
    exact G_vret hΓ hE dX8_take_26
