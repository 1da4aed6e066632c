theorem dX8_nodes_0 : decode cX8_nodes 0 = .ok (.aload_n 0, 1) := by decide +kernel
theorem dX8_nodes_1 : decode cX8_nodes 1 = .ok (.iload_n 1, 1) := by decide +kernel
theorem dX8_nodes_2 : decode cX8_nodes 2 = .ok (.bipush 32, 2) := by decide +kernel
theorem dX8_nodes_4 : decode cX8_nodes 4 = .ok (.if_icmp .le 7, 3) := by decide +kernel
theorem dX8_nodes_7 : decode cX8_nodes 7 = .ok (.iconst 1, 1) := by decide +kernel
theorem dX8_nodes_8 : decode cX8_nodes 8 = .ok (.goto 12, 3) := by decide +kernel
theorem dX8_nodes_11 : decode cX8_nodes 11 = .ok (.iload_n 1, 1) := by decide +kernel
theorem dX8_nodes_12 : decode cX8_nodes 12 = .ok (.ifCond .ge 7, 3) := by decide +kernel
theorem dX8_nodes_15 : decode cX8_nodes 15 = .ok (.iconst 2, 1) := by decide +kernel
theorem dX8_nodes_16 : decode cX8_nodes 16 = .ok (.goto 4, 3) := by decide +kernel
theorem dX8_nodes_19 : decode cX8_nodes 19 = .ok (.iconst 0, 1) := by decide +kernel
theorem dX8_nodes_20 : decode cX8_nodes 20 = .ok (.putfield 113, 3) := by decide +kernel
theorem dX8_nodes_23 : decode cX8_nodes 23 = .ok (.aload_n 0, 1) := by decide +kernel
theorem dX8_nodes_24 : decode cX8_nodes 24 = .ok (.getfield 113, 3) := by decide +kernel
theorem dX8_nodes_27 : decode cX8_nodes 27 = .ok (.ifCond .le 4, 3) := by decide +kernel
theorem dX8_nodes_30 : decode cX8_nodes 30 = .ok (.return_, 1) := by decide +kernel
theorem dX8_nodes_31 : decode cX8_nodes 31 = .ok (.aload_n 0, 1) := by decide +kernel
theorem dX8_nodes_32 : decode cX8_nodes 32 = .ok (.iload_n 1, 1) := by decide +kernel
theorem dX8_nodes_33 : decode cX8_nodes 33 = .ok (.putfield 7, 3) := by decide +kernel
theorem dX8_nodes_36 : decode cX8_nodes 36 = .ok (.aload_n 0, 1) := by decide +kernel
theorem dX8_nodes_37 : decode cX8_nodes 37 = .ok (.iconst 0, 1) := by decide +kernel
theorem dX8_nodes_38 : decode cX8_nodes 38 = .ok (.putfield 116, 3) := by decide +kernel
theorem dX8_nodes_41 : decode cX8_nodes 41 = .ok (.aload_n 0, 1) := by decide +kernel
theorem dX8_nodes_42 : decode cX8_nodes 42 = .ok (.iconst 0, 1) := by decide +kernel
theorem dX8_nodes_43 : decode cX8_nodes 43 = .ok (.putfield 119, 3) := by decide +kernel
theorem dX8_nodes_46 : decode cX8_nodes 46 = .ok (.aload_n 0, 1) := by decide +kernel
theorem dX8_nodes_47 : decode cX8_nodes 47 = .ok (.iconst 0, 1) := by decide +kernel
theorem dX8_nodes_48 : decode cX8_nodes 48 = .ok (.putfield 122, 3) := by decide +kernel
theorem dX8_nodes_51 : decode cX8_nodes 51 = .ok (.aload_n 0, 1) := by decide +kernel
theorem dX8_nodes_52 : decode cX8_nodes 52 = .ok (.iconst 0, 1) := by decide +kernel
theorem dX8_nodes_53 : decode cX8_nodes 53 = .ok (.putfield 125, 3) := by decide +kernel
theorem dX8_nodes_56 : decode cX8_nodes 56 = .ok (.aload_n 0, 1) := by decide +kernel
theorem dX8_nodes_57 : decode cX8_nodes 57 = .ok (.iconst 0, 1) := by decide +kernel
theorem dX8_nodes_58 : decode cX8_nodes 58 = .ok (.putfield 128, 3) := by decide +kernel
theorem dX8_nodes_61 : decode cX8_nodes 61 = .ok (.iconst 0, 1) := by decide +kernel
theorem dX8_nodes_62 : decode cX8_nodes 62 = .ok (.istore_n 2, 1) := by decide +kernel
theorem dX8_nodes_63 : decode cX8_nodes 63 = .ok (.iload_n 2, 1) := by decide +kernel
theorem dX8_nodes_64 : decode cX8_nodes 64 = .ok (.bipush 32, 2) := by decide +kernel
theorem dX8_nodes_66 : decode cX8_nodes 66 = .ok (.if_icmp .ge 30, 3) := by decide +kernel
theorem dX8_nodes_69 : decode cX8_nodes 69 = .ok (.aload_n 0, 1) := by decide +kernel
theorem dX8_nodes_70 : decode cX8_nodes 70 = .ok (.getfield 43, 3) := by decide +kernel
theorem dX8_nodes_73 : decode cX8_nodes 73 = .ok (.iload_n 2, 1) := by decide +kernel
theorem dX8_nodes_74 : decode cX8_nodes 74 = .ok (.iconst 0, 1) := by decide +kernel
theorem dX8_nodes_75 : decode cX8_nodes 75 = .ok (.iastore, 1) := by decide +kernel
theorem dX8_nodes_76 : decode cX8_nodes 76 = .ok (.aload_n 0, 1) := by decide +kernel
theorem dX8_nodes_77 : decode cX8_nodes 77 = .ok (.getfield 52, 3) := by decide +kernel
theorem dX8_nodes_80 : decode cX8_nodes 80 = .ok (.iload_n 2, 1) := by decide +kernel
theorem dX8_nodes_81 : decode cX8_nodes 81 = .ok (.iconst 0, 1) := by decide +kernel
theorem dX8_nodes_82 : decode cX8_nodes 82 = .ok (.iastore, 1) := by decide +kernel
theorem dX8_nodes_83 : decode cX8_nodes 83 = .ok (.aload_n 0, 1) := by decide +kernel
theorem dX8_nodes_84 : decode cX8_nodes 84 = .ok (.getfield 55, 3) := by decide +kernel
theorem dX8_nodes_87 : decode cX8_nodes 87 = .ok (.iload_n 2, 1) := by decide +kernel
theorem dX8_nodes_88 : decode cX8_nodes 88 = .ok (.iconst 0, 1) := by decide +kernel
theorem dX8_nodes_89 : decode cX8_nodes 89 = .ok (.iastore, 1) := by decide +kernel
theorem dX8_nodes_90 : decode cX8_nodes 90 = .ok (.iinc 2 1, 3) := by decide +kernel
theorem dX8_nodes_93 : decode cX8_nodes 93 = .ok (.goto (-30), 3) := by decide +kernel
theorem dX8_nodes_96 : decode cX8_nodes 96 = .ok (.iconst 0, 1) := by decide +kernel
theorem dX8_nodes_97 : decode cX8_nodes 97 = .ok (.istore_n 2, 1) := by decide +kernel
theorem dX8_nodes_98 : decode cX8_nodes 98 = .ok (.iload_n 2, 1) := by decide +kernel
theorem dX8_nodes_99 : decode cX8_nodes 99 = .ok (.ldc 65, 2) := by decide +kernel
theorem dX8_nodes_101 : decode cX8_nodes 101 = .ok (.if_icmp .ge 16, 3) := by decide +kernel
theorem dX8_nodes_104 : decode cX8_nodes 104 = .ok (.aload_n 0, 1) := by decide +kernel
theorem dX8_nodes_105 : decode cX8_nodes 105 = .ok (.getfield 66, 3) := by decide +kernel
theorem dX8_nodes_108 : decode cX8_nodes 108 = .ok (.iload_n 2, 1) := by decide +kernel
theorem dX8_nodes_109 : decode cX8_nodes 109 = .ok (.iconst 0, 1) := by decide +kernel
theorem dX8_nodes_110 : decode cX8_nodes 110 = .ok (.bastore, 1) := by decide +kernel
theorem dX8_nodes_111 : decode cX8_nodes 111 = .ok (.iinc 2 1, 3) := by decide +kernel
theorem dX8_nodes_114 : decode cX8_nodes 114 = .ok (.goto (-16), 3) := by decide +kernel
theorem dX8_nodes_117 : decode cX8_nodes 117 = .ok (.return_, 1) := by decide +kernel
noncomputable def L_X8_nodes_98  (k16 : (Nat → Nat → Int32) × Int32 → Option ((Nat → Int32) × (Nat → Nat → Int32))) : Nat → (Nat → Nat → Int32) → Int32 → Option ((Nat → Int32) × (Nat → Nat → Int32))
  | 0, _, _ => none
  | nn + 1, v14, v15 => if 640000 ≤ v15 then k16 (v14, v15) else gd (vp_in v15 640000) (L_X8_nodes_98  k16 nn (va_up v14 16 (upd (v14 16) v15.toNatClampNeg (vp_nar .boolean 0))) (v15 + 1))
noncomputable def L_X8_nodes_63  (k8 : (Nat → Nat → Int32) × Int32 → Option ((Nat → Int32) × (Nat → Nat → Int32))) : Nat → (Nat → Nat → Int32) → Int32 → Option ((Nat → Int32) × (Nat → Nat → Int32))
  | 0, _, _ => none
  | nn + 1, v6, v7 => if 32 ≤ v7 then k8 (v6, v7) else gd (vp_in v7 32) (gd (vp_in v7 32) (gd (vp_in v7 32) (L_X8_nodes_63  k8 nn (va_up (va_up (va_up v6 9 (upd (v6 9) v7.toNatClampNeg 0)) 12 (upd (v6 12) v7.toNatClampNeg 0)) 13 (upd (v6 13) v7.toNatClampNeg 0)) (v7 + 1))))
noncomputable def f_X8_nodes  (v : Nat → Int32) (m : Nat → Nat → Int32) (p1 : Int32) : Option ((Nat → Int32) × (Nat → Nat → Int32)) := lt (α := Int32) (if p1 ≤ 32 then if 0 ≤ p1 then 0 else 2 else 1) (fun x1 => if x1 ≤ 0 then jn (α := (Nat → Nat → Int32) × Int32) (fun ⟨v6, v7⟩ => jn (α := (Nat → Nat → Int32) × Int32) (fun ⟨v14, v15⟩ => some ((upd (upd (upd (upd (upd (upd (upd v 0 x1) 1 p1) 2 0) 4 0) 11 0) 22 0) 29 0), v14)) (fun k16 => L_X8_nodes_98  k16 fu v6 0)) (fun k8 => L_X8_nodes_63  k8 fu m 0) else some ((upd v 0 x1), m))
set_option maxHeartbeats 4000000 in
set_option maxRecDepth 100000 in
theorem c_X8_nodes (l : Launch) (Λ : LY) (hF : FM Λ) (σ : CS)  (v : Nat → Int32) (m : Nat → Nat → Int32) (p1 : Int32)   {v' : Nat → Int32} {m' : Nat → Nat → Int32} (hf : f_X8_nodes v m p1 = some (v', m')) : CM l yX8_nodes (.code yX8_nodes cX8_nodes 3 none :: TT) ({ frames := 0, cells := 0, slots := 0, locals := 0 }) Λ [.ref (ya Λ 18 0), .int p1] (qM σ v m) (qM σ v' m') (none) := by
  refine CM_intro (own := RX8) (by decide) rfl (Nat.le_of_ble_eq_true rfl) ?_
  intro Γ hg hl hΓ hE
  subst hg; subst hl
  show GG Γ (0, 0) (qM σ v m) 0 [(0, .ref (ya (gl Γ) 18 0)), (1, .int p1)] []
  unfold f_X8_nodes at hf
  refine G_aload_n hΓ 0 dX8_nodes_0 rfl ?_
  refine G_iload_n hΓ 1 dX8_nodes_1 rfl ?_
  refine G_bipush (v := 32) hΓ dX8_nodes_2 (by decide) ?_
  obtain ⟨x1, he5, hf⟩ := lt_eq hf
  have K2 : GG Γ (0, 0) (qM σ v m) 20 [(0, .ref (ya (gl Γ) 18 0)), (1, .int p1)] [.int x1, .ref (ya (gl Γ) 18 0)] := by
    refine F_put hΓ (t := 18) (i := 0) (ci := 11) (C := RX8) (T := TX8) (N := 47) (fs8 (gl Γ) 0) (f := v) (f' := (upd v 0 x1)) (σ' := (qM σ (upd v 0 x1) m)) (ty := .int) (v := .int x1) tyX8 tyX8_ok nmX8 (FMi hF (t := 18) (by decide)) (fun _ _ _ => rfl) rfl qM_v rfl inW8 0 (by decide) (TT_cons kw_880) rfl (by decide +kernel) rfl rfl (fun _ _ => Nat.le_of_ble_eq_true rfl) (fun _ _ => rfl) dX8_nodes_20 ?_
    refine G_aload_n hΓ 0 dX8_nodes_23 rfl ?_
    refine F_get hΓ (t := 18) (i := 0) (ci := 11) (C := RX8) (T := TX8) (N := 47) (fs8 (gl Γ) 0) (v := .int x1) (FMi hF (t := 18) (by decide)) (fun _ _ _ => rfl) rfl rfl rfl rfl inW8 0 (by decide) (TT_cons kw_880) rfl dX8_nodes_24 ?_
    refine G_if_le hΓ (tgt := 31) dX8_nodes_27 (by decide) (fun hc22 => ?_) (fun hc22 => ?_)
    · rw [if_pos hc22] at hf
      refine G_aload_n hΓ 0 dX8_nodes_31 rfl ?_
      refine G_iload_n hΓ 1 dX8_nodes_32 rfl ?_
      refine F_put hΓ (t := 18) (i := 0) (ci := 11) (C := RX8) (T := TX8) (N := 47) (fs8 (gl Γ) 0) (f := (upd v 0 x1)) (f' := (upd (upd v 0 x1) 1 p1)) (σ' := (qM σ (upd (upd v 0 x1) 1 p1) m)) (ty := .int) (v := .int p1) tyX8 tyX8_ok nmX8 (FMi hF (t := 18) (by decide)) (fun _ _ _ => rfl) rfl qM_v rfl inW8 1 (by decide) (TT_cons kw_881) rfl (by decide +kernel) rfl rfl (fun _ _ => Nat.le_of_ble_eq_true rfl) (fun _ _ => rfl) dX8_nodes_33 ?_
      refine G_aload_n hΓ 0 dX8_nodes_36 rfl ?_
      refine G_iconst (v := 0) hΓ dX8_nodes_37 (by decide) ?_
      refine F_put hΓ (t := 18) (i := 0) (ci := 11) (C := RX8) (T := TX8) (N := 47) (fs8 (gl Γ) 0) (f := (upd (upd v 0 x1) 1 p1)) (f' := (upd (upd (upd v 0 x1) 1 p1) 2 0)) (σ' := (qM σ (upd (upd (upd v 0 x1) 1 p1) 2 0) m)) (ty := .int) (v := .int 0) tyX8 tyX8_ok nmX8 (FMi hF (t := 18) (by decide)) (fun _ _ _ => rfl) rfl qM_v rfl inW8 2 (by decide) (TT_cons kw_882) rfl (by decide +kernel) rfl rfl (fun _ _ => Nat.le_of_ble_eq_true rfl) (fun _ _ => rfl) dX8_nodes_38 ?_
      refine G_aload_n hΓ 0 dX8_nodes_41 rfl ?_
      refine G_iconst (v := 0) hΓ dX8_nodes_42 (by decide) ?_
      refine F_put hΓ (t := 18) (i := 0) (ci := 11) (C := RX8) (T := TX8) (N := 47) (fs8 (gl Γ) 0) (f := (upd (upd (upd v 0 x1) 1 p1) 2 0)) (f' := (upd (upd (upd (upd v 0 x1) 1 p1) 2 0) 4 0)) (σ' := (qM σ (upd (upd (upd (upd v 0 x1) 1 p1) 2 0) 4 0) m)) (ty := .int) (v := .int 0) tyX8 tyX8_ok nmX8 (FMi hF (t := 18) (by decide)) (fun _ _ _ => rfl) rfl qM_v rfl inW8 4 (by decide) (TT_cons kw_884) rfl (by decide +kernel) rfl rfl (fun _ _ => Nat.le_of_ble_eq_true rfl) (fun _ _ => rfl) dX8_nodes_43 ?_
      refine G_aload_n hΓ 0 dX8_nodes_46 rfl ?_
      refine G_iconst (v := 0) hΓ dX8_nodes_47 (by decide) ?_
      refine F_put hΓ (t := 18) (i := 0) (ci := 11) (C := RX8) (T := TX8) (N := 47) (fs8 (gl Γ) 0) (f := (upd (upd (upd (upd v 0 x1) 1 p1) 2 0) 4 0)) (f' := (upd (upd (upd (upd (upd v 0 x1) 1 p1) 2 0) 4 0) 11 0)) (σ' := (qM σ (upd (upd (upd (upd (upd v 0 x1) 1 p1) 2 0) 4 0) 11 0) m)) (ty := .int) (v := .int 0) tyX8 tyX8_ok nmX8 (FMi hF (t := 18) (by decide)) (fun _ _ _ => rfl) rfl qM_v rfl inW8 11 (by decide) (TT_cons kw_891) rfl (by decide +kernel) rfl rfl (fun _ _ => Nat.le_of_ble_eq_true rfl) (fun _ _ => rfl) dX8_nodes_48 ?_
      refine G_aload_n hΓ 0 dX8_nodes_51 rfl ?_
      refine G_iconst (v := 0) hΓ dX8_nodes_52 (by decide) ?_
      refine F_put hΓ (t := 18) (i := 0) (ci := 11) (C := RX8) (T := TX8) (N := 47) (fs8 (gl Γ) 0) (f := (upd (upd (upd (upd (upd v 0 x1) 1 p1) 2 0) 4 0) 11 0)) (f' := (upd (upd (upd (upd (upd (upd v 0 x1) 1 p1) 2 0) 4 0) 11 0) 22 0)) (σ' := (qM σ (upd (upd (upd (upd (upd (upd v 0 x1) 1 p1) 2 0) 4 0) 11 0) 22 0) m)) (ty := .int) (v := .int 0) tyX8 tyX8_ok nmX8 (FMi hF (t := 18) (by decide)) (fun _ _ _ => rfl) rfl qM_v rfl inW8 22 (by decide) (TT_cons kw_902) rfl (by decide +kernel) rfl rfl (fun _ _ => Nat.le_of_ble_eq_true rfl) (fun _ _ => rfl) dX8_nodes_53 ?_
      refine G_aload_n hΓ 0 dX8_nodes_56 rfl ?_
      refine G_iconst (v := 0) hΓ dX8_nodes_57 (by decide) ?_
      refine F_put hΓ (t := 18) (i := 0) (ci := 11) (C := RX8) (T := TX8) (N := 47) (fs8 (gl Γ) 0) (f := (upd (upd (upd (upd (upd (upd v 0 x1) 1 p1) 2 0) 4 0) 11 0) 22 0)) (f' := (upd (upd (upd (upd (upd (upd (upd v 0 x1) 1 p1) 2 0) 4 0) 11 0) 22 0) 29 0)) (σ' := (qM σ (upd (upd (upd (upd (upd (upd (upd v 0 x1) 1 p1) 2 0) 4 0) 11 0) 22 0) 29 0) m)) (ty := .int) (v := .int 0) tyX8 tyX8_ok nmX8 (FMi hF (t := 18) (by decide)) (fun _ _ _ => rfl) rfl qM_v rfl inW8 29 (by decide) (TT_cons kw_909) rfl (by decide +kernel) rfl rfl (fun _ _ => Nat.le_of_ble_eq_true rfl) (fun _ _ => rfl) dX8_nodes_58 ?_
      refine G_iconst (v := 0) hΓ dX8_nodes_61 (by decide) ?_
      refine G_istore_n hΓ [(2, .int 0), (0, .ref (ya (gl Γ) 18 0)), (1, .int p1)] dX8_nodes_62 (by decide) rfl ?_
      obtain ⟨k8, hk_k8, hf⟩ := jn_eq hf
      try dsimp only at hf
      have K9 : ∀ v6 v7, k8 (v6, v7) = some (v', m') → GG Γ (0, 0) (qM σ (upd (upd (upd (upd (upd (upd (upd v 0 x1) 1 p1) 2 0) 4 0) 11 0) 22 0) 29 0) v6) 96 [(2, .int v7), (0, .ref (ya (gl Γ) 18 0)), (1, .int p1)] [] := by
        intro v6 v7 hf
        subst hk_k8
        try dsimp only at hf
        refine G_iconst (v := 0) hΓ dX8_nodes_96 (by decide) ?_
        refine G_istore_n hΓ [(2, .int 0), (0, .ref (ya (gl Γ) 18 0)), (1, .int p1)] dX8_nodes_97 (by decide) rfl ?_
        obtain ⟨k16, hk_k16, hf⟩ := jn_eq hf
        try dsimp only at hf
        have K17 : ∀ v14 v15, k16 (v14, v15) = some (v', m') → GG Γ (0, 0) (qM σ (upd (upd (upd (upd (upd (upd (upd v 0 x1) 1 p1) 2 0) 4 0) 11 0) 22 0) 29 0) v14) 117 [(2, .int v15), (0, .ref (ya (gl Γ) 18 0)), (1, .int p1)] [] := by
          intro v14 v15 hf
          subst hk_k16
          try dsimp only at hf
          cases hf
          exact G_vret hΓ hE dX8_nodes_117
        clear hk_k16
        have loop20 : ∀ (nn : Nat) v14 v15, L_X8_nodes_98  k16 nn v14 v15 = some (v', m') → GG Γ (0, 0) (qM σ (upd (upd (upd (upd (upd (upd (upd v 0 x1) 1 p1) 2 0) 4 0) 11 0) 22 0) 29 0) v14) 98 [(2, .int v15), (0, .ref (ya (gl Γ) 18 0)), (1, .int p1)] [] := by
          intro nn
          induction nn with
          | zero => intro v14 v15 hf; cases hf
          | succ nn ih =>
            intro v14 v15 hf
            rw [L_X8_nodes_98] at hf
            refine G_iload_n hΓ 0 dX8_nodes_98 rfl ?_
            refine G_ldc hΓ (v := 640000) (TT_cons kw_877) dX8_nodes_99 ?_
            refine G_icmp_ge hΓ (tgt := 117) dX8_nodes_101 (by decide) (fun hc19 => ?_) (fun hc19 => ?_)
            · rw [if_pos hc19] at hf
              exact (K17 _ _ hf)
            · rw [if_neg hc19] at hf
              refine G_aload_n hΓ 1 dX8_nodes_104 rfl ?_
              refine F_get hΓ (t := 18) (i := 0) (ci := 11) (C := RX8) (T := TX8) (N := 47) (fs8 (gl Γ) 0) (v := .ref (ya (gl Γ) 19 16)) (FMi hF (t := 18) (by decide)) (fun _ _ _ => rfl) rfl rfl rfl rfl inW8 21 (by decide) (TT_cons kw_901) rfl dX8_nodes_105 ?_
              refine G_iload_n hΓ 0 dX8_nodes_108 rfl ?_
              refine G_iconst (v := 0) hΓ dX8_nodes_109 (by decide) ?_
              obtain ⟨hg18, hf⟩ := gd_some hf
              refine F_zast hΓ (t := 19) (i := 16) (f := (v14 16)) (σ' := (qM σ (upd (upd (upd (upd (upd (upd (upd v 0 x1) 1 p1) 2 0) 4 0) 11 0) 22 0) 29 0) (va_up v14 16 (upd (v14 16) v15.toNatClampNeg (vp_nar .boolean 0))))) (FMi hF (t := 19) (by decide)) (fun _ _ _ => rfl) rfl qM_m hg18 dX8_nodes_110 ?_
              refine G_iinc hΓ 0 [(2, .int (v15 + 1)), (0, .ref (ya (gl Γ) 18 0)), (1, .int p1)] dX8_nodes_111 rfl rfl (by decide) rfl ?_
              refine G_goto hΓ (tgt := 98) dX8_nodes_114 (by decide) ?_
              exact (ih _ _ hf)
        exact loop20 _ _ _ hf
      clear hk_k8
      have loop21 : ∀ (nn : Nat) v6 v7, L_X8_nodes_63  k8 nn v6 v7 = some (v', m') → GG Γ (0, 0) (qM σ (upd (upd (upd (upd (upd (upd (upd v 0 x1) 1 p1) 2 0) 4 0) 11 0) 22 0) 29 0) v6) 63 [(2, .int v7), (0, .ref (ya (gl Γ) 18 0)), (1, .int p1)] [] := by
        intro nn
        induction nn with
        | zero => intro v6 v7 hf; cases hf
        | succ nn ih =>
          intro v6 v7 hf
          rw [L_X8_nodes_63] at hf
          refine G_iload_n hΓ 0 dX8_nodes_63 rfl ?_
          refine G_bipush (v := 32) hΓ dX8_nodes_64 (by decide) ?_
          refine G_icmp_ge hΓ (tgt := 96) dX8_nodes_66 (by decide) (fun hc13 => ?_) (fun hc13 => ?_)
          · rw [if_pos hc13] at hf
            exact (K9 _ _ hf)
          · rw [if_neg hc13] at hf
            refine G_aload_n hΓ 1 dX8_nodes_69 rfl ?_
            refine F_get hΓ (t := 18) (i := 0) (ci := 11) (C := RX8) (T := TX8) (N := 47) (fs8 (gl Γ) 0) (v := .ref (ya (gl Γ) 19 9)) (FMi hF (t := 18) (by decide)) (fun _ _ _ => rfl) rfl rfl rfl rfl inW8 14 (by decide) (TT_cons kw_894) rfl dX8_nodes_70 ?_
            refine G_iload_n hΓ 0 dX8_nodes_73 rfl ?_
            refine G_iconst (v := 0) hΓ dX8_nodes_74 (by decide) ?_
            obtain ⟨hg10, hf⟩ := gd_some hf
            refine F_iast hΓ (t := 19) (i := 9) (f := (v6 9)) (σ' := (qM σ (upd (upd (upd (upd (upd (upd (upd v 0 x1) 1 p1) 2 0) 4 0) 11 0) 22 0) 29 0) (va_up v6 9 (upd (v6 9) v7.toNatClampNeg 0)))) (FMi hF (t := 19) (by decide)) (fun _ _ _ => rfl) rfl qM_m hg10 dX8_nodes_75 ?_
            refine G_aload_n hΓ 1 dX8_nodes_76 rfl ?_
            refine F_get hΓ (t := 18) (i := 0) (ci := 11) (C := RX8) (T := TX8) (N := 47) (fs8 (gl Γ) 0) (v := .ref (ya (gl Γ) 19 12)) (FMi hF (t := 18) (by decide)) (fun _ _ _ => rfl) rfl rfl rfl rfl inW8 17 (by decide) (TT_cons kw_897) rfl dX8_nodes_77 ?_
            refine G_iload_n hΓ 0 dX8_nodes_80 rfl ?_
            refine G_iconst (v := 0) hΓ dX8_nodes_81 (by decide) ?_
            obtain ⟨hg11, hf⟩ := gd_some hf
            refine F_iast hΓ (t := 19) (i := 12) (f := (v6 12)) (σ' := (qM σ (upd (upd (upd (upd (upd (upd (upd v 0 x1) 1 p1) 2 0) 4 0) 11 0) 22 0) 29 0) (va_up (va_up v6 9 (upd (v6 9) v7.toNatClampNeg 0)) 12 (upd (v6 12) v7.toNatClampNeg 0)))) (FMi hF (t := 19) (by decide)) (fun _ _ _ => rfl) rfl qM_m hg11 dX8_nodes_82 ?_
            refine G_aload_n hΓ 1 dX8_nodes_83 rfl ?_
            refine F_get hΓ (t := 18) (i := 0) (ci := 11) (C := RX8) (T := TX8) (N := 47) (fs8 (gl Γ) 0) (v := .ref (ya (gl Γ) 19 13)) (FMi hF (t := 18) (by decide)) (fun _ _ _ => rfl) rfl rfl rfl rfl inW8 18 (by decide) (TT_cons kw_898) rfl dX8_nodes_84 ?_
            refine G_iload_n hΓ 0 dX8_nodes_87 rfl ?_
            refine G_iconst (v := 0) hΓ dX8_nodes_88 (by decide) ?_
            obtain ⟨hg12, hf⟩ := gd_some hf
            refine F_iast hΓ (t := 19) (i := 13) (f := (v6 13)) (σ' := (qM σ (upd (upd (upd (upd (upd (upd (upd v 0 x1) 1 p1) 2 0) 4 0) 11 0) 22 0) 29 0) (va_up (va_up (va_up v6 9 (upd (v6 9) v7.toNatClampNeg 0)) 12 (upd (v6 12) v7.toNatClampNeg 0)) 13 (upd (v6 13) v7.toNatClampNeg 0)))) (FMi hF (t := 19) (by decide)) (fun _ _ _ => rfl) rfl qM_m hg12 dX8_nodes_89 ?_
            refine G_iinc hΓ 0 [(2, .int (v7 + 1)), (0, .ref (ya (gl Γ) 18 0)), (1, .int p1)] dX8_nodes_90 rfl rfl (by decide) rfl ?_
            refine G_goto hΓ (tgt := 63) dX8_nodes_93 (by decide) ?_
            exact (ih _ _ hf)
      exact loop21 _ _ _ hf
    · rw [if_neg hc22] at hf
      cases hf
      exact G_vret hΓ hE dX8_nodes_30
  have he := he5
  refine G_icmp_le hΓ (tgt := 11) dX8_nodes_4 (by decide) (fun hc4 => ?_) (fun hc4 => ?_)
  · rw [if_pos hc4] at he
    refine G_iload_n hΓ 1 dX8_nodes_11 rfl ?_
    refine G_if_ge hΓ (tgt := 19) dX8_nodes_12 (by decide) (fun hc3 => ?_) (fun hc3 => ?_)
    · rw [if_pos hc3] at he
      refine G_iconst (v := 0) hΓ dX8_nodes_19 (by decide) ?_
      subst he
      exact K2
    · rw [if_neg hc3] at he
      refine G_iconst (v := 2) hΓ dX8_nodes_15 (by decide) ?_
      refine G_goto hΓ (tgt := 20) dX8_nodes_16 (by decide) ?_
      subst he
      exact K2
  · rw [if_neg hc4] at he
    refine G_iconst (v := 1) hΓ dX8_nodes_7 (by decide) ?_
    refine G_goto hΓ (tgt := 20) dX8_nodes_8 (by decide) ?_
    subst he
    exact K2
theorem dX8_send_0 : decode cX8_send 0 = .ok (.iload_n 3, 1) := by decide +kernel
theorem dX8_send_1 : decode cX8_send 1 = .ok (.ifCond .lt 47, 3) := by decide +kernel
theorem dX8_send_4 : decode cX8_send 4 = .ok (.iload_n 3, 1) := by decide +kernel
theorem dX8_send_5 : decode cX8_send 5 = .ok (.iconst 5, 1) := by decide +kernel
theorem dX8_send_6 : decode cX8_send 6 = .ok (.if_icmp .gt 42, 3) := by decide +kernel
theorem dX8_send_9 : decode cX8_send 9 = .ok (.iload 4, 2) := by decide +kernel
theorem dX8_send_11 : decode cX8_send 11 = .ok (.ifCond .lt 37, 3) := by decide +kernel
theorem dX8_send_14 : decode cX8_send 14 = .ok (.iload 4, 2) := by decide +kernel
theorem dX8_send_16 : decode cX8_send 16 = .ok (.bipush 15, 2) := by decide +kernel
theorem dX8_send_18 : decode cX8_send 18 = .ok (.if_icmp .gt 30, 3) := by decide +kernel
theorem dX8_send_21 : decode cX8_send 21 = .ok (.iload_n 2, 1) := by decide +kernel
theorem dX8_send_22 : decode cX8_send 22 = .ok (.ifCond .lt 26, 3) := by decide +kernel
theorem dX8_send_25 : decode cX8_send 25 = .ok (.iload_n 2, 1) := by decide +kernel
theorem dX8_send_26 : decode cX8_send 26 = .ok (.iload_n 3, 1) := by decide +kernel
theorem dX8_send_27 : decode cX8_send 27 = .ok (.iconst 2, 1) := by decide +kernel
theorem dX8_send_28 : decode cX8_send 28 = .ok (.irem, 1) := by decide +kernel
theorem dX8_send_29 : decode cX8_send 29 = .ok (.iconst 1, 1) := by decide +kernel
theorem dX8_send_30 : decode cX8_send 30 = .ok (.if_icmp .ne 8, 3) := by decide +kernel
theorem dX8_send_33 : decode cX8_send 33 = .ok (.ldc 131, 2) := by decide +kernel
theorem dX8_send_35 : decode cX8_send 35 = .ok (.goto 6, 3) := by decide +kernel
theorem dX8_send_38 : decode cX8_send 38 = .ok (.sipush 2048, 3) := by decide +kernel
theorem dX8_send_41 : decode cX8_send 41 = .ok (.if_icmp .ge 7, 3) := by decide +kernel
theorem dX8_send_44 : decode cX8_send 44 = .ok (.iconst 1, 1) := by decide +kernel
theorem dX8_send_45 : decode cX8_send 45 = .ok (.goto 4, 3) := by decide +kernel
theorem dX8_send_48 : decode cX8_send 48 = .ok (.iconst 0, 1) := by decide +kernel
theorem dX8_send_49 : decode cX8_send 49 = .ok (.istore 5, 2) := by decide +kernel
theorem dX8_send_51 : decode cX8_send 51 = .ok (.aload_n 0, 1) := by decide +kernel
theorem dX8_send_52 : decode cX8_send 52 = .ok (.aload_n 0, 1) := by decide +kernel
theorem dX8_send_53 : decode cX8_send 53 = .ok (.iload_n 1, 1) := by decide +kernel
theorem dX8_send_54 : decode cX8_send 54 = .ok (.invokevirtual 132, 3) := by decide +kernel
theorem dX8_send_57 : decode cX8_send 57 = .ok (.ifCond .eq 7, 3) := by decide +kernel
theorem dX8_send_60 : decode cX8_send 60 = .ok (.iconst 1, 1) := by decide +kernel
theorem dX8_send_61 : decode cX8_send 61 = .ok (.goto 27, 3) := by decide +kernel
theorem dX8_send_64 : decode cX8_send 64 = .ok (.iload 5, 2) := by decide +kernel
theorem dX8_send_66 : decode cX8_send 66 = .ok (.ifCond .ne 7, 3) := by decide +kernel
theorem dX8_send_69 : decode cX8_send 69 = .ok (.iconst 2, 1) := by decide +kernel
theorem dX8_send_70 : decode cX8_send 70 = .ok (.goto 18, 3) := by decide +kernel
theorem dX8_send_73 : decode cX8_send 73 = .ok (.aload_n 0, 1) := by decide +kernel
theorem dX8_send_74 : decode cX8_send 74 = .ok (.getfield 119, 3) := by decide +kernel
theorem dX8_send_77 : decode cX8_send 77 = .ok (.sipush 200, 3) := by decide +kernel
theorem dX8_send_80 : decode cX8_send 80 = .ok (.if_icmp .ne 7, 3) := by decide +kernel
theorem dX8_send_83 : decode cX8_send 83 = .ok (.iconst 3, 1) := by decide +kernel
theorem dX8_send_84 : decode cX8_send 84 = .ok (.goto 4, 3) := by decide +kernel
theorem dX8_send_87 : decode cX8_send 87 = .ok (.iconst 0, 1) := by decide +kernel
theorem dX8_send_88 : decode cX8_send 88 = .ok (.putfield 113, 3) := by decide +kernel
theorem dX8_send_91 : decode cX8_send 91 = .ok (.aload_n 0, 1) := by decide +kernel
theorem dX8_send_92 : decode cX8_send 92 = .ok (.getfield 113, 3) := by decide +kernel
theorem dX8_send_95 : decode cX8_send 95 = .ok (.ifCond .le 5, 3) := by decide +kernel
theorem dX8_send_98 : decode cX8_send 98 = .ok (.iconst 0, 1) := by decide +kernel
theorem dX8_send_99 : decode cX8_send 99 = .ok (.ireturn, 1) := by decide +kernel
theorem dX8_send_100 : decode cX8_send 100 = .ok (.aload_n 0, 1) := by decide +kernel
theorem dX8_send_101 : decode cX8_send 101 = .ok (.getfield 17, 3) := by decide +kernel
theorem dX8_send_104 : decode cX8_send 104 = .ok (.aload_n 0, 1) := by decide +kernel
theorem dX8_send_105 : decode cX8_send 105 = .ok (.getfield 119, 3) := by decide +kernel
theorem dX8_send_108 : decode cX8_send 108 = .ok (.iload_n 1, 1) := by decide +kernel
theorem dX8_send_109 : decode cX8_send 109 = .ok (.iastore, 1) := by decide +kernel
theorem dX8_send_110 : decode cX8_send 110 = .ok (.aload_n 0, 1) := by decide +kernel
theorem dX8_send_111 : decode cX8_send 111 = .ok (.getfield 21, 3) := by decide +kernel
theorem dX8_send_114 : decode cX8_send 114 = .ok (.aload_n 0, 1) := by decide +kernel
theorem dX8_send_115 : decode cX8_send 115 = .ok (.getfield 119, 3) := by decide +kernel
theorem dX8_send_118 : decode cX8_send 118 = .ok (.iload_n 2, 1) := by decide +kernel
theorem dX8_send_119 : decode cX8_send 119 = .ok (.iastore, 1) := by decide +kernel
theorem dX8_send_120 : decode cX8_send 120 = .ok (.aload_n 0, 1) := by decide +kernel
theorem dX8_send_121 : decode cX8_send 121 = .ok (.getfield 24, 3) := by decide +kernel
theorem dX8_send_124 : decode cX8_send 124 = .ok (.aload_n 0, 1) := by decide +kernel
theorem dX8_send_125 : decode cX8_send 125 = .ok (.getfield 119, 3) := by decide +kernel
theorem dX8_send_128 : decode cX8_send 128 = .ok (.iload_n 3, 1) := by decide +kernel
theorem dX8_send_129 : decode cX8_send 129 = .ok (.iastore, 1) := by decide +kernel
theorem dX8_send_130 : decode cX8_send 130 = .ok (.aload_n 0, 1) := by decide +kernel
theorem dX8_send_131 : decode cX8_send 131 = .ok (.getfield 27, 3) := by decide +kernel
theorem dX8_send_134 : decode cX8_send 134 = .ok (.aload_n 0, 1) := by decide +kernel
theorem dX8_send_135 : decode cX8_send 135 = .ok (.getfield 119, 3) := by decide +kernel
theorem dX8_send_138 : decode cX8_send 138 = .ok (.iload 4, 2) := by decide +kernel
theorem dX8_send_140 : decode cX8_send 140 = .ok (.iastore, 1) := by decide +kernel
theorem dX8_send_141 : decode cX8_send 141 = .ok (.aload_n 0, 1) := by decide +kernel
theorem dX8_send_142 : decode cX8_send 142 = .ok (.getfield 33, 3) := by decide +kernel
theorem dX8_send_145 : decode cX8_send 145 = .ok (.aload_n 0, 1) := by decide +kernel
theorem dX8_send_146 : decode cX8_send 146 = .ok (.getfield 119, 3) := by decide +kernel
theorem dX8_send_149 : decode cX8_send 149 = .ok (.iconst 0, 1) := by decide +kernel
theorem dX8_send_150 : decode cX8_send 150 = .ok (.bastore, 1) := by decide +kernel
theorem dX8_send_151 : decode cX8_send 151 = .ok (.iconst 0, 1) := by decide +kernel
theorem dX8_send_152 : decode cX8_send 152 = .ok (.istore 6, 2) := by decide +kernel
theorem dX8_send_154 : decode cX8_send 154 = .ok (.iload 6, 2) := by decide +kernel
theorem dX8_send_156 : decode cX8_send 156 = .ok (.bipush 64, 2) := by decide +kernel
theorem dX8_send_158 : decode cX8_send 158 = .ok (.if_icmp .ge 25, 3) := by decide +kernel
theorem dX8_send_161 : decode cX8_send 161 = .ok (.aload_n 0, 1) := by decide +kernel
theorem dX8_send_162 : decode cX8_send 162 = .ok (.getfield 30, 3) := by decide +kernel
theorem dX8_send_165 : decode cX8_send 165 = .ok (.bipush 64, 2) := by decide +kernel
theorem dX8_send_167 : decode cX8_send 167 = .ok (.aload_n 0, 1) := by decide +kernel
theorem dX8_send_168 : decode cX8_send 168 = .ok (.getfield 119, 3) := by decide +kernel
theorem dX8_send_171 : decode cX8_send 171 = .ok (.imul, 1) := by decide +kernel
theorem dX8_send_172 : decode cX8_send 172 = .ok (.iload 6, 2) := by decide +kernel
theorem dX8_send_174 : decode cX8_send 174 = .ok (.iadd, 1) := by decide +kernel
theorem dX8_send_175 : decode cX8_send 175 = .ok (.iconst 0, 1) := by decide +kernel
theorem dX8_send_176 : decode cX8_send 176 = .ok (.iastore, 1) := by decide +kernel
theorem dX8_send_177 : decode cX8_send 177 = .ok (.iinc 6 1, 3) := by decide +kernel
theorem dX8_send_180 : decode cX8_send 180 = .ok (.goto (-26), 3) := by decide +kernel
theorem dX8_send_183 : decode cX8_send 183 = .ok (.aload_n 0, 1) := by decide +kernel
theorem dX8_send_184 : decode cX8_send 184 = .ok (.dup, 1) := by decide +kernel
theorem dX8_send_185 : decode cX8_send 185 = .ok (.getfield 119, 3) := by decide +kernel
theorem dX8_send_188 : decode cX8_send 188 = .ok (.iconst 1, 1) := by decide +kernel
theorem dX8_send_189 : decode cX8_send 189 = .ok (.iadd, 1) := by decide +kernel
theorem dX8_send_190 : decode cX8_send 190 = .ok (.putfield 119, 3) := by decide +kernel
theorem dX8_send_193 : decode cX8_send 193 = .ok (.aload_n 0, 1) := by decide +kernel
theorem dX8_send_194 : decode cX8_send 194 = .ok (.getfield 119, 3) := by decide +kernel
theorem dX8_send_197 : decode cX8_send 197 = .ok (.iconst 1, 1) := by decide +kernel
theorem dX8_send_198 : decode cX8_send 198 = .ok (.isub, 1) := by decide +kernel
theorem dX8_send_199 : decode cX8_send 199 = .ok (.ireturn, 1) := by decide +kernel
noncomputable def L_X8_send_154 (v : Nat → Int32) (k25 : (Nat → Nat → Int32) × Int32 → Option ((Nat → Int32) × (Nat → Nat → Int32) × Int32)) : Nat → (Nat → Nat → Int32) → Int32 → Option ((Nat → Int32) × (Nat → Nat → Int32) × Int32)
  | 0, _, _ => none
  | nn + 1, v23, v24 => if 64 ≤ v24 then k25 (v23, v24) else gd (vp_in ((64 * (v 4)) + v24) 12800) (L_X8_send_154 v k25 nn (va_up v23 5 (upd (v23 5) (((64 * (v 4)) + v24).toNatClampNeg) 0)) (v24 + 1))
noncomputable def f_X8_send  (v : Nat → Int32) (m : Nat → Nat → Int32) (p1 : Int32) (p2 : Int32) (p3 : Int32) (p4 : Int32) : Option ((Nat → Int32) × (Nat → Nat → Int32) × Int32) := jn (α := Int32) (fun x1 => bd (f_X8_noNode v p1) (fun u10 => lt (α := Int32) (if u10 = 0 then if x1 = 0 then 2 else if (v 4) = 200 then 3 else 0 else 1) (fun x12 => if x12 ≤ 0 then gd (vp_in (v 4) 200) (gd (vp_in (v 4) 200) (gd (vp_in (v 4) 200) (gd (vp_in (v 4) 200) (gd (vp_in (v 4) 200) (jn (α := (Nat → Nat → Int32) × Int32) (fun ⟨v23, v24⟩ => some ((upd (upd v 0 x12) 4 ((v 4) + 1)), v23, ((v 4) + 1) - 1)) (fun k25 => L_X8_send_154 v k25 fu (va_up (va_up (va_up (va_up (va_up m 1 (upd (m 1) ((v 4).toNatClampNeg) p1)) 2 (upd (m 2) ((v 4).toNatClampNeg) p2)) 3 (upd (m 3) ((v 4).toNatClampNeg) p3)) 4 (upd (m 4) ((v 4).toNatClampNeg) p4)) 6 (upd (m 6) ((v 4).toNatClampNeg) (vp_nar .boolean 0))) 0)))))) else some ((upd v 0 x12), m, 0)))) (fun k8 => if p3 < 0 then k8 0 else if 5 < p3 then k8 0 else if p4 < 0 then k8 0 else if 15 < p4 then k8 0 else if p2 < 0 then k8 0 else lt (α := Int32) (if (p3 - p3 / 2 * 2) = 1 then 536870912 else 2048) (fun x31 => if x31 ≤ p2 then k8 0 else k8 1))
set_option maxHeartbeats 4000000 in
set_option maxRecDepth 100000 in
theorem c_X8_send (l : Launch) (Λ : LY) (hF : FM Λ) (σ : CS)  (v : Nat → Int32) (m : Nat → Nat → Int32) (p1 : Int32) (p2 : Int32) (p3 : Int32) (p4 : Int32)   {v' : Nat → Int32} {m' : Nat → Nat → Int32} {r9 : Int32} (hf : f_X8_send v m p1 p2 p3 p4 = some (v', m', r9)) : CM l yX8_send (.code yX8_send cX8_send 7 (some .int) :: TT) ({ frames := 1, cells := 0, slots := 0, locals := 21 }) Λ [.ref (ya Λ 18 0), .int p1, .int p2, .int p3, .int p4] (qM σ v m) (qM σ v' m') (some (.int r9)) := by
  refine CM_intro (own := RX8) (by decide) rfl (Nat.le_of_ble_eq_true rfl) ?_
  intro Γ hg hl hΓ hE
  subst hg; subst hl
  show GG Γ (0, 0) (qM σ v m) 0 [(0, .ref (ya (gl Γ) 18 0)), (1, .int p1), (2, .int p2), (3, .int p3), (4, .int p4)] []
  unfold f_X8_send at hf
  refine G_iload_n hΓ 3 dX8_send_0 rfl ?_
  obtain ⟨k8, hk_k8, hf⟩ := jn_eq hf
  try dsimp only at hf
  have K9 : ∀ x1, (x1 = 0 ∨ x1 = 1) → k8 x1 = some (v', m', r9) → GG Γ (0, 0) (qM σ v m) 49 [(0, .ref (ya (gl Γ) 18 0)), (1, .int p1), (2, .int p2), (3, .int p3), (4, .int p4)] [.int x1] := by
    intro x1 hb_x1 hf
    subst hk_k8
    try dsimp only at hf
    refine G_istore hΓ [(5, .int x1), (0, .ref (ya (gl Γ) 18 0)), (1, .int p1), (2, .int p2), (3, .int p3), (4, .int p4)] dX8_send_49 (by decide) rfl ?_
    refine G_aload_n hΓ 1 dX8_send_51 rfl ?_
    refine G_aload_n hΓ 1 dX8_send_52 rfl ?_
    refine G_iload_n hΓ 2 dX8_send_53 rfl ?_
    obtain ⟨u10, hc11, hf⟩ := bd_some hf
    refine G_callV hΓ (n := 1) (As := [.int p1]) (t := 18) (i := 0) (ci := 11) (T := TX8) (N := 47) (FS := fs8 (gl Γ) 0) (σ' := (qM σ v m)) (c_X8_noNode (gL Γ) (gl Γ) hF σ  v m p1  hc11) rfl rfl kw_1036 kw_1038 kp_29 kw_9 kw_1039 ⟨rfl, by decide, by decide, by decide +kernel⟩ (FMi hF (t := 18) (by decide)) (fun _ _ _ => rfl) rfl rfl rfl ⟨Nat.le_of_ble_eq_true rfl, Nat.le_of_ble_eq_true rfl⟩ rfl (Nat.le_of_ble_eq_true rfl) dX8_send_54 ⟨_, rfl⟩ rfl ?_
    obtain ⟨x12, he17, hf⟩ := lt_eq hf
    have K13 : GG Γ (0, 0) (qM σ v m) 88 [(5, .int x1), (0, .ref (ya (gl Γ) 18 0)), (1, .int p1), (2, .int p2), (3, .int p3), (4, .int p4)] [.int x12, .ref (ya (gl Γ) 18 0)] := by
      refine F_put hΓ (t := 18) (i := 0) (ci := 11) (C := RX8) (T := TX8) (N := 47) (fs8 (gl Γ) 0) (f := v) (f' := (upd v 0 x12)) (σ' := (qM σ (upd v 0 x12) m)) (ty := .int) (v := .int x12) tyX8 tyX8_ok nmX8 (FMi hF (t := 18) (by decide)) (fun _ _ _ => rfl) rfl qM_v rfl inW8 0 (by decide) (TT_cons kw_880) rfl (by decide +kernel) rfl rfl (fun _ _ => Nat.le_of_ble_eq_true rfl) (fun _ _ => rfl) dX8_send_88 ?_
      refine G_aload_n hΓ 1 dX8_send_91 rfl ?_
      refine F_get hΓ (t := 18) (i := 0) (ci := 11) (C := RX8) (T := TX8) (N := 47) (fs8 (gl Γ) 0) (v := .int x12) (FMi hF (t := 18) (by decide)) (fun _ _ _ => rfl) rfl rfl rfl rfl inW8 0 (by decide) (TT_cons kw_880) rfl dX8_send_92 ?_
      refine G_if_le hΓ (tgt := 100) dX8_send_95 (by decide) (fun hc30 => ?_) (fun hc30 => ?_)
      · rw [if_pos hc30] at hf
        refine G_aload_n hΓ 1 dX8_send_100 rfl ?_
        refine F_get hΓ (t := 18) (i := 0) (ci := 11) (C := RX8) (T := TX8) (N := 47) (fs8 (gl Γ) 0) (v := .ref (ya (gl Γ) 19 1)) (FMi hF (t := 18) (by decide)) (fun _ _ _ => rfl) rfl rfl rfl rfl inW8 5 (by decide) (TT_cons kw_885) rfl dX8_send_101 ?_
        refine G_aload_n hΓ 1 dX8_send_104 rfl ?_
        refine F_get hΓ (t := 18) (i := 0) (ci := 11) (C := RX8) (T := TX8) (N := 47) (fs8 (gl Γ) 0) (v := .int (v 4)) (FMi hF (t := 18) (by decide)) (fun _ _ _ => rfl) rfl rfl rfl rfl inW8 4 (by decide) (TT_cons kw_884) rfl dX8_send_105 ?_
        refine G_iload_n hΓ 2 dX8_send_108 rfl ?_
        obtain ⟨hg18, hf⟩ := gd_some hf
        refine F_iast hΓ (t := 19) (i := 1) (f := (m 1)) (σ' := (qM σ (upd v 0 x12) (va_up m 1 (upd (m 1) ((v 4).toNatClampNeg) p1)))) (FMi hF (t := 19) (by decide)) (fun _ _ _ => rfl) rfl qM_m hg18 dX8_send_109 ?_
        refine G_aload_n hΓ 1 dX8_send_110 rfl ?_
        refine F_get hΓ (t := 18) (i := 0) (ci := 11) (C := RX8) (T := TX8) (N := 47) (fs8 (gl Γ) 0) (v := .ref (ya (gl Γ) 19 2)) (FMi hF (t := 18) (by decide)) (fun _ _ _ => rfl) rfl rfl rfl rfl inW8 6 (by decide) (TT_cons kw_886) rfl dX8_send_111 ?_
        refine G_aload_n hΓ 1 dX8_send_114 rfl ?_
        refine F_get hΓ (t := 18) (i := 0) (ci := 11) (C := RX8) (T := TX8) (N := 47) (fs8 (gl Γ) 0) (v := .int (v 4)) (FMi hF (t := 18) (by decide)) (fun _ _ _ => rfl) rfl rfl rfl rfl inW8 4 (by decide) (TT_cons kw_884) rfl dX8_send_115 ?_
        refine G_iload_n hΓ 3 dX8_send_118 rfl ?_
        obtain ⟨hg19, hf⟩ := gd_some hf
        refine F_iast hΓ (t := 19) (i := 2) (f := (m 2)) (σ' := (qM σ (upd v 0 x12) (va_up (va_up m 1 (upd (m 1) ((v 4).toNatClampNeg) p1)) 2 (upd (m 2) ((v 4).toNatClampNeg) p2)))) (FMi hF (t := 19) (by decide)) (fun _ _ _ => rfl) rfl qM_m hg19 dX8_send_119 ?_
        refine G_aload_n hΓ 1 dX8_send_120 rfl ?_
        refine F_get hΓ (t := 18) (i := 0) (ci := 11) (C := RX8) (T := TX8) (N := 47) (fs8 (gl Γ) 0) (v := .ref (ya (gl Γ) 19 3)) (FMi hF (t := 18) (by decide)) (fun _ _ _ => rfl) rfl rfl rfl rfl inW8 7 (by decide) (TT_cons kw_887) rfl dX8_send_121 ?_
        refine G_aload_n hΓ 1 dX8_send_124 rfl ?_
        refine F_get hΓ (t := 18) (i := 0) (ci := 11) (C := RX8) (T := TX8) (N := 47) (fs8 (gl Γ) 0) (v := .int (v 4)) (FMi hF (t := 18) (by decide)) (fun _ _ _ => rfl) rfl rfl rfl rfl inW8 4 (by decide) (TT_cons kw_884) rfl dX8_send_125 ?_
        refine G_iload_n hΓ 4 dX8_send_128 rfl ?_
        obtain ⟨hg20, hf⟩ := gd_some hf
        refine F_iast hΓ (t := 19) (i := 3) (f := (m 3)) (σ' := (qM σ (upd v 0 x12) (va_up (va_up (va_up m 1 (upd (m 1) ((v 4).toNatClampNeg) p1)) 2 (upd (m 2) ((v 4).toNatClampNeg) p2)) 3 (upd (m 3) ((v 4).toNatClampNeg) p3)))) (FMi hF (t := 19) (by decide)) (fun _ _ _ => rfl) rfl qM_m hg20 dX8_send_129 ?_
        refine G_aload_n hΓ 1 dX8_send_130 rfl ?_
        refine F_get hΓ (t := 18) (i := 0) (ci := 11) (C := RX8) (T := TX8) (N := 47) (fs8 (gl Γ) 0) (v := .ref (ya (gl Γ) 19 4)) (FMi hF (t := 18) (by decide)) (fun _ _ _ => rfl) rfl rfl rfl rfl inW8 8 (by decide) (TT_cons kw_888) rfl dX8_send_131 ?_
        refine G_aload_n hΓ 1 dX8_send_134 rfl ?_
        refine F_get hΓ (t := 18) (i := 0) (ci := 11) (C := RX8) (T := TX8) (N := 47) (fs8 (gl Γ) 0) (v := .int (v 4)) (FMi hF (t := 18) (by decide)) (fun _ _ _ => rfl) rfl rfl rfl rfl inW8 4 (by decide) (TT_cons kw_884) rfl dX8_send_135 ?_
        refine G_iload hΓ 5 dX8_send_138 rfl ?_
        obtain ⟨hg21, hf⟩ := gd_some hf
        refine F_iast hΓ (t := 19) (i := 4) (f := (m 4)) (σ' := (qM σ (upd v 0 x12) (va_up (va_up (va_up (va_up m 1 (upd (m 1) ((v 4).toNatClampNeg) p1)) 2 (upd (m 2) ((v 4).toNatClampNeg) p2)) 3 (upd (m 3) ((v 4).toNatClampNeg) p3)) 4 (upd (m 4) ((v 4).toNatClampNeg) p4)))) (FMi hF (t := 19) (by decide)) (fun _ _ _ => rfl) rfl qM_m hg21 dX8_send_140 ?_
        refine G_aload_n hΓ 1 dX8_send_141 rfl ?_
        refine F_get hΓ (t := 18) (i := 0) (ci := 11) (C := RX8) (T := TX8) (N := 47) (fs8 (gl Γ) 0) (v := .ref (ya (gl Γ) 19 6)) (FMi hF (t := 18) (by decide)) (fun _ _ _ => rfl) rfl rfl rfl rfl inW8 10 (by decide) (TT_cons kw_890) rfl dX8_send_142 ?_
        refine G_aload_n hΓ 1 dX8_send_145 rfl ?_
        refine F_get hΓ (t := 18) (i := 0) (ci := 11) (C := RX8) (T := TX8) (N := 47) (fs8 (gl Γ) 0) (v := .int (v 4)) (FMi hF (t := 18) (by decide)) (fun _ _ _ => rfl) rfl rfl rfl rfl inW8 4 (by decide) (TT_cons kw_884) rfl dX8_send_146 ?_
        refine G_iconst (v := 0) hΓ dX8_send_149 (by decide) ?_
        obtain ⟨hg22, hf⟩ := gd_some hf
        refine F_zast hΓ (t := 19) (i := 6) (f := (m 6)) (σ' := (qM σ (upd v 0 x12) (va_up (va_up (va_up (va_up (va_up m 1 (upd (m 1) ((v 4).toNatClampNeg) p1)) 2 (upd (m 2) ((v 4).toNatClampNeg) p2)) 3 (upd (m 3) ((v 4).toNatClampNeg) p3)) 4 (upd (m 4) ((v 4).toNatClampNeg) p4)) 6 (upd (m 6) ((v 4).toNatClampNeg) (vp_nar .boolean 0))))) (FMi hF (t := 19) (by decide)) (fun _ _ _ => rfl) rfl qM_m hg22 dX8_send_150 ?_
        refine G_iconst (v := 0) hΓ dX8_send_151 (by decide) ?_
        refine G_istore hΓ [(6, .int 0), (5, .int x1), (0, .ref (ya (gl Γ) 18 0)), (1, .int p1), (2, .int p2), (3, .int p3), (4, .int p4)] dX8_send_152 (by decide) rfl ?_
        obtain ⟨k25, hk_k25, hf⟩ := jn_eq hf
        try dsimp only at hf
        have K26 : ∀ v23 v24, k25 (v23, v24) = some (v', m', r9) → GG Γ (0, 0) (qM σ (upd v 0 x12) v23) 183 [(6, .int v24), (5, .int x1), (0, .ref (ya (gl Γ) 18 0)), (1, .int p1), (2, .int p2), (3, .int p3), (4, .int p4)] [] := by
          intro v23 v24 hf
          subst hk_k25
          try dsimp only at hf
          refine G_aload_n hΓ 2 dX8_send_183 rfl ?_
          refine G_dup hΓ dX8_send_184 rfl ?_
          refine F_get hΓ (t := 18) (i := 0) (ci := 11) (C := RX8) (T := TX8) (N := 47) (fs8 (gl Γ) 0) (v := .int (v 4)) (FMi hF (t := 18) (by decide)) (fun _ _ _ => rfl) rfl rfl rfl rfl inW8 4 (by decide) (TT_cons kw_884) rfl dX8_send_185 ?_
          refine G_iconst (v := 1) hΓ dX8_send_188 (by decide) ?_
          refine G_iadd hΓ dX8_send_189 ?_
          refine F_put hΓ (t := 18) (i := 0) (ci := 11) (C := RX8) (T := TX8) (N := 47) (fs8 (gl Γ) 0) (f := (upd v 0 x12)) (f' := (upd (upd v 0 x12) 4 ((v 4) + 1))) (σ' := (qM σ (upd (upd v 0 x12) 4 ((v 4) + 1)) v23)) (ty := .int) (v := .int ((v 4) + 1)) tyX8 tyX8_ok nmX8 (FMi hF (t := 18) (by decide)) (fun _ _ _ => rfl) rfl qM_v rfl inW8 4 (by decide) (TT_cons kw_884) rfl (by decide +kernel) rfl rfl (fun _ _ => Nat.le_of_ble_eq_true rfl) (fun _ _ => rfl) dX8_send_190 ?_
          refine G_aload_n hΓ 2 dX8_send_193 rfl ?_
          refine F_get hΓ (t := 18) (i := 0) (ci := 11) (C := RX8) (T := TX8) (N := 47) (fs8 (gl Γ) 0) (v := .int ((v 4) + 1)) (FMi hF (t := 18) (by decide)) (fun _ _ _ => rfl) rfl rfl rfl rfl inW8 4 (by decide) (TT_cons kw_884) rfl dX8_send_194 ?_
          refine G_iconst (v := 1) hΓ dX8_send_197 (by decide) ?_
          refine G_isub hΓ dX8_send_198 ?_
          cases hf
          exact G_iret hΓ hE dX8_send_199
        clear hk_k25
        have loop29 : ∀ (nn : Nat) v23 v24, L_X8_send_154 v k25 nn v23 v24 = some (v', m', r9) → GG Γ (0, 0) (qM σ (upd v 0 x12) v23) 154 [(6, .int v24), (5, .int x1), (0, .ref (ya (gl Γ) 18 0)), (1, .int p1), (2, .int p2), (3, .int p3), (4, .int p4)] [] := by
          intro nn
          induction nn with
          | zero => intro v23 v24 hf; cases hf
          | succ nn ih =>
            intro v23 v24 hf
            rw [L_X8_send_154] at hf
            refine G_iload hΓ 0 dX8_send_154 rfl ?_
            refine G_bipush (v := 64) hΓ dX8_send_156 (by decide) ?_
            refine G_icmp_ge hΓ (tgt := 183) dX8_send_158 (by decide) (fun hc28 => ?_) (fun hc28 => ?_)
            · rw [if_pos hc28] at hf
              exact (K26 _ _ hf)
            · rw [if_neg hc28] at hf
              refine G_aload_n hΓ 2 dX8_send_161 rfl ?_
              refine F_get hΓ (t := 18) (i := 0) (ci := 11) (C := RX8) (T := TX8) (N := 47) (fs8 (gl Γ) 0) (v := .ref (ya (gl Γ) 19 5)) (FMi hF (t := 18) (by decide)) (fun _ _ _ => rfl) rfl rfl rfl rfl inW8 9 (by decide) (TT_cons kw_889) rfl dX8_send_162 ?_
              refine G_bipush (v := 64) hΓ dX8_send_165 (by decide) ?_
              refine G_aload_n hΓ 2 dX8_send_167 rfl ?_
              refine F_get hΓ (t := 18) (i := 0) (ci := 11) (C := RX8) (T := TX8) (N := 47) (fs8 (gl Γ) 0) (v := .int (v 4)) (FMi hF (t := 18) (by decide)) (fun _ _ _ => rfl) rfl rfl rfl rfl inW8 4 (by decide) (TT_cons kw_884) rfl dX8_send_168 ?_
              refine G_imul hΓ dX8_send_171 ?_
              refine G_iload hΓ 0 dX8_send_172 rfl ?_
              refine G_iadd hΓ dX8_send_174 ?_
              refine G_iconst (v := 0) hΓ dX8_send_175 (by decide) ?_
              obtain ⟨hg27, hf⟩ := gd_some hf
              refine F_iast hΓ (t := 19) (i := 5) (f := (v23 5)) (σ' := (qM σ (upd v 0 x12) (va_up v23 5 (upd (v23 5) (((64 * (v 4)) + v24).toNatClampNeg) 0)))) (FMi hF (t := 19) (by decide)) (fun _ _ _ => rfl) rfl qM_m hg27 dX8_send_176 ?_
              refine G_iinc hΓ 0 [(6, .int (v24 + 1)), (5, .int x1), (0, .ref (ya (gl Γ) 18 0)), (1, .int p1), (2, .int p2), (3, .int p3), (4, .int p4)] dX8_send_177 rfl rfl (by decide) rfl ?_
              refine G_goto hΓ (tgt := 154) dX8_send_180 (by decide) ?_
              exact (ih _ _ hf)
        exact loop29 _ _ _ hf
      · rw [if_neg hc30] at hf
        refine G_iconst (v := 0) hΓ dX8_send_98 (by decide) ?_
        cases hf
        exact G_iret hΓ hE dX8_send_99
    have he := he17
    refine G_if_eq hΓ (tgt := 64) dX8_send_57 (by decide) (fun hc16 => ?_) (fun hc16 => ?_)
    · rw [if_pos hc16] at he
      refine G_iload hΓ 0 dX8_send_64 rfl ?_
      refine G_if_ne hΓ (tgt := 73) dX8_send_66 (by decide) (fun hc15 => ?_) (fun hc15 => ?_)
      · rw [if_neg hc15] at he
        refine G_aload_n hΓ 1 dX8_send_73 rfl ?_
        refine F_get hΓ (t := 18) (i := 0) (ci := 11) (C := RX8) (T := TX8) (N := 47) (fs8 (gl Γ) 0) (v := .int (v 4)) (FMi hF (t := 18) (by decide)) (fun _ _ _ => rfl) rfl rfl rfl rfl inW8 4 (by decide) (TT_cons kw_884) rfl dX8_send_74 ?_
        refine G_sipush (v := 200) hΓ dX8_send_77 (by decide) ?_
        refine G_icmp_ne hΓ (tgt := 87) dX8_send_80 (by decide) (fun hc14 => ?_) (fun hc14 => ?_)
        · rw [if_neg hc14] at he
          refine G_iconst (v := 0) hΓ dX8_send_87 (by decide) ?_
          subst he
          exact K13
        · rw [if_pos hc14] at he
          refine G_iconst (v := 3) hΓ dX8_send_83 (by decide) ?_
          refine G_goto hΓ (tgt := 88) dX8_send_84 (by decide) ?_
          subst he
          exact K13
      · rw [if_pos hc15] at he
        refine G_iconst (v := 2) hΓ dX8_send_69 (by decide) ?_
        refine G_goto hΓ (tgt := 88) dX8_send_70 (by decide) ?_
        subst he
        exact K13
    · rw [if_neg hc16] at he
      refine G_iconst (v := 1) hΓ dX8_send_60 (by decide) ?_
      refine G_goto hΓ (tgt := 88) dX8_send_61 (by decide) ?_
      subst he
      exact K13
  clear hk_k8
  refine G_if_lt hΓ (tgt := 48) dX8_send_1 (by decide) (fun hc40 => ?_) (fun hc40 => ?_)
  · rw [if_pos hc40] at hf
    refine G_iconst (v := 0) hΓ dX8_send_48 (by decide) ?_
    exact K9 _ (Or.inl rfl) hf
  · rw [if_neg hc40] at hf
    refine G_iload_n hΓ 3 dX8_send_4 rfl ?_
    refine G_iconst (v := 5) hΓ dX8_send_5 (by decide) ?_
    refine G_icmp_gt hΓ (tgt := 48) dX8_send_6 (by decide) (fun hc39 => ?_) (fun hc39 => ?_)
    · rw [if_pos hc39] at hf
      refine G_iconst (v := 0) hΓ dX8_send_48 (by decide) ?_
      exact K9 _ (Or.inl rfl) hf
    · rw [if_neg hc39] at hf
      refine G_iload hΓ 4 dX8_send_9 rfl ?_
      refine G_if_lt hΓ (tgt := 48) dX8_send_11 (by decide) (fun hc38 => ?_) (fun hc38 => ?_)
      · rw [if_pos hc38] at hf
        refine G_iconst (v := 0) hΓ dX8_send_48 (by decide) ?_
        exact K9 _ (Or.inl rfl) hf
      · rw [if_neg hc38] at hf
        refine G_iload hΓ 4 dX8_send_14 rfl ?_
        refine G_bipush (v := 15) hΓ dX8_send_16 (by decide) ?_
        refine G_icmp_gt hΓ (tgt := 48) dX8_send_18 (by decide) (fun hc37 => ?_) (fun hc37 => ?_)
        · rw [if_pos hc37] at hf
          refine G_iconst (v := 0) hΓ dX8_send_48 (by decide) ?_
          exact K9 _ (Or.inl rfl) hf
        · rw [if_neg hc37] at hf
          refine G_iload_n hΓ 2 dX8_send_21 rfl ?_
          refine G_if_lt hΓ (tgt := 48) dX8_send_22 (by decide) (fun hc36 => ?_) (fun hc36 => ?_)
          · rw [if_pos hc36] at hf
            refine G_iconst (v := 0) hΓ dX8_send_48 (by decide) ?_
            exact K9 _ (Or.inl rfl) hf
          · rw [if_neg hc36] at hf
            refine G_iload_n hΓ 2 dX8_send_25 rfl ?_
            refine G_iload_n hΓ 3 dX8_send_26 rfl ?_
            refine G_iconst (v := 2) hΓ dX8_send_27 (by decide) ?_
            refine G_irem hΓ dX8_send_28 (by decide) ?_
            refine G_iconst (v := 1) hΓ dX8_send_29 (by decide) ?_
            obtain ⟨x31, he34, hf⟩ := lt_eq hf
            have K32 : GG Γ (0, 0) (qM σ v m) 41 [(0, .ref (ya (gl Γ) 18 0)), (1, .int p1), (2, .int p2), (3, .int p3), (4, .int p4)] [.int x31, .int p2] := by
              refine G_icmp_ge hΓ (tgt := 48) dX8_send_41 (by decide) (fun hc35 => ?_) (fun hc35 => ?_)
              · rw [if_pos hc35] at hf
                refine G_iconst (v := 0) hΓ dX8_send_48 (by decide) ?_
                exact K9 _ (Or.inl rfl) hf
              · rw [if_neg hc35] at hf
                refine G_iconst (v := 1) hΓ dX8_send_44 (by decide) ?_
                refine G_goto hΓ (tgt := 49) dX8_send_45 (by decide) ?_
                exact K9 _ (Or.inr rfl) hf
            have he := he34
            refine G_icmp_ne hΓ (tgt := 38) dX8_send_30 (by decide) (fun hc33 => ?_) (fun hc33 => ?_)
            · rw [if_neg hc33] at he
              refine G_sipush (v := 2048) hΓ dX8_send_38 (by decide) ?_
              subst he
              exact K32
            · rw [if_pos hc33] at he
              refine G_ldc hΓ (v := 536870912) (TT_cons kw_1035) dX8_send_33 ?_
              refine G_goto hΓ (tgt := 41) dX8_send_35 (by decide) ?_
              subst he
              exact K32
theorem dX8_octet_0 : decode cX8_octet 0 = .ok (.aload_n 0, 1) := by decide +kernel
theorem dX8_octet_1 : decode cX8_octet 1 = .ok (.aload_n 0, 1) := by decide +kernel
theorem dX8_octet_2 : decode cX8_octet 2 = .ok (.iload_n 1, 1) := by decide +kernel
theorem dX8_octet_3 : decode cX8_octet 3 = .ok (.invokevirtual 136, 3) := by decide +kernel
theorem dX8_octet_6 : decode cX8_octet 6 = .ok (.ifCond .ne 7, 3) := by decide +kernel
theorem dX8_octet_9 : decode cX8_octet 9 = .ok (.iload_n 2, 1) := by decide +kernel
theorem dX8_octet_10 : decode cX8_octet 10 = .ok (.ifCond .ge 7, 3) := by decide +kernel
theorem dX8_octet_13 : decode cX8_octet 13 = .ok (.iconst 1, 1) := by decide +kernel
theorem dX8_octet_14 : decode cX8_octet 14 = .ok (.goto 85, 3) := by decide +kernel
theorem dX8_octet_17 : decode cX8_octet 17 = .ok (.iload_n 2, 1) := by decide +kernel
theorem dX8_octet_18 : decode cX8_octet 18 = .ok (.aload_n 0, 1) := by decide +kernel
theorem dX8_octet_19 : decode cX8_octet 19 = .ok (.getfield 24, 3) := by decide +kernel
theorem dX8_octet_22 : decode cX8_octet 22 = .ok (.iload_n 1, 1) := by decide +kernel
theorem dX8_octet_23 : decode cX8_octet 23 = .ok (.iaload, 1) := by decide +kernel
theorem dX8_octet_24 : decode cX8_octet 24 = .ok (.aload_n 0, 1) := by decide +kernel
theorem dX8_octet_25 : decode cX8_octet 25 = .ok (.getfield 27, 3) := by decide +kernel
theorem dX8_octet_28 : decode cX8_octet 28 = .ok (.iload_n 1, 1) := by decide +kernel
theorem dX8_octet_29 : decode cX8_octet 29 = .ok (.iaload, 1) := by decide +kernel
theorem dX8_octet_30 : decode cX8_octet 30 = .ok (.invokestatic 139, 3) := by decide +kernel
theorem dX8_octet_33 : decode cX8_octet 33 = .ok (.if_icmp .lt 7, 3) := by decide +kernel
theorem dX8_octet_36 : decode cX8_octet 36 = .ok (.iconst 1, 1) := by decide +kernel
theorem dX8_octet_37 : decode cX8_octet 37 = .ok (.goto 62, 3) := by decide +kernel
theorem dX8_octet_40 : decode cX8_octet 40 = .ok (.iload_n 3, 1) := by decide +kernel
theorem dX8_octet_41 : decode cX8_octet 41 = .ok (.ifCond .lt 10, 3) := by decide +kernel
theorem dX8_octet_44 : decode cX8_octet 44 = .ok (.iload_n 3, 1) := by decide +kernel
theorem dX8_octet_45 : decode cX8_octet 45 = .ok (.sipush 255, 3) := by decide +kernel
theorem dX8_octet_48 : decode cX8_octet 48 = .ok (.if_icmp .le 7, 3) := by decide +kernel
theorem dX8_octet_51 : decode cX8_octet 51 = .ok (.iconst 2, 1) := by decide +kernel
theorem dX8_octet_52 : decode cX8_octet 52 = .ok (.goto 47, 3) := by decide +kernel
theorem dX8_octet_55 : decode cX8_octet 55 = .ok (.aload_n 0, 1) := by decide +kernel
theorem dX8_octet_56 : decode cX8_octet 56 = .ok (.getfield 33, 3) := by decide +kernel
theorem dX8_octet_59 : decode cX8_octet 59 = .ok (.iload_n 1, 1) := by decide +kernel
theorem dX8_octet_60 : decode cX8_octet 60 = .ok (.baload, 1) := by decide +kernel
theorem dX8_octet_61 : decode cX8_octet 61 = .ok (.ifCond .ne 33, 3) := by decide +kernel
theorem dX8_octet_64 : decode cX8_octet 64 = .ok (.aload_n 0, 1) := by decide +kernel
theorem dX8_octet_65 : decode cX8_octet 65 = .ok (.getfield 43, 3) := by decide +kernel
theorem dX8_octet_68 : decode cX8_octet 68 = .ok (.aload_n 0, 1) := by decide +kernel
theorem dX8_octet_69 : decode cX8_octet 69 = .ok (.getfield 17, 3) := by decide +kernel
theorem dX8_octet_72 : decode cX8_octet 72 = .ok (.iload_n 1, 1) := by decide +kernel
theorem dX8_octet_73 : decode cX8_octet 73 = .ok (.iaload, 1) := by decide +kernel
theorem dX8_octet_74 : decode cX8_octet 74 = .ok (.iaload, 1) := by decide +kernel
theorem dX8_octet_75 : decode cX8_octet 75 = .ok (.iconst 1, 1) := by decide +kernel
theorem dX8_octet_76 : decode cX8_octet 76 = .ok (.if_icmp .ne 22, 3) := by decide +kernel
theorem dX8_octet_79 : decode cX8_octet 79 = .ok (.aload_n 0, 1) := by decide +kernel
theorem dX8_octet_80 : decode cX8_octet 80 = .ok (.getfield 49, 3) := by decide +kernel
theorem dX8_octet_83 : decode cX8_octet 83 = .ok (.aload_n 0, 1) := by decide +kernel
theorem dX8_octet_84 : decode cX8_octet 84 = .ok (.getfield 17, 3) := by decide +kernel
theorem dX8_octet_87 : decode cX8_octet 87 = .ok (.iload_n 1, 1) := by decide +kernel
theorem dX8_octet_88 : decode cX8_octet 88 = .ok (.iaload, 1) := by decide +kernel
theorem dX8_octet_89 : decode cX8_octet 89 = .ok (.iaload, 1) := by decide +kernel
theorem dX8_octet_90 : decode cX8_octet 90 = .ok (.iload_n 1, 1) := by decide +kernel
theorem dX8_octet_91 : decode cX8_octet 91 = .ok (.if_icmp .ne 7, 3) := by decide +kernel
theorem dX8_octet_94 : decode cX8_octet 94 = .ok (.iconst 3, 1) := by decide +kernel
theorem dX8_octet_95 : decode cX8_octet 95 = .ok (.goto 4, 3) := by decide +kernel
theorem dX8_octet_98 : decode cX8_octet 98 = .ok (.iconst 0, 1) := by decide +kernel
theorem dX8_octet_99 : decode cX8_octet 99 = .ok (.putfield 113, 3) := by decide +kernel
theorem dX8_octet_102 : decode cX8_octet 102 = .ok (.aload_n 0, 1) := by decide +kernel
theorem dX8_octet_103 : decode cX8_octet 103 = .ok (.getfield 113, 3) := by decide +kernel
theorem dX8_octet_106 : decode cX8_octet 106 = .ok (.ifCond .ne 15, 3) := by decide +kernel
theorem dX8_octet_109 : decode cX8_octet 109 = .ok (.aload_n 0, 1) := by decide +kernel
theorem dX8_octet_110 : decode cX8_octet 110 = .ok (.getfield 30, 3) := by decide +kernel
theorem dX8_octet_113 : decode cX8_octet 113 = .ok (.bipush 64, 2) := by decide +kernel
theorem dX8_octet_115 : decode cX8_octet 115 = .ok (.iload_n 1, 1) := by decide +kernel
theorem dX8_octet_116 : decode cX8_octet 116 = .ok (.imul, 1) := by decide +kernel
theorem dX8_octet_117 : decode cX8_octet 117 = .ok (.iload_n 2, 1) := by decide +kernel
theorem dX8_octet_118 : decode cX8_octet 118 = .ok (.iadd, 1) := by decide +kernel
theorem dX8_octet_119 : decode cX8_octet 119 = .ok (.iload_n 3, 1) := by decide +kernel
theorem dX8_octet_120 : decode cX8_octet 120 = .ok (.iastore, 1) := by decide +kernel
theorem dX8_octet_121 : decode cX8_octet 121 = .ok (.return_, 1) := by decide +kernel
noncomputable def f_X8_octet  (v : Nat → Int32) (m : Nat → Nat → Int32) (p1 : Int32) (p2 : Int32) (p3 : Int32) : Option ((Nat → Int32) × (Nat → Nat → Int32)) := bd (f_X8_noFrame v p1) (fun u1 => jn (α := Int32) (fun x3 => jn (α := Nat → Nat → Int32) (fun x7 => some ((upd v 0 x3), x7)) (fun k8 => if x3 = 0 then gd (vp_in ((64 * p1) + p2) 12800) (k8 (va_up m 5 (upd (m 5) (((64 * p1) + p2).toNatClampNeg) p3))) else k8 m)) (fun k5 => if u1 = 0 then if 0 ≤ p2 then gd (vp_in p1 200) (gd (vp_in p1 200) (bd (f_X8_octetsOf ((m 3) p1.toNatClampNeg) ((m 4) p1.toNatClampNeg)) (fun u14 => if p2 < u14 then if p3 < 0 then k5 2 else if p3 ≤ 255 then gd (vp_in p1 200) (if ((m 6) p1.toNatClampNeg) = 0 then gd (vp_in p1 200) (gd (vp_in ((m 1) p1.toNatClampNeg) 32) (if ((m 9) (((m 1) p1.toNatClampNeg).toNatClampNeg)) = 1 then gd (vp_in p1 200) (gd (vp_in ((m 1) p1.toNatClampNeg) 32) (if ((m 11) (((m 1) p1.toNatClampNeg).toNatClampNeg)) = p1 then k5 3 else k5 0)) else k5 0)) else k5 3) else k5 2 else k5 1))) else k5 1 else k5 1))
set_option maxHeartbeats 4000000 in
set_option maxRecDepth 100000 in
theorem c_X8_octet (l : Launch) (Λ : LY) (hF : FM Λ) (σ : CS)  (v : Nat → Int32) (m : Nat → Nat → Int32) (p1 : Int32) (p2 : Int32) (p3 : Int32)   {v' : Nat → Int32} {m' : Nat → Nat → Int32} (hf : f_X8_octet v m p1 p2 p3 = some (v', m')) : CM l yX8_octet (.code yX8_octet cX8_octet 4 none :: TT) ({ frames := 1, cells := 0, slots := 0, locals := 21 }) Λ [.ref (ya Λ 18 0), .int p1, .int p2, .int p3] (qM σ v m) (qM σ v' m') (none) := by
  refine CM_intro (own := RX8) (by decide) rfl (Nat.le_of_ble_eq_true rfl) ?_
  intro Γ hg hl hΓ hE
  subst hg; subst hl
  show GG Γ (0, 0) (qM σ v m) 0 [(0, .ref (ya (gl Γ) 18 0)), (1, .int p1), (2, .int p2), (3, .int p3)] []
  unfold f_X8_octet at hf
  refine G_aload_n hΓ 0 dX8_octet_0 rfl ?_
  refine G_aload_n hΓ 0 dX8_octet_1 rfl ?_
  refine G_iload_n hΓ 1 dX8_octet_2 rfl ?_
  obtain ⟨u1, hc2, hf⟩ := bd_some hf
  refine G_callV hΓ (n := 1) (As := [.int p1]) (t := 18) (i := 0) (ci := 11) (T := TX8) (N := 47) (FS := fs8 (gl Γ) 0) (σ' := (qM σ v m)) (c_X8_noFrame (gL Γ) (gl Γ) hF σ  v m p1  hc2) rfl rfl kw_1044 kw_1046 kp_30 kw_9 kw_1047 ⟨rfl, by decide, by decide, by decide +kernel⟩ (FMi hF (t := 18) (by decide)) (fun _ _ _ => rfl) rfl rfl rfl ⟨Nat.le_of_ble_eq_true rfl, Nat.le_of_ble_eq_true rfl⟩ rfl (Nat.le_of_ble_eq_true rfl) dX8_octet_3 ⟨_, rfl⟩ rfl ?_
  obtain ⟨k5, hk_k5, hf⟩ := jn_eq hf
  try dsimp only at hf
  have K6 : ∀ x3, k5 x3 = some (v', m') → GG Γ (0, 0) (qM σ v m) 99 [(0, .ref (ya (gl Γ) 18 0)), (1, .int p1), (2, .int p2), (3, .int p3)] [.int x3, .ref (ya (gl Γ) 18 0)] := by
    intro x3 hf
    subst hk_k5
    try dsimp only at hf
    refine F_put hΓ (t := 18) (i := 0) (ci := 11) (C := RX8) (T := TX8) (N := 47) (fs8 (gl Γ) 0) (f := v) (f' := (upd v 0 x3)) (σ' := (qM σ (upd v 0 x3) m)) (ty := .int) (v := .int x3) tyX8 tyX8_ok nmX8 (FMi hF (t := 18) (by decide)) (fun _ _ _ => rfl) rfl qM_v rfl inW8 0 (by decide) (TT_cons kw_880) rfl (by decide +kernel) rfl rfl (fun _ _ => Nat.le_of_ble_eq_true rfl) (fun _ _ => rfl) dX8_octet_99 ?_
    refine G_aload_n hΓ 0 dX8_octet_102 rfl ?_
    refine F_get hΓ (t := 18) (i := 0) (ci := 11) (C := RX8) (T := TX8) (N := 47) (fs8 (gl Γ) 0) (v := .int x3) (FMi hF (t := 18) (by decide)) (fun _ _ _ => rfl) rfl rfl rfl rfl inW8 0 (by decide) (TT_cons kw_880) rfl dX8_octet_103 ?_
    obtain ⟨k8, hk_k8, hf⟩ := jn_eq hf
    try dsimp only at hf
    have K9 : ∀ x7, k8 x7 = some (v', m') → GG Γ (0, 0) (qM σ (upd v 0 x3) x7) 121 [(0, .ref (ya (gl Γ) 18 0)), (1, .int p1), (2, .int p2), (3, .int p3)] [] := by
      intro x7 hf
      subst hk_k8
      try dsimp only at hf
      cases hf
      exact G_vret hΓ hE dX8_octet_121
    clear hk_k8
    refine G_if_ne hΓ (tgt := 121) dX8_octet_106 (by decide) (fun hc11 => ?_) (fun hc11 => ?_)
    · rw [if_neg hc11] at hf
      exact K9 _ hf
    · rw [if_pos hc11] at hf
      refine G_aload_n hΓ 0 dX8_octet_109 rfl ?_
      refine F_get hΓ (t := 18) (i := 0) (ci := 11) (C := RX8) (T := TX8) (N := 47) (fs8 (gl Γ) 0) (v := .ref (ya (gl Γ) 19 5)) (FMi hF (t := 18) (by decide)) (fun _ _ _ => rfl) rfl rfl rfl rfl inW8 9 (by decide) (TT_cons kw_889) rfl dX8_octet_110 ?_
      refine G_bipush (v := 64) hΓ dX8_octet_113 (by decide) ?_
      refine G_iload_n hΓ 1 dX8_octet_115 rfl ?_
      refine G_imul hΓ dX8_octet_116 ?_
      refine G_iload_n hΓ 2 dX8_octet_117 rfl ?_
      refine G_iadd hΓ dX8_octet_118 ?_
      refine G_iload_n hΓ 3 dX8_octet_119 rfl ?_
      obtain ⟨hg10, hf⟩ := gd_some hf
      refine F_iast hΓ (t := 19) (i := 5) (f := (m 5)) (σ' := (qM σ (upd v 0 x3) (va_up m 5 (upd (m 5) (((64 * p1) + p2).toNatClampNeg) p3)))) (FMi hF (t := 19) (by decide)) (fun _ _ _ => rfl) rfl qM_m hg10 dX8_octet_120 ?_
      exact K9 _ hf
  clear hk_k5
  refine G_if_ne hΓ (tgt := 13) dX8_octet_6 (by decide) (fun hc28 => ?_) (fun hc28 => ?_)
  · rw [if_neg hc28] at hf
    refine G_iconst (v := 1) hΓ dX8_octet_13 (by decide) ?_
    refine G_goto hΓ (tgt := 99) dX8_octet_14 (by decide) ?_
    exact K6 _ hf
  · rw [if_pos hc28] at hf
    refine G_iload_n hΓ 2 dX8_octet_9 rfl ?_
    refine G_if_ge hΓ (tgt := 17) dX8_octet_10 (by decide) (fun hc27 => ?_) (fun hc27 => ?_)
    · rw [if_pos hc27] at hf
      refine G_iload_n hΓ 2 dX8_octet_17 rfl ?_
      refine G_aload_n hΓ 0 dX8_octet_18 rfl ?_
      refine F_get hΓ (t := 18) (i := 0) (ci := 11) (C := RX8) (T := TX8) (N := 47) (fs8 (gl Γ) 0) (v := .ref (ya (gl Γ) 19 3)) (FMi hF (t := 18) (by decide)) (fun _ _ _ => rfl) rfl rfl rfl rfl inW8 7 (by decide) (TT_cons kw_887) rfl dX8_octet_19 ?_
      refine G_iload_n hΓ 1 dX8_octet_22 rfl ?_
      obtain ⟨hg12, hf⟩ := gd_some hf
      refine F_ald (G_iald hΓ) (t := 19) (i := 3) (f := (m 3)) (FMi hF (t := 19) (by decide)) (fun _ _ _ => rfl) rfl hg12 dX8_octet_23 ?_
      refine G_aload_n hΓ 0 dX8_octet_24 rfl ?_
      refine F_get hΓ (t := 18) (i := 0) (ci := 11) (C := RX8) (T := TX8) (N := 47) (fs8 (gl Γ) 0) (v := .ref (ya (gl Γ) 19 4)) (FMi hF (t := 18) (by decide)) (fun _ _ _ => rfl) rfl rfl rfl rfl inW8 8 (by decide) (TT_cons kw_888) rfl dX8_octet_25 ?_
      refine G_iload_n hΓ 1 dX8_octet_28 rfl ?_
      obtain ⟨hg13, hf⟩ := gd_some hf
      refine F_ald (G_iald hΓ) (t := 19) (i := 4) (f := (m 4)) (FMi hF (t := 19) (by decide)) (fun _ _ _ => rfl) rfl hg13 dX8_octet_29 ?_
      obtain ⟨u14, hc15, hf⟩ := bd_some hf
      refine G_callS hΓ (n := 2) (As := [.int ((m 3) p1.toNatClampNeg), .int ((m 4) p1.toNatClampNeg)]) (σ' := (qM σ v m)) (c_X8_octetsOf (gL Γ) (gl Γ) hF (qM σ v m)   ((m 3) p1.toNatClampNeg) ((m 4) p1.toNatClampNeg)  hc15) rfl rfl kw_1048 kw_1049 kw_9 kw_1050 ⟨by decide, by decide, by decide +kernel⟩ rfl rfl ⟨Nat.le_of_ble_eq_true rfl, Nat.le_of_ble_eq_true rfl⟩ rfl (Nat.le_of_ble_eq_true rfl) dX8_octet_30 ⟨_, rfl⟩ rfl ?_
      refine G_icmp_lt hΓ (tgt := 40) dX8_octet_33 (by decide) (fun hc26 => ?_) (fun hc26 => ?_)
      · rw [if_pos hc26] at hf
        refine G_iload_n hΓ 3 dX8_octet_40 rfl ?_
        refine G_if_lt hΓ (tgt := 51) dX8_octet_41 (by decide) (fun hc25 => ?_) (fun hc25 => ?_)
        · rw [if_pos hc25] at hf
          refine G_iconst (v := 2) hΓ dX8_octet_51 (by decide) ?_
          refine G_goto hΓ (tgt := 99) dX8_octet_52 (by decide) ?_
          exact K6 _ hf
        · rw [if_neg hc25] at hf
          refine G_iload_n hΓ 3 dX8_octet_44 rfl ?_
          refine G_sipush (v := 255) hΓ dX8_octet_45 (by decide) ?_
          refine G_icmp_le hΓ (tgt := 55) dX8_octet_48 (by decide) (fun hc24 => ?_) (fun hc24 => ?_)
          · rw [if_pos hc24] at hf
            refine G_aload_n hΓ 0 dX8_octet_55 rfl ?_
            refine F_get hΓ (t := 18) (i := 0) (ci := 11) (C := RX8) (T := TX8) (N := 47) (fs8 (gl Γ) 0) (v := .ref (ya (gl Γ) 19 6)) (FMi hF (t := 18) (by decide)) (fun _ _ _ => rfl) rfl rfl rfl rfl inW8 10 (by decide) (TT_cons kw_890) rfl dX8_octet_56 ?_
            refine G_iload_n hΓ 1 dX8_octet_59 rfl ?_
            obtain ⟨hg16, hf⟩ := gd_some hf
            refine F_ald (G_zald hΓ) (t := 19) (i := 6) (f := (m 6)) (FMi hF (t := 19) (by decide)) (fun _ _ _ => rfl) rfl hg16 dX8_octet_60 ?_
            refine G_if_ne hΓ (tgt := 94) dX8_octet_61 (by decide) (fun hc23 => ?_) (fun hc23 => ?_)
            · rw [if_neg hc23] at hf
              refine G_iconst (v := 3) hΓ dX8_octet_94 (by decide) ?_
              refine G_goto hΓ (tgt := 99) dX8_octet_95 (by decide) ?_
              exact K6 _ hf
            · rw [if_pos hc23] at hf
              refine G_aload_n hΓ 0 dX8_octet_64 rfl ?_
              refine F_get hΓ (t := 18) (i := 0) (ci := 11) (C := RX8) (T := TX8) (N := 47) (fs8 (gl Γ) 0) (v := .ref (ya (gl Γ) 19 9)) (FMi hF (t := 18) (by decide)) (fun _ _ _ => rfl) rfl rfl rfl rfl inW8 14 (by decide) (TT_cons kw_894) rfl dX8_octet_65 ?_
              refine G_aload_n hΓ 0 dX8_octet_68 rfl ?_
              refine F_get hΓ (t := 18) (i := 0) (ci := 11) (C := RX8) (T := TX8) (N := 47) (fs8 (gl Γ) 0) (v := .ref (ya (gl Γ) 19 1)) (FMi hF (t := 18) (by decide)) (fun _ _ _ => rfl) rfl rfl rfl rfl inW8 5 (by decide) (TT_cons kw_885) rfl dX8_octet_69 ?_
              refine G_iload_n hΓ 1 dX8_octet_72 rfl ?_
              obtain ⟨hg17, hf⟩ := gd_some hf
              refine F_ald (G_iald hΓ) (t := 19) (i := 1) (f := (m 1)) (FMi hF (t := 19) (by decide)) (fun _ _ _ => rfl) rfl hg17 dX8_octet_73 ?_
              obtain ⟨hg18, hf⟩ := gd_some hf
              refine F_ald (G_iald hΓ) (t := 19) (i := 9) (f := (m 9)) (FMi hF (t := 19) (by decide)) (fun _ _ _ => rfl) rfl hg18 dX8_octet_74 ?_
              refine G_iconst (v := 1) hΓ dX8_octet_75 (by decide) ?_
              refine G_icmp_ne hΓ (tgt := 98) dX8_octet_76 (by decide) (fun hc22 => ?_) (fun hc22 => ?_)
              · rw [if_neg hc22] at hf
                refine G_iconst (v := 0) hΓ dX8_octet_98 (by decide) ?_
                exact K6 _ hf
              · rw [if_pos hc22] at hf
                refine G_aload_n hΓ 0 dX8_octet_79 rfl ?_
                refine F_get hΓ (t := 18) (i := 0) (ci := 11) (C := RX8) (T := TX8) (N := 47) (fs8 (gl Γ) 0) (v := .ref (ya (gl Γ) 19 11)) (FMi hF (t := 18) (by decide)) (fun _ _ _ => rfl) rfl rfl rfl rfl inW8 16 (by decide) (TT_cons kw_896) rfl dX8_octet_80 ?_
                refine G_aload_n hΓ 0 dX8_octet_83 rfl ?_
                refine F_get hΓ (t := 18) (i := 0) (ci := 11) (C := RX8) (T := TX8) (N := 47) (fs8 (gl Γ) 0) (v := .ref (ya (gl Γ) 19 1)) (FMi hF (t := 18) (by decide)) (fun _ _ _ => rfl) rfl rfl rfl rfl inW8 5 (by decide) (TT_cons kw_885) rfl dX8_octet_84 ?_
                refine G_iload_n hΓ 1 dX8_octet_87 rfl ?_
                obtain ⟨hg19, hf⟩ := gd_some hf
                refine F_ald (G_iald hΓ) (t := 19) (i := 1) (f := (m 1)) (FMi hF (t := 19) (by decide)) (fun _ _ _ => rfl) rfl hg19 dX8_octet_88 ?_
                obtain ⟨hg20, hf⟩ := gd_some hf
                refine F_ald (G_iald hΓ) (t := 19) (i := 11) (f := (m 11)) (FMi hF (t := 19) (by decide)) (fun _ _ _ => rfl) rfl hg20 dX8_octet_89 ?_
                refine G_iload_n hΓ 1 dX8_octet_90 rfl ?_
                refine G_icmp_ne hΓ (tgt := 98) dX8_octet_91 (by decide) (fun hc21 => ?_) (fun hc21 => ?_)
                · rw [if_neg hc21] at hf
                  refine G_iconst (v := 0) hΓ dX8_octet_98 (by decide) ?_
                  exact K6 _ hf
                · rw [if_pos hc21] at hf
                  refine G_iconst (v := 3) hΓ dX8_octet_94 (by decide) ?_
                  refine G_goto hΓ (tgt := 99) dX8_octet_95 (by decide) ?_
                  exact K6 _ hf
          · rw [if_neg hc24] at hf
            refine G_iconst (v := 2) hΓ dX8_octet_51 (by decide) ?_
            refine G_goto hΓ (tgt := 99) dX8_octet_52 (by decide) ?_
            exact K6 _ hf
      · rw [if_neg hc26] at hf
        refine G_iconst (v := 1) hΓ dX8_octet_36 (by decide) ?_
        refine G_goto hΓ (tgt := 99) dX8_octet_37 (by decide) ?_
        exact K6 _ hf
    · rw [if_neg hc27] at hf
      refine G_iconst (v := 1) hΓ dX8_octet_13 (by decide) ?_
      refine G_goto hΓ (tgt := 99) dX8_octet_14 (by decide) ?_
      exact K6 _ hf
theorem dX8_stuffed_0 : decode cX8_stuffed 0 = .ok (.aload_n 0, 1) := by decide +kernel
theorem dX8_stuffed_1 : decode cX8_stuffed 1 = .ok (.aload_n 0, 1) := by decide +kernel
theorem dX8_stuffed_2 : decode cX8_stuffed 2 = .ok (.iload_n 1, 1) := by decide +kernel
theorem dX8_stuffed_3 : decode cX8_stuffed 3 = .ok (.invokevirtual 136, 3) := by decide +kernel
theorem dX8_stuffed_6 : decode cX8_stuffed 6 = .ok (.ifCond .eq 7, 3) := by decide +kernel
theorem dX8_stuffed_9 : decode cX8_stuffed 9 = .ok (.iconst 1, 1) := by decide +kernel
theorem dX8_stuffed_10 : decode cX8_stuffed 10 = .ok (.goto 4, 3) := by decide +kernel
theorem dX8_stuffed_13 : decode cX8_stuffed 13 = .ok (.iconst 0, 1) := by decide +kernel
theorem dX8_stuffed_14 : decode cX8_stuffed 14 = .ok (.putfield 113, 3) := by decide +kernel
theorem dX8_stuffed_17 : decode cX8_stuffed 17 = .ok (.aload_n 0, 1) := by decide +kernel
theorem dX8_stuffed_18 : decode cX8_stuffed 18 = .ok (.getfield 113, 3) := by decide +kernel
theorem dX8_stuffed_21 : decode cX8_stuffed 21 = .ok (.ifCond .le 5, 3) := by decide +kernel
theorem dX8_stuffed_24 : decode cX8_stuffed 24 = .ok (.iconst 0, 1) := by decide +kernel
theorem dX8_stuffed_25 : decode cX8_stuffed 25 = .ok (.ireturn, 1) := by decide +kernel
theorem dX8_stuffed_26 : decode cX8_stuffed 26 = .ok (.aload_n 0, 1) := by decide +kernel
theorem dX8_stuffed_27 : decode cX8_stuffed 27 = .ok (.iload_n 1, 1) := by decide +kernel
theorem dX8_stuffed_28 : decode cX8_stuffed 28 = .ok (.invokevirtual 190, 3) := by decide +kernel
theorem dX8_stuffed_31 : decode cX8_stuffed 31 = .ok (.aload_n 0, 1) := by decide +kernel
theorem dX8_stuffed_32 : decode cX8_stuffed 32 = .ok (.getfield 156, 3) := by decide +kernel
theorem dX8_stuffed_35 : decode cX8_stuffed 35 = .ok (.ireturn, 1) := by decide +kernel
noncomputable def f_X8_stuffed  (v : Nat → Int32) (m : Nat → Nat → Int32) (p1 : Int32) : Option ((Nat → Int32) × (Nat → Nat → Int32) × Int32) := bd (f_X8_noFrame v p1) (fun u1 => lt (α := Int32) (if u1 = 0 then 0 else 1) (fun x3 => if x3 ≤ 0 then bd (f_X8_write (upd v 0 x3) m p1) (fun ⟨u7, u8⟩ => some (u7, u8, u7 37)) else some ((upd v 0 x3), m, 0)))
set_option maxHeartbeats 4000000 in
set_option maxRecDepth 100000 in
theorem c_X8_stuffed (l : Launch) (Λ : LY) (hF : FM Λ) (σ : CS)  (v : Nat → Int32) (m : Nat → Nat → Int32) (p1 : Int32)   {v' : Nat → Int32} {m' : Nat → Nat → Int32} {r9 : Int32} (hf : f_X8_stuffed v m p1 = some (v', m', r9)) : CM l yX8_stuffed (.code yX8_stuffed cX8_stuffed 2 (some .int) :: TT) ({ frames := 3, cells := 0, slots := 0, locals := 78 }) Λ [.ref (ya Λ 18 0), .int p1] (qM σ v m) (qM σ v' m') (some (.int r9)) := by
  refine CM_intro (own := RX8) (by decide) rfl (Nat.le_of_ble_eq_true rfl) ?_
  intro Γ hg hl hΓ hE
  subst hg; subst hl
  show GG Γ (0, 0) (qM σ v m) 0 [(0, .ref (ya (gl Γ) 18 0)), (1, .int p1)] []
  unfold f_X8_stuffed at hf
  refine G_aload_n hΓ 0 dX8_stuffed_0 rfl ?_
  refine G_aload_n hΓ 0 dX8_stuffed_1 rfl ?_
  refine G_iload_n hΓ 1 dX8_stuffed_2 rfl ?_
  obtain ⟨u1, hc2, hf⟩ := bd_some hf
  refine G_callV hΓ (n := 1) (As := [.int p1]) (t := 18) (i := 0) (ci := 11) (T := TX8) (N := 47) (FS := fs8 (gl Γ) 0) (σ' := (qM σ v m)) (c_X8_noFrame (gL Γ) (gl Γ) hF σ  v m p1  hc2) rfl rfl kw_1044 kw_1046 kp_30 kw_9 kw_1047 ⟨rfl, by decide, by decide, by decide +kernel⟩ (FMi hF (t := 18) (by decide)) (fun _ _ _ => rfl) rfl rfl rfl ⟨Nat.le_of_ble_eq_true rfl, Nat.le_of_ble_eq_true rfl⟩ rfl (Nat.le_of_ble_eq_true rfl) dX8_stuffed_3 ⟨_, rfl⟩ rfl ?_
  obtain ⟨x3, he6, hf⟩ := lt_eq hf
  have K4 : GG Γ (0, 0) (qM σ v m) 14 [(0, .ref (ya (gl Γ) 18 0)), (1, .int p1)] [.int x3, .ref (ya (gl Γ) 18 0)] := by
    refine F_put hΓ (t := 18) (i := 0) (ci := 11) (C := RX8) (T := TX8) (N := 47) (fs8 (gl Γ) 0) (f := v) (f' := (upd v 0 x3)) (σ' := (qM σ (upd v 0 x3) m)) (ty := .int) (v := .int x3) tyX8 tyX8_ok nmX8 (FMi hF (t := 18) (by decide)) (fun _ _ _ => rfl) rfl qM_v rfl inW8 0 (by decide) (TT_cons kw_880) rfl (by decide +kernel) rfl rfl (fun _ _ => Nat.le_of_ble_eq_true rfl) (fun _ _ => rfl) dX8_stuffed_14 ?_
    refine G_aload_n hΓ 0 dX8_stuffed_17 rfl ?_
    refine F_get hΓ (t := 18) (i := 0) (ci := 11) (C := RX8) (T := TX8) (N := 47) (fs8 (gl Γ) 0) (v := .int x3) (FMi hF (t := 18) (by decide)) (fun _ _ _ => rfl) rfl rfl rfl rfl inW8 0 (by decide) (TT_cons kw_880) rfl dX8_stuffed_18 ?_
    refine G_if_le hΓ (tgt := 26) dX8_stuffed_21 (by decide) (fun hc10 => ?_) (fun hc10 => ?_)
    · rw [if_pos hc10] at hf
      refine G_aload_n hΓ 0 dX8_stuffed_26 rfl ?_
      refine G_iload_n hΓ 1 dX8_stuffed_27 rfl ?_
      obtain ⟨⟨u7, u8⟩, hc9, hf⟩ := bd_some hf
      try dsimp only at hf
      refine G_callV hΓ (n := 1) (As := [.int p1]) (t := 18) (i := 0) (ci := 11) (T := TX8) (N := 47) (FS := fs8 (gl Γ) 0) (σ' := (qM σ u7 u8)) (c_X8_write (gL Γ) (gl Γ) hF σ  (upd v 0 x3) m p1  hc9) rfl rfl kw_1055 kw_1057 kp_31 kw_9 kw_1058 ⟨rfl, by decide, by decide, by decide +kernel⟩ (FMi hF (t := 18) (by decide)) (fun _ _ _ => rfl) rfl rfl rfl ⟨Nat.le_of_ble_eq_true rfl, Nat.le_of_ble_eq_true rfl⟩ rfl (Nat.le_of_ble_eq_true rfl) dX8_stuffed_28 ⟨_, rfl⟩ rfl ?_
      refine G_aload_n hΓ 0 dX8_stuffed_31 rfl ?_
      refine F_get hΓ (t := 18) (i := 0) (ci := 11) (C := RX8) (T := TX8) (N := 47) (fs8 (gl Γ) 0) (v := .int (u7 37)) (FMi hF (t := 18) (by decide)) (fun _ _ _ => rfl) rfl rfl rfl rfl inW8 37 (by decide) (TT_cons kw_917) rfl dX8_stuffed_32 ?_
      cases hf
      exact G_iret hΓ hE dX8_stuffed_35
    · rw [if_neg hc10] at hf
      refine G_iconst (v := 0) hΓ dX8_stuffed_24 (by decide) ?_
      cases hf
      exact G_iret hΓ hE dX8_stuffed_25
  have he := he6
  refine G_if_eq hΓ (tgt := 13) dX8_stuffed_6 (by decide) (fun hc5 => ?_) (fun hc5 => ?_)
  · rw [if_pos hc5] at he
    refine G_iconst (v := 0) hΓ dX8_stuffed_13 (by decide) ?_
    subst he
    exact K4
  · rw [if_neg hc5] at he
    refine G_iconst (v := 1) hΓ dX8_stuffed_9 (by decide) ?_
    refine G_goto hΓ (tgt := 14) dX8_stuffed_10 (by decide) ?_
    subst he
    exact K4
theorem dX8_waiting_0 : decode cX8_waiting 0 = .ok (.aload_n 0, 1) := by decide +kernel
theorem dX8_waiting_1 : decode cX8_waiting 1 = .ok (.aload_n 0, 1) := by decide +kernel
theorem dX8_waiting_2 : decode cX8_waiting 2 = .ok (.iload_n 1, 1) := by decide +kernel
theorem dX8_waiting_3 : decode cX8_waiting 3 = .ok (.invokevirtual 132, 3) := by decide +kernel
theorem dX8_waiting_6 : decode cX8_waiting 6 = .ok (.ifCond .eq 7, 3) := by decide +kernel
theorem dX8_waiting_9 : decode cX8_waiting 9 = .ok (.iconst 1, 1) := by decide +kernel
theorem dX8_waiting_10 : decode cX8_waiting 10 = .ok (.goto 4, 3) := by decide +kernel
theorem dX8_waiting_13 : decode cX8_waiting 13 = .ok (.iconst 0, 1) := by decide +kernel
theorem dX8_waiting_14 : decode cX8_waiting 14 = .ok (.putfield 113, 3) := by decide +kernel
theorem dX8_waiting_17 : decode cX8_waiting 17 = .ok (.iconst 0, 1) := by decide +kernel
theorem dX8_waiting_18 : decode cX8_waiting 18 = .ok (.istore_n 2, 1) := by decide +kernel
theorem dX8_waiting_19 : decode cX8_waiting 19 = .ok (.iconst 0, 1) := by decide +kernel
theorem dX8_waiting_20 : decode cX8_waiting 20 = .ok (.istore_n 3, 1) := by decide +kernel
theorem dX8_waiting_21 : decode cX8_waiting 21 = .ok (.iload_n 3, 1) := by decide +kernel
theorem dX8_waiting_22 : decode cX8_waiting 22 = .ok (.aload_n 0, 1) := by decide +kernel
theorem dX8_waiting_23 : decode cX8_waiting 23 = .ok (.getfield 119, 3) := by decide +kernel
theorem dX8_waiting_26 : decode cX8_waiting 26 = .ok (.if_icmp .ge 43, 3) := by decide +kernel
theorem dX8_waiting_29 : decode cX8_waiting 29 = .ok (.aload_n 0, 1) := by decide +kernel
theorem dX8_waiting_30 : decode cX8_waiting 30 = .ok (.getfield 113, 3) := by decide +kernel
theorem dX8_waiting_33 : decode cX8_waiting 33 = .ok (.ifCond .ne 36, 3) := by decide +kernel
theorem dX8_waiting_36 : decode cX8_waiting 36 = .ok (.aload_n 0, 1) := by decide +kernel
theorem dX8_waiting_37 : decode cX8_waiting 37 = .ok (.getfield 17, 3) := by decide +kernel
theorem dX8_waiting_40 : decode cX8_waiting 40 = .ok (.iload_n 3, 1) := by decide +kernel
theorem dX8_waiting_41 : decode cX8_waiting 41 = .ok (.iaload, 1) := by decide +kernel
theorem dX8_waiting_42 : decode cX8_waiting 42 = .ok (.iload_n 1, 1) := by decide +kernel
theorem dX8_waiting_43 : decode cX8_waiting 43 = .ok (.if_icmp .ne 18, 3) := by decide +kernel
theorem dX8_waiting_46 : decode cX8_waiting 46 = .ok (.aload_n 0, 1) := by decide +kernel
theorem dX8_waiting_47 : decode cX8_waiting 47 = .ok (.getfield 33, 3) := by decide +kernel
theorem dX8_waiting_50 : decode cX8_waiting 50 = .ok (.iload_n 3, 1) := by decide +kernel
theorem dX8_waiting_51 : decode cX8_waiting 51 = .ok (.baload, 1) := by decide +kernel
theorem dX8_waiting_52 : decode cX8_waiting 52 = .ok (.ifCond .ne 9, 3) := by decide +kernel
theorem dX8_waiting_55 : decode cX8_waiting 55 = .ok (.iload_n 2, 1) := by decide +kernel
theorem dX8_waiting_56 : decode cX8_waiting 56 = .ok (.iconst 1, 1) := by decide +kernel
theorem dX8_waiting_57 : decode cX8_waiting 57 = .ok (.iadd, 1) := by decide +kernel
theorem dX8_waiting_58 : decode cX8_waiting 58 = .ok (.goto 4, 3) := by decide +kernel
theorem dX8_waiting_61 : decode cX8_waiting 61 = .ok (.iload_n 2, 1) := by decide +kernel
theorem dX8_waiting_62 : decode cX8_waiting 62 = .ok (.istore_n 2, 1) := by decide +kernel
theorem dX8_waiting_63 : decode cX8_waiting 63 = .ok (.iinc 3 1, 3) := by decide +kernel
theorem dX8_waiting_66 : decode cX8_waiting 66 = .ok (.goto (-45), 3) := by decide +kernel
theorem dX8_waiting_69 : decode cX8_waiting 69 = .ok (.iload_n 2, 1) := by decide +kernel
theorem dX8_waiting_70 : decode cX8_waiting 70 = .ok (.ireturn, 1) := by decide +kernel
noncomputable def L_X8_waiting_21 (v : Nat → Int32) (x3 : Int32) (m : Nat → Nat → Int32) (p1 : Int32) (k9 : Int32 × Int32 → Option ((Nat → Int32) × Int32)) : Nat → Int32 → Int32 → Option ((Nat → Int32) × Int32)
  | 0, _, _ => none
  | nn + 1, v7, v8 => if (v 4) ≤ v7 then k9 (v7, v8) else if x3 = 0 then gd (vp_in v7 200) (jn (α := Int32) (fun x12 => L_X8_waiting_21 v x3 m p1 k9 nn (v7 + 1) x12) (fun k14 => if ((m 1) v7.toNatClampNeg) = p1 then gd (vp_in v7 200) (if ((m 6) v7.toNatClampNeg) = 0 then k14 (v8 + 1) else k14 v8) else k14 v8)) else k9 (v7, v8)
noncomputable def f_X8_waiting  (v : Nat → Int32) (m : Nat → Nat → Int32) (p1 : Int32) : Option ((Nat → Int32) × Int32) := bd (f_X8_noNode v p1) (fun u1 => lt (α := Int32) (if u1 = 0 then 0 else 1) (fun x3 => jn (α := Int32 × Int32) (fun ⟨v7, v8⟩ => some ((upd v 0 x3), v8)) (fun k9 => L_X8_waiting_21 v x3 m p1 k9 fu 0 0)))
set_option maxHeartbeats 4000000 in
set_option maxRecDepth 100000 in
theorem c_X8_waiting (l : Launch) (Λ : LY) (hF : FM Λ) (σ : CS)  (v : Nat → Int32) (m : Nat → Nat → Int32) (p1 : Int32)   {v' : Nat → Int32} {r9 : Int32} (hf : f_X8_waiting v m p1 = some (v', r9)) : CM l yX8_waiting (.code yX8_waiting cX8_waiting 4 (some .int) :: TT) ({ frames := 1, cells := 0, slots := 0, locals := 21 }) Λ [.ref (ya Λ 18 0), .int p1] (qM σ v m) (qM σ v' m) (some (.int r9)) := by
  refine CM_intro (own := RX8) (by decide) rfl (Nat.le_of_ble_eq_true rfl) ?_
  intro Γ hg hl hΓ hE
  subst hg; subst hl
  show GG Γ (0, 0) (qM σ v m) 0 [(0, .ref (ya (gl Γ) 18 0)), (1, .int p1)] []
  unfold f_X8_waiting at hf
  refine G_aload_n hΓ 0 dX8_waiting_0 rfl ?_
  refine G_aload_n hΓ 0 dX8_waiting_1 rfl ?_
  refine G_iload_n hΓ 1 dX8_waiting_2 rfl ?_
  obtain ⟨u1, hc2, hf⟩ := bd_some hf
  refine G_callV hΓ (n := 1) (As := [.int p1]) (t := 18) (i := 0) (ci := 11) (T := TX8) (N := 47) (FS := fs8 (gl Γ) 0) (σ' := (qM σ v m)) (c_X8_noNode (gL Γ) (gl Γ) hF σ  v m p1  hc2) rfl rfl kw_1036 kw_1038 kp_29 kw_9 kw_1039 ⟨rfl, by decide, by decide, by decide +kernel⟩ (FMi hF (t := 18) (by decide)) (fun _ _ _ => rfl) rfl rfl rfl ⟨Nat.le_of_ble_eq_true rfl, Nat.le_of_ble_eq_true rfl⟩ rfl (Nat.le_of_ble_eq_true rfl) dX8_waiting_3 ⟨_, rfl⟩ rfl ?_
  obtain ⟨x3, he6, hf⟩ := lt_eq hf
  have K4 : GG Γ (0, 0) (qM σ v m) 14 [(0, .ref (ya (gl Γ) 18 0)), (1, .int p1)] [.int x3, .ref (ya (gl Γ) 18 0)] := by
    refine F_put hΓ (t := 18) (i := 0) (ci := 11) (C := RX8) (T := TX8) (N := 47) (fs8 (gl Γ) 0) (f := v) (f' := (upd v 0 x3)) (σ' := (qM σ (upd v 0 x3) m)) (ty := .int) (v := .int x3) tyX8 tyX8_ok nmX8 (FMi hF (t := 18) (by decide)) (fun _ _ _ => rfl) rfl qM_v rfl inW8 0 (by decide) (TT_cons kw_880) rfl (by decide +kernel) rfl rfl (fun _ _ => Nat.le_of_ble_eq_true rfl) (fun _ _ => rfl) dX8_waiting_14 ?_
    refine G_iconst (v := 0) hΓ dX8_waiting_17 (by decide) ?_
    refine G_istore_n hΓ [(2, .int 0), (0, .ref (ya (gl Γ) 18 0)), (1, .int p1)] dX8_waiting_18 (by decide) rfl ?_
    refine G_iconst (v := 0) hΓ dX8_waiting_19 (by decide) ?_
    refine G_istore_n hΓ [(3, .int 0), (2, .int 0), (0, .ref (ya (gl Γ) 18 0)), (1, .int p1)] dX8_waiting_20 (by decide) rfl ?_
    obtain ⟨k9, hk_k9, hf⟩ := jn_eq hf
    try dsimp only at hf
    have K10 : ∀ v7 v8, k9 (v7, v8) = some (v', r9) → GG Γ (0, 0) (qM σ (upd v 0 x3) m) 69 [(3, .int v7), (2, .int v8), (0, .ref (ya (gl Γ) 18 0)), (1, .int p1)] [] := by
      intro v7 v8 hf
      subst hk_k9
      try dsimp only at hf
      refine G_iload_n hΓ 1 dX8_waiting_69 rfl ?_
      cases hf
      exact G_iret hΓ hE dX8_waiting_70
    clear hk_k9
    have loop21 : ∀ (nn : Nat) v7 v8, L_X8_waiting_21 v x3 m p1 k9 nn v7 v8 = some (v', r9) → GG Γ (0, 0) (qM σ (upd v 0 x3) m) 21 [(3, .int v7), (2, .int v8), (0, .ref (ya (gl Γ) 18 0)), (1, .int p1)] [] := by
      intro nn
      induction nn with
      | zero => intro v7 v8 hf; cases hf
      | succ nn ih =>
        intro v7 v8 hf
        rw [L_X8_waiting_21] at hf
        refine G_iload_n hΓ 0 dX8_waiting_21 rfl ?_
        refine G_aload_n hΓ 2 dX8_waiting_22 rfl ?_
        refine F_get hΓ (t := 18) (i := 0) (ci := 11) (C := RX8) (T := TX8) (N := 47) (fs8 (gl Γ) 0) (v := .int (v 4)) (FMi hF (t := 18) (by decide)) (fun _ _ _ => rfl) rfl rfl rfl rfl inW8 4 (by decide) (TT_cons kw_884) rfl dX8_waiting_23 ?_
        refine G_icmp_ge hΓ (tgt := 69) dX8_waiting_26 (by decide) (fun hc20 => ?_) (fun hc20 => ?_)
        · rw [if_pos hc20] at hf
          exact (K10 _ _ hf)
        · rw [if_neg hc20] at hf
          refine G_aload_n hΓ 2 dX8_waiting_29 rfl ?_
          refine F_get hΓ (t := 18) (i := 0) (ci := 11) (C := RX8) (T := TX8) (N := 47) (fs8 (gl Γ) 0) (v := .int x3) (FMi hF (t := 18) (by decide)) (fun _ _ _ => rfl) rfl rfl rfl rfl inW8 0 (by decide) (TT_cons kw_880) rfl dX8_waiting_30 ?_
          refine G_if_ne hΓ (tgt := 69) dX8_waiting_33 (by decide) (fun hc19 => ?_) (fun hc19 => ?_)
          · rw [if_neg hc19] at hf
            exact (K10 _ _ hf)
          · rw [if_pos hc19] at hf
            refine G_aload_n hΓ 2 dX8_waiting_36 rfl ?_
            refine F_get hΓ (t := 18) (i := 0) (ci := 11) (C := RX8) (T := TX8) (N := 47) (fs8 (gl Γ) 0) (v := .ref (ya (gl Γ) 19 1)) (FMi hF (t := 18) (by decide)) (fun _ _ _ => rfl) rfl rfl rfl rfl inW8 5 (by decide) (TT_cons kw_885) rfl dX8_waiting_37 ?_
            refine G_iload_n hΓ 0 dX8_waiting_40 rfl ?_
            obtain ⟨hg11, hf⟩ := gd_some hf
            refine F_ald (G_iald hΓ) (t := 19) (i := 1) (f := (m 1)) (FMi hF (t := 19) (by decide)) (fun _ _ _ => rfl) rfl hg11 dX8_waiting_41 ?_
            refine G_iload_n hΓ 3 dX8_waiting_42 rfl ?_
            obtain ⟨k14, hk_k14, hf⟩ := jn_eq hf
            try dsimp only at hf
            have K15 : ∀ x12, k14 x12 = some (v', r9) → GG Γ (0, 0) (qM σ (upd v 0 x3) m) 62 [(3, .int v7), (2, .int v8), (0, .ref (ya (gl Γ) 18 0)), (1, .int p1)] [.int x12] := by
              intro x12 hf
              subst hk_k14
              try dsimp only at hf
              refine G_istore_n hΓ [(2, .int x12), (3, .int v7), (0, .ref (ya (gl Γ) 18 0)), (1, .int p1)] dX8_waiting_62 (by decide) rfl ?_
              refine G_iinc hΓ 1 [(3, .int (v7 + 1)), (2, .int x12), (0, .ref (ya (gl Γ) 18 0)), (1, .int p1)] dX8_waiting_63 rfl rfl (by decide) rfl ?_
              refine G_goto hΓ (tgt := 21) dX8_waiting_66 (by decide) ?_
              exact (ih _ _ hf)
            clear hk_k14
            refine G_icmp_ne hΓ (tgt := 61) dX8_waiting_43 (by decide) (fun hc18 => ?_) (fun hc18 => ?_)
            · rw [if_neg hc18] at hf
              refine G_iload_n hΓ 1 dX8_waiting_61 rfl ?_
              exact K15 _ hf
            · rw [if_pos hc18] at hf
              refine G_aload_n hΓ 2 dX8_waiting_46 rfl ?_
              refine F_get hΓ (t := 18) (i := 0) (ci := 11) (C := RX8) (T := TX8) (N := 47) (fs8 (gl Γ) 0) (v := .ref (ya (gl Γ) 19 6)) (FMi hF (t := 18) (by decide)) (fun _ _ _ => rfl) rfl rfl rfl rfl inW8 10 (by decide) (TT_cons kw_890) rfl dX8_waiting_47 ?_
              refine G_iload_n hΓ 0 dX8_waiting_50 rfl ?_
              obtain ⟨hg16, hf⟩ := gd_some hf
              refine F_ald (G_zald hΓ) (t := 19) (i := 6) (f := (m 6)) (FMi hF (t := 19) (by decide)) (fun _ _ _ => rfl) rfl hg16 dX8_waiting_51 ?_
              refine G_if_ne hΓ (tgt := 61) dX8_waiting_52 (by decide) (fun hc17 => ?_) (fun hc17 => ?_)
              · rw [if_neg hc17] at hf
                refine G_iload_n hΓ 1 dX8_waiting_61 rfl ?_
                exact K15 _ hf
              · rw [if_pos hc17] at hf
                refine G_iload_n hΓ 1 dX8_waiting_55 rfl ?_
                refine G_iconst (v := 1) hΓ dX8_waiting_56 (by decide) ?_
                refine G_iadd hΓ dX8_waiting_57 ?_
                refine G_goto hΓ (tgt := 62) dX8_waiting_58 (by decide) ?_
                exact K15 _ hf
    exact loop21 _ _ _ hf
  have he := he6
  refine G_if_eq hΓ (tgt := 13) dX8_waiting_6 (by decide) (fun hc5 => ?_) (fun hc5 => ?_)
  · rw [if_pos hc5] at he
    refine G_iconst (v := 0) hΓ dX8_waiting_13 (by decide) ?_
    subst he
    exact K4
  · rw [if_neg hc5] at he
    refine G_iconst (v := 1) hΓ dX8_waiting_9 (by decide) ?_
    refine G_goto hΓ (tgt := 14) dX8_waiting_10 (by decide) ?_
    subst he
    exact K4
theorem dX8_filter_0 : decode cX8_filter 0 = .ok (.aload_n 0, 1) := by decide +kernel
theorem dX8_filter_1 : decode cX8_filter 1 = .ok (.aload_n 0, 1) := by decide +kernel
theorem dX8_filter_2 : decode cX8_filter 2 = .ok (.iload_n 1, 1) := by decide +kernel
theorem dX8_filter_3 : decode cX8_filter 3 = .ok (.invokevirtual 132, 3) := by decide +kernel
theorem dX8_filter_6 : decode cX8_filter 6 = .ok (.ifCond .eq 7, 3) := by decide +kernel
theorem dX8_filter_9 : decode cX8_filter 9 = .ok (.iconst 1, 1) := by decide +kernel
theorem dX8_filter_10 : decode cX8_filter 10 = .ok (.goto 4, 3) := by decide +kernel
theorem dX8_filter_13 : decode cX8_filter 13 = .ok (.iconst 0, 1) := by decide +kernel
theorem dX8_filter_14 : decode cX8_filter 14 = .ok (.putfield 113, 3) := by decide +kernel
theorem dX8_filter_17 : decode cX8_filter 17 = .ok (.aload_n 0, 1) := by decide +kernel
theorem dX8_filter_18 : decode cX8_filter 18 = .ok (.getfield 113, 3) := by decide +kernel
theorem dX8_filter_21 : decode cX8_filter 21 = .ok (.ifCond .le 4, 3) := by decide +kernel
theorem dX8_filter_24 : decode cX8_filter 24 = .ok (.return_, 1) := by decide +kernel
theorem dX8_filter_25 : decode cX8_filter 25 = .ok (.aload_n 0, 1) := by decide +kernel
theorem dX8_filter_26 : decode cX8_filter 26 = .ok (.getfield 52, 3) := by decide +kernel
theorem dX8_filter_29 : decode cX8_filter 29 = .ok (.iload_n 1, 1) := by decide +kernel
theorem dX8_filter_30 : decode cX8_filter 30 = .ok (.iload_n 2, 1) := by decide +kernel
theorem dX8_filter_31 : decode cX8_filter 31 = .ok (.iastore, 1) := by decide +kernel
theorem dX8_filter_32 : decode cX8_filter 32 = .ok (.aload_n 0, 1) := by decide +kernel
theorem dX8_filter_33 : decode cX8_filter 33 = .ok (.getfield 55, 3) := by decide +kernel
theorem dX8_filter_36 : decode cX8_filter 36 = .ok (.iload_n 1, 1) := by decide +kernel
theorem dX8_filter_37 : decode cX8_filter 37 = .ok (.iload_n 3, 1) := by decide +kernel
theorem dX8_filter_38 : decode cX8_filter 38 = .ok (.iastore, 1) := by decide +kernel
theorem dX8_filter_39 : decode cX8_filter 39 = .ok (.return_, 1) := by decide +kernel
noncomputable def f_X8_filter  (v : Nat → Int32) (m : Nat → Nat → Int32) (p1 : Int32) (p2 : Int32) (p3 : Int32) : Option ((Nat → Int32) × (Nat → Nat → Int32)) := bd (f_X8_noNode v p1) (fun u1 => lt (α := Int32) (if u1 = 0 then 0 else 1) (fun x3 => if x3 ≤ 0 then gd (vp_in p1 32) (gd (vp_in p1 32) (some ((upd v 0 x3), (va_up (va_up m 12 (upd (m 12) p1.toNatClampNeg p2)) 13 (upd (m 13) p1.toNatClampNeg p3))))) else some ((upd v 0 x3), m)))
set_option maxHeartbeats 4000000 in
set_option maxRecDepth 100000 in
theorem c_X8_filter (l : Launch) (Λ : LY) (hF : FM Λ) (σ : CS)  (v : Nat → Int32) (m : Nat → Nat → Int32) (p1 : Int32) (p2 : Int32) (p3 : Int32)   {v' : Nat → Int32} {m' : Nat → Nat → Int32} (hf : f_X8_filter v m p1 p2 p3 = some (v', m')) : CM l yX8_filter (.code yX8_filter cX8_filter 4 none :: TT) ({ frames := 1, cells := 0, slots := 0, locals := 21 }) Λ [.ref (ya Λ 18 0), .int p1, .int p2, .int p3] (qM σ v m) (qM σ v' m') (none) := by
  refine CM_intro (own := RX8) (by decide) rfl (Nat.le_of_ble_eq_true rfl) ?_
  intro Γ hg hl hΓ hE
  subst hg; subst hl
  show GG Γ (0, 0) (qM σ v m) 0 [(0, .ref (ya (gl Γ) 18 0)), (1, .int p1), (2, .int p2), (3, .int p3)] []
  unfold f_X8_filter at hf
  refine G_aload_n hΓ 0 dX8_filter_0 rfl ?_
  refine G_aload_n hΓ 0 dX8_filter_1 rfl ?_
  refine G_iload_n hΓ 1 dX8_filter_2 rfl ?_
  obtain ⟨u1, hc2, hf⟩ := bd_some hf
  refine G_callV hΓ (n := 1) (As := [.int p1]) (t := 18) (i := 0) (ci := 11) (T := TX8) (N := 47) (FS := fs8 (gl Γ) 0) (σ' := (qM σ v m)) (c_X8_noNode (gL Γ) (gl Γ) hF σ  v m p1  hc2) rfl rfl kw_1036 kw_1038 kp_29 kw_9 kw_1039 ⟨rfl, by decide, by decide, by decide +kernel⟩ (FMi hF (t := 18) (by decide)) (fun _ _ _ => rfl) rfl rfl rfl ⟨Nat.le_of_ble_eq_true rfl, Nat.le_of_ble_eq_true rfl⟩ rfl (Nat.le_of_ble_eq_true rfl) dX8_filter_3 ⟨_, rfl⟩ rfl ?_
  obtain ⟨x3, he6, hf⟩ := lt_eq hf
  have K4 : GG Γ (0, 0) (qM σ v m) 14 [(0, .ref (ya (gl Γ) 18 0)), (1, .int p1), (2, .int p2), (3, .int p3)] [.int x3, .ref (ya (gl Γ) 18 0)] := by
    refine F_put hΓ (t := 18) (i := 0) (ci := 11) (C := RX8) (T := TX8) (N := 47) (fs8 (gl Γ) 0) (f := v) (f' := (upd v 0 x3)) (σ' := (qM σ (upd v 0 x3) m)) (ty := .int) (v := .int x3) tyX8 tyX8_ok nmX8 (FMi hF (t := 18) (by decide)) (fun _ _ _ => rfl) rfl qM_v rfl inW8 0 (by decide) (TT_cons kw_880) rfl (by decide +kernel) rfl rfl (fun _ _ => Nat.le_of_ble_eq_true rfl) (fun _ _ => rfl) dX8_filter_14 ?_
    refine G_aload_n hΓ 0 dX8_filter_17 rfl ?_
    refine F_get hΓ (t := 18) (i := 0) (ci := 11) (C := RX8) (T := TX8) (N := 47) (fs8 (gl Γ) 0) (v := .int x3) (FMi hF (t := 18) (by decide)) (fun _ _ _ => rfl) rfl rfl rfl rfl inW8 0 (by decide) (TT_cons kw_880) rfl dX8_filter_18 ?_
    refine G_if_le hΓ (tgt := 25) dX8_filter_21 (by decide) (fun hc9 => ?_) (fun hc9 => ?_)
    · rw [if_pos hc9] at hf
      refine G_aload_n hΓ 0 dX8_filter_25 rfl ?_
      refine F_get hΓ (t := 18) (i := 0) (ci := 11) (C := RX8) (T := TX8) (N := 47) (fs8 (gl Γ) 0) (v := .ref (ya (gl Γ) 19 12)) (FMi hF (t := 18) (by decide)) (fun _ _ _ => rfl) rfl rfl rfl rfl inW8 17 (by decide) (TT_cons kw_897) rfl dX8_filter_26 ?_
      refine G_iload_n hΓ 1 dX8_filter_29 rfl ?_
      refine G_iload_n hΓ 2 dX8_filter_30 rfl ?_
      obtain ⟨hg7, hf⟩ := gd_some hf
      refine F_iast hΓ (t := 19) (i := 12) (f := (m 12)) (σ' := (qM σ (upd v 0 x3) (va_up m 12 (upd (m 12) p1.toNatClampNeg p2)))) (FMi hF (t := 19) (by decide)) (fun _ _ _ => rfl) rfl qM_m hg7 dX8_filter_31 ?_
      refine G_aload_n hΓ 0 dX8_filter_32 rfl ?_
      refine F_get hΓ (t := 18) (i := 0) (ci := 11) (C := RX8) (T := TX8) (N := 47) (fs8 (gl Γ) 0) (v := .ref (ya (gl Γ) 19 13)) (FMi hF (t := 18) (by decide)) (fun _ _ _ => rfl) rfl rfl rfl rfl inW8 18 (by decide) (TT_cons kw_898) rfl dX8_filter_33 ?_
      refine G_iload_n hΓ 1 dX8_filter_36 rfl ?_
      refine G_iload_n hΓ 3 dX8_filter_37 rfl ?_
      obtain ⟨hg8, hf⟩ := gd_some hf
      refine F_iast hΓ (t := 19) (i := 13) (f := (m 13)) (σ' := (qM σ (upd v 0 x3) (va_up (va_up m 12 (upd (m 12) p1.toNatClampNeg p2)) 13 (upd (m 13) p1.toNatClampNeg p3)))) (FMi hF (t := 19) (by decide)) (fun _ _ _ => rfl) rfl qM_m hg8 dX8_filter_38 ?_
      cases hf
      exact G_vret hΓ hE dX8_filter_39
    · rw [if_neg hc9] at hf
      cases hf
      exact G_vret hΓ hE dX8_filter_24
  have he := he6
  refine G_if_eq hΓ (tgt := 13) dX8_filter_6 (by decide) (fun hc5 => ?_) (fun hc5 => ?_)
  · rw [if_pos hc5] at he
    refine G_iconst (v := 0) hΓ dX8_filter_13 (by decide) ?_
    subst he
    exact K4
  · rw [if_neg hc5] at he
    refine G_iconst (v := 1) hΓ dX8_filter_9 (by decide) ?_
    refine G_goto hΓ (tgt := 14) dX8_filter_10 (by decide) ?_
    subst he
    exact K4
theorem dX8_flip_0 : decode cX8_flip 0 = .ok (.aload_n 0, 1) := by decide +kernel
theorem dX8_flip_1 : decode cX8_flip 1 = .ok (.aload_n 0, 1) := by decide +kernel
theorem dX8_flip_2 : decode cX8_flip 2 = .ok (.iload_n 1, 1) := by decide +kernel
theorem dX8_flip_3 : decode cX8_flip 3 = .ok (.invokevirtual 132, 3) := by decide +kernel
theorem dX8_flip_6 : decode cX8_flip 6 = .ok (.ifCond .eq 7, 3) := by decide +kernel
theorem dX8_flip_9 : decode cX8_flip 9 = .ok (.iconst 1, 1) := by decide +kernel
theorem dX8_flip_10 : decode cX8_flip 10 = .ok (.goto 23, 3) := by decide +kernel
theorem dX8_flip_13 : decode cX8_flip 13 = .ok (.iload_n 2, 1) := by decide +kernel
theorem dX8_flip_14 : decode cX8_flip 14 = .ok (.aload_n 0, 1) := by decide +kernel
theorem dX8_flip_15 : decode cX8_flip 15 = .ok (.getfield 116, 3) := by decide +kernel
theorem dX8_flip_18 : decode cX8_flip 18 = .ok (.if_icmp .lt 10, 3) := by decide +kernel
theorem dX8_flip_21 : decode cX8_flip 21 = .ok (.iload_n 2, 1) := by decide +kernel
theorem dX8_flip_22 : decode cX8_flip 22 = .ok (.sipush 19999, 3) := by decide +kernel
theorem dX8_flip_25 : decode cX8_flip 25 = .ok (.if_icmp .le 7, 3) := by decide +kernel
theorem dX8_flip_28 : decode cX8_flip 28 = .ok (.iconst 2, 1) := by decide +kernel
theorem dX8_flip_29 : decode cX8_flip 29 = .ok (.goto 4, 3) := by decide +kernel
theorem dX8_flip_32 : decode cX8_flip 32 = .ok (.iconst 0, 1) := by decide +kernel
theorem dX8_flip_33 : decode cX8_flip 33 = .ok (.putfield 113, 3) := by decide +kernel
theorem dX8_flip_36 : decode cX8_flip 36 = .ok (.aload_n 0, 1) := by decide +kernel
theorem dX8_flip_37 : decode cX8_flip 37 = .ok (.getfield 113, 3) := by decide +kernel
theorem dX8_flip_40 : decode cX8_flip 40 = .ok (.ifCond .ne 16, 3) := by decide +kernel
theorem dX8_flip_43 : decode cX8_flip 43 = .ok (.aload_n 0, 1) := by decide +kernel
theorem dX8_flip_44 : decode cX8_flip 44 = .ok (.getfield 66, 3) := by decide +kernel
theorem dX8_flip_47 : decode cX8_flip 47 = .ok (.sipush 20000, 3) := by decide +kernel
theorem dX8_flip_50 : decode cX8_flip 50 = .ok (.iload_n 1, 1) := by decide +kernel
theorem dX8_flip_51 : decode cX8_flip 51 = .ok (.imul, 1) := by decide +kernel
theorem dX8_flip_52 : decode cX8_flip 52 = .ok (.iload_n 2, 1) := by decide +kernel
theorem dX8_flip_53 : decode cX8_flip 53 = .ok (.iadd, 1) := by decide +kernel
theorem dX8_flip_54 : decode cX8_flip 54 = .ok (.iconst 1, 1) := by decide +kernel
theorem dX8_flip_55 : decode cX8_flip 55 = .ok (.bastore, 1) := by decide +kernel
theorem dX8_flip_56 : decode cX8_flip 56 = .ok (.return_, 1) := by decide +kernel
noncomputable def f_X8_flip  (v : Nat → Int32) (m : Nat → Nat → Int32) (p1 : Int32) (p2 : Int32) : Option ((Nat → Int32) × (Nat → Nat → Int32)) := bd (f_X8_noNode v p1) (fun u1 => lt (α := Int32) (if u1 = 0 then if p2 < (v 2) then 2 else if p2 ≤ 19999 then 0 else 2 else 1) (fun x3 => jn (α := Nat → Nat → Int32) (fun x9 => some ((upd v 0 x3), x9)) (fun k10 => if x3 = 0 then gd (vp_in ((20000 * p1) + p2) 640000) (k10 (va_up m 16 (upd (m 16) (((20000 * p1) + p2).toNatClampNeg) (vp_nar .boolean 1)))) else k10 m)))
set_option maxHeartbeats 4000000 in
set_option maxRecDepth 100000 in
theorem c_X8_flip (l : Launch) (Λ : LY) (hF : FM Λ) (σ : CS)  (v : Nat → Int32) (m : Nat → Nat → Int32) (p1 : Int32) (p2 : Int32)   {v' : Nat → Int32} {m' : Nat → Nat → Int32} (hf : f_X8_flip v m p1 p2 = some (v', m')) : CM l yX8_flip (.code yX8_flip cX8_flip 3 none :: TT) ({ frames := 1, cells := 0, slots := 0, locals := 21 }) Λ [.ref (ya Λ 18 0), .int p1, .int p2] (qM σ v m) (qM σ v' m') (none) := by
  refine CM_intro (own := RX8) (by decide) rfl (Nat.le_of_ble_eq_true rfl) ?_
  intro Γ hg hl hΓ hE
  subst hg; subst hl
  show GG Γ (0, 0) (qM σ v m) 0 [(0, .ref (ya (gl Γ) 18 0)), (1, .int p1), (2, .int p2)] []
  unfold f_X8_flip at hf
  refine G_aload_n hΓ 0 dX8_flip_0 rfl ?_
  refine G_aload_n hΓ 0 dX8_flip_1 rfl ?_
  refine G_iload_n hΓ 1 dX8_flip_2 rfl ?_
  obtain ⟨u1, hc2, hf⟩ := bd_some hf
  refine G_callV hΓ (n := 1) (As := [.int p1]) (t := 18) (i := 0) (ci := 11) (T := TX8) (N := 47) (FS := fs8 (gl Γ) 0) (σ' := (qM σ v m)) (c_X8_noNode (gL Γ) (gl Γ) hF σ  v m p1  hc2) rfl rfl kw_1036 kw_1038 kp_29 kw_9 kw_1039 ⟨rfl, by decide, by decide, by decide +kernel⟩ (FMi hF (t := 18) (by decide)) (fun _ _ _ => rfl) rfl rfl rfl ⟨Nat.le_of_ble_eq_true rfl, Nat.le_of_ble_eq_true rfl⟩ rfl (Nat.le_of_ble_eq_true rfl) dX8_flip_3 ⟨_, rfl⟩ rfl ?_
  obtain ⟨x3, he8, hf⟩ := lt_eq hf
  have K4 : GG Γ (0, 0) (qM σ v m) 33 [(0, .ref (ya (gl Γ) 18 0)), (1, .int p1), (2, .int p2)] [.int x3, .ref (ya (gl Γ) 18 0)] := by
    refine F_put hΓ (t := 18) (i := 0) (ci := 11) (C := RX8) (T := TX8) (N := 47) (fs8 (gl Γ) 0) (f := v) (f' := (upd v 0 x3)) (σ' := (qM σ (upd v 0 x3) m)) (ty := .int) (v := .int x3) tyX8 tyX8_ok nmX8 (FMi hF (t := 18) (by decide)) (fun _ _ _ => rfl) rfl qM_v rfl inW8 0 (by decide) (TT_cons kw_880) rfl (by decide +kernel) rfl rfl (fun _ _ => Nat.le_of_ble_eq_true rfl) (fun _ _ => rfl) dX8_flip_33 ?_
    refine G_aload_n hΓ 0 dX8_flip_36 rfl ?_
    refine F_get hΓ (t := 18) (i := 0) (ci := 11) (C := RX8) (T := TX8) (N := 47) (fs8 (gl Γ) 0) (v := .int x3) (FMi hF (t := 18) (by decide)) (fun _ _ _ => rfl) rfl rfl rfl rfl inW8 0 (by decide) (TT_cons kw_880) rfl dX8_flip_37 ?_
    obtain ⟨k10, hk_k10, hf⟩ := jn_eq hf
    try dsimp only at hf
    have K11 : ∀ x9, k10 x9 = some (v', m') → GG Γ (0, 0) (qM σ (upd v 0 x3) x9) 56 [(0, .ref (ya (gl Γ) 18 0)), (1, .int p1), (2, .int p2)] [] := by
      intro x9 hf
      subst hk_k10
      try dsimp only at hf
      cases hf
      exact G_vret hΓ hE dX8_flip_56
    clear hk_k10
    refine G_if_ne hΓ (tgt := 56) dX8_flip_40 (by decide) (fun hc13 => ?_) (fun hc13 => ?_)
    · rw [if_neg hc13] at hf
      exact K11 _ hf
    · rw [if_pos hc13] at hf
      refine G_aload_n hΓ 0 dX8_flip_43 rfl ?_
      refine F_get hΓ (t := 18) (i := 0) (ci := 11) (C := RX8) (T := TX8) (N := 47) (fs8 (gl Γ) 0) (v := .ref (ya (gl Γ) 19 16)) (FMi hF (t := 18) (by decide)) (fun _ _ _ => rfl) rfl rfl rfl rfl inW8 21 (by decide) (TT_cons kw_901) rfl dX8_flip_44 ?_
      refine G_sipush (v := 20000) hΓ dX8_flip_47 (by decide) ?_
      refine G_iload_n hΓ 1 dX8_flip_50 rfl ?_
      refine G_imul hΓ dX8_flip_51 ?_
      refine G_iload_n hΓ 2 dX8_flip_52 rfl ?_
      refine G_iadd hΓ dX8_flip_53 ?_
      refine G_iconst (v := 1) hΓ dX8_flip_54 (by decide) ?_
      obtain ⟨hg12, hf⟩ := gd_some hf
      refine F_zast hΓ (t := 19) (i := 16) (f := (m 16)) (σ' := (qM σ (upd v 0 x3) (va_up m 16 (upd (m 16) (((20000 * p1) + p2).toNatClampNeg) (vp_nar .boolean 1))))) (FMi hF (t := 19) (by decide)) (fun _ _ _ => rfl) rfl qM_m hg12 dX8_flip_55 ?_
      exact K11 _ hf
  have he := he8
  refine G_if_eq hΓ (tgt := 13) dX8_flip_6 (by decide) (fun hc7 => ?_) (fun hc7 => ?_)
  · rw [if_pos hc7] at he
    refine G_iload_n hΓ 2 dX8_flip_13 rfl ?_
    refine G_aload_n hΓ 0 dX8_flip_14 rfl ?_
    refine F_get hΓ (t := 18) (i := 0) (ci := 11) (C := RX8) (T := TX8) (N := 47) (fs8 (gl Γ) 0) (v := .int (v 2)) (FMi hF (t := 18) (by decide)) (fun _ _ _ => rfl) rfl rfl rfl rfl inW8 2 (by decide) (TT_cons kw_882) rfl dX8_flip_15 ?_
    refine G_icmp_lt hΓ (tgt := 28) dX8_flip_18 (by decide) (fun hc6 => ?_) (fun hc6 => ?_)
    · rw [if_pos hc6] at he
      refine G_iconst (v := 2) hΓ dX8_flip_28 (by decide) ?_
      refine G_goto hΓ (tgt := 33) dX8_flip_29 (by decide) ?_
      subst he
      exact K4
    · rw [if_neg hc6] at he
      refine G_iload_n hΓ 2 dX8_flip_21 rfl ?_
      refine G_sipush (v := 19999) hΓ dX8_flip_22 (by decide) ?_
      refine G_icmp_le hΓ (tgt := 32) dX8_flip_25 (by decide) (fun hc5 => ?_) (fun hc5 => ?_)
      · rw [if_pos hc5] at he
        refine G_iconst (v := 0) hΓ dX8_flip_32 (by decide) ?_
        subst he
        exact K4
      · rw [if_neg hc5] at he
        refine G_iconst (v := 2) hΓ dX8_flip_28 (by decide) ?_
        refine G_goto hΓ (tgt := 33) dX8_flip_29 (by decide) ?_
        subst he
        exact K4
  · rw [if_neg hc7] at he
    refine G_iconst (v := 1) hΓ dX8_flip_9 (by decide) ?_
    refine G_goto hΓ (tgt := 33) dX8_flip_10 (by decide) ?_
    subst he
    exact K4
theorem dX8_time_0 : decode cX8_time 0 = .ok (.aload_n 0, 1) := by decide +kernel
theorem dX8_time_1 : decode cX8_time 1 = .ok (.iconst 0, 1) := by decide +kernel
theorem dX8_time_2 : decode cX8_time 2 = .ok (.putfield 113, 3) := by decide +kernel
theorem dX8_time_5 : decode cX8_time 5 = .ok (.aload_n 0, 1) := by decide +kernel
theorem dX8_time_6 : decode cX8_time 6 = .ok (.getfield 116, 3) := by decide +kernel
theorem dX8_time_9 : decode cX8_time 9 = .ok (.ireturn, 1) := by decide +kernel
noncomputable def f_X8_time  (v : Nat → Int32)  : Option ((Nat → Int32) × Int32) := some ((upd v 0 0), v 2)
set_option maxHeartbeats 4000000 in
set_option maxRecDepth 100000 in
theorem c_X8_time (l : Launch) (Λ : LY) (hF : FM Λ) (σ : CS)  (v : Nat → Int32) (m : Nat → Nat → Int32)    {v' : Nat → Int32} {r9 : Int32} (hf : f_X8_time v = some (v', r9)) : CM l yX8_time (.code yX8_time cX8_time 1 (some .int) :: TT) ({ frames := 0, cells := 0, slots := 0, locals := 0 }) Λ [.ref (ya Λ 18 0)] (qM σ v m) (qM σ v' m) (some (.int r9)) := by
  refine CM_intro (own := RX8) (by decide) rfl (Nat.le_of_ble_eq_true rfl) ?_
  intro Γ hg hl hΓ hE
  subst hg; subst hl
  show GG Γ (0, 0) (qM σ v m) 0 [(0, .ref (ya (gl Γ) 18 0))] []
  unfold f_X8_time at hf
  refine G_aload_n hΓ 0 dX8_time_0 rfl ?_
  refine G_iconst (v := 0) hΓ dX8_time_1 (by decide) ?_
  refine F_put hΓ (t := 18) (i := 0) (ci := 11) (C := RX8) (T := TX8) (N := 47) (fs8 (gl Γ) 0) (f := v) (f' := (upd v 0 0)) (σ' := (qM σ (upd v 0 0) m)) (ty := .int) (v := .int 0) tyX8 tyX8_ok nmX8 (FMi hF (t := 18) (by decide)) (fun _ _ _ => rfl) rfl qM_v rfl inW8 0 (by decide) (TT_cons kw_880) rfl (by decide +kernel) rfl rfl (fun _ _ => Nat.le_of_ble_eq_true rfl) (fun _ _ => rfl) dX8_time_2 ?_
  refine G_aload_n hΓ 0 dX8_time_5 rfl ?_
  refine F_get hΓ (t := 18) (i := 0) (ci := 11) (C := RX8) (T := TX8) (N := 47) (fs8 (gl Γ) 0) (v := .int (v 2)) (FMi hF (t := 18) (by decide)) (fun _ _ _ => rfl) rfl rfl rfl rfl inW8 2 (by decide) (TT_cons kw_882) rfl dX8_time_6 ?_
  cases hf
  exact G_iret hΓ hE dX8_time_9
theorem dX8_bit_0 : decode cX8_bit 0 = .ok (.aload_n 0, 1) := by decide +kernel
theorem dX8_bit_1 : decode cX8_bit 1 = .ok (.iload_n 1, 1) := by decide +kernel
theorem dX8_bit_2 : decode cX8_bit 2 = .ok (.ifCond .lt 11, 3) := by decide +kernel
theorem dX8_bit_5 : decode cX8_bit 5 = .ok (.iload_n 1, 1) := by decide +kernel
theorem dX8_bit_6 : decode cX8_bit 6 = .ok (.aload_n 0, 1) := by decide +kernel
theorem dX8_bit_7 : decode cX8_bit 7 = .ok (.getfield 116, 3) := by decide +kernel
theorem dX8_bit_10 : decode cX8_bit 10 = .ok (.if_icmp .lt 7, 3) := by decide +kernel
theorem dX8_bit_13 : decode cX8_bit 13 = .ok (.iconst 1, 1) := by decide +kernel
theorem dX8_bit_14 : decode cX8_bit 14 = .ok (.goto 4, 3) := by decide +kernel
theorem dX8_bit_17 : decode cX8_bit 17 = .ok (.iconst 0, 1) := by decide +kernel
theorem dX8_bit_18 : decode cX8_bit 18 = .ok (.putfield 113, 3) := by decide +kernel
theorem dX8_bit_21 : decode cX8_bit 21 = .ok (.aload_n 0, 1) := by decide +kernel
theorem dX8_bit_22 : decode cX8_bit 22 = .ok (.getfield 113, 3) := by decide +kernel
theorem dX8_bit_25 : decode cX8_bit 25 = .ok (.ifCond .le 7, 3) := by decide +kernel
theorem dX8_bit_28 : decode cX8_bit 28 = .ok (.iconst 0, 1) := by decide +kernel
theorem dX8_bit_29 : decode cX8_bit 29 = .ok (.goto 9, 3) := by decide +kernel
theorem dX8_bit_32 : decode cX8_bit 32 = .ok (.aload_n 0, 1) := by decide +kernel
theorem dX8_bit_33 : decode cX8_bit 33 = .ok (.getfield 13, 3) := by decide +kernel
theorem dX8_bit_36 : decode cX8_bit 36 = .ok (.iload_n 1, 1) := by decide +kernel
theorem dX8_bit_37 : decode cX8_bit 37 = .ok (.baload, 1) := by decide +kernel
theorem dX8_bit_38 : decode cX8_bit 38 = .ok (.ireturn, 1) := by decide +kernel
noncomputable def f_X8_bit  (v : Nat → Int32) (m : Nat → Nat → Int32) (p1 : Int32) : Option ((Nat → Int32) × Int32) := lt (α := Int32) (if p1 < 0 then 1 else if p1 < (v 2) then 0 else 1) (fun x1 => jn (α := Int32) (fun x6 => some ((upd v 0 x1), x6)) (fun k8 => if x1 ≤ 0 then gd (vp_in p1 20000) (k8 ((m 0) p1.toNatClampNeg)) else k8 0))
set_option maxHeartbeats 4000000 in
set_option maxRecDepth 100000 in
theorem c_X8_bit (l : Launch) (Λ : LY) (hF : FM Λ) (σ : CS)  (v : Nat → Int32) (m : Nat → Nat → Int32) (p1 : Int32)   {v' : Nat → Int32} {r9 : Int32} (hf : f_X8_bit v m p1 = some (v', r9)) : CM l yX8_bit (.code yX8_bit cX8_bit 2 (some .int) :: TT) ({ frames := 0, cells := 0, slots := 0, locals := 0 }) Λ [.ref (ya Λ 18 0), .int p1] (qM σ v m) (qM σ v' m) (some (.int r9)) := by
  refine CM_intro (own := RX8) (by decide) rfl (Nat.le_of_ble_eq_true rfl) ?_
  intro Γ hg hl hΓ hE
  subst hg; subst hl
  show GG Γ (0, 0) (qM σ v m) 0 [(0, .ref (ya (gl Γ) 18 0)), (1, .int p1)] []
  unfold f_X8_bit at hf
  refine G_aload_n hΓ 0 dX8_bit_0 rfl ?_
  refine G_iload_n hΓ 1 dX8_bit_1 rfl ?_
  obtain ⟨x1, he5, hf⟩ := lt_eq hf
  have K2 : GG Γ (0, 0) (qM σ v m) 18 [(0, .ref (ya (gl Γ) 18 0)), (1, .int p1)] [.int x1, .ref (ya (gl Γ) 18 0)] := by
    refine F_put hΓ (t := 18) (i := 0) (ci := 11) (C := RX8) (T := TX8) (N := 47) (fs8 (gl Γ) 0) (f := v) (f' := (upd v 0 x1)) (σ' := (qM σ (upd v 0 x1) m)) (ty := .int) (v := .int x1) tyX8 tyX8_ok nmX8 (FMi hF (t := 18) (by decide)) (fun _ _ _ => rfl) rfl qM_v rfl inW8 0 (by decide) (TT_cons kw_880) rfl (by decide +kernel) rfl rfl (fun _ _ => Nat.le_of_ble_eq_true rfl) (fun _ _ => rfl) dX8_bit_18 ?_
    refine G_aload_n hΓ 0 dX8_bit_21 rfl ?_
    refine F_get hΓ (t := 18) (i := 0) (ci := 11) (C := RX8) (T := TX8) (N := 47) (fs8 (gl Γ) 0) (v := .int x1) (FMi hF (t := 18) (by decide)) (fun _ _ _ => rfl) rfl rfl rfl rfl inW8 0 (by decide) (TT_cons kw_880) rfl dX8_bit_22 ?_
    obtain ⟨k8, hk_k8, hf⟩ := jn_eq hf
    try dsimp only at hf
    have K9 : ∀ x6, k8 x6 = some (v', r9) → GG Γ (0, 0) (qM σ (upd v 0 x1) m) 38 [(0, .ref (ya (gl Γ) 18 0)), (1, .int p1)] [.int x6] := by
      intro x6 hf
      subst hk_k8
      try dsimp only at hf
      cases hf
      exact G_iret hΓ hE dX8_bit_38
    clear hk_k8
    refine G_if_le hΓ (tgt := 32) dX8_bit_25 (by decide) (fun hc11 => ?_) (fun hc11 => ?_)
    · rw [if_pos hc11] at hf
      refine G_aload_n hΓ 0 dX8_bit_32 rfl ?_
      refine F_get hΓ (t := 18) (i := 0) (ci := 11) (C := RX8) (T := TX8) (N := 47) (fs8 (gl Γ) 0) (v := .ref (ya (gl Γ) 19 0)) (FMi hF (t := 18) (by decide)) (fun _ _ _ => rfl) rfl rfl rfl rfl inW8 3 (by decide) (TT_cons kw_883) rfl dX8_bit_33 ?_
      refine G_iload_n hΓ 1 dX8_bit_36 rfl ?_
      obtain ⟨hg10, hf⟩ := gd_some hf
      refine F_ald (G_bald hΓ) (t := 19) (i := 0) (f := (m 0)) (FMi hF (t := 19) (by decide)) (fun _ _ _ => rfl) rfl hg10 dX8_bit_37 ?_
      exact K9 _ hf
    · rw [if_neg hc11] at hf
      refine G_iconst (v := 0) hΓ dX8_bit_28 (by decide) ?_
      refine G_goto hΓ (tgt := 38) dX8_bit_29 (by decide) ?_
      exact K9 _ hf
  have he := he5
  refine G_if_lt hΓ (tgt := 13) dX8_bit_2 (by decide) (fun hc4 => ?_) (fun hc4 => ?_)
  · rw [if_pos hc4] at he
    refine G_iconst (v := 1) hΓ dX8_bit_13 (by decide) ?_
    refine G_goto hΓ (tgt := 18) dX8_bit_14 (by decide) ?_
    subst he
    exact K2
  · rw [if_neg hc4] at he
    refine G_iload_n hΓ 1 dX8_bit_5 rfl ?_
    refine G_aload_n hΓ 0 dX8_bit_6 rfl ?_
    refine F_get hΓ (t := 18) (i := 0) (ci := 11) (C := RX8) (T := TX8) (N := 47) (fs8 (gl Γ) 0) (v := .int (v 2)) (FMi hF (t := 18) (by decide)) (fun _ _ _ => rfl) rfl rfl rfl rfl inW8 2 (by decide) (TT_cons kw_882) rfl dX8_bit_7 ?_
    refine G_icmp_lt hΓ (tgt := 17) dX8_bit_10 (by decide) (fun hc3 => ?_) (fun hc3 => ?_)
    · rw [if_pos hc3] at he
      refine G_iconst (v := 0) hΓ dX8_bit_17 (by decide) ?_
      subst he
      exact K2
    · rw [if_neg hc3] at he
      refine G_iconst (v := 1) hΓ dX8_bit_13 (by decide) ?_
      refine G_goto hΓ (tgt := 18) dX8_bit_14 (by decide) ?_
      subst he
      exact K2
theorem dX8_check__0 : decode cX8_check_ 0 = .ok (.aload_n 0, 1) := by decide +kernel
theorem dX8_check__1 : decode cX8_check_ 1 = .ok (.iload_n 1, 1) := by decide +kernel
theorem dX8_check__2 : decode cX8_check_ 2 = .ok (.ifCond .lt 8, 3) := by decide +kernel
theorem dX8_check__5 : decode cX8_check_ 5 = .ok (.iload_n 1, 1) := by decide +kernel
theorem dX8_check__6 : decode cX8_check_ 6 = .ok (.iconst 2, 1) := by decide +kernel
theorem dX8_check__7 : decode cX8_check_ 7 = .ok (.if_icmp .le 7, 3) := by decide +kernel
theorem dX8_check__10 : decode cX8_check_ 10 = .ok (.iconst 1, 1) := by decide +kernel
theorem dX8_check__11 : decode cX8_check_ 11 = .ok (.goto 25, 3) := by decide +kernel
theorem dX8_check__14 : decode cX8_check_ 14 = .ok (.iload_n 2, 1) := by decide +kernel
theorem dX8_check__15 : decode cX8_check_ 15 = .ok (.ifCond .lt 16, 3) := by decide +kernel
theorem dX8_check__18 : decode cX8_check_ 18 = .ok (.iload_n 2, 1) := by decide +kernel
theorem dX8_check__19 : decode cX8_check_ 19 = .ok (.iload_n 3, 1) := by decide +kernel
theorem dX8_check__20 : decode cX8_check_ 20 = .ok (.if_icmp .gt 11, 3) := by decide +kernel
theorem dX8_check__23 : decode cX8_check_ 23 = .ok (.iload_n 3, 1) := by decide +kernel
theorem dX8_check__24 : decode cX8_check_ 24 = .ok (.aload_n 0, 1) := by decide +kernel
theorem dX8_check__25 : decode cX8_check_ 25 = .ok (.getfield 116, 3) := by decide +kernel
theorem dX8_check__28 : decode cX8_check_ 28 = .ok (.if_icmp .le 7, 3) := by decide +kernel
theorem dX8_check__31 : decode cX8_check_ 31 = .ok (.iconst 2, 1) := by decide +kernel
theorem dX8_check__32 : decode cX8_check_ 32 = .ok (.goto 4, 3) := by decide +kernel
theorem dX8_check__35 : decode cX8_check_ 35 = .ok (.iconst 0, 1) := by decide +kernel
theorem dX8_check__36 : decode cX8_check_ 36 = .ok (.putfield 113, 3) := by decide +kernel
theorem dX8_check__39 : decode cX8_check_ 39 = .ok (.aload_n 0, 1) := by decide +kernel
theorem dX8_check__40 : decode cX8_check_ 40 = .ok (.getfield 113, 3) := by decide +kernel
theorem dX8_check__43 : decode cX8_check_ 43 = .ok (.ifCond .le 5, 3) := by decide +kernel
theorem dX8_check__46 : decode cX8_check_ 46 = .ok (.iconst 0, 1) := by decide +kernel
theorem dX8_check__47 : decode cX8_check_ 47 = .ok (.ireturn, 1) := by decide +kernel
theorem dX8_check__48 : decode cX8_check_ 48 = .ok (.iload_n 1, 1) := by decide +kernel
theorem dX8_check__49 : decode cX8_check_ 49 = .ok (.ifCond .ne 8, 3) := by decide +kernel
theorem dX8_check__52 : decode cX8_check_ 52 = .ok (.bipush 15, 2) := by decide +kernel
theorem dX8_check__54 : decode cX8_check_ 54 = .ok (.goto 15, 3) := by decide +kernel
theorem dX8_check__57 : decode cX8_check_ 57 = .ok (.iload_n 1, 1) := by decide +kernel
theorem dX8_check__58 : decode cX8_check_ 58 = .ok (.iconst 1, 1) := by decide +kernel
theorem dX8_check__59 : decode cX8_check_ 59 = .ok (.if_icmp .ne 8, 3) := by decide +kernel
theorem dX8_check__62 : decode cX8_check_ 62 = .ok (.bipush 17, 2) := by decide +kernel
theorem dX8_check__64 : decode cX8_check_ 64 = .ok (.goto 5, 3) := by decide +kernel
theorem dX8_check__67 : decode cX8_check_ 67 = .ok (.bipush 21, 2) := by decide +kernel
theorem dX8_check__69 : decode cX8_check_ 69 = .ok (.istore 4, 2) := by decide +kernel
theorem dX8_check__71 : decode cX8_check_ 71 = .ok (.iload_n 1, 1) := by decide +kernel
theorem dX8_check__72 : decode cX8_check_ 72 = .ok (.ifCond .ne 9, 3) := by decide +kernel
theorem dX8_check__75 : decode cX8_check_ 75 = .ok (.sipush 17817, 3) := by decide +kernel
theorem dX8_check__78 : decode cX8_check_ 78 = .ok (.goto 15, 3) := by decide +kernel
theorem dX8_check__81 : decode cX8_check_ 81 = .ok (.iload_n 1, 1) := by decide +kernel
theorem dX8_check__82 : decode cX8_check_ 82 = .ok (.iconst 1, 1) := by decide +kernel
theorem dX8_check__83 : decode cX8_check_ 83 = .ok (.if_icmp .ne 8, 3) := by decide +kernel
theorem dX8_check__86 : decode cX8_check_ 86 = .ok (.ldc 151, 2) := by decide +kernel
theorem dX8_check__88 : decode cX8_check_ 88 = .ok (.goto 5, 3) := by decide +kernel
theorem dX8_check__91 : decode cX8_check_ 91 = .ok (.ldc 152, 2) := by decide +kernel
theorem dX8_check__93 : decode cX8_check_ 93 = .ok (.istore 5, 2) := by decide +kernel
theorem dX8_check__95 : decode cX8_check_ 95 = .ok (.iconst 1, 1) := by decide +kernel
theorem dX8_check__96 : decode cX8_check_ 96 = .ok (.iload 4, 2) := by decide +kernel
theorem dX8_check__98 : decode cX8_check_ 98 = .ok (.iconst 1, 1) := by decide +kernel
theorem dX8_check__99 : decode cX8_check_ 99 = .ok (.isub, 1) := by decide +kernel
theorem dX8_check__100 : decode cX8_check_ 100 = .ok (.ishl, 1) := by decide +kernel
theorem dX8_check__101 : decode cX8_check_ 101 = .ok (.istore 6, 2) := by decide +kernel
theorem dX8_check__103 : decode cX8_check_ 103 = .ok (.iload_n 1, 1) := by decide +kernel
theorem dX8_check__104 : decode cX8_check_ 104 = .ok (.ifCond .ne 7, 3) := by decide +kernel
theorem dX8_check__107 : decode cX8_check_ 107 = .ok (.iconst 0, 1) := by decide +kernel
theorem dX8_check__108 : decode cX8_check_ 108 = .ok (.goto 5, 3) := by decide +kernel
theorem dX8_check__111 : decode cX8_check_ 111 = .ok (.iload 6, 2) := by decide +kernel
theorem dX8_check__113 : decode cX8_check_ 113 = .ok (.istore 7, 2) := by decide +kernel
theorem dX8_check__115 : decode cX8_check_ 115 = .ok (.iload_n 2, 1) := by decide +kernel
theorem dX8_check__116 : decode cX8_check_ 116 = .ok (.istore 8, 2) := by decide +kernel
theorem dX8_check__118 : decode cX8_check_ 118 = .ok (.iload 8, 2) := by decide +kernel
theorem dX8_check__120 : decode cX8_check_ 120 = .ok (.iload_n 3, 1) := by decide +kernel
theorem dX8_check__121 : decode cX8_check_ 121 = .ok (.if_icmp .ge 46, 3) := by decide +kernel
theorem dX8_check__124 : decode cX8_check_ 124 = .ok (.iload 7, 2) := by decide +kernel
theorem dX8_check__126 : decode cX8_check_ 126 = .ok (.iload 6, 2) := by decide +kernel
theorem dX8_check__128 : decode cX8_check_ 128 = .ok (.idiv, 1) := by decide +kernel
theorem dX8_check__129 : decode cX8_check_ 129 = .ok (.aload_n 0, 1) := by decide +kernel
theorem dX8_check__130 : decode cX8_check_ 130 = .ok (.getfield 13, 3) := by decide +kernel
theorem dX8_check__133 : decode cX8_check_ 133 = .ok (.iload 8, 2) := by decide +kernel
theorem dX8_check__135 : decode cX8_check_ 135 = .ok (.baload, 1) := by decide +kernel
theorem dX8_check__136 : decode cX8_check_ 136 = .ok (.if_icmp .ne 13, 3) := by decide +kernel
theorem dX8_check__139 : decode cX8_check_ 139 = .ok (.iconst 2, 1) := by decide +kernel
theorem dX8_check__140 : decode cX8_check_ 140 = .ok (.iload 7, 2) := by decide +kernel
theorem dX8_check__142 : decode cX8_check_ 142 = .ok (.iload 6, 2) := by decide +kernel
theorem dX8_check__144 : decode cX8_check_ 144 = .ok (.irem, 1) := by decide +kernel
theorem dX8_check__145 : decode cX8_check_ 145 = .ok (.imul, 1) := by decide +kernel
theorem dX8_check__146 : decode cX8_check_ 146 = .ok (.goto 13, 3) := by decide +kernel
theorem dX8_check__149 : decode cX8_check_ 149 = .ok (.iconst 2, 1) := by decide +kernel
theorem dX8_check__150 : decode cX8_check_ 150 = .ok (.iload 7, 2) := by decide +kernel
theorem dX8_check__152 : decode cX8_check_ 152 = .ok (.iload 6, 2) := by decide +kernel
theorem dX8_check__154 : decode cX8_check_ 154 = .ok (.irem, 1) := by decide +kernel
theorem dX8_check__155 : decode cX8_check_ 155 = .ok (.imul, 1) := by decide +kernel
theorem dX8_check__156 : decode cX8_check_ 156 = .ok (.iload 5, 2) := by decide +kernel
theorem dX8_check__158 : decode cX8_check_ 158 = .ok (.ixor, 1) := by decide +kernel
theorem dX8_check__159 : decode cX8_check_ 159 = .ok (.istore 7, 2) := by decide +kernel
theorem dX8_check__161 : decode cX8_check_ 161 = .ok (.iinc 8 1, 3) := by decide +kernel
theorem dX8_check__164 : decode cX8_check_ 164 = .ok (.goto (-46), 3) := by decide +kernel
theorem dX8_check__167 : decode cX8_check_ 167 = .ok (.iload 7, 2) := by decide +kernel
theorem dX8_check__169 : decode cX8_check_ 169 = .ok (.ireturn, 1) := by decide +kernel
noncomputable def L_X8_check__118 (p3 : Int32) (v19 : Int32) (m : Nat → Nat → Int32) (x14 : Int32) (k26 : Int32 × Int32 → Option ((Nat → Int32) × Int32)) : Nat → Int32 → Int32 → Option ((Nat → Int32) × Int32)
  | 0, _, _ => none
  | nn + 1, v24, v25 => if p3 ≤ v24 then k26 (v24, v25) else gd (¬ v19 = 0) (gd (vp_in v24 20000) (jn (α := Int32) (fun x30 => L_X8_check__118 p3 v19 m x14 k26 nn (v24 + 1) x30) (fun k32 => if (v25 / v19) = ((m 0) v24.toNatClampNeg) then gd (¬ v19 = 0) (k32 (2 * (v25 - v25 / v19 * v19))) else gd (¬ v19 = 0) (k32 ((2 * (v25 - v25 / v19 * v19)) ^^^ x14)))))
noncomputable def f_X8_check_  (v : Nat → Int32) (m : Nat → Nat → Int32) (p1 : Int32) (p2 : Int32) (p3 : Int32) : Option ((Nat → Int32) × Int32) := lt (α := Int32) (if p1 < 0 then 1 else if p1 ≤ 2 then if p2 < 0 then 2 else if p3 < p2 then 2 else if p3 ≤ (v 2) then 0 else 2 else 1) (fun x1 => if x1 ≤ 0 then lt (α := Int32) (if p1 = 0 then 15 else if p1 = 1 then 17 else 21) (fun x9 => lt (α := Int32) (if p1 = 0 then 17817 else if p1 = 1 then 92251 else 1058969) (fun x14 => lt (α := Int32) ((1 : Int32) <<< ((x9 - 1) &&& 31)) (fun v19 => lt (α := Int32) (if p1 = 0 then 0 else v19) (fun x20 => jn (α := Int32 × Int32) (fun ⟨v24, v25⟩ => some ((upd v 0 x1), v25)) (fun k26 => L_X8_check__118 p3 v19 m x14 k26 fu p2 x20))))) else some ((upd v 0 x1), 0))
set_option maxHeartbeats 4000000 in
set_option maxRecDepth 100000 in
theorem c_X8_check_ (l : Launch) (Λ : LY) (hF : FM Λ) (σ : CS)  (v : Nat → Int32) (m : Nat → Nat → Int32) (p1 : Int32) (p2 : Int32) (p3 : Int32)   {v' : Nat → Int32} {r9 : Int32} (hf : f_X8_check_ v m p1 p2 p3 = some (v', r9)) : CM l yX8_check_ (.code yX8_check_ cX8_check_ 9 (some .int) :: TT) ({ frames := 0, cells := 0, slots := 0, locals := 0 }) Λ [.ref (ya Λ 18 0), .int p1, .int p2, .int p3] (qM σ v m) (qM σ v' m) (some (.int r9)) := by
  refine CM_intro (own := RX8) (by decide) rfl (Nat.le_of_ble_eq_true rfl) ?_
  intro Γ hg hl hΓ hE
  subst hg; subst hl
  show GG Γ (0, 0) (qM σ v m) 0 [(0, .ref (ya (gl Γ) 18 0)), (1, .int p1), (2, .int p2), (3, .int p3)] []
  unfold f_X8_check_ at hf
  refine G_aload_n hΓ 0 dX8_check__0 rfl ?_
  refine G_iload_n hΓ 1 dX8_check__1 rfl ?_
  obtain ⟨x1, he8, hf⟩ := lt_eq hf
  have K2 : GG Γ (0, 0) (qM σ v m) 36 [(0, .ref (ya (gl Γ) 18 0)), (1, .int p1), (2, .int p2), (3, .int p3)] [.int x1, .ref (ya (gl Γ) 18 0)] := by
    refine F_put hΓ (t := 18) (i := 0) (ci := 11) (C := RX8) (T := TX8) (N := 47) (fs8 (gl Γ) 0) (f := v) (f' := (upd v 0 x1)) (σ' := (qM σ (upd v 0 x1) m)) (ty := .int) (v := .int x1) tyX8 tyX8_ok nmX8 (FMi hF (t := 18) (by decide)) (fun _ _ _ => rfl) rfl qM_v rfl inW8 0 (by decide) (TT_cons kw_880) rfl (by decide +kernel) rfl rfl (fun _ _ => Nat.le_of_ble_eq_true rfl) (fun _ _ => rfl) dX8_check__36 ?_
    refine G_aload_n hΓ 0 dX8_check__39 rfl ?_
    refine F_get hΓ (t := 18) (i := 0) (ci := 11) (C := RX8) (T := TX8) (N := 47) (fs8 (gl Γ) 0) (v := .int x1) (FMi hF (t := 18) (by decide)) (fun _ _ _ => rfl) rfl rfl rfl rfl inW8 0 (by decide) (TT_cons kw_880) rfl dX8_check__40 ?_
    refine G_if_le hΓ (tgt := 48) dX8_check__43 (by decide) (fun hc39 => ?_) (fun hc39 => ?_)
    · rw [if_pos hc39] at hf
      refine G_iload_n hΓ 1 dX8_check__48 rfl ?_
      obtain ⟨x9, he13, hf⟩ := lt_eq hf
      have K10 : GG Γ (0, 0) (qM σ (upd v 0 x1) m) 69 [(0, .ref (ya (gl Γ) 18 0)), (1, .int p1), (2, .int p2), (3, .int p3)] [.int x9] := by
        refine G_istore hΓ [(4, .int x9), (0, .ref (ya (gl Γ) 18 0)), (1, .int p1), (2, .int p2), (3, .int p3)] dX8_check__69 (by decide) rfl ?_
        refine G_iload_n hΓ 2 dX8_check__71 rfl ?_
        obtain ⟨x14, he18, hf⟩ := lt_eq hf
        have K15 : GG Γ (0, 0) (qM σ (upd v 0 x1) m) 93 [(4, .int x9), (0, .ref (ya (gl Γ) 18 0)), (1, .int p1), (2, .int p2), (3, .int p3)] [.int x14] := by
          refine G_istore hΓ [(5, .int x14), (4, .int x9), (0, .ref (ya (gl Γ) 18 0)), (1, .int p1), (2, .int p2), (3, .int p3)] dX8_check__93 (by decide) rfl ?_
          refine G_iconst (v := 1) hΓ dX8_check__95 (by decide) ?_
          refine G_iload hΓ 1 dX8_check__96 rfl ?_
          refine G_iconst (v := 1) hΓ dX8_check__98 (by decide) ?_
          refine G_isub hΓ dX8_check__99 ?_
          refine G_ishl hΓ dX8_check__100 ?_
          obtain ⟨v19, hv_v19, hf⟩ := lt_eq hf
          refine G_topi hv_v19 ?_
          refine G_istore hΓ [(6, .int v19), (5, .int x14), (4, .int x9), (0, .ref (ya (gl Γ) 18 0)), (1, .int p1), (2, .int p2), (3, .int p3)] dX8_check__101 (by decide) rfl ?_
          refine G_iload_n hΓ 4 dX8_check__103 rfl ?_
          obtain ⟨x20, he23, hf⟩ := lt_eq hf
          have K21 : GG Γ (0, 0) (qM σ (upd v 0 x1) m) 113 [(6, .int v19), (5, .int x14), (4, .int x9), (0, .ref (ya (gl Γ) 18 0)), (1, .int p1), (2, .int p2), (3, .int p3)] [.int x20] := by
            refine G_istore hΓ [(7, .int x20), (6, .int v19), (5, .int x14), (4, .int x9), (0, .ref (ya (gl Γ) 18 0)), (1, .int p1), (2, .int p2), (3, .int p3)] dX8_check__113 (by decide) rfl ?_
            refine G_iload_n hΓ 6 dX8_check__115 rfl ?_
            refine G_istore hΓ [(8, .int p2), (7, .int x20), (6, .int v19), (5, .int x14), (4, .int x9), (0, .ref (ya (gl Γ) 18 0)), (1, .int p1), (2, .int p2), (3, .int p3)] dX8_check__116 (by decide) rfl ?_
            obtain ⟨k26, hk_k26, hf⟩ := jn_eq hf
            try dsimp only at hf
            have K27 : ∀ v24 v25, k26 (v24, v25) = some (v', r9) → GG Γ (0, 0) (qM σ (upd v 0 x1) m) 167 [(8, .int v24), (7, .int v25), (6, .int v19), (5, .int x14), (4, .int x9), (0, .ref (ya (gl Γ) 18 0)), (1, .int p1), (2, .int p2), (3, .int p3)] [] := by
              intro v24 v25 hf
              subst hk_k26
              try dsimp only at hf
              refine G_iload hΓ 1 dX8_check__167 rfl ?_
              cases hf
              exact G_iret hΓ hE dX8_check__169
            clear hk_k26
            have loop38 : ∀ (nn : Nat) v24 v25, L_X8_check__118 p3 v19 m x14 k26 nn v24 v25 = some (v', r9) → GG Γ (0, 0) (qM σ (upd v 0 x1) m) 118 [(8, .int v24), (7, .int v25), (6, .int v19), (5, .int x14), (4, .int x9), (0, .ref (ya (gl Γ) 18 0)), (1, .int p1), (2, .int p2), (3, .int p3)] [] := by
              intro nn
              induction nn with
              | zero => intro v24 v25 hf; cases hf
              | succ nn ih =>
                intro v24 v25 hf
                rw [L_X8_check__118] at hf
                refine G_iload hΓ 0 dX8_check__118 rfl ?_
                refine G_iload_n hΓ 8 dX8_check__120 rfl ?_
                refine G_icmp_ge hΓ (tgt := 167) dX8_check__121 (by decide) (fun hc37 => ?_) (fun hc37 => ?_)
                · rw [if_pos hc37] at hf
                  exact (K27 _ _ hf)
                · rw [if_neg hc37] at hf
                  refine G_iload hΓ 1 dX8_check__124 rfl ?_
                  refine G_iload hΓ 2 dX8_check__126 rfl ?_
                  obtain ⟨hg28, hf⟩ := gd_some hf
                  refine G_idiv hΓ dX8_check__128 hg28 ?_
                  refine G_aload_n hΓ 5 dX8_check__129 rfl ?_
                  refine F_get hΓ (t := 18) (i := 0) (ci := 11) (C := RX8) (T := TX8) (N := 47) (fs8 (gl Γ) 0) (v := .ref (ya (gl Γ) 19 0)) (FMi hF (t := 18) (by decide)) (fun _ _ _ => rfl) rfl rfl rfl rfl inW8 3 (by decide) (TT_cons kw_883) rfl dX8_check__130 ?_
                  refine G_iload hΓ 0 dX8_check__133 rfl ?_
                  obtain ⟨hg29, hf⟩ := gd_some hf
                  refine F_ald (G_bald hΓ) (t := 19) (i := 0) (f := (m 0)) (FMi hF (t := 19) (by decide)) (fun _ _ _ => rfl) rfl hg29 dX8_check__135 ?_
                  obtain ⟨k32, hk_k32, hf⟩ := jn_eq hf
                  try dsimp only at hf
                  have K33 : ∀ x30, k32 x30 = some (v', r9) → GG Γ (0, 0) (qM σ (upd v 0 x1) m) 159 [(8, .int v24), (7, .int v25), (6, .int v19), (5, .int x14), (4, .int x9), (0, .ref (ya (gl Γ) 18 0)), (1, .int p1), (2, .int p2), (3, .int p3)] [.int x30] := by
                    intro x30 hf
                    subst hk_k32
                    try dsimp only at hf
                    refine G_istore hΓ [(7, .int x30), (8, .int v24), (6, .int v19), (5, .int x14), (4, .int x9), (0, .ref (ya (gl Γ) 18 0)), (1, .int p1), (2, .int p2), (3, .int p3)] dX8_check__159 (by decide) rfl ?_
                    refine G_iinc hΓ 1 [(8, .int (v24 + 1)), (7, .int x30), (6, .int v19), (5, .int x14), (4, .int x9), (0, .ref (ya (gl Γ) 18 0)), (1, .int p1), (2, .int p2), (3, .int p3)] dX8_check__161 rfl rfl (by decide) rfl ?_
                    refine G_goto hΓ (tgt := 118) dX8_check__164 (by decide) ?_
                    exact (ih _ _ hf)
                  clear hk_k32
                  refine G_icmp_ne hΓ (tgt := 149) dX8_check__136 (by decide) (fun hc36 => ?_) (fun hc36 => ?_)
                  · rw [if_neg hc36] at hf
                    refine G_iconst (v := 2) hΓ dX8_check__149 (by decide) ?_
                    refine G_iload hΓ 1 dX8_check__150 rfl ?_
                    refine G_iload hΓ 2 dX8_check__152 rfl ?_
                    obtain ⟨hg34, hf⟩ := gd_some hf
                    refine G_irem hΓ dX8_check__154 hg34 ?_
                    refine G_imul hΓ dX8_check__155 ?_
                    refine G_iload hΓ 3 dX8_check__156 rfl ?_
                    refine G_ixor hΓ dX8_check__158 ?_
                    exact K33 _ hf
                  · rw [if_pos hc36] at hf
                    refine G_iconst (v := 2) hΓ dX8_check__139 (by decide) ?_
                    refine G_iload hΓ 1 dX8_check__140 rfl ?_
                    refine G_iload hΓ 2 dX8_check__142 rfl ?_
                    obtain ⟨hg35, hf⟩ := gd_some hf
                    refine G_irem hΓ dX8_check__144 hg35 ?_
                    refine G_imul hΓ dX8_check__145 ?_
                    refine G_goto hΓ (tgt := 159) dX8_check__146 (by decide) ?_
                    exact K33 _ hf
            exact loop38 _ _ _ hf
          have he := he23
          refine G_if_ne hΓ (tgt := 111) dX8_check__104 (by decide) (fun hc22 => ?_) (fun hc22 => ?_)
          · rw [if_neg hc22] at he
            refine G_iload hΓ 0 dX8_check__111 rfl ?_
            subst he
            exact K21
          · rw [if_pos hc22] at he
            refine G_iconst (v := 0) hΓ dX8_check__107 (by decide) ?_
            refine G_goto hΓ (tgt := 113) dX8_check__108 (by decide) ?_
            subst he
            exact K21
        have he := he18
        refine G_if_ne hΓ (tgt := 81) dX8_check__72 (by decide) (fun hc17 => ?_) (fun hc17 => ?_)
        · rw [if_neg hc17] at he
          refine G_iload_n hΓ 2 dX8_check__81 rfl ?_
          refine G_iconst (v := 1) hΓ dX8_check__82 (by decide) ?_
          refine G_icmp_ne hΓ (tgt := 91) dX8_check__83 (by decide) (fun hc16 => ?_) (fun hc16 => ?_)
          · rw [if_neg hc16] at he
            refine G_ldc hΓ (v := 1058969) (TT_cons kw_1077) dX8_check__91 ?_
            subst he
            exact K15
          · rw [if_pos hc16] at he
            refine G_ldc hΓ (v := 92251) (TT_cons kw_1076) dX8_check__86 ?_
            refine G_goto hΓ (tgt := 93) dX8_check__88 (by decide) ?_
            subst he
            exact K15
        · rw [if_pos hc17] at he
          refine G_sipush (v := 17817) hΓ dX8_check__75 (by decide) ?_
          refine G_goto hΓ (tgt := 93) dX8_check__78 (by decide) ?_
          subst he
          exact K15
      have he := he13
      refine G_if_ne hΓ (tgt := 57) dX8_check__49 (by decide) (fun hc12 => ?_) (fun hc12 => ?_)
      · rw [if_neg hc12] at he
        refine G_iload_n hΓ 1 dX8_check__57 rfl ?_
        refine G_iconst (v := 1) hΓ dX8_check__58 (by decide) ?_
        refine G_icmp_ne hΓ (tgt := 67) dX8_check__59 (by decide) (fun hc11 => ?_) (fun hc11 => ?_)
        · rw [if_neg hc11] at he
          refine G_bipush (v := 21) hΓ dX8_check__67 (by decide) ?_
          subst he
          exact K10
        · rw [if_pos hc11] at he
          refine G_bipush (v := 17) hΓ dX8_check__62 (by decide) ?_
          refine G_goto hΓ (tgt := 69) dX8_check__64 (by decide) ?_
          subst he
          exact K10
      · rw [if_pos hc12] at he
        refine G_bipush (v := 15) hΓ dX8_check__52 (by decide) ?_
        refine G_goto hΓ (tgt := 69) dX8_check__54 (by decide) ?_
        subst he
        exact K10
    · rw [if_neg hc39] at hf
      refine G_iconst (v := 0) hΓ dX8_check__46 (by decide) ?_
      cases hf
      exact G_iret hΓ hE dX8_check__47
  have he := he8
  refine G_if_lt hΓ (tgt := 10) dX8_check__2 (by decide) (fun hc7 => ?_) (fun hc7 => ?_)
  · rw [if_pos hc7] at he
    refine G_iconst (v := 1) hΓ dX8_check__10 (by decide) ?_
    refine G_goto hΓ (tgt := 36) dX8_check__11 (by decide) ?_
    subst he
    exact K2
  · rw [if_neg hc7] at he
    refine G_iload_n hΓ 1 dX8_check__5 rfl ?_
    refine G_iconst (v := 2) hΓ dX8_check__6 (by decide) ?_
    refine G_icmp_le hΓ (tgt := 14) dX8_check__7 (by decide) (fun hc6 => ?_) (fun hc6 => ?_)
    · rw [if_pos hc6] at he
      refine G_iload_n hΓ 2 dX8_check__14 rfl ?_
      refine G_if_lt hΓ (tgt := 31) dX8_check__15 (by decide) (fun hc5 => ?_) (fun hc5 => ?_)
      · rw [if_pos hc5] at he
        refine G_iconst (v := 2) hΓ dX8_check__31 (by decide) ?_
        refine G_goto hΓ (tgt := 36) dX8_check__32 (by decide) ?_
        subst he
        exact K2
      · rw [if_neg hc5] at he
        refine G_iload_n hΓ 2 dX8_check__18 rfl ?_
        refine G_iload_n hΓ 3 dX8_check__19 rfl ?_
        refine G_icmp_gt hΓ (tgt := 31) dX8_check__20 (by decide) (fun hc4 => ?_) (fun hc4 => ?_)
        · rw [if_pos hc4] at he
          refine G_iconst (v := 2) hΓ dX8_check__31 (by decide) ?_
          refine G_goto hΓ (tgt := 36) dX8_check__32 (by decide) ?_
          subst he
          exact K2
        · rw [if_neg hc4] at he
          refine G_iload_n hΓ 3 dX8_check__23 rfl ?_
          refine G_aload_n hΓ 0 dX8_check__24 rfl ?_
          refine F_get hΓ (t := 18) (i := 0) (ci := 11) (C := RX8) (T := TX8) (N := 47) (fs8 (gl Γ) 0) (v := .int (v 2)) (FMi hF (t := 18) (by decide)) (fun _ _ _ => rfl) rfl rfl rfl rfl inW8 2 (by decide) (TT_cons kw_882) rfl dX8_check__25 ?_
          refine G_icmp_le hΓ (tgt := 35) dX8_check__28 (by decide) (fun hc3 => ?_) (fun hc3 => ?_)
          · rw [if_pos hc3] at he
            refine G_iconst (v := 0) hΓ dX8_check__35 (by decide) ?_
            subst he
            exact K2
          · rw [if_neg hc3] at he
            refine G_iconst (v := 2) hΓ dX8_check__31 (by decide) ?_
            refine G_goto hΓ (tgt := 36) dX8_check__32 (by decide) ?_
            subst he
            exact K2
    · rw [if_neg hc6] at he
      refine G_iconst (v := 1) hΓ dX8_check__10 (by decide) ?_
      refine G_goto hΓ (tgt := 36) dX8_check__11 (by decide) ?_
      subst he
      exact K2
theorem dX8_state_0 : decode cX8_state 0 = .ok (.aload_n 0, 1) := by decide +kernel
theorem dX8_state_1 : decode cX8_state 1 = .ok (.aload_n 0, 1) := by decide +kernel
theorem dX8_state_2 : decode cX8_state 2 = .ok (.iload_n 1, 1) := by decide +kernel
theorem dX8_state_3 : decode cX8_state 3 = .ok (.invokevirtual 132, 3) := by decide +kernel
theorem dX8_state_6 : decode cX8_state 6 = .ok (.ifCond .eq 7, 3) := by decide +kernel
theorem dX8_state_9 : decode cX8_state 9 = .ok (.iconst 1, 1) := by decide +kernel
theorem dX8_state_10 : decode cX8_state 10 = .ok (.goto 4, 3) := by decide +kernel
theorem dX8_state_13 : decode cX8_state 13 = .ok (.iconst 0, 1) := by decide +kernel
theorem dX8_state_14 : decode cX8_state 14 = .ok (.putfield 113, 3) := by decide +kernel
theorem dX8_state_17 : decode cX8_state 17 = .ok (.aload_n 0, 1) := by decide +kernel
theorem dX8_state_18 : decode cX8_state 18 = .ok (.getfield 113, 3) := by decide +kernel
theorem dX8_state_21 : decode cX8_state 21 = .ok (.ifCond .le 7, 3) := by decide +kernel
theorem dX8_state_24 : decode cX8_state 24 = .ok (.iconst 0, 1) := by decide +kernel
theorem dX8_state_25 : decode cX8_state 25 = .ok (.goto 9, 3) := by decide +kernel
theorem dX8_state_28 : decode cX8_state 28 = .ok (.aload_n 0, 1) := by decide +kernel
theorem dX8_state_29 : decode cX8_state 29 = .ok (.getfield 43, 3) := by decide +kernel
theorem dX8_state_32 : decode cX8_state 32 = .ok (.iload_n 1, 1) := by decide +kernel
theorem dX8_state_33 : decode cX8_state 33 = .ok (.iaload, 1) := by decide +kernel
theorem dX8_state_34 : decode cX8_state 34 = .ok (.ireturn, 1) := by decide +kernel
noncomputable def f_X8_state  (v : Nat → Int32) (m : Nat → Nat → Int32) (p1 : Int32) : Option ((Nat → Int32) × Int32) := bd (f_X8_noNode v p1) (fun u1 => lt (α := Int32) (if u1 = 0 then 0 else 1) (fun x3 => jn (α := Int32) (fun x7 => some ((upd v 0 x3), x7)) (fun k9 => if x3 ≤ 0 then gd (vp_in p1 32) (k9 ((m 9) p1.toNatClampNeg)) else k9 0)))
set_option maxHeartbeats 4000000 in
set_option maxRecDepth 100000 in
theorem c_X8_state (l : Launch) (Λ : LY) (hF : FM Λ) (σ : CS)  (v : Nat → Int32) (m : Nat → Nat → Int32) (p1 : Int32)   {v' : Nat → Int32} {r9 : Int32} (hf : f_X8_state v m p1 = some (v', r9)) : CM l yX8_state (.code yX8_state cX8_state 2 (some .int) :: TT) ({ frames := 1, cells := 0, slots := 0, locals := 21 }) Λ [.ref (ya Λ 18 0), .int p1] (qM σ v m) (qM σ v' m) (some (.int r9)) := by
  refine CM_intro (own := RX8) (by decide) rfl (Nat.le_of_ble_eq_true rfl) ?_
  intro Γ hg hl hΓ hE
  subst hg; subst hl
  show GG Γ (0, 0) (qM σ v m) 0 [(0, .ref (ya (gl Γ) 18 0)), (1, .int p1)] []
  unfold f_X8_state at hf
  refine G_aload_n hΓ 0 dX8_state_0 rfl ?_
  refine G_aload_n hΓ 0 dX8_state_1 rfl ?_
  refine G_iload_n hΓ 1 dX8_state_2 rfl ?_
  obtain ⟨u1, hc2, hf⟩ := bd_some hf
  refine G_callV hΓ (n := 1) (As := [.int p1]) (t := 18) (i := 0) (ci := 11) (T := TX8) (N := 47) (FS := fs8 (gl Γ) 0) (σ' := (qM σ v m)) (c_X8_noNode (gL Γ) (gl Γ) hF σ  v m p1  hc2) rfl rfl kw_1036 kw_1038 kp_29 kw_9 kw_1039 ⟨rfl, by decide, by decide, by decide +kernel⟩ (FMi hF (t := 18) (by decide)) (fun _ _ _ => rfl) rfl rfl rfl ⟨Nat.le_of_ble_eq_true rfl, Nat.le_of_ble_eq_true rfl⟩ rfl (Nat.le_of_ble_eq_true rfl) dX8_state_3 ⟨_, rfl⟩ rfl ?_
  obtain ⟨x3, he6, hf⟩ := lt_eq hf
  have K4 : GG Γ (0, 0) (qM σ v m) 14 [(0, .ref (ya (gl Γ) 18 0)), (1, .int p1)] [.int x3, .ref (ya (gl Γ) 18 0)] := by
    refine F_put hΓ (t := 18) (i := 0) (ci := 11) (C := RX8) (T := TX8) (N := 47) (fs8 (gl Γ) 0) (f := v) (f' := (upd v 0 x3)) (σ' := (qM σ (upd v 0 x3) m)) (ty := .int) (v := .int x3) tyX8 tyX8_ok nmX8 (FMi hF (t := 18) (by decide)) (fun _ _ _ => rfl) rfl qM_v rfl inW8 0 (by decide) (TT_cons kw_880) rfl (by decide +kernel) rfl rfl (fun _ _ => Nat.le_of_ble_eq_true rfl) (fun _ _ => rfl) dX8_state_14 ?_
    refine G_aload_n hΓ 0 dX8_state_17 rfl ?_
    refine F_get hΓ (t := 18) (i := 0) (ci := 11) (C := RX8) (T := TX8) (N := 47) (fs8 (gl Γ) 0) (v := .int x3) (FMi hF (t := 18) (by decide)) (fun _ _ _ => rfl) rfl rfl rfl rfl inW8 0 (by decide) (TT_cons kw_880) rfl dX8_state_18 ?_
    obtain ⟨k9, hk_k9, hf⟩ := jn_eq hf
    try dsimp only at hf
    have K10 : ∀ x7, k9 x7 = some (v', r9) → GG Γ (0, 0) (qM σ (upd v 0 x3) m) 34 [(0, .ref (ya (gl Γ) 18 0)), (1, .int p1)] [.int x7] := by
      intro x7 hf
      subst hk_k9
      try dsimp only at hf
      cases hf
      exact G_iret hΓ hE dX8_state_34
    clear hk_k9
    refine G_if_le hΓ (tgt := 28) dX8_state_21 (by decide) (fun hc12 => ?_) (fun hc12 => ?_)
    · rw [if_pos hc12] at hf
      refine G_aload_n hΓ 0 dX8_state_28 rfl ?_
      refine F_get hΓ (t := 18) (i := 0) (ci := 11) (C := RX8) (T := TX8) (N := 47) (fs8 (gl Γ) 0) (v := .ref (ya (gl Γ) 19 9)) (FMi hF (t := 18) (by decide)) (fun _ _ _ => rfl) rfl rfl rfl rfl inW8 14 (by decide) (TT_cons kw_894) rfl dX8_state_29 ?_
      refine G_iload_n hΓ 1 dX8_state_32 rfl ?_
      obtain ⟨hg11, hf⟩ := gd_some hf
      refine F_ald (G_iald hΓ) (t := 19) (i := 9) (f := (m 9)) (FMi hF (t := 19) (by decide)) (fun _ _ _ => rfl) rfl hg11 dX8_state_33 ?_
      exact K10 _ hf
    · rw [if_neg hc12] at hf
      refine G_iconst (v := 0) hΓ dX8_state_24 (by decide) ?_
      refine G_goto hΓ (tgt := 34) dX8_state_25 (by decide) ?_
      exact K10 _ hf
  have he := he6
  refine G_if_eq hΓ (tgt := 13) dX8_state_6 (by decide) (fun hc5 => ?_) (fun hc5 => ?_)
  · rw [if_pos hc5] at he
    refine G_iconst (v := 0) hΓ dX8_state_13 (by decide) ?_
    subst he
    exact K4
  · rw [if_neg hc5] at he
    refine G_iconst (v := 1) hΓ dX8_state_9 (by decide) ?_
    refine G_goto hΓ (tgt := 14) dX8_state_10 (by decide) ?_
    subst he
    exact K4
theorem dX8_done_0 : decode cX8_done 0 = .ok (.aload_n 0, 1) := by decide +kernel
theorem dX8_done_1 : decode cX8_done 1 = .ok (.iconst 0, 1) := by decide +kernel
theorem dX8_done_2 : decode cX8_done 2 = .ok (.putfield 113, 3) := by decide +kernel
theorem dX8_done_5 : decode cX8_done 5 = .ok (.iload_n 1, 1) := by decide +kernel
theorem dX8_done_6 : decode cX8_done 6 = .ok (.iconst (-1), 1) := by decide +kernel
theorem dX8_done_7 : decode cX8_done 7 = .ok (.if_icmp .ne 12, 3) := by decide +kernel
theorem dX8_done_10 : decode cX8_done 10 = .ok (.iload_n 2, 1) := by decide +kernel
theorem dX8_done_11 : decode cX8_done 11 = .ok (.ifCond .ne 8, 3) := by decide +kernel
theorem dX8_done_14 : decode cX8_done 14 = .ok (.aload_n 0, 1) := by decide +kernel
theorem dX8_done_15 : decode cX8_done 15 = .ok (.getfield 122, 3) := by decide +kernel
theorem dX8_done_18 : decode cX8_done 18 = .ok (.ireturn, 1) := by decide +kernel
theorem dX8_done_19 : decode cX8_done 19 = .ok (.aload_n 0, 1) := by decide +kernel
theorem dX8_done_20 : decode cX8_done 20 = .ok (.iload_n 1, 1) := by decide +kernel
theorem dX8_done_21 : decode cX8_done 21 = .ok (.ifCond .lt 11, 3) := by decide +kernel
theorem dX8_done_24 : decode cX8_done 24 = .ok (.iload_n 1, 1) := by decide +kernel
theorem dX8_done_25 : decode cX8_done 25 = .ok (.aload_n 0, 1) := by decide +kernel
theorem dX8_done_26 : decode cX8_done 26 = .ok (.getfield 122, 3) := by decide +kernel
theorem dX8_done_29 : decode cX8_done 29 = .ok (.if_icmp .lt 7, 3) := by decide +kernel
theorem dX8_done_32 : decode cX8_done 32 = .ok (.iconst 1, 1) := by decide +kernel
theorem dX8_done_33 : decode cX8_done 33 = .ok (.goto 17, 3) := by decide +kernel
theorem dX8_done_36 : decode cX8_done 36 = .ok (.iload_n 2, 1) := by decide +kernel
theorem dX8_done_37 : decode cX8_done 37 = .ok (.ifCond .lt 8, 3) := by decide +kernel
theorem dX8_done_40 : decode cX8_done 40 = .ok (.iload_n 2, 1) := by decide +kernel
theorem dX8_done_41 : decode cX8_done 41 = .ok (.iconst 1, 1) := by decide +kernel
theorem dX8_done_42 : decode cX8_done 42 = .ok (.if_icmp .le 7, 3) := by decide +kernel
theorem dX8_done_45 : decode cX8_done 45 = .ok (.iconst 2, 1) := by decide +kernel
theorem dX8_done_46 : decode cX8_done 46 = .ok (.goto 4, 3) := by decide +kernel
theorem dX8_done_49 : decode cX8_done 49 = .ok (.iconst 0, 1) := by decide +kernel
theorem dX8_done_50 : decode cX8_done 50 = .ok (.putfield 113, 3) := by decide +kernel
theorem dX8_done_53 : decode cX8_done 53 = .ok (.aload_n 0, 1) := by decide +kernel
theorem dX8_done_54 : decode cX8_done 54 = .ok (.getfield 113, 3) := by decide +kernel
theorem dX8_done_57 : decode cX8_done 57 = .ok (.ifCond .le 5, 3) := by decide +kernel
theorem dX8_done_60 : decode cX8_done 60 = .ok (.iconst 0, 1) := by decide +kernel
theorem dX8_done_61 : decode cX8_done 61 = .ok (.ireturn, 1) := by decide +kernel
theorem dX8_done_62 : decode cX8_done 62 = .ok (.iload_n 2, 1) := by decide +kernel
theorem dX8_done_63 : decode cX8_done 63 = .ok (.ifCond .ne 12, 3) := by decide +kernel
theorem dX8_done_66 : decode cX8_done 66 = .ok (.aload_n 0, 1) := by decide +kernel
theorem dX8_done_67 : decode cX8_done 67 = .ok (.getfield 37, 3) := by decide +kernel
theorem dX8_done_70 : decode cX8_done 70 = .ok (.iload_n 1, 1) := by decide +kernel
theorem dX8_done_71 : decode cX8_done 71 = .ok (.iaload, 1) := by decide +kernel
theorem dX8_done_72 : decode cX8_done 72 = .ok (.goto 9, 3) := by decide +kernel
theorem dX8_done_75 : decode cX8_done 75 = .ok (.aload_n 0, 1) := by decide +kernel
theorem dX8_done_76 : decode cX8_done 76 = .ok (.getfield 40, 3) := by decide +kernel
theorem dX8_done_79 : decode cX8_done 79 = .ok (.iload_n 1, 1) := by decide +kernel
theorem dX8_done_80 : decode cX8_done 80 = .ok (.iaload, 1) := by decide +kernel
theorem dX8_done_81 : decode cX8_done 81 = .ok (.ireturn, 1) := by decide +kernel
noncomputable def f_X8_done  (v : Nat → Int32) (m : Nat → Nat → Int32) (p1 : Int32) (p2 : Int32) : Option ((Nat → Int32) × Int32) := if p1 = (-1) then if p2 = 0 then some ((upd v 0 0), v 11) else lt (α := Int32) (if p1 < 0 then 1 else if p1 < (v 11) then if p2 < 0 then 2 else if p2 ≤ 1 then 0 else 2 else 1) (fun x16 => if x16 ≤ 0 then jn (α := Int32) (fun x23 => some ((upd (upd v 0 0) 0 x16), x23)) (fun k25 => if p2 = 0 then gd (vp_in p1 200) (k25 ((m 7) p1.toNatClampNeg)) else gd (vp_in p1 200) (k25 ((m 8) p1.toNatClampNeg))) else some ((upd (upd v 0 0) 0 x16), 0)) else lt (α := Int32) (if p1 < 0 then 1 else if p1 < (v 11) then if p2 < 0 then 2 else if p2 ≤ 1 then 0 else 2 else 1) (fun x1 => if x1 ≤ 0 then jn (α := Int32) (fun x8 => some ((upd (upd v 0 0) 0 x1), x8)) (fun k10 => if p2 = 0 then gd (vp_in p1 200) (k10 ((m 7) p1.toNatClampNeg)) else gd (vp_in p1 200) (k10 ((m 8) p1.toNatClampNeg))) else some ((upd (upd v 0 0) 0 x1), 0))
set_option maxHeartbeats 4000000 in
set_option maxRecDepth 100000 in
theorem c_X8_done (l : Launch) (Λ : LY) (hF : FM Λ) (σ : CS)  (v : Nat → Int32) (m : Nat → Nat → Int32) (p1 : Int32) (p2 : Int32)   {v' : Nat → Int32} {r9 : Int32} (hf : f_X8_done v m p1 p2 = some (v', r9)) : CM l yX8_done (.code yX8_done cX8_done 3 (some .int) :: TT) ({ frames := 0, cells := 0, slots := 0, locals := 0 }) Λ [.ref (ya Λ 18 0), .int p1, .int p2] (qM σ v m) (qM σ v' m) (some (.int r9)) := by
  refine CM_intro (own := RX8) (by decide) rfl (Nat.le_of_ble_eq_true rfl) ?_
  intro Γ hg hl hΓ hE
  subst hg; subst hl
  show GG Γ (0, 0) (qM σ v m) 0 [(0, .ref (ya (gl Γ) 18 0)), (1, .int p1), (2, .int p2)] []
  unfold f_X8_done at hf
  refine G_aload_n hΓ 0 dX8_done_0 rfl ?_
  refine G_iconst (v := 0) hΓ dX8_done_1 (by decide) ?_
  refine F_put hΓ (t := 18) (i := 0) (ci := 11) (C := RX8) (T := TX8) (N := 47) (fs8 (gl Γ) 0) (f := v) (f' := (upd v 0 0)) (σ' := (qM σ (upd v 0 0) m)) (ty := .int) (v := .int 0) tyX8 tyX8_ok nmX8 (FMi hF (t := 18) (by decide)) (fun _ _ _ => rfl) rfl qM_v rfl inW8 0 (by decide) (TT_cons kw_880) rfl (by decide +kernel) rfl rfl (fun _ _ => Nat.le_of_ble_eq_true rfl) (fun _ _ => rfl) dX8_done_2 ?_
  refine G_iload_n hΓ 1 dX8_done_5 rfl ?_
  refine G_iconst (v := (-1)) hΓ dX8_done_6 (by decide) ?_
  refine G_icmp_ne hΓ (tgt := 19) dX8_done_7 (by decide) (fun hc32 => ?_) (fun hc32 => ?_)
  · rw [if_neg hc32] at hf
    refine G_aload_n hΓ 0 dX8_done_19 rfl ?_
    refine G_iload_n hΓ 1 dX8_done_20 rfl ?_
    obtain ⟨x1, he7, hf⟩ := lt_eq hf
    have K2 : GG Γ (0, 0) (qM σ (upd v 0 0) m) 50 [(0, .ref (ya (gl Γ) 18 0)), (1, .int p1), (2, .int p2)] [.int x1, .ref (ya (gl Γ) 18 0)] := by
      refine F_put hΓ (t := 18) (i := 0) (ci := 11) (C := RX8) (T := TX8) (N := 47) (fs8 (gl Γ) 0) (f := (upd v 0 0)) (f' := (upd (upd v 0 0) 0 x1)) (σ' := (qM σ (upd (upd v 0 0) 0 x1) m)) (ty := .int) (v := .int x1) tyX8 tyX8_ok nmX8 (FMi hF (t := 18) (by decide)) (fun _ _ _ => rfl) rfl qM_v rfl inW8 0 (by decide) (TT_cons kw_880) rfl (by decide +kernel) rfl rfl (fun _ _ => Nat.le_of_ble_eq_true rfl) (fun _ _ => rfl) dX8_done_50 ?_
      refine G_aload_n hΓ 0 dX8_done_53 rfl ?_
      refine F_get hΓ (t := 18) (i := 0) (ci := 11) (C := RX8) (T := TX8) (N := 47) (fs8 (gl Γ) 0) (v := .int x1) (FMi hF (t := 18) (by decide)) (fun _ _ _ => rfl) rfl rfl rfl rfl inW8 0 (by decide) (TT_cons kw_880) rfl dX8_done_54 ?_
      refine G_if_le hΓ (tgt := 62) dX8_done_57 (by decide) (fun hc15 => ?_) (fun hc15 => ?_)
      · rw [if_pos hc15] at hf
        refine G_iload_n hΓ 2 dX8_done_62 rfl ?_
        obtain ⟨k10, hk_k10, hf⟩ := jn_eq hf
        try dsimp only at hf
        have K11 : ∀ x8, k10 x8 = some (v', r9) → GG Γ (0, 0) (qM σ (upd (upd v 0 0) 0 x1) m) 81 [(0, .ref (ya (gl Γ) 18 0)), (1, .int p1), (2, .int p2)] [.int x8] := by
          intro x8 hf
          subst hk_k10
          try dsimp only at hf
          cases hf
          exact G_iret hΓ hE dX8_done_81
        clear hk_k10
        refine G_if_ne hΓ (tgt := 75) dX8_done_63 (by decide) (fun hc14 => ?_) (fun hc14 => ?_)
        · rw [if_neg hc14] at hf
          refine G_aload_n hΓ 0 dX8_done_75 rfl ?_
          refine F_get hΓ (t := 18) (i := 0) (ci := 11) (C := RX8) (T := TX8) (N := 47) (fs8 (gl Γ) 0) (v := .ref (ya (gl Γ) 19 8)) (FMi hF (t := 18) (by decide)) (fun _ _ _ => rfl) rfl rfl rfl rfl inW8 13 (by decide) (TT_cons kw_893) rfl dX8_done_76 ?_
          refine G_iload_n hΓ 1 dX8_done_79 rfl ?_
          obtain ⟨hg12, hf⟩ := gd_some hf
          refine F_ald (G_iald hΓ) (t := 19) (i := 8) (f := (m 8)) (FMi hF (t := 19) (by decide)) (fun _ _ _ => rfl) rfl hg12 dX8_done_80 ?_
          exact K11 _ hf
        · rw [if_pos hc14] at hf
          refine G_aload_n hΓ 0 dX8_done_66 rfl ?_
          refine F_get hΓ (t := 18) (i := 0) (ci := 11) (C := RX8) (T := TX8) (N := 47) (fs8 (gl Γ) 0) (v := .ref (ya (gl Γ) 19 7)) (FMi hF (t := 18) (by decide)) (fun _ _ _ => rfl) rfl rfl rfl rfl inW8 12 (by decide) (TT_cons kw_892) rfl dX8_done_67 ?_
          refine G_iload_n hΓ 1 dX8_done_70 rfl ?_
          obtain ⟨hg13, hf⟩ := gd_some hf
          refine F_ald (G_iald hΓ) (t := 19) (i := 7) (f := (m 7)) (FMi hF (t := 19) (by decide)) (fun _ _ _ => rfl) rfl hg13 dX8_done_71 ?_
          refine G_goto hΓ (tgt := 81) dX8_done_72 (by decide) ?_
          exact K11 _ hf
      · rw [if_neg hc15] at hf
        refine G_iconst (v := 0) hΓ dX8_done_60 (by decide) ?_
        cases hf
        exact G_iret hΓ hE dX8_done_61
    have he := he7
    refine G_if_lt hΓ (tgt := 32) dX8_done_21 (by decide) (fun hc6 => ?_) (fun hc6 => ?_)
    · rw [if_pos hc6] at he
      refine G_iconst (v := 1) hΓ dX8_done_32 (by decide) ?_
      refine G_goto hΓ (tgt := 50) dX8_done_33 (by decide) ?_
      subst he
      exact K2
    · rw [if_neg hc6] at he
      refine G_iload_n hΓ 1 dX8_done_24 rfl ?_
      refine G_aload_n hΓ 0 dX8_done_25 rfl ?_
      refine F_get hΓ (t := 18) (i := 0) (ci := 11) (C := RX8) (T := TX8) (N := 47) (fs8 (gl Γ) 0) (v := .int (v 11)) (FMi hF (t := 18) (by decide)) (fun _ _ _ => rfl) rfl rfl rfl rfl inW8 11 (by decide) (TT_cons kw_891) rfl dX8_done_26 ?_
      refine G_icmp_lt hΓ (tgt := 36) dX8_done_29 (by decide) (fun hc5 => ?_) (fun hc5 => ?_)
      · rw [if_pos hc5] at he
        refine G_iload_n hΓ 2 dX8_done_36 rfl ?_
        refine G_if_lt hΓ (tgt := 45) dX8_done_37 (by decide) (fun hc4 => ?_) (fun hc4 => ?_)
        · rw [if_pos hc4] at he
          refine G_iconst (v := 2) hΓ dX8_done_45 (by decide) ?_
          refine G_goto hΓ (tgt := 50) dX8_done_46 (by decide) ?_
          subst he
          exact K2
        · rw [if_neg hc4] at he
          refine G_iload_n hΓ 2 dX8_done_40 rfl ?_
          refine G_iconst (v := 1) hΓ dX8_done_41 (by decide) ?_
          refine G_icmp_le hΓ (tgt := 49) dX8_done_42 (by decide) (fun hc3 => ?_) (fun hc3 => ?_)
          · rw [if_pos hc3] at he
            refine G_iconst (v := 0) hΓ dX8_done_49 (by decide) ?_
            subst he
            exact K2
          · rw [if_neg hc3] at he
            refine G_iconst (v := 2) hΓ dX8_done_45 (by decide) ?_
            refine G_goto hΓ (tgt := 50) dX8_done_46 (by decide) ?_
            subst he
            exact K2
      · rw [if_neg hc5] at he
        refine G_iconst (v := 1) hΓ dX8_done_32 (by decide) ?_
        refine G_goto hΓ (tgt := 50) dX8_done_33 (by decide) ?_
        subst he
        exact K2
  · rw [if_pos hc32] at hf
    refine G_iload_n hΓ 2 dX8_done_10 rfl ?_
    refine G_if_ne hΓ (tgt := 19) dX8_done_11 (by decide) (fun hc31 => ?_) (fun hc31 => ?_)
    · rw [if_neg hc31] at hf
      refine G_aload_n hΓ 0 dX8_done_19 rfl ?_
      refine G_iload_n hΓ 1 dX8_done_20 rfl ?_
      obtain ⟨x16, he22, hf⟩ := lt_eq hf
      have K17 : GG Γ (0, 0) (qM σ (upd v 0 0) m) 50 [(0, .ref (ya (gl Γ) 18 0)), (1, .int p1), (2, .int p2)] [.int x16, .ref (ya (gl Γ) 18 0)] := by
        refine F_put hΓ (t := 18) (i := 0) (ci := 11) (C := RX8) (T := TX8) (N := 47) (fs8 (gl Γ) 0) (f := (upd v 0 0)) (f' := (upd (upd v 0 0) 0 x16)) (σ' := (qM σ (upd (upd v 0 0) 0 x16) m)) (ty := .int) (v := .int x16) tyX8 tyX8_ok nmX8 (FMi hF (t := 18) (by decide)) (fun _ _ _ => rfl) rfl qM_v rfl inW8 0 (by decide) (TT_cons kw_880) rfl (by decide +kernel) rfl rfl (fun _ _ => Nat.le_of_ble_eq_true rfl) (fun _ _ => rfl) dX8_done_50 ?_
        refine G_aload_n hΓ 0 dX8_done_53 rfl ?_
        refine F_get hΓ (t := 18) (i := 0) (ci := 11) (C := RX8) (T := TX8) (N := 47) (fs8 (gl Γ) 0) (v := .int x16) (FMi hF (t := 18) (by decide)) (fun _ _ _ => rfl) rfl rfl rfl rfl inW8 0 (by decide) (TT_cons kw_880) rfl dX8_done_54 ?_
        refine G_if_le hΓ (tgt := 62) dX8_done_57 (by decide) (fun hc30 => ?_) (fun hc30 => ?_)
        · rw [if_pos hc30] at hf
          refine G_iload_n hΓ 2 dX8_done_62 rfl ?_
          obtain ⟨k25, hk_k25, hf⟩ := jn_eq hf
          try dsimp only at hf
          have K26 : ∀ x23, k25 x23 = some (v', r9) → GG Γ (0, 0) (qM σ (upd (upd v 0 0) 0 x16) m) 81 [(0, .ref (ya (gl Γ) 18 0)), (1, .int p1), (2, .int p2)] [.int x23] := by
            intro x23 hf
            subst hk_k25
            try dsimp only at hf
            cases hf
            exact G_iret hΓ hE dX8_done_81
          clear hk_k25
          refine G_if_ne hΓ (tgt := 75) dX8_done_63 (by decide) (fun hc29 => ?_) (fun hc29 => ?_)
          · rw [if_neg hc29] at hf
            refine G_aload_n hΓ 0 dX8_done_75 rfl ?_
            refine F_get hΓ (t := 18) (i := 0) (ci := 11) (C := RX8) (T := TX8) (N := 47) (fs8 (gl Γ) 0) (v := .ref (ya (gl Γ) 19 8)) (FMi hF (t := 18) (by decide)) (fun _ _ _ => rfl) rfl rfl rfl rfl inW8 13 (by decide) (TT_cons kw_893) rfl dX8_done_76 ?_
            refine G_iload_n hΓ 1 dX8_done_79 rfl ?_
            obtain ⟨hg27, hf⟩ := gd_some hf
            refine F_ald (G_iald hΓ) (t := 19) (i := 8) (f := (m 8)) (FMi hF (t := 19) (by decide)) (fun _ _ _ => rfl) rfl hg27 dX8_done_80 ?_
            exact K26 _ hf
          · rw [if_pos hc29] at hf
            refine G_aload_n hΓ 0 dX8_done_66 rfl ?_
            refine F_get hΓ (t := 18) (i := 0) (ci := 11) (C := RX8) (T := TX8) (N := 47) (fs8 (gl Γ) 0) (v := .ref (ya (gl Γ) 19 7)) (FMi hF (t := 18) (by decide)) (fun _ _ _ => rfl) rfl rfl rfl rfl inW8 12 (by decide) (TT_cons kw_892) rfl dX8_done_67 ?_
            refine G_iload_n hΓ 1 dX8_done_70 rfl ?_
            obtain ⟨hg28, hf⟩ := gd_some hf
            refine F_ald (G_iald hΓ) (t := 19) (i := 7) (f := (m 7)) (FMi hF (t := 19) (by decide)) (fun _ _ _ => rfl) rfl hg28 dX8_done_71 ?_
            refine G_goto hΓ (tgt := 81) dX8_done_72 (by decide) ?_
            exact K26 _ hf
        · rw [if_neg hc30] at hf
          refine G_iconst (v := 0) hΓ dX8_done_60 (by decide) ?_
          cases hf
          exact G_iret hΓ hE dX8_done_61
      have he := he22
      refine G_if_lt hΓ (tgt := 32) dX8_done_21 (by decide) (fun hc21 => ?_) (fun hc21 => ?_)
      · rw [if_pos hc21] at he
        refine G_iconst (v := 1) hΓ dX8_done_32 (by decide) ?_
        refine G_goto hΓ (tgt := 50) dX8_done_33 (by decide) ?_
        subst he
        exact K17
      · rw [if_neg hc21] at he
        refine G_iload_n hΓ 1 dX8_done_24 rfl ?_
        refine G_aload_n hΓ 0 dX8_done_25 rfl ?_
        refine F_get hΓ (t := 18) (i := 0) (ci := 11) (C := RX8) (T := TX8) (N := 47) (fs8 (gl Γ) 0) (v := .int (v 11)) (FMi hF (t := 18) (by decide)) (fun _ _ _ => rfl) rfl rfl rfl rfl inW8 11 (by decide) (TT_cons kw_891) rfl dX8_done_26 ?_
        refine G_icmp_lt hΓ (tgt := 36) dX8_done_29 (by decide) (fun hc20 => ?_) (fun hc20 => ?_)
        · rw [if_pos hc20] at he
          refine G_iload_n hΓ 2 dX8_done_36 rfl ?_
          refine G_if_lt hΓ (tgt := 45) dX8_done_37 (by decide) (fun hc19 => ?_) (fun hc19 => ?_)
          · rw [if_pos hc19] at he
            refine G_iconst (v := 2) hΓ dX8_done_45 (by decide) ?_
            refine G_goto hΓ (tgt := 50) dX8_done_46 (by decide) ?_
            subst he
            exact K17
          · rw [if_neg hc19] at he
            refine G_iload_n hΓ 2 dX8_done_40 rfl ?_
            refine G_iconst (v := 1) hΓ dX8_done_41 (by decide) ?_
            refine G_icmp_le hΓ (tgt := 49) dX8_done_42 (by decide) (fun hc18 => ?_) (fun hc18 => ?_)
            · rw [if_pos hc18] at he
              refine G_iconst (v := 0) hΓ dX8_done_49 (by decide) ?_
              subst he
              exact K17
            · rw [if_neg hc18] at he
              refine G_iconst (v := 2) hΓ dX8_done_45 (by decide) ?_
              refine G_goto hΓ (tgt := 50) dX8_done_46 (by decide) ?_
              subst he
              exact K17
        · rw [if_neg hc20] at he
          refine G_iconst (v := 1) hΓ dX8_done_32 (by decide) ?_
          refine G_goto hΓ (tgt := 50) dX8_done_33 (by decide) ?_
          subst he
          exact K17
    · rw [if_pos hc31] at hf
      refine G_aload_n hΓ 0 dX8_done_14 rfl ?_
      refine F_get hΓ (t := 18) (i := 0) (ci := 11) (C := RX8) (T := TX8) (N := 47) (fs8 (gl Γ) 0) (v := .int (v 11)) (FMi hF (t := 18) (by decide)) (fun _ _ _ => rfl) rfl rfl rfl rfl inW8 11 (by decide) (TT_cons kw_891) rfl dX8_done_15 ?_
      cases hf
      exact G_iret hΓ hE dX8_done_18
theorem dX8_took_0 : decode cX8_took 0 = .ok (.iload_n 2, 1) := by decide +kernel
theorem dX8_took_1 : decode cX8_took 1 = .ok (.istore_n 3, 1) := by decide +kernel
theorem dX8_took_2 : decode cX8_took 2 = .ok (.iconst 0, 1) := by decide +kernel
theorem dX8_took_3 : decode cX8_took 3 = .ok (.istore 4, 2) := by decide +kernel
theorem dX8_took_5 : decode cX8_took 5 = .ok (.iload 4, 2) := by decide +kernel
theorem dX8_took_7 : decode cX8_took 7 = .ok (.aload_n 0, 1) := by decide +kernel
theorem dX8_took_8 : decode cX8_took 8 = .ok (.getfield 125, 3) := by decide +kernel
theorem dX8_took_11 : decode cX8_took 11 = .ok (.if_icmp .ge 34, 3) := by decide +kernel
theorem dX8_took_14 : decode cX8_took 14 = .ok (.iload_n 2, 1) := by decide +kernel
theorem dX8_took_15 : decode cX8_took 15 = .ok (.ifCond .lt 30, 3) := by decide +kernel
theorem dX8_took_18 : decode cX8_took 18 = .ok (.aload_n 0, 1) := by decide +kernel
theorem dX8_took_19 : decode cX8_took 19 = .ok (.getfield 69, 3) := by decide +kernel
theorem dX8_took_22 : decode cX8_took 22 = .ok (.iload 4, 2) := by decide +kernel
theorem dX8_took_24 : decode cX8_took 24 = .ok (.iaload, 1) := by decide +kernel
theorem dX8_took_25 : decode cX8_took 25 = .ok (.iload_n 1, 1) := by decide +kernel
theorem dX8_took_26 : decode cX8_took 26 = .ok (.if_icmp .ne 13, 3) := by decide +kernel
theorem dX8_took_29 : decode cX8_took 29 = .ok (.iload_n 3, 1) := by decide +kernel
theorem dX8_took_30 : decode cX8_took 30 = .ok (.ifCond .ne 6, 3) := by decide +kernel
theorem dX8_took_33 : decode cX8_took 33 = .ok (.iload 4, 2) := by decide +kernel
theorem dX8_took_35 : decode cX8_took 35 = .ok (.ireturn, 1) := by decide +kernel
theorem dX8_took_36 : decode cX8_took 36 = .ok (.iinc 3 (-1), 3) := by decide +kernel
theorem dX8_took_39 : decode cX8_took 39 = .ok (.iinc 4 1, 3) := by decide +kernel
theorem dX8_took_42 : decode cX8_took 42 = .ok (.goto (-37), 3) := by decide +kernel
theorem dX8_took_45 : decode cX8_took 45 = .ok (.iconst (-1), 1) := by decide +kernel
theorem dX8_took_46 : decode cX8_took 46 = .ok (.ireturn, 1) := by decide +kernel
noncomputable def L_X8_took_5 (v : Nat → Int32) (p2 : Int32) (m : Nat → Nat → Int32) (p1 : Int32) (k3 : Int32 × Int32 → Option (Int32)) : Nat → Int32 → Int32 → Option (Int32)
  | 0, _, _ => none
  | nn + 1, v1, v2 => if (v 22) ≤ v1 then k3 (v1, v2) else if p2 < 0 then k3 (v1, v2) else gd (vp_in v1 14000) (if ((m 17) v1.toNatClampNeg) = p1 then if v2 = 0 then some (v1) else L_X8_took_5 v p2 m p1 k3 nn (v1 + 1) (v2 + (-1)) else L_X8_took_5 v p2 m p1 k3 nn (v1 + 1) v2)
noncomputable def f_X8_took  (v : Nat → Int32) (m : Nat → Nat → Int32) (p1 : Int32) (p2 : Int32) : Option (Int32) := jn (α := Int32 × Int32) (fun ⟨v1, v2⟩ => some ((-1))) (fun k3 => L_X8_took_5 v p2 m p1 k3 fu 0 p2)
set_option maxHeartbeats 4000000 in
set_option maxRecDepth 100000 in
theorem c_X8_took (l : Launch) (Λ : LY) (hF : FM Λ) (σ : CS)  (v : Nat → Int32) (m : Nat → Nat → Int32) (p1 : Int32) (p2 : Int32)   {r9 : Int32} (hf : f_X8_took v m p1 p2 = some r9) : CM l yX8_took (.code yX8_took cX8_took 5 (some .int) :: TT) ({ frames := 0, cells := 0, slots := 0, locals := 0 }) Λ [.ref (ya Λ 18 0), .int p1, .int p2] (qM σ v m) (qM σ v m) (some (.int r9)) := by
  refine CM_intro (own := RX8) (by decide) rfl (Nat.le_of_ble_eq_true rfl) ?_
  intro Γ hg hl hΓ hE
  subst hg; subst hl
  show GG Γ (0, 0) (qM σ v m) 0 [(0, .ref (ya (gl Γ) 18 0)), (1, .int p1), (2, .int p2)] []
  unfold f_X8_took at hf
  refine G_iload_n hΓ 2 dX8_took_0 rfl ?_
  refine G_istore_n hΓ [(3, .int p2), (0, .ref (ya (gl Γ) 18 0)), (1, .int p1), (2, .int p2)] dX8_took_1 (by decide) rfl ?_
  refine G_iconst (v := 0) hΓ dX8_took_2 (by decide) ?_
  refine G_istore hΓ [(4, .int 0), (3, .int p2), (0, .ref (ya (gl Γ) 18 0)), (1, .int p1), (2, .int p2)] dX8_took_3 (by decide) rfl ?_
  obtain ⟨k3, hk_k3, hf⟩ := jn_eq hf
  try dsimp only at hf
  have K4 : ∀ v1 v2, k3 (v1, v2) = some r9 → GG Γ (0, 0) (qM σ v m) 45 [(4, .int v1), (3, .int v2), (0, .ref (ya (gl Γ) 18 0)), (1, .int p1), (2, .int p2)] [] := by
    intro v1 v2 hf
    subst hk_k3
    try dsimp only at hf
    refine G_iconst (v := (-1)) hΓ dX8_took_45 (by decide) ?_
    cases hf
    exact G_iret hΓ hE dX8_took_46
  clear hk_k3
  have loop10 : ∀ (nn : Nat) v1 v2, L_X8_took_5 v p2 m p1 k3 nn v1 v2 = some r9 → GG Γ (0, 0) (qM σ v m) 5 [(4, .int v1), (3, .int v2), (0, .ref (ya (gl Γ) 18 0)), (1, .int p1), (2, .int p2)] [] := by
    intro nn
    induction nn with
    | zero => intro v1 v2 hf; cases hf
    | succ nn ih =>
      intro v1 v2 hf
      rw [L_X8_took_5] at hf
      refine G_iload hΓ 0 dX8_took_5 rfl ?_
      refine G_aload_n hΓ 2 dX8_took_7 rfl ?_
      refine F_get hΓ (t := 18) (i := 0) (ci := 11) (C := RX8) (T := TX8) (N := 47) (fs8 (gl Γ) 0) (v := .int (v 22)) (FMi hF (t := 18) (by decide)) (fun _ _ _ => rfl) rfl rfl rfl rfl inW8 22 (by decide) (TT_cons kw_902) rfl dX8_took_8 ?_
      refine G_icmp_ge hΓ (tgt := 45) dX8_took_11 (by decide) (fun hc9 => ?_) (fun hc9 => ?_)
      · rw [if_pos hc9] at hf
        exact (K4 _ _ hf)
      · rw [if_neg hc9] at hf
        refine G_iload_n hΓ 4 dX8_took_14 rfl ?_
        refine G_if_lt hΓ (tgt := 45) dX8_took_15 (by decide) (fun hc8 => ?_) (fun hc8 => ?_)
        · rw [if_pos hc8] at hf
          exact (K4 _ _ hf)
        · rw [if_neg hc8] at hf
          refine G_aload_n hΓ 2 dX8_took_18 rfl ?_
          refine F_get hΓ (t := 18) (i := 0) (ci := 11) (C := RX8) (T := TX8) (N := 47) (fs8 (gl Γ) 0) (v := .ref (ya (gl Γ) 19 17)) (FMi hF (t := 18) (by decide)) (fun _ _ _ => rfl) rfl rfl rfl rfl inW8 23 (by decide) (TT_cons kw_903) rfl dX8_took_19 ?_
          refine G_iload hΓ 0 dX8_took_22 rfl ?_
          obtain ⟨hg5, hf⟩ := gd_some hf
          refine F_ald (G_iald hΓ) (t := 19) (i := 17) (f := (m 17)) (FMi hF (t := 19) (by decide)) (fun _ _ _ => rfl) rfl hg5 dX8_took_24 ?_
          refine G_iload_n hΓ 3 dX8_took_25 rfl ?_
          refine G_icmp_ne hΓ (tgt := 39) dX8_took_26 (by decide) (fun hc7 => ?_) (fun hc7 => ?_)
          · rw [if_neg hc7] at hf
            refine G_iinc hΓ 0 [(4, .int (v1 + 1)), (3, .int v2), (0, .ref (ya (gl Γ) 18 0)), (1, .int p1), (2, .int p2)] dX8_took_39 rfl rfl (by decide) rfl ?_
            refine G_goto hΓ (tgt := 5) dX8_took_42 (by decide) ?_
            exact (ih _ _ hf)
          · rw [if_pos hc7] at hf
            refine G_iload_n hΓ 1 dX8_took_29 rfl ?_
            refine G_if_ne hΓ (tgt := 36) dX8_took_30 (by decide) (fun hc6 => ?_) (fun hc6 => ?_)
            · rw [if_neg hc6] at hf
              refine G_iinc hΓ 1 [(3, .int (v2 + (-1))), (4, .int v1), (0, .ref (ya (gl Γ) 18 0)), (1, .int p1), (2, .int p2)] dX8_took_36 rfl rfl (by decide) rfl ?_
              refine G_iinc hΓ 1 [(4, .int (v1 + 1)), (3, .int (v2 + (-1))), (0, .ref (ya (gl Γ) 18 0)), (1, .int p1), (2, .int p2)] dX8_took_39 rfl rfl (by decide) rfl ?_
              refine G_goto hΓ (tgt := 5) dX8_took_42 (by decide) ?_
              exact (ih _ _ hf)
            · rw [if_pos hc6] at hf
              refine G_iload hΓ 0 dX8_took_33 rfl ?_
              cases hf
              exact G_iret hΓ hE dX8_took_35
  exact loop10 _ _ _ hf
theorem dX8_taken_0 : decode cX8_taken 0 = .ok (.aload_n 0, 1) := by decide +kernel
theorem dX8_taken_1 : decode cX8_taken 1 = .ok (.aload_n 0, 1) := by decide +kernel
theorem dX8_taken_2 : decode cX8_taken 2 = .ok (.iload_n 1, 1) := by decide +kernel
theorem dX8_taken_3 : decode cX8_taken 3 = .ok (.invokevirtual 132, 3) := by decide +kernel
theorem dX8_taken_6 : decode cX8_taken 6 = .ok (.ifCond .eq 7, 3) := by decide +kernel
theorem dX8_taken_9 : decode cX8_taken 9 = .ok (.iconst 1, 1) := by decide +kernel
theorem dX8_taken_10 : decode cX8_taken 10 = .ok (.goto 4, 3) := by decide +kernel
theorem dX8_taken_13 : decode cX8_taken 13 = .ok (.iconst 0, 1) := by decide +kernel
theorem dX8_taken_14 : decode cX8_taken 14 = .ok (.putfield 113, 3) := by decide +kernel
theorem dX8_taken_17 : decode cX8_taken 17 = .ok (.aload_n 0, 1) := by decide +kernel
theorem dX8_taken_18 : decode cX8_taken 18 = .ok (.getfield 113, 3) := by decide +kernel
theorem dX8_taken_21 : decode cX8_taken 21 = .ok (.ifCond .le 5, 3) := by decide +kernel
theorem dX8_taken_24 : decode cX8_taken 24 = .ok (.iconst 0, 1) := by decide +kernel
theorem dX8_taken_25 : decode cX8_taken 25 = .ok (.ireturn, 1) := by decide +kernel
theorem dX8_taken_26 : decode cX8_taken 26 = .ok (.iload_n 2, 1) := by decide +kernel
theorem dX8_taken_27 : decode cX8_taken 27 = .ok (.iconst (-1), 1) := by decide +kernel
theorem dX8_taken_28 : decode cX8_taken 28 = .ok (.if_icmp .ne 53, 3) := by decide +kernel
theorem dX8_taken_31 : decode cX8_taken 31 = .ok (.iload_n 3, 1) := by decide +kernel
theorem dX8_taken_32 : decode cX8_taken 32 = .ok (.ifCond .ne 49, 3) := by decide +kernel
theorem dX8_taken_35 : decode cX8_taken 35 = .ok (.iconst 0, 1) := by decide +kernel
theorem dX8_taken_36 : decode cX8_taken 36 = .ok (.istore 4, 2) := by decide +kernel
theorem dX8_taken_38 : decode cX8_taken 38 = .ok (.iconst 0, 1) := by decide +kernel
theorem dX8_taken_39 : decode cX8_taken 39 = .ok (.istore 5, 2) := by decide +kernel
theorem dX8_taken_41 : decode cX8_taken 41 = .ok (.iload 5, 2) := by decide +kernel
theorem dX8_taken_43 : decode cX8_taken 43 = .ok (.aload_n 0, 1) := by decide +kernel
theorem dX8_taken_44 : decode cX8_taken 44 = .ok (.getfield 125, 3) := by decide +kernel
theorem dX8_taken_47 : decode cX8_taken 47 = .ok (.if_icmp .ge 31, 3) := by decide +kernel
theorem dX8_taken_50 : decode cX8_taken 50 = .ok (.aload_n 0, 1) := by decide +kernel
theorem dX8_taken_51 : decode cX8_taken 51 = .ok (.getfield 69, 3) := by decide +kernel
theorem dX8_taken_54 : decode cX8_taken 54 = .ok (.iload 5, 2) := by decide +kernel
theorem dX8_taken_56 : decode cX8_taken 56 = .ok (.iaload, 1) := by decide +kernel
theorem dX8_taken_57 : decode cX8_taken 57 = .ok (.iload_n 1, 1) := by decide +kernel
theorem dX8_taken_58 : decode cX8_taken 58 = .ok (.if_icmp .ne 10, 3) := by decide +kernel
theorem dX8_taken_61 : decode cX8_taken 61 = .ok (.iload 4, 2) := by decide +kernel
theorem dX8_taken_63 : decode cX8_taken 63 = .ok (.iconst 1, 1) := by decide +kernel
theorem dX8_taken_64 : decode cX8_taken 64 = .ok (.iadd, 1) := by decide +kernel
theorem dX8_taken_65 : decode cX8_taken 65 = .ok (.goto 5, 3) := by decide +kernel
theorem dX8_taken_68 : decode cX8_taken 68 = .ok (.iload 4, 2) := by decide +kernel
theorem dX8_taken_70 : decode cX8_taken 70 = .ok (.istore 4, 2) := by decide +kernel
theorem dX8_taken_72 : decode cX8_taken 72 = .ok (.iinc 5 1, 3) := by decide +kernel
theorem dX8_taken_75 : decode cX8_taken 75 = .ok (.goto (-34), 3) := by decide +kernel
theorem dX8_taken_78 : decode cX8_taken 78 = .ok (.iload 4, 2) := by decide +kernel
theorem dX8_taken_80 : decode cX8_taken 80 = .ok (.ireturn, 1) := by decide +kernel
theorem dX8_taken_81 : decode cX8_taken 81 = .ok (.aload_n 0, 1) := by decide +kernel
theorem dX8_taken_82 : decode cX8_taken 82 = .ok (.iload_n 1, 1) := by decide +kernel
theorem dX8_taken_83 : decode cX8_taken 83 = .ok (.iload_n 2, 1) := by decide +kernel
theorem dX8_taken_84 : decode cX8_taken 84 = .ok (.invokevirtual 266, 3) := by decide +kernel
theorem dX8_taken_87 : decode cX8_taken 87 = .ok (.istore 4, 2) := by decide +kernel
theorem dX8_taken_89 : decode cX8_taken 89 = .ok (.aload_n 0, 1) := by decide +kernel
theorem dX8_taken_90 : decode cX8_taken 90 = .ok (.iload 4, 2) := by decide +kernel
theorem dX8_taken_92 : decode cX8_taken 92 = .ok (.iconst (-1), 1) := by decide +kernel
theorem dX8_taken_93 : decode cX8_taken 93 = .ok (.if_icmp .ne 7, 3) := by decide +kernel
theorem dX8_taken_96 : decode cX8_taken 96 = .ok (.iconst 1, 1) := by decide +kernel
theorem dX8_taken_97 : decode cX8_taken 97 = .ok (.goto 17, 3) := by decide +kernel
theorem dX8_taken_100 : decode cX8_taken 100 = .ok (.iload_n 3, 1) := by decide +kernel
theorem dX8_taken_101 : decode cX8_taken 101 = .ok (.ifCond .lt 8, 3) := by decide +kernel
theorem dX8_taken_104 : decode cX8_taken 104 = .ok (.iload_n 3, 1) := by decide +kernel
theorem dX8_taken_105 : decode cX8_taken 105 = .ok (.iconst 4, 1) := by decide +kernel
theorem dX8_taken_106 : decode cX8_taken 106 = .ok (.if_icmp .le 7, 3) := by decide +kernel
theorem dX8_taken_109 : decode cX8_taken 109 = .ok (.iconst 2, 1) := by decide +kernel
theorem dX8_taken_110 : decode cX8_taken 110 = .ok (.goto 4, 3) := by decide +kernel
theorem dX8_taken_113 : decode cX8_taken 113 = .ok (.iconst 0, 1) := by decide +kernel
theorem dX8_taken_114 : decode cX8_taken 114 = .ok (.putfield 113, 3) := by decide +kernel
theorem dX8_taken_117 : decode cX8_taken 117 = .ok (.aload_n 0, 1) := by decide +kernel
theorem dX8_taken_118 : decode cX8_taken 118 = .ok (.getfield 113, 3) := by decide +kernel
theorem dX8_taken_121 : decode cX8_taken 121 = .ok (.ifCond .le 5, 3) := by decide +kernel
theorem dX8_taken_124 : decode cX8_taken 124 = .ok (.iconst 0, 1) := by decide +kernel
theorem dX8_taken_125 : decode cX8_taken 125 = .ok (.ireturn, 1) := by decide +kernel
theorem dX8_taken_126 : decode cX8_taken 126 = .ok (.iload_n 3, 1) := by decide +kernel
theorem dX8_taken_127 : decode cX8_taken 127 = .ok (.ifCond .ne 11, 3) := by decide +kernel
theorem dX8_taken_130 : decode cX8_taken 130 = .ok (.aload_n 0, 1) := by decide +kernel
theorem dX8_taken_131 : decode cX8_taken 131 = .ok (.getfield 72, 3) := by decide +kernel
theorem dX8_taken_134 : decode cX8_taken 134 = .ok (.iload 4, 2) := by decide +kernel
theorem dX8_taken_136 : decode cX8_taken 136 = .ok (.iaload, 1) := by decide +kernel
theorem dX8_taken_137 : decode cX8_taken 137 = .ok (.ireturn, 1) := by decide +kernel
theorem dX8_taken_138 : decode cX8_taken 138 = .ok (.iload_n 3, 1) := by decide +kernel
theorem dX8_taken_139 : decode cX8_taken 139 = .ok (.iconst 1, 1) := by decide +kernel
theorem dX8_taken_140 : decode cX8_taken 140 = .ok (.if_icmp .ne 13, 3) := by decide +kernel
theorem dX8_taken_143 : decode cX8_taken 143 = .ok (.aload_n 0, 1) := by decide +kernel
theorem dX8_taken_144 : decode cX8_taken 144 = .ok (.getfield 75, 3) := by decide +kernel
theorem dX8_taken_147 : decode cX8_taken 147 = .ok (.iload 4, 2) := by decide +kernel
theorem dX8_taken_149 : decode cX8_taken 149 = .ok (.baload, 1) := by decide +kernel
theorem dX8_taken_150 : decode cX8_taken 150 = .ok (.goto 50, 3) := by decide +kernel
theorem dX8_taken_153 : decode cX8_taken 153 = .ok (.iload_n 3, 1) := by decide +kernel
theorem dX8_taken_154 : decode cX8_taken 154 = .ok (.iconst 2, 1) := by decide +kernel
theorem dX8_taken_155 : decode cX8_taken 155 = .ok (.if_icmp .ne 13, 3) := by decide +kernel
theorem dX8_taken_158 : decode cX8_taken 158 = .ok (.aload_n 0, 1) := by decide +kernel
theorem dX8_taken_159 : decode cX8_taken 159 = .ok (.getfield 78, 3) := by decide +kernel
theorem dX8_taken_162 : decode cX8_taken 162 = .ok (.iload 4, 2) := by decide +kernel
theorem dX8_taken_164 : decode cX8_taken 164 = .ok (.baload, 1) := by decide +kernel
theorem dX8_taken_165 : decode cX8_taken 165 = .ok (.goto 35, 3) := by decide +kernel
theorem dX8_taken_168 : decode cX8_taken 168 = .ok (.iload_n 3, 1) := by decide +kernel
theorem dX8_taken_169 : decode cX8_taken 169 = .ok (.iconst 3, 1) := by decide +kernel
theorem dX8_taken_170 : decode cX8_taken 170 = .ok (.if_icmp .ne 23, 3) := by decide +kernel
theorem dX8_taken_173 : decode cX8_taken 173 = .ok (.aload_n 0, 1) := by decide +kernel
theorem dX8_taken_174 : decode cX8_taken 174 = .ok (.getfield 75, 3) := by decide +kernel
theorem dX8_taken_177 : decode cX8_taken 177 = .ok (.iload 4, 2) := by decide +kernel
theorem dX8_taken_179 : decode cX8_taken 179 = .ok (.baload, 1) := by decide +kernel
theorem dX8_taken_180 : decode cX8_taken 180 = .ok (.aload_n 0, 1) := by decide +kernel
theorem dX8_taken_181 : decode cX8_taken 181 = .ok (.getfield 78, 3) := by decide +kernel
theorem dX8_taken_184 : decode cX8_taken 184 = .ok (.iload 4, 2) := by decide +kernel
theorem dX8_taken_186 : decode cX8_taken 186 = .ok (.baload, 1) := by decide +kernel
theorem dX8_taken_187 : decode cX8_taken 187 = .ok (.invokestatic 139, 3) := by decide +kernel
theorem dX8_taken_190 : decode cX8_taken 190 = .ok (.goto 10, 3) := by decide +kernel
theorem dX8_taken_193 : decode cX8_taken 193 = .ok (.aload_n 0, 1) := by decide +kernel
theorem dX8_taken_194 : decode cX8_taken 194 = .ok (.getfield 81, 3) := by decide +kernel
theorem dX8_taken_197 : decode cX8_taken 197 = .ok (.iload 4, 2) := by decide +kernel
theorem dX8_taken_199 : decode cX8_taken 199 = .ok (.iaload, 1) := by decide +kernel
theorem dX8_taken_200 : decode cX8_taken 200 = .ok (.ireturn, 1) := by decide +kernel
noncomputable def L_X8_taken_41 (v : Nat → Int32) (m : Nat → Nat → Int32) (p1 : Int32) (k59 : Int32 × Int32 → Option ((Nat → Int32) × Int32)) : Nat → Int32 → Int32 → Option ((Nat → Int32) × Int32)
  | 0, _, _ => none
  | nn + 1, v57, v58 => if (v 22) ≤ v57 then k59 (v57, v58) else gd (vp_in v57 14000) (lt (α := Int32) (if ((m 17) v57.toNatClampNeg) = p1 then (v58 + 1) else v58) (fun x62 => L_X8_taken_41 v m p1 k59 nn (v57 + 1) x62))
noncomputable def f_X8_taken  (v : Nat → Int32) (m : Nat → Nat → Int32) (p1 : Int32) (p2 : Int32) (p3 : Int32) : Option ((Nat → Int32) × Int32) := bd (f_X8_noNode v p1) (fun u1 => lt (α := Int32) (if u1 = 0 then 0 else 1) (fun x3 => if x3 ≤ 0 then if p2 = (-1) then if p3 = 0 then jn (α := Int32 × Int32) (fun ⟨v57, v58⟩ => some ((upd v 0 x3), v58)) (fun k59 => L_X8_taken_41 v m p1 k59 fu 0 0) else bd (f_X8_took (upd v 0 x3) m p1 p2) (fun u32 => lt (α := Int32) (if u32 = (-1) then 1 else if p3 < 0 then 2 else if p3 ≤ 4 then 0 else 2) (fun x34 => if x34 ≤ 0 then if p3 = 0 then gd (vp_in u32 14000) (some ((upd (upd v 0 x3) 0 x34), (m 18) u32.toNatClampNeg)) else jn (α := Int32) (fun x40 => some ((upd (upd v 0 x3) 0 x34), x40)) (fun k42 => if p3 = 1 then gd (vp_in u32 14000) (k42 ((m 19) u32.toNatClampNeg)) else if p3 = 2 then gd (vp_in u32 14000) (k42 ((m 20) u32.toNatClampNeg)) else if p3 = 3 then gd (vp_in u32 14000) (gd (vp_in u32 14000) (bd (f_X8_octetsOf ((m 19) u32.toNatClampNeg) ((m 20) u32.toNatClampNeg)) (fun u47 => k42 u47))) else gd (vp_in u32 14000) (k42 ((m 21) u32.toNatClampNeg))) else some ((upd (upd v 0 x3) 0 x34), 0))) else bd (f_X8_took (upd v 0 x3) m p1 p2) (fun u7 => lt (α := Int32) (if u7 = (-1) then 1 else if p3 < 0 then 2 else if p3 ≤ 4 then 0 else 2) (fun x9 => if x9 ≤ 0 then if p3 = 0 then gd (vp_in u7 14000) (some ((upd (upd v 0 x3) 0 x9), (m 18) u7.toNatClampNeg)) else jn (α := Int32) (fun x15 => some ((upd (upd v 0 x3) 0 x9), x15)) (fun k17 => if p3 = 1 then gd (vp_in u7 14000) (k17 ((m 19) u7.toNatClampNeg)) else if p3 = 2 then gd (vp_in u7 14000) (k17 ((m 20) u7.toNatClampNeg)) else if p3 = 3 then gd (vp_in u7 14000) (gd (vp_in u7 14000) (bd (f_X8_octetsOf ((m 19) u7.toNatClampNeg) ((m 20) u7.toNatClampNeg)) (fun u22 => k17 u22))) else gd (vp_in u7 14000) (k17 ((m 21) u7.toNatClampNeg))) else some ((upd (upd v 0 x3) 0 x9), 0))) else some ((upd v 0 x3), 0)))
set_option maxHeartbeats 4000000 in
set_option maxRecDepth 100000 in
theorem c_X8_taken (l : Launch) (Λ : LY) (hF : FM Λ) (σ : CS)  (v : Nat → Int32) (m : Nat → Nat → Int32) (p1 : Int32) (p2 : Int32) (p3 : Int32)   {v' : Nat → Int32} {r9 : Int32} (hf : f_X8_taken v m p1 p2 p3 = some (v', r9)) : CM l yX8_taken (.code yX8_taken cX8_taken 6 (some .int) :: TT) ({ frames := 1, cells := 0, slots := 0, locals := 24 }) Λ [.ref (ya Λ 18 0), .int p1, .int p2, .int p3] (qM σ v m) (qM σ v' m) (some (.int r9)) := by
  refine CM_intro (own := RX8) (by decide) rfl (Nat.le_of_ble_eq_true rfl) ?_
  intro Γ hg hl hΓ hE
  subst hg; subst hl
  show GG Γ (0, 0) (qM σ v m) 0 [(0, .ref (ya (gl Γ) 18 0)), (1, .int p1), (2, .int p2), (3, .int p3)] []
  unfold f_X8_taken at hf
  refine G_aload_n hΓ 0 dX8_taken_0 rfl ?_
  refine G_aload_n hΓ 0 dX8_taken_1 rfl ?_
  refine G_iload_n hΓ 1 dX8_taken_2 rfl ?_
  obtain ⟨u1, hc2, hf⟩ := bd_some hf
  refine G_callV hΓ (n := 1) (As := [.int p1]) (t := 18) (i := 0) (ci := 11) (T := TX8) (N := 47) (FS := fs8 (gl Γ) 0) (σ' := (qM σ v m)) (c_X8_noNode (gL Γ) (gl Γ) hF σ  v m p1  hc2) rfl rfl kw_1036 kw_1038 kp_29 kw_9 kw_1039 ⟨rfl, by decide, by decide, by decide +kernel⟩ (FMi hF (t := 18) (by decide)) (fun _ _ _ => rfl) rfl rfl rfl ⟨Nat.le_of_ble_eq_true rfl, Nat.le_of_ble_eq_true rfl⟩ rfl (Nat.le_of_ble_eq_true rfl) dX8_taken_3 ⟨_, rfl⟩ rfl ?_
  obtain ⟨x3, he6, hf⟩ := lt_eq hf
  have K4 : GG Γ (0, 0) (qM σ v m) 14 [(0, .ref (ya (gl Γ) 18 0)), (1, .int p1), (2, .int p2), (3, .int p3)] [.int x3, .ref (ya (gl Γ) 18 0)] := by
    refine F_put hΓ (t := 18) (i := 0) (ci := 11) (C := RX8) (T := TX8) (N := 47) (fs8 (gl Γ) 0) (f := v) (f' := (upd v 0 x3)) (σ' := (qM σ (upd v 0 x3) m)) (ty := .int) (v := .int x3) tyX8 tyX8_ok nmX8 (FMi hF (t := 18) (by decide)) (fun _ _ _ => rfl) rfl qM_v rfl inW8 0 (by decide) (TT_cons kw_880) rfl (by decide +kernel) rfl rfl (fun _ _ => Nat.le_of_ble_eq_true rfl) (fun _ _ => rfl) dX8_taken_14 ?_
    refine G_aload_n hΓ 0 dX8_taken_17 rfl ?_
    refine F_get hΓ (t := 18) (i := 0) (ci := 11) (C := RX8) (T := TX8) (N := 47) (fs8 (gl Γ) 0) (v := .int x3) (FMi hF (t := 18) (by decide)) (fun _ _ _ => rfl) rfl rfl rfl rfl inW8 0 (by decide) (TT_cons kw_880) rfl dX8_taken_18 ?_
    refine G_if_le hΓ (tgt := 26) dX8_taken_21 (by decide) (fun hc70 => ?_) (fun hc70 => ?_)
    · rw [if_pos hc70] at hf
      refine G_iload_n hΓ 2 dX8_taken_26 rfl ?_
      refine G_iconst (v := (-1)) hΓ dX8_taken_27 (by decide) ?_
      refine G_icmp_ne hΓ (tgt := 81) dX8_taken_28 (by decide) (fun hc69 => ?_) (fun hc69 => ?_)
      · rw [if_neg hc69] at hf
        refine G_aload_n hΓ 0 dX8_taken_81 rfl ?_
        refine G_iload_n hΓ 1 dX8_taken_82 rfl ?_
        refine G_iload_n hΓ 2 dX8_taken_83 rfl ?_
        obtain ⟨u7, hc8, hf⟩ := bd_some hf
        refine G_callV hΓ (n := 2) (As := [.int p1, .int p2]) (t := 18) (i := 0) (ci := 11) (T := TX8) (N := 47) (FS := fs8 (gl Γ) 0) (σ' := (qM σ (upd v 0 x3) m)) (c_X8_took (gL Γ) (gl Γ) hF σ  (upd v 0 x3) m p1 p2  hc8) rfl rfl kw_1209 kw_1211 kp_57 kw_9 kw_1212 ⟨rfl, by decide, by decide, by decide +kernel⟩ (FMi hF (t := 18) (by decide)) (fun _ _ _ => rfl) rfl rfl rfl ⟨Nat.le_of_ble_eq_true rfl, Nat.le_of_ble_eq_true rfl⟩ rfl (Nat.le_of_ble_eq_true rfl) dX8_taken_84 ⟨_, rfl⟩ rfl ?_
        refine G_istore hΓ [(4, .int u7), (0, .ref (ya (gl Γ) 18 0)), (1, .int p1), (2, .int p2), (3, .int p3)] dX8_taken_87 (by decide) rfl ?_
        refine G_aload_n hΓ 1 dX8_taken_89 rfl ?_
        refine G_iload hΓ 0 dX8_taken_90 rfl ?_
        refine G_iconst (v := (-1)) hΓ dX8_taken_92 (by decide) ?_
        obtain ⟨x9, he14, hf⟩ := lt_eq hf
        have K10 : GG Γ (0, 0) (qM σ (upd v 0 x3) m) 114 [(4, .int u7), (0, .ref (ya (gl Γ) 18 0)), (1, .int p1), (2, .int p2), (3, .int p3)] [.int x9, .ref (ya (gl Γ) 18 0)] := by
          refine F_put hΓ (t := 18) (i := 0) (ci := 11) (C := RX8) (T := TX8) (N := 47) (fs8 (gl Γ) 0) (f := (upd v 0 x3)) (f' := (upd (upd v 0 x3) 0 x9)) (σ' := (qM σ (upd (upd v 0 x3) 0 x9) m)) (ty := .int) (v := .int x9) tyX8 tyX8_ok nmX8 (FMi hF (t := 18) (by decide)) (fun _ _ _ => rfl) rfl qM_v rfl inW8 0 (by decide) (TT_cons kw_880) rfl (by decide +kernel) rfl rfl (fun _ _ => Nat.le_of_ble_eq_true rfl) (fun _ _ => rfl) dX8_taken_114 ?_
          refine G_aload_n hΓ 1 dX8_taken_117 rfl ?_
          refine F_get hΓ (t := 18) (i := 0) (ci := 11) (C := RX8) (T := TX8) (N := 47) (fs8 (gl Γ) 0) (v := .int x9) (FMi hF (t := 18) (by decide)) (fun _ _ _ => rfl) rfl rfl rfl rfl inW8 0 (by decide) (TT_cons kw_880) rfl dX8_taken_118 ?_
          refine G_if_le hΓ (tgt := 126) dX8_taken_121 (by decide) (fun hc31 => ?_) (fun hc31 => ?_)
          · rw [if_pos hc31] at hf
            refine G_iload_n hΓ 4 dX8_taken_126 rfl ?_
            refine G_if_ne hΓ (tgt := 138) dX8_taken_127 (by decide) (fun hc30 => ?_) (fun hc30 => ?_)
            · rw [if_neg hc30] at hf
              refine G_iload_n hΓ 4 dX8_taken_138 rfl ?_
              refine G_iconst (v := 1) hΓ dX8_taken_139 (by decide) ?_
              obtain ⟨k17, hk_k17, hf⟩ := jn_eq hf
              try dsimp only at hf
              have K18 : ∀ x15, k17 x15 = some (v', r9) → GG Γ (0, 0) (qM σ (upd (upd v 0 x3) 0 x9) m) 200 [(4, .int u7), (0, .ref (ya (gl Γ) 18 0)), (1, .int p1), (2, .int p2), (3, .int p3)] [.int x15] := by
                intro x15 hf
                subst hk_k17
                try dsimp only at hf
                cases hf
                exact G_iret hΓ hE dX8_taken_200
              clear hk_k17
              refine G_icmp_ne hΓ (tgt := 153) dX8_taken_140 (by decide) (fun hc28 => ?_) (fun hc28 => ?_)
              · rw [if_neg hc28] at hf
                refine G_iload_n hΓ 4 dX8_taken_153 rfl ?_
                refine G_iconst (v := 2) hΓ dX8_taken_154 (by decide) ?_
                refine G_icmp_ne hΓ (tgt := 168) dX8_taken_155 (by decide) (fun hc26 => ?_) (fun hc26 => ?_)
                · rw [if_neg hc26] at hf
                  refine G_iload_n hΓ 4 dX8_taken_168 rfl ?_
                  refine G_iconst (v := 3) hΓ dX8_taken_169 (by decide) ?_
                  refine G_icmp_ne hΓ (tgt := 193) dX8_taken_170 (by decide) (fun hc24 => ?_) (fun hc24 => ?_)
                  · rw [if_neg hc24] at hf
                    refine G_aload_n hΓ 1 dX8_taken_193 rfl ?_
                    refine F_get hΓ (t := 18) (i := 0) (ci := 11) (C := RX8) (T := TX8) (N := 47) (fs8 (gl Γ) 0) (v := .ref (ya (gl Γ) 19 21)) (FMi hF (t := 18) (by decide)) (fun _ _ _ => rfl) rfl rfl rfl rfl inW8 27 (by decide) (TT_cons kw_907) rfl dX8_taken_194 ?_
                    refine G_iload hΓ 0 dX8_taken_197 rfl ?_
                    obtain ⟨hg19, hf⟩ := gd_some hf
                    refine F_ald (G_iald hΓ) (t := 19) (i := 21) (f := (m 21)) (FMi hF (t := 19) (by decide)) (fun _ _ _ => rfl) rfl hg19 dX8_taken_199 ?_
                    exact K18 _ hf
                  · rw [if_pos hc24] at hf
                    refine G_aload_n hΓ 1 dX8_taken_173 rfl ?_
                    refine F_get hΓ (t := 18) (i := 0) (ci := 11) (C := RX8) (T := TX8) (N := 47) (fs8 (gl Γ) 0) (v := .ref (ya (gl Γ) 19 19)) (FMi hF (t := 18) (by decide)) (fun _ _ _ => rfl) rfl rfl rfl rfl inW8 25 (by decide) (TT_cons kw_905) rfl dX8_taken_174 ?_
                    refine G_iload hΓ 0 dX8_taken_177 rfl ?_
                    obtain ⟨hg20, hf⟩ := gd_some hf
                    refine F_ald (G_bald hΓ) (t := 19) (i := 19) (f := (m 19)) (FMi hF (t := 19) (by decide)) (fun _ _ _ => rfl) rfl hg20 dX8_taken_179 ?_
                    refine G_aload_n hΓ 1 dX8_taken_180 rfl ?_
                    refine F_get hΓ (t := 18) (i := 0) (ci := 11) (C := RX8) (T := TX8) (N := 47) (fs8 (gl Γ) 0) (v := .ref (ya (gl Γ) 19 20)) (FMi hF (t := 18) (by decide)) (fun _ _ _ => rfl) rfl rfl rfl rfl inW8 26 (by decide) (TT_cons kw_906) rfl dX8_taken_181 ?_
                    refine G_iload hΓ 0 dX8_taken_184 rfl ?_
                    obtain ⟨hg21, hf⟩ := gd_some hf
                    refine F_ald (G_bald hΓ) (t := 19) (i := 20) (f := (m 20)) (FMi hF (t := 19) (by decide)) (fun _ _ _ => rfl) rfl hg21 dX8_taken_186 ?_
                    obtain ⟨u22, hc23, hf⟩ := bd_some hf
                    refine G_callS hΓ (n := 2) (As := [.int ((m 19) u7.toNatClampNeg), .int ((m 20) u7.toNatClampNeg)]) (σ' := (qM σ (upd (upd v 0 x3) 0 x9) m)) (c_X8_octetsOf (gL Γ) (gl Γ) hF (qM σ (upd (upd v 0 x3) 0 x9) m)   ((m 19) u7.toNatClampNeg) ((m 20) u7.toNatClampNeg)  hc23) rfl rfl kw_1048 kw_1049 kw_9 kw_1050 ⟨by decide, by decide, by decide +kernel⟩ rfl rfl ⟨Nat.le_of_ble_eq_true rfl, Nat.le_of_ble_eq_true rfl⟩ rfl (Nat.le_of_ble_eq_true rfl) dX8_taken_187 ⟨_, rfl⟩ rfl ?_
                    refine G_goto hΓ (tgt := 200) dX8_taken_190 (by decide) ?_
                    exact K18 _ hf
                · rw [if_pos hc26] at hf
                  refine G_aload_n hΓ 1 dX8_taken_158 rfl ?_
                  refine F_get hΓ (t := 18) (i := 0) (ci := 11) (C := RX8) (T := TX8) (N := 47) (fs8 (gl Γ) 0) (v := .ref (ya (gl Γ) 19 20)) (FMi hF (t := 18) (by decide)) (fun _ _ _ => rfl) rfl rfl rfl rfl inW8 26 (by decide) (TT_cons kw_906) rfl dX8_taken_159 ?_
                  refine G_iload hΓ 0 dX8_taken_162 rfl ?_
                  obtain ⟨hg25, hf⟩ := gd_some hf
                  refine F_ald (G_bald hΓ) (t := 19) (i := 20) (f := (m 20)) (FMi hF (t := 19) (by decide)) (fun _ _ _ => rfl) rfl hg25 dX8_taken_164 ?_
                  refine G_goto hΓ (tgt := 200) dX8_taken_165 (by decide) ?_
                  exact K18 _ hf
              · rw [if_pos hc28] at hf
                refine G_aload_n hΓ 1 dX8_taken_143 rfl ?_
                refine F_get hΓ (t := 18) (i := 0) (ci := 11) (C := RX8) (T := TX8) (N := 47) (fs8 (gl Γ) 0) (v := .ref (ya (gl Γ) 19 19)) (FMi hF (t := 18) (by decide)) (fun _ _ _ => rfl) rfl rfl rfl rfl inW8 25 (by decide) (TT_cons kw_905) rfl dX8_taken_144 ?_
                refine G_iload hΓ 0 dX8_taken_147 rfl ?_
                obtain ⟨hg27, hf⟩ := gd_some hf
                refine F_ald (G_bald hΓ) (t := 19) (i := 19) (f := (m 19)) (FMi hF (t := 19) (by decide)) (fun _ _ _ => rfl) rfl hg27 dX8_taken_149 ?_
                refine G_goto hΓ (tgt := 200) dX8_taken_150 (by decide) ?_
                exact K18 _ hf
            · rw [if_pos hc30] at hf
              refine G_aload_n hΓ 1 dX8_taken_130 rfl ?_
              refine F_get hΓ (t := 18) (i := 0) (ci := 11) (C := RX8) (T := TX8) (N := 47) (fs8 (gl Γ) 0) (v := .ref (ya (gl Γ) 19 18)) (FMi hF (t := 18) (by decide)) (fun _ _ _ => rfl) rfl rfl rfl rfl inW8 24 (by decide) (TT_cons kw_904) rfl dX8_taken_131 ?_
              refine G_iload hΓ 0 dX8_taken_134 rfl ?_
              obtain ⟨hg29, hf⟩ := gd_some hf
              refine F_ald (G_iald hΓ) (t := 19) (i := 18) (f := (m 18)) (FMi hF (t := 19) (by decide)) (fun _ _ _ => rfl) rfl hg29 dX8_taken_136 ?_
              cases hf
              exact G_iret hΓ hE dX8_taken_137
          · rw [if_neg hc31] at hf
            refine G_iconst (v := 0) hΓ dX8_taken_124 (by decide) ?_
            cases hf
            exact G_iret hΓ hE dX8_taken_125
        have he := he14
        refine G_icmp_ne hΓ (tgt := 100) dX8_taken_93 (by decide) (fun hc13 => ?_) (fun hc13 => ?_)
        · rw [if_neg hc13] at he
          refine G_iload_n hΓ 4 dX8_taken_100 rfl ?_
          refine G_if_lt hΓ (tgt := 109) dX8_taken_101 (by decide) (fun hc12 => ?_) (fun hc12 => ?_)
          · rw [if_pos hc12] at he
            refine G_iconst (v := 2) hΓ dX8_taken_109 (by decide) ?_
            refine G_goto hΓ (tgt := 114) dX8_taken_110 (by decide) ?_
            subst he
            exact K10
          · rw [if_neg hc12] at he
            refine G_iload_n hΓ 4 dX8_taken_104 rfl ?_
            refine G_iconst (v := 4) hΓ dX8_taken_105 (by decide) ?_
            refine G_icmp_le hΓ (tgt := 113) dX8_taken_106 (by decide) (fun hc11 => ?_) (fun hc11 => ?_)
            · rw [if_pos hc11] at he
              refine G_iconst (v := 0) hΓ dX8_taken_113 (by decide) ?_
              subst he
              exact K10
            · rw [if_neg hc11] at he
              refine G_iconst (v := 2) hΓ dX8_taken_109 (by decide) ?_
              refine G_goto hΓ (tgt := 114) dX8_taken_110 (by decide) ?_
              subst he
              exact K10
        · rw [if_pos hc13] at he
          refine G_iconst (v := 1) hΓ dX8_taken_96 (by decide) ?_
          refine G_goto hΓ (tgt := 114) dX8_taken_97 (by decide) ?_
          subst he
          exact K10
      · rw [if_pos hc69] at hf
        refine G_iload_n hΓ 3 dX8_taken_31 rfl ?_
        refine G_if_ne hΓ (tgt := 81) dX8_taken_32 (by decide) (fun hc68 => ?_) (fun hc68 => ?_)
        · rw [if_neg hc68] at hf
          refine G_aload_n hΓ 0 dX8_taken_81 rfl ?_
          refine G_iload_n hΓ 1 dX8_taken_82 rfl ?_
          refine G_iload_n hΓ 2 dX8_taken_83 rfl ?_
          obtain ⟨u32, hc33, hf⟩ := bd_some hf
          refine G_callV hΓ (n := 2) (As := [.int p1, .int p2]) (t := 18) (i := 0) (ci := 11) (T := TX8) (N := 47) (FS := fs8 (gl Γ) 0) (σ' := (qM σ (upd v 0 x3) m)) (c_X8_took (gL Γ) (gl Γ) hF σ  (upd v 0 x3) m p1 p2  hc33) rfl rfl kw_1209 kw_1211 kp_57 kw_9 kw_1212 ⟨rfl, by decide, by decide, by decide +kernel⟩ (FMi hF (t := 18) (by decide)) (fun _ _ _ => rfl) rfl rfl rfl ⟨Nat.le_of_ble_eq_true rfl, Nat.le_of_ble_eq_true rfl⟩ rfl (Nat.le_of_ble_eq_true rfl) dX8_taken_84 ⟨_, rfl⟩ rfl ?_
          refine G_istore hΓ [(4, .int u32), (0, .ref (ya (gl Γ) 18 0)), (1, .int p1), (2, .int p2), (3, .int p3)] dX8_taken_87 (by decide) rfl ?_
          refine G_aload_n hΓ 1 dX8_taken_89 rfl ?_
          refine G_iload hΓ 0 dX8_taken_90 rfl ?_
          refine G_iconst (v := (-1)) hΓ dX8_taken_92 (by decide) ?_
          obtain ⟨x34, he39, hf⟩ := lt_eq hf
          have K35 : GG Γ (0, 0) (qM σ (upd v 0 x3) m) 114 [(4, .int u32), (0, .ref (ya (gl Γ) 18 0)), (1, .int p1), (2, .int p2), (3, .int p3)] [.int x34, .ref (ya (gl Γ) 18 0)] := by
            refine F_put hΓ (t := 18) (i := 0) (ci := 11) (C := RX8) (T := TX8) (N := 47) (fs8 (gl Γ) 0) (f := (upd v 0 x3)) (f' := (upd (upd v 0 x3) 0 x34)) (σ' := (qM σ (upd (upd v 0 x3) 0 x34) m)) (ty := .int) (v := .int x34) tyX8 tyX8_ok nmX8 (FMi hF (t := 18) (by decide)) (fun _ _ _ => rfl) rfl qM_v rfl inW8 0 (by decide) (TT_cons kw_880) rfl (by decide +kernel) rfl rfl (fun _ _ => Nat.le_of_ble_eq_true rfl) (fun _ _ => rfl) dX8_taken_114 ?_
            refine G_aload_n hΓ 1 dX8_taken_117 rfl ?_
            refine F_get hΓ (t := 18) (i := 0) (ci := 11) (C := RX8) (T := TX8) (N := 47) (fs8 (gl Γ) 0) (v := .int x34) (FMi hF (t := 18) (by decide)) (fun _ _ _ => rfl) rfl rfl rfl rfl inW8 0 (by decide) (TT_cons kw_880) rfl dX8_taken_118 ?_
            refine G_if_le hΓ (tgt := 126) dX8_taken_121 (by decide) (fun hc56 => ?_) (fun hc56 => ?_)
            · rw [if_pos hc56] at hf
              refine G_iload_n hΓ 4 dX8_taken_126 rfl ?_
              refine G_if_ne hΓ (tgt := 138) dX8_taken_127 (by decide) (fun hc55 => ?_) (fun hc55 => ?_)
              · rw [if_neg hc55] at hf
                refine G_iload_n hΓ 4 dX8_taken_138 rfl ?_
                refine G_iconst (v := 1) hΓ dX8_taken_139 (by decide) ?_
                obtain ⟨k42, hk_k42, hf⟩ := jn_eq hf
                try dsimp only at hf
                have K43 : ∀ x40, k42 x40 = some (v', r9) → GG Γ (0, 0) (qM σ (upd (upd v 0 x3) 0 x34) m) 200 [(4, .int u32), (0, .ref (ya (gl Γ) 18 0)), (1, .int p1), (2, .int p2), (3, .int p3)] [.int x40] := by
                  intro x40 hf
                  subst hk_k42
                  try dsimp only at hf
                  cases hf
                  exact G_iret hΓ hE dX8_taken_200
                clear hk_k42
                refine G_icmp_ne hΓ (tgt := 153) dX8_taken_140 (by decide) (fun hc53 => ?_) (fun hc53 => ?_)
                · rw [if_neg hc53] at hf
                  refine G_iload_n hΓ 4 dX8_taken_153 rfl ?_
                  refine G_iconst (v := 2) hΓ dX8_taken_154 (by decide) ?_
                  refine G_icmp_ne hΓ (tgt := 168) dX8_taken_155 (by decide) (fun hc51 => ?_) (fun hc51 => ?_)
                  · rw [if_neg hc51] at hf
                    refine G_iload_n hΓ 4 dX8_taken_168 rfl ?_
                    refine G_iconst (v := 3) hΓ dX8_taken_169 (by decide) ?_
                    refine G_icmp_ne hΓ (tgt := 193) dX8_taken_170 (by decide) (fun hc49 => ?_) (fun hc49 => ?_)
                    · rw [if_neg hc49] at hf
                      refine G_aload_n hΓ 1 dX8_taken_193 rfl ?_
                      refine F_get hΓ (t := 18) (i := 0) (ci := 11) (C := RX8) (T := TX8) (N := 47) (fs8 (gl Γ) 0) (v := .ref (ya (gl Γ) 19 21)) (FMi hF (t := 18) (by decide)) (fun _ _ _ => rfl) rfl rfl rfl rfl inW8 27 (by decide) (TT_cons kw_907) rfl dX8_taken_194 ?_
                      refine G_iload hΓ 0 dX8_taken_197 rfl ?_
                      obtain ⟨hg44, hf⟩ := gd_some hf
                      refine F_ald (G_iald hΓ) (t := 19) (i := 21) (f := (m 21)) (FMi hF (t := 19) (by decide)) (fun _ _ _ => rfl) rfl hg44 dX8_taken_199 ?_
                      exact K43 _ hf
                    · rw [if_pos hc49] at hf
                      refine G_aload_n hΓ 1 dX8_taken_173 rfl ?_
                      refine F_get hΓ (t := 18) (i := 0) (ci := 11) (C := RX8) (T := TX8) (N := 47) (fs8 (gl Γ) 0) (v := .ref (ya (gl Γ) 19 19)) (FMi hF (t := 18) (by decide)) (fun _ _ _ => rfl) rfl rfl rfl rfl inW8 25 (by decide) (TT_cons kw_905) rfl dX8_taken_174 ?_
                      refine G_iload hΓ 0 dX8_taken_177 rfl ?_
                      obtain ⟨hg45, hf⟩ := gd_some hf
                      refine F_ald (G_bald hΓ) (t := 19) (i := 19) (f := (m 19)) (FMi hF (t := 19) (by decide)) (fun _ _ _ => rfl) rfl hg45 dX8_taken_179 ?_
                      refine G_aload_n hΓ 1 dX8_taken_180 rfl ?_
                      refine F_get hΓ (t := 18) (i := 0) (ci := 11) (C := RX8) (T := TX8) (N := 47) (fs8 (gl Γ) 0) (v := .ref (ya (gl Γ) 19 20)) (FMi hF (t := 18) (by decide)) (fun _ _ _ => rfl) rfl rfl rfl rfl inW8 26 (by decide) (TT_cons kw_906) rfl dX8_taken_181 ?_
                      refine G_iload hΓ 0 dX8_taken_184 rfl ?_
                      obtain ⟨hg46, hf⟩ := gd_some hf
                      refine F_ald (G_bald hΓ) (t := 19) (i := 20) (f := (m 20)) (FMi hF (t := 19) (by decide)) (fun _ _ _ => rfl) rfl hg46 dX8_taken_186 ?_
                      obtain ⟨u47, hc48, hf⟩ := bd_some hf
                      refine G_callS hΓ (n := 2) (As := [.int ((m 19) u32.toNatClampNeg), .int ((m 20) u32.toNatClampNeg)]) (σ' := (qM σ (upd (upd v 0 x3) 0 x34) m)) (c_X8_octetsOf (gL Γ) (gl Γ) hF (qM σ (upd (upd v 0 x3) 0 x34) m)   ((m 19) u32.toNatClampNeg) ((m 20) u32.toNatClampNeg)  hc48) rfl rfl kw_1048 kw_1049 kw_9 kw_1050 ⟨by decide, by decide, by decide +kernel⟩ rfl rfl ⟨Nat.le_of_ble_eq_true rfl, Nat.le_of_ble_eq_true rfl⟩ rfl (Nat.le_of_ble_eq_true rfl) dX8_taken_187 ⟨_, rfl⟩ rfl ?_
                      refine G_goto hΓ (tgt := 200) dX8_taken_190 (by decide) ?_
                      exact K43 _ hf
                  · rw [if_pos hc51] at hf
                    refine G_aload_n hΓ 1 dX8_taken_158 rfl ?_
                    refine F_get hΓ (t := 18) (i := 0) (ci := 11) (C := RX8) (T := TX8) (N := 47) (fs8 (gl Γ) 0) (v := .ref (ya (gl Γ) 19 20)) (FMi hF (t := 18) (by decide)) (fun _ _ _ => rfl) rfl rfl rfl rfl inW8 26 (by decide) (TT_cons kw_906) rfl dX8_taken_159 ?_
                    refine G_iload hΓ 0 dX8_taken_162 rfl ?_
                    obtain ⟨hg50, hf⟩ := gd_some hf
                    refine F_ald (G_bald hΓ) (t := 19) (i := 20) (f := (m 20)) (FMi hF (t := 19) (by decide)) (fun _ _ _ => rfl) rfl hg50 dX8_taken_164 ?_
                    refine G_goto hΓ (tgt := 200) dX8_taken_165 (by decide) ?_
                    exact K43 _ hf
                · rw [if_pos hc53] at hf
                  refine G_aload_n hΓ 1 dX8_taken_143 rfl ?_
                  refine F_get hΓ (t := 18) (i := 0) (ci := 11) (C := RX8) (T := TX8) (N := 47) (fs8 (gl Γ) 0) (v := .ref (ya (gl Γ) 19 19)) (FMi hF (t := 18) (by decide)) (fun _ _ _ => rfl) rfl rfl rfl rfl inW8 25 (by decide) (TT_cons kw_905) rfl dX8_taken_144 ?_
                  refine G_iload hΓ 0 dX8_taken_147 rfl ?_
                  obtain ⟨hg52, hf⟩ := gd_some hf
                  refine F_ald (G_bald hΓ) (t := 19) (i := 19) (f := (m 19)) (FMi hF (t := 19) (by decide)) (fun _ _ _ => rfl) rfl hg52 dX8_taken_149 ?_
                  refine G_goto hΓ (tgt := 200) dX8_taken_150 (by decide) ?_
                  exact K43 _ hf
              · rw [if_pos hc55] at hf
                refine G_aload_n hΓ 1 dX8_taken_130 rfl ?_
                refine F_get hΓ (t := 18) (i := 0) (ci := 11) (C := RX8) (T := TX8) (N := 47) (fs8 (gl Γ) 0) (v := .ref (ya (gl Γ) 19 18)) (FMi hF (t := 18) (by decide)) (fun _ _ _ => rfl) rfl rfl rfl rfl inW8 24 (by decide) (TT_cons kw_904) rfl dX8_taken_131 ?_
                refine G_iload hΓ 0 dX8_taken_134 rfl ?_
                obtain ⟨hg54, hf⟩ := gd_some hf
                refine F_ald (G_iald hΓ) (t := 19) (i := 18) (f := (m 18)) (FMi hF (t := 19) (by decide)) (fun _ _ _ => rfl) rfl hg54 dX8_taken_136 ?_
                cases hf
                exact G_iret hΓ hE dX8_taken_137
            · rw [if_neg hc56] at hf
              refine G_iconst (v := 0) hΓ dX8_taken_124 (by decide) ?_
              cases hf
              exact G_iret hΓ hE dX8_taken_125
          have he := he39
          refine G_icmp_ne hΓ (tgt := 100) dX8_taken_93 (by decide) (fun hc38 => ?_) (fun hc38 => ?_)
          · rw [if_neg hc38] at he
            refine G_iload_n hΓ 4 dX8_taken_100 rfl ?_
            refine G_if_lt hΓ (tgt := 109) dX8_taken_101 (by decide) (fun hc37 => ?_) (fun hc37 => ?_)
            · rw [if_pos hc37] at he
              refine G_iconst (v := 2) hΓ dX8_taken_109 (by decide) ?_
              refine G_goto hΓ (tgt := 114) dX8_taken_110 (by decide) ?_
              subst he
              exact K35
            · rw [if_neg hc37] at he
              refine G_iload_n hΓ 4 dX8_taken_104 rfl ?_
              refine G_iconst (v := 4) hΓ dX8_taken_105 (by decide) ?_
              refine G_icmp_le hΓ (tgt := 113) dX8_taken_106 (by decide) (fun hc36 => ?_) (fun hc36 => ?_)
              · rw [if_pos hc36] at he
                refine G_iconst (v := 0) hΓ dX8_taken_113 (by decide) ?_
                subst he
                exact K35
              · rw [if_neg hc36] at he
                refine G_iconst (v := 2) hΓ dX8_taken_109 (by decide) ?_
                refine G_goto hΓ (tgt := 114) dX8_taken_110 (by decide) ?_
                subst he
                exact K35
          · rw [if_pos hc38] at he
            refine G_iconst (v := 1) hΓ dX8_taken_96 (by decide) ?_
            refine G_goto hΓ (tgt := 114) dX8_taken_97 (by decide) ?_
            subst he
            exact K35
        · rw [if_pos hc68] at hf
          refine G_iconst (v := 0) hΓ dX8_taken_35 (by decide) ?_
          refine G_istore hΓ [(4, .int 0), (0, .ref (ya (gl Γ) 18 0)), (1, .int p1), (2, .int p2), (3, .int p3)] dX8_taken_36 (by decide) rfl ?_
          refine G_iconst (v := 0) hΓ dX8_taken_38 (by decide) ?_
          refine G_istore hΓ [(5, .int 0), (4, .int 0), (0, .ref (ya (gl Γ) 18 0)), (1, .int p1), (2, .int p2), (3, .int p3)] dX8_taken_39 (by decide) rfl ?_
          obtain ⟨k59, hk_k59, hf⟩ := jn_eq hf
          try dsimp only at hf
          have K60 : ∀ v57 v58, k59 (v57, v58) = some (v', r9) → GG Γ (0, 0) (qM σ (upd v 0 x3) m) 78 [(5, .int v57), (4, .int v58), (0, .ref (ya (gl Γ) 18 0)), (1, .int p1), (2, .int p2), (3, .int p3)] [] := by
            intro v57 v58 hf
            subst hk_k59
            try dsimp only at hf
            refine G_iload hΓ 1 dX8_taken_78 rfl ?_
            cases hf
            exact G_iret hΓ hE dX8_taken_80
          clear hk_k59
          have loop67 : ∀ (nn : Nat) v57 v58, L_X8_taken_41 v m p1 k59 nn v57 v58 = some (v', r9) → GG Γ (0, 0) (qM σ (upd v 0 x3) m) 41 [(5, .int v57), (4, .int v58), (0, .ref (ya (gl Γ) 18 0)), (1, .int p1), (2, .int p2), (3, .int p3)] [] := by
            intro nn
            induction nn with
            | zero => intro v57 v58 hf; cases hf
            | succ nn ih =>
              intro v57 v58 hf
              rw [L_X8_taken_41] at hf
              refine G_iload hΓ 0 dX8_taken_41 rfl ?_
              refine G_aload_n hΓ 2 dX8_taken_43 rfl ?_
              refine F_get hΓ (t := 18) (i := 0) (ci := 11) (C := RX8) (T := TX8) (N := 47) (fs8 (gl Γ) 0) (v := .int (v 22)) (FMi hF (t := 18) (by decide)) (fun _ _ _ => rfl) rfl rfl rfl rfl inW8 22 (by decide) (TT_cons kw_902) rfl dX8_taken_44 ?_
              refine G_icmp_ge hΓ (tgt := 78) dX8_taken_47 (by decide) (fun hc66 => ?_) (fun hc66 => ?_)
              · rw [if_pos hc66] at hf
                exact (K60 _ _ hf)
              · rw [if_neg hc66] at hf
                refine G_aload_n hΓ 2 dX8_taken_50 rfl ?_
                refine F_get hΓ (t := 18) (i := 0) (ci := 11) (C := RX8) (T := TX8) (N := 47) (fs8 (gl Γ) 0) (v := .ref (ya (gl Γ) 19 17)) (FMi hF (t := 18) (by decide)) (fun _ _ _ => rfl) rfl rfl rfl rfl inW8 23 (by decide) (TT_cons kw_903) rfl dX8_taken_51 ?_
                refine G_iload hΓ 0 dX8_taken_54 rfl ?_
                obtain ⟨hg61, hf⟩ := gd_some hf
                refine F_ald (G_iald hΓ) (t := 19) (i := 17) (f := (m 17)) (FMi hF (t := 19) (by decide)) (fun _ _ _ => rfl) rfl hg61 dX8_taken_56 ?_
                refine G_iload_n hΓ 3 dX8_taken_57 rfl ?_
                obtain ⟨x62, he65, hf⟩ := lt_eq hf
                have K63 : GG Γ (0, 0) (qM σ (upd v 0 x3) m) 70 [(5, .int v57), (4, .int v58), (0, .ref (ya (gl Γ) 18 0)), (1, .int p1), (2, .int p2), (3, .int p3)] [.int x62] := by
                  refine G_istore hΓ [(4, .int x62), (5, .int v57), (0, .ref (ya (gl Γ) 18 0)), (1, .int p1), (2, .int p2), (3, .int p3)] dX8_taken_70 (by decide) rfl ?_
                  refine G_iinc hΓ 1 [(5, .int (v57 + 1)), (4, .int x62), (0, .ref (ya (gl Γ) 18 0)), (1, .int p1), (2, .int p2), (3, .int p3)] dX8_taken_72 rfl rfl (by decide) rfl ?_
                  refine G_goto hΓ (tgt := 41) dX8_taken_75 (by decide) ?_
                  exact (ih _ _ hf)
                have he := he65
                refine G_icmp_ne hΓ (tgt := 68) dX8_taken_58 (by decide) (fun hc64 => ?_) (fun hc64 => ?_)
                · rw [if_neg hc64] at he
                  refine G_iload hΓ 1 dX8_taken_68 rfl ?_
                  subst he
                  exact K63
                · rw [if_pos hc64] at he
                  refine G_iload hΓ 1 dX8_taken_61 rfl ?_
                  refine G_iconst (v := 1) hΓ dX8_taken_63 (by decide) ?_
                  refine G_iadd hΓ dX8_taken_64 ?_
                  refine G_goto hΓ (tgt := 70) dX8_taken_65 (by decide) ?_
                  subst he
                  exact K63
          exact loop67 _ _ _ hf
    · rw [if_neg hc70] at hf
      refine G_iconst (v := 0) hΓ dX8_taken_24 (by decide) ?_
      cases hf
      exact G_iret hΓ hE dX8_taken_25
  have he := he6
  refine G_if_eq hΓ (tgt := 13) dX8_taken_6 (by decide) (fun hc5 => ?_) (fun hc5 => ?_)
  · rw [if_pos hc5] at he
    refine G_iconst (v := 0) hΓ dX8_taken_13 (by decide) ?_
    subst he
    exact K4
  · rw [if_neg hc5] at he
    refine G_iconst (v := 1) hΓ dX8_taken_9 (by decide) ?_
    refine G_goto hΓ (tgt := 14) dX8_taken_10 (by decide) ?_
    subst he
    exact K4
theorem dX8_takenOctet_0 : decode cX8_takenOctet 0 = .ok (.aload_n 0, 1) := by decide +kernel
theorem dX8_takenOctet_1 : decode cX8_takenOctet 1 = .ok (.iload_n 1, 1) := by decide +kernel
theorem dX8_takenOctet_2 : decode cX8_takenOctet 2 = .ok (.invokevirtual 132, 3) := by decide +kernel
theorem dX8_takenOctet_5 : decode cX8_takenOctet 5 = .ok (.ifCond .eq 7, 3) := by decide +kernel
theorem dX8_takenOctet_8 : decode cX8_takenOctet 8 = .ok (.iconst (-1), 1) := by decide +kernel
theorem dX8_takenOctet_9 : decode cX8_takenOctet 9 = .ok (.goto 9, 3) := by decide +kernel
theorem dX8_takenOctet_12 : decode cX8_takenOctet 12 = .ok (.aload_n 0, 1) := by decide +kernel
theorem dX8_takenOctet_13 : decode cX8_takenOctet 13 = .ok (.iload_n 1, 1) := by decide +kernel
theorem dX8_takenOctet_14 : decode cX8_takenOctet 14 = .ok (.iload_n 2, 1) := by decide +kernel
theorem dX8_takenOctet_15 : decode cX8_takenOctet 15 = .ok (.invokevirtual 266, 3) := by decide +kernel
theorem dX8_takenOctet_18 : decode cX8_takenOctet 18 = .ok (.istore 4, 2) := by decide +kernel
theorem dX8_takenOctet_20 : decode cX8_takenOctet 20 = .ok (.aload_n 0, 1) := by decide +kernel
theorem dX8_takenOctet_21 : decode cX8_takenOctet 21 = .ok (.iload 4, 2) := by decide +kernel
theorem dX8_takenOctet_23 : decode cX8_takenOctet 23 = .ok (.iconst (-1), 1) := by decide +kernel
theorem dX8_takenOctet_24 : decode cX8_takenOctet 24 = .ok (.if_icmp .eq 7, 3) := by decide +kernel
theorem dX8_takenOctet_27 : decode cX8_takenOctet 27 = .ok (.iload_n 3, 1) := by decide +kernel
theorem dX8_takenOctet_28 : decode cX8_takenOctet 28 = .ok (.ifCond .ge 7, 3) := by decide +kernel
theorem dX8_takenOctet_31 : decode cX8_takenOctet 31 = .ok (.iconst 1, 1) := by decide +kernel
theorem dX8_takenOctet_32 : decode cX8_takenOctet 32 = .ok (.goto 29, 3) := by decide +kernel
theorem dX8_takenOctet_35 : decode cX8_takenOctet 35 = .ok (.iload_n 3, 1) := by decide +kernel
theorem dX8_takenOctet_36 : decode cX8_takenOctet 36 = .ok (.aload_n 0, 1) := by decide +kernel
theorem dX8_takenOctet_37 : decode cX8_takenOctet 37 = .ok (.getfield 75, 3) := by decide +kernel
theorem dX8_takenOctet_40 : decode cX8_takenOctet 40 = .ok (.iload 4, 2) := by decide +kernel
theorem dX8_takenOctet_42 : decode cX8_takenOctet 42 = .ok (.baload, 1) := by decide +kernel
theorem dX8_takenOctet_43 : decode cX8_takenOctet 43 = .ok (.aload_n 0, 1) := by decide +kernel
theorem dX8_takenOctet_44 : decode cX8_takenOctet 44 = .ok (.getfield 78, 3) := by decide +kernel
theorem dX8_takenOctet_47 : decode cX8_takenOctet 47 = .ok (.iload 4, 2) := by decide +kernel
theorem dX8_takenOctet_49 : decode cX8_takenOctet 49 = .ok (.baload, 1) := by decide +kernel
theorem dX8_takenOctet_50 : decode cX8_takenOctet 50 = .ok (.invokestatic 139, 3) := by decide +kernel
theorem dX8_takenOctet_53 : decode cX8_takenOctet 53 = .ok (.if_icmp .lt 7, 3) := by decide +kernel
theorem dX8_takenOctet_56 : decode cX8_takenOctet 56 = .ok (.iconst 1, 1) := by decide +kernel
theorem dX8_takenOctet_57 : decode cX8_takenOctet 57 = .ok (.goto 4, 3) := by decide +kernel
theorem dX8_takenOctet_60 : decode cX8_takenOctet 60 = .ok (.iconst 0, 1) := by decide +kernel
theorem dX8_takenOctet_61 : decode cX8_takenOctet 61 = .ok (.putfield 113, 3) := by decide +kernel
theorem dX8_takenOctet_64 : decode cX8_takenOctet 64 = .ok (.aload_n 0, 1) := by decide +kernel
theorem dX8_takenOctet_65 : decode cX8_takenOctet 65 = .ok (.getfield 113, 3) := by decide +kernel
theorem dX8_takenOctet_68 : decode cX8_takenOctet 68 = .ok (.ifCond .le 7, 3) := by decide +kernel
theorem dX8_takenOctet_71 : decode cX8_takenOctet 71 = .ok (.iconst 0, 1) := by decide +kernel
theorem dX8_takenOctet_72 : decode cX8_takenOctet 72 = .ok (.goto 19, 3) := by decide +kernel
theorem dX8_takenOctet_75 : decode cX8_takenOctet 75 = .ok (.aload_n 0, 1) := by decide +kernel
theorem dX8_takenOctet_76 : decode cX8_takenOctet 76 = .ok (.getfield 85, 3) := by decide +kernel
theorem dX8_takenOctet_79 : decode cX8_takenOctet 79 = .ok (.bipush 64, 2) := by decide +kernel
theorem dX8_takenOctet_81 : decode cX8_takenOctet 81 = .ok (.iload 4, 2) := by decide +kernel
theorem dX8_takenOctet_83 : decode cX8_takenOctet 83 = .ok (.imul, 1) := by decide +kernel
theorem dX8_takenOctet_84 : decode cX8_takenOctet 84 = .ok (.iload_n 3, 1) := by decide +kernel
theorem dX8_takenOctet_85 : decode cX8_takenOctet 85 = .ok (.iadd, 1) := by decide +kernel
theorem dX8_takenOctet_86 : decode cX8_takenOctet 86 = .ok (.baload, 1) := by decide +kernel
theorem dX8_takenOctet_87 : decode cX8_takenOctet 87 = .ok (.sipush 255, 3) := by decide +kernel
theorem dX8_takenOctet_90 : decode cX8_takenOctet 90 = .ok (.iand, 1) := by decide +kernel
theorem dX8_takenOctet_91 : decode cX8_takenOctet 91 = .ok (.ireturn, 1) := by decide +kernel
noncomputable def f_X8_takenOctet  (v : Nat → Int32) (m : Nat → Nat → Int32) (p1 : Int32) (p2 : Int32) (p3 : Int32) : Option ((Nat → Int32) × Int32) := bd (f_X8_noNode v p1) (fun u1 => jn (α := Int32) (fun x3 => jn (α := Int32) (fun x7 => jn (α := Int32) (fun x11 => some ((upd v 0 x7), x11)) (fun k13 => if x7 ≤ 0 then gd (vp_in ((64 * x3) + p3) 896000) (k13 (((m 22) (((64 * x3) + p3).toNatClampNeg)) &&& 255)) else k13 0)) (fun k9 => if x3 = (-1) then k9 1 else if 0 ≤ p3 then gd (vp_in x3 14000) (gd (vp_in x3 14000) (bd (f_X8_octetsOf ((m 19) x3.toNatClampNeg) ((m 20) x3.toNatClampNeg)) (fun u19 => if p3 < u19 then k9 0 else k9 1))) else k9 1)) (fun k5 => if u1 = 0 then bd (f_X8_took v m p1 p2) (fun u24 => k5 u24) else k5 (-1)))
set_option maxHeartbeats 4000000 in
set_option maxRecDepth 100000 in
theorem c_X8_takenOctet (l : Launch) (Λ : LY) (hF : FM Λ) (σ : CS)  (v : Nat → Int32) (m : Nat → Nat → Int32) (p1 : Int32) (p2 : Int32) (p3 : Int32)   {v' : Nat → Int32} {r9 : Int32} (hf : f_X8_takenOctet v m p1 p2 p3 = some (v', r9)) : CM l yX8_takenOctet (.code yX8_takenOctet cX8_takenOctet 5 (some .int) :: TT) ({ frames := 1, cells := 0, slots := 0, locals := 24 }) Λ [.ref (ya Λ 18 0), .int p1, .int p2, .int p3] (qM σ v m) (qM σ v' m) (some (.int r9)) := by
  refine CM_intro (own := RX8) (by decide) rfl (Nat.le_of_ble_eq_true rfl) ?_
  intro Γ hg hl hΓ hE
  subst hg; subst hl
  show GG Γ (0, 0) (qM σ v m) 0 [(0, .ref (ya (gl Γ) 18 0)), (1, .int p1), (2, .int p2), (3, .int p3)] []
  unfold f_X8_takenOctet at hf
  refine G_aload_n hΓ 0 dX8_takenOctet_0 rfl ?_
  refine G_iload_n hΓ 1 dX8_takenOctet_1 rfl ?_
  obtain ⟨u1, hc2, hf⟩ := bd_some hf
  refine G_callV hΓ (n := 1) (As := [.int p1]) (t := 18) (i := 0) (ci := 11) (T := TX8) (N := 47) (FS := fs8 (gl Γ) 0) (σ' := (qM σ v m)) (c_X8_noNode (gL Γ) (gl Γ) hF σ  v m p1  hc2) rfl rfl kw_1036 kw_1038 kp_29 kw_9 kw_1039 ⟨rfl, by decide, by decide, by decide +kernel⟩ (FMi hF (t := 18) (by decide)) (fun _ _ _ => rfl) rfl rfl rfl ⟨Nat.le_of_ble_eq_true rfl, Nat.le_of_ble_eq_true rfl⟩ rfl (Nat.le_of_ble_eq_true rfl) dX8_takenOctet_2 ⟨_, rfl⟩ rfl ?_
  obtain ⟨k5, hk_k5, hf⟩ := jn_eq hf
  try dsimp only at hf
  have K6 : ∀ x3, k5 x3 = some (v', r9) → GG Γ (0, 0) (qM σ v m) 18 [(0, .ref (ya (gl Γ) 18 0)), (1, .int p1), (2, .int p2), (3, .int p3)] [.int x3] := by
    intro x3 hf
    subst hk_k5
    try dsimp only at hf
    refine G_istore hΓ [(4, .int x3), (0, .ref (ya (gl Γ) 18 0)), (1, .int p1), (2, .int p2), (3, .int p3)] dX8_takenOctet_18 (by decide) rfl ?_
    refine G_aload_n hΓ 1 dX8_takenOctet_20 rfl ?_
    refine G_iload hΓ 0 dX8_takenOctet_21 rfl ?_
    refine G_iconst (v := (-1)) hΓ dX8_takenOctet_23 (by decide) ?_
    obtain ⟨k9, hk_k9, hf⟩ := jn_eq hf
    try dsimp only at hf
    have K10 : ∀ x7, (x7 = 0 ∨ x7 = 1) → k9 x7 = some (v', r9) → GG Γ (0, 0) (qM σ v m) 61 [(4, .int x3), (0, .ref (ya (gl Γ) 18 0)), (1, .int p1), (2, .int p2), (3, .int p3)] [.int x7, .ref (ya (gl Γ) 18 0)] := by
      intro x7 hb_x7 hf
      subst hk_k9
      try dsimp only at hf
      refine F_put hΓ (t := 18) (i := 0) (ci := 11) (C := RX8) (T := TX8) (N := 47) (fs8 (gl Γ) 0) (f := v) (f' := (upd v 0 x7)) (σ' := (qM σ (upd v 0 x7) m)) (ty := .int) (v := .int x7) tyX8 tyX8_ok nmX8 (FMi hF (t := 18) (by decide)) (fun _ _ _ => rfl) rfl qM_v rfl inW8 0 (by decide) (TT_cons kw_880) rfl (by decide +kernel) rfl rfl (fun _ _ => Nat.le_of_ble_eq_true rfl) (fun _ _ => rfl) dX8_takenOctet_61 ?_
      refine G_aload_n hΓ 1 dX8_takenOctet_64 rfl ?_
      refine F_get hΓ (t := 18) (i := 0) (ci := 11) (C := RX8) (T := TX8) (N := 47) (fs8 (gl Γ) 0) (v := .int x7) (FMi hF (t := 18) (by decide)) (fun _ _ _ => rfl) rfl rfl rfl rfl inW8 0 (by decide) (TT_cons kw_880) rfl dX8_takenOctet_65 ?_
      obtain ⟨k13, hk_k13, hf⟩ := jn_eq hf
      try dsimp only at hf
      have K14 : ∀ x11, k13 x11 = some (v', r9) → GG Γ (0, 0) (qM σ (upd v 0 x7) m) 91 [(4, .int x3), (0, .ref (ya (gl Γ) 18 0)), (1, .int p1), (2, .int p2), (3, .int p3)] [.int x11] := by
        intro x11 hf
        subst hk_k13
        try dsimp only at hf
        cases hf
        exact G_iret hΓ hE dX8_takenOctet_91
      clear hk_k13
      refine G_if_le hΓ (tgt := 75) dX8_takenOctet_68 (by decide) (fun hc16 => ?_) (fun hc16 => ?_)
      · rw [if_pos hc16] at hf
        refine G_aload_n hΓ 1 dX8_takenOctet_75 rfl ?_
        refine F_get hΓ (t := 18) (i := 0) (ci := 11) (C := RX8) (T := TX8) (N := 47) (fs8 (gl Γ) 0) (v := .ref (ya (gl Γ) 19 22)) (FMi hF (t := 18) (by decide)) (fun _ _ _ => rfl) rfl rfl rfl rfl inW8 28 (by decide) (TT_cons kw_908) rfl dX8_takenOctet_76 ?_
        refine G_bipush (v := 64) hΓ dX8_takenOctet_79 (by decide) ?_
        refine G_iload hΓ 0 dX8_takenOctet_81 rfl ?_
        refine G_imul hΓ dX8_takenOctet_83 ?_
        refine G_iload_n hΓ 4 dX8_takenOctet_84 rfl ?_
        refine G_iadd hΓ dX8_takenOctet_85 ?_
        obtain ⟨hg15, hf⟩ := gd_some hf
        refine F_ald (G_bald hΓ) (t := 19) (i := 22) (f := (m 22)) (FMi hF (t := 19) (by decide)) (fun _ _ _ => rfl) rfl hg15 dX8_takenOctet_86 ?_
        refine G_sipush (v := 255) hΓ dX8_takenOctet_87 (by decide) ?_
        refine G_iand hΓ dX8_takenOctet_90 ?_
        exact K14 _ hf
      · rw [if_neg hc16] at hf
        refine G_iconst (v := 0) hΓ dX8_takenOctet_71 (by decide) ?_
        refine G_goto hΓ (tgt := 91) dX8_takenOctet_72 (by decide) ?_
        exact K14 _ hf
    clear hk_k9
    refine G_icmp_eq hΓ (tgt := 31) dX8_takenOctet_24 (by decide) (fun hc23 => ?_) (fun hc23 => ?_)
    · rw [if_pos hc23] at hf
      refine G_iconst (v := 1) hΓ dX8_takenOctet_31 (by decide) ?_
      refine G_goto hΓ (tgt := 61) dX8_takenOctet_32 (by decide) ?_
      exact K10 _ (Or.inr rfl) hf
    · rw [if_neg hc23] at hf
      refine G_iload_n hΓ 4 dX8_takenOctet_27 rfl ?_
      refine G_if_ge hΓ (tgt := 35) dX8_takenOctet_28 (by decide) (fun hc22 => ?_) (fun hc22 => ?_)
      · rw [if_pos hc22] at hf
        refine G_iload_n hΓ 4 dX8_takenOctet_35 rfl ?_
        refine G_aload_n hΓ 1 dX8_takenOctet_36 rfl ?_
        refine F_get hΓ (t := 18) (i := 0) (ci := 11) (C := RX8) (T := TX8) (N := 47) (fs8 (gl Γ) 0) (v := .ref (ya (gl Γ) 19 19)) (FMi hF (t := 18) (by decide)) (fun _ _ _ => rfl) rfl rfl rfl rfl inW8 25 (by decide) (TT_cons kw_905) rfl dX8_takenOctet_37 ?_
        refine G_iload hΓ 0 dX8_takenOctet_40 rfl ?_
        obtain ⟨hg17, hf⟩ := gd_some hf
        refine F_ald (G_bald hΓ) (t := 19) (i := 19) (f := (m 19)) (FMi hF (t := 19) (by decide)) (fun _ _ _ => rfl) rfl hg17 dX8_takenOctet_42 ?_
        refine G_aload_n hΓ 1 dX8_takenOctet_43 rfl ?_
        refine F_get hΓ (t := 18) (i := 0) (ci := 11) (C := RX8) (T := TX8) (N := 47) (fs8 (gl Γ) 0) (v := .ref (ya (gl Γ) 19 20)) (FMi hF (t := 18) (by decide)) (fun _ _ _ => rfl) rfl rfl rfl rfl inW8 26 (by decide) (TT_cons kw_906) rfl dX8_takenOctet_44 ?_
        refine G_iload hΓ 0 dX8_takenOctet_47 rfl ?_
        obtain ⟨hg18, hf⟩ := gd_some hf
        refine F_ald (G_bald hΓ) (t := 19) (i := 20) (f := (m 20)) (FMi hF (t := 19) (by decide)) (fun _ _ _ => rfl) rfl hg18 dX8_takenOctet_49 ?_
        obtain ⟨u19, hc20, hf⟩ := bd_some hf
        refine G_callS hΓ (n := 2) (As := [.int ((m 19) x3.toNatClampNeg), .int ((m 20) x3.toNatClampNeg)]) (σ' := (qM σ v m)) (c_X8_octetsOf (gL Γ) (gl Γ) hF (qM σ v m)   ((m 19) x3.toNatClampNeg) ((m 20) x3.toNatClampNeg)  hc20) rfl rfl kw_1048 kw_1049 kw_9 kw_1050 ⟨by decide, by decide, by decide +kernel⟩ rfl rfl ⟨Nat.le_of_ble_eq_true rfl, Nat.le_of_ble_eq_true rfl⟩ rfl (Nat.le_of_ble_eq_true rfl) dX8_takenOctet_50 ⟨_, rfl⟩ rfl ?_
        refine G_icmp_lt hΓ (tgt := 60) dX8_takenOctet_53 (by decide) (fun hc21 => ?_) (fun hc21 => ?_)
        · rw [if_pos hc21] at hf
          refine G_iconst (v := 0) hΓ dX8_takenOctet_60 (by decide) ?_
          exact K10 _ (Or.inl rfl) hf
        · rw [if_neg hc21] at hf
          refine G_iconst (v := 1) hΓ dX8_takenOctet_56 (by decide) ?_
          refine G_goto hΓ (tgt := 61) dX8_takenOctet_57 (by decide) ?_
          exact K10 _ (Or.inr rfl) hf
      · rw [if_neg hc22] at hf
        refine G_iconst (v := 1) hΓ dX8_takenOctet_31 (by decide) ?_
        refine G_goto hΓ (tgt := 61) dX8_takenOctet_32 (by decide) ?_
        exact K10 _ (Or.inr rfl) hf
  clear hk_k5
  refine G_if_eq hΓ (tgt := 12) dX8_takenOctet_5 (by decide) (fun hc26 => ?_) (fun hc26 => ?_)
  · rw [if_pos hc26] at hf
    refine G_aload_n hΓ 0 dX8_takenOctet_12 rfl ?_
    refine G_iload_n hΓ 1 dX8_takenOctet_13 rfl ?_
    refine G_iload_n hΓ 2 dX8_takenOctet_14 rfl ?_
    obtain ⟨u24, hc25, hf⟩ := bd_some hf
    refine G_callV hΓ (n := 2) (As := [.int p1, .int p2]) (t := 18) (i := 0) (ci := 11) (T := TX8) (N := 47) (FS := fs8 (gl Γ) 0) (σ' := (qM σ v m)) (c_X8_took (gL Γ) (gl Γ) hF σ  v m p1 p2  hc25) rfl rfl kw_1209 kw_1211 kp_57 kw_9 kw_1212 ⟨rfl, by decide, by decide, by decide +kernel⟩ (FMi hF (t := 18) (by decide)) (fun _ _ _ => rfl) rfl rfl rfl ⟨Nat.le_of_ble_eq_true rfl, Nat.le_of_ble_eq_true rfl⟩ rfl (Nat.le_of_ble_eq_true rfl) dX8_takenOctet_15 ⟨_, rfl⟩ rfl ?_
    exact K6 _ hf
  · rw [if_neg hc26] at hf
    refine G_iconst (v := (-1)) hΓ dX8_takenOctet_8 (by decide) ?_
    refine G_goto hΓ (tgt := 18) dX8_takenOctet_9 (by decide) ?_
    exact K6 _ hf
theorem dX8_error_0 : decode cX8_error 0 = .ok (.aload_n 0, 1) := by decide +kernel
theorem dX8_error_1 : decode cX8_error 1 = .ok (.iconst 0, 1) := by decide +kernel
theorem dX8_error_2 : decode cX8_error 2 = .ok (.putfield 113, 3) := by decide +kernel
theorem dX8_error_5 : decode cX8_error 5 = .ok (.iload_n 1, 1) := by decide +kernel
theorem dX8_error_6 : decode cX8_error 6 = .ok (.iconst (-1), 1) := by decide +kernel
theorem dX8_error_7 : decode cX8_error 7 = .ok (.if_icmp .ne 12, 3) := by decide +kernel
theorem dX8_error_10 : decode cX8_error 10 = .ok (.iload_n 2, 1) := by decide +kernel
theorem dX8_error_11 : decode cX8_error 11 = .ok (.ifCond .ne 8, 3) := by decide +kernel
theorem dX8_error_14 : decode cX8_error 14 = .ok (.aload_n 0, 1) := by decide +kernel
theorem dX8_error_15 : decode cX8_error 15 = .ok (.getfield 128, 3) := by decide +kernel
theorem dX8_error_18 : decode cX8_error 18 = .ok (.ireturn, 1) := by decide +kernel
theorem dX8_error_19 : decode cX8_error 19 = .ok (.aload_n 0, 1) := by decide +kernel
theorem dX8_error_20 : decode cX8_error 20 = .ok (.iload_n 1, 1) := by decide +kernel
theorem dX8_error_21 : decode cX8_error 21 = .ok (.ifCond .lt 11, 3) := by decide +kernel
theorem dX8_error_24 : decode cX8_error 24 = .ok (.iload_n 1, 1) := by decide +kernel
theorem dX8_error_25 : decode cX8_error 25 = .ok (.aload_n 0, 1) := by decide +kernel
theorem dX8_error_26 : decode cX8_error 26 = .ok (.getfield 128, 3) := by decide +kernel
theorem dX8_error_29 : decode cX8_error 29 = .ok (.if_icmp .lt 7, 3) := by decide +kernel
theorem dX8_error_32 : decode cX8_error 32 = .ok (.iconst 1, 1) := by decide +kernel
theorem dX8_error_33 : decode cX8_error 33 = .ok (.goto 17, 3) := by decide +kernel
theorem dX8_error_36 : decode cX8_error 36 = .ok (.iload_n 2, 1) := by decide +kernel
theorem dX8_error_37 : decode cX8_error 37 = .ok (.ifCond .lt 8, 3) := by decide +kernel
theorem dX8_error_40 : decode cX8_error 40 = .ok (.iload_n 2, 1) := by decide +kernel
theorem dX8_error_41 : decode cX8_error 41 = .ok (.iconst 2, 1) := by decide +kernel
theorem dX8_error_42 : decode cX8_error 42 = .ok (.if_icmp .le 7, 3) := by decide +kernel
theorem dX8_error_45 : decode cX8_error 45 = .ok (.iconst 2, 1) := by decide +kernel
theorem dX8_error_46 : decode cX8_error 46 = .ok (.goto 4, 3) := by decide +kernel
theorem dX8_error_49 : decode cX8_error 49 = .ok (.iconst 0, 1) := by decide +kernel
theorem dX8_error_50 : decode cX8_error 50 = .ok (.putfield 113, 3) := by decide +kernel
theorem dX8_error_53 : decode cX8_error 53 = .ok (.aload_n 0, 1) := by decide +kernel
theorem dX8_error_54 : decode cX8_error 54 = .ok (.getfield 113, 3) := by decide +kernel
theorem dX8_error_57 : decode cX8_error 57 = .ok (.ifCond .le 5, 3) := by decide +kernel
theorem dX8_error_60 : decode cX8_error 60 = .ok (.iconst 0, 1) := by decide +kernel
theorem dX8_error_61 : decode cX8_error 61 = .ok (.ireturn, 1) := by decide +kernel
theorem dX8_error_62 : decode cX8_error 62 = .ok (.iload_n 2, 1) := by decide +kernel
theorem dX8_error_63 : decode cX8_error 63 = .ok (.ifCond .ne 12, 3) := by decide +kernel
theorem dX8_error_66 : decode cX8_error 66 = .ok (.aload_n 0, 1) := by decide +kernel
theorem dX8_error_67 : decode cX8_error 67 = .ok (.getfield 89, 3) := by decide +kernel
theorem dX8_error_70 : decode cX8_error 70 = .ok (.iload_n 1, 1) := by decide +kernel
theorem dX8_error_71 : decode cX8_error 71 = .ok (.baload, 1) := by decide +kernel
theorem dX8_error_72 : decode cX8_error 72 = .ok (.goto 23, 3) := by decide +kernel
theorem dX8_error_75 : decode cX8_error 75 = .ok (.iload_n 2, 1) := by decide +kernel
theorem dX8_error_76 : decode cX8_error 76 = .ok (.iconst 1, 1) := by decide +kernel
theorem dX8_error_77 : decode cX8_error 77 = .ok (.if_icmp .ne 12, 3) := by decide +kernel
theorem dX8_error_80 : decode cX8_error 80 = .ok (.aload_n 0, 1) := by decide +kernel
theorem dX8_error_81 : decode cX8_error 81 = .ok (.getfield 92, 3) := by decide +kernel
theorem dX8_error_84 : decode cX8_error 84 = .ok (.iload_n 1, 1) := by decide +kernel
theorem dX8_error_85 : decode cX8_error 85 = .ok (.baload, 1) := by decide +kernel
theorem dX8_error_86 : decode cX8_error 86 = .ok (.goto 9, 3) := by decide +kernel
theorem dX8_error_89 : decode cX8_error 89 = .ok (.aload_n 0, 1) := by decide +kernel
theorem dX8_error_90 : decode cX8_error 90 = .ok (.getfield 95, 3) := by decide +kernel
theorem dX8_error_93 : decode cX8_error 93 = .ok (.iload_n 1, 1) := by decide +kernel
theorem dX8_error_94 : decode cX8_error 94 = .ok (.iaload, 1) := by decide +kernel
theorem dX8_error_95 : decode cX8_error 95 = .ok (.ireturn, 1) := by decide +kernel
noncomputable def f_X8_error  (v : Nat → Int32) (m : Nat → Nat → Int32) (p1 : Int32) (p2 : Int32) : Option ((Nat → Int32) × Int32) := if p1 = (-1) then if p2 = 0 then some ((upd v 0 0), v 29) else lt (α := Int32) (if p1 < 0 then 1 else if p1 < (v 29) then if p2 < 0 then 2 else if p2 ≤ 2 then 0 else 2 else 1) (fun x18 => if x18 ≤ 0 then jn (α := Int32) (fun x25 => some ((upd (upd v 0 0) 0 x18), x25)) (fun k27 => if p2 = 0 then gd (vp_in p1 92000) (k27 ((m 23) p1.toNatClampNeg)) else if p2 = 1 then gd (vp_in p1 92000) (k27 ((m 24) p1.toNatClampNeg)) else gd (vp_in p1 92000) (k27 ((m 25) p1.toNatClampNeg))) else some ((upd (upd v 0 0) 0 x18), 0)) else lt (α := Int32) (if p1 < 0 then 1 else if p1 < (v 29) then if p2 < 0 then 2 else if p2 ≤ 2 then 0 else 2 else 1) (fun x1 => if x1 ≤ 0 then jn (α := Int32) (fun x8 => some ((upd (upd v 0 0) 0 x1), x8)) (fun k10 => if p2 = 0 then gd (vp_in p1 92000) (k10 ((m 23) p1.toNatClampNeg)) else if p2 = 1 then gd (vp_in p1 92000) (k10 ((m 24) p1.toNatClampNeg)) else gd (vp_in p1 92000) (k10 ((m 25) p1.toNatClampNeg))) else some ((upd (upd v 0 0) 0 x1), 0))
set_option maxHeartbeats 4000000 in
set_option maxRecDepth 100000 in
theorem c_X8_error (l : Launch) (Λ : LY) (hF : FM Λ) (σ : CS)  (v : Nat → Int32) (m : Nat → Nat → Int32) (p1 : Int32) (p2 : Int32)   {v' : Nat → Int32} {r9 : Int32} (hf : f_X8_error v m p1 p2 = some (v', r9)) : CM l yX8_error (.code yX8_error cX8_error 3 (some .int) :: TT) ({ frames := 0, cells := 0, slots := 0, locals := 0 }) Λ [.ref (ya Λ 18 0), .int p1, .int p2] (qM σ v m) (qM σ v' m) (some (.int r9)) := by
  refine CM_intro (own := RX8) (by decide) rfl (Nat.le_of_ble_eq_true rfl) ?_
  intro Γ hg hl hΓ hE
  subst hg; subst hl
  show GG Γ (0, 0) (qM σ v m) 0 [(0, .ref (ya (gl Γ) 18 0)), (1, .int p1), (2, .int p2)] []
  unfold f_X8_error at hf
  refine G_aload_n hΓ 0 dX8_error_0 rfl ?_
  refine G_iconst (v := 0) hΓ dX8_error_1 (by decide) ?_
  refine F_put hΓ (t := 18) (i := 0) (ci := 11) (C := RX8) (T := TX8) (N := 47) (fs8 (gl Γ) 0) (f := v) (f' := (upd v 0 0)) (σ' := (qM σ (upd v 0 0) m)) (ty := .int) (v := .int 0) tyX8 tyX8_ok nmX8 (FMi hF (t := 18) (by decide)) (fun _ _ _ => rfl) rfl qM_v rfl inW8 0 (by decide) (TT_cons kw_880) rfl (by decide +kernel) rfl rfl (fun _ _ => Nat.le_of_ble_eq_true rfl) (fun _ _ => rfl) dX8_error_2 ?_
  refine G_iload_n hΓ 1 dX8_error_5 rfl ?_
  refine G_iconst (v := (-1)) hΓ dX8_error_6 (by decide) ?_
  refine G_icmp_ne hΓ (tgt := 19) dX8_error_7 (by decide) (fun hc36 => ?_) (fun hc36 => ?_)
  · rw [if_neg hc36] at hf
    refine G_aload_n hΓ 0 dX8_error_19 rfl ?_
    refine G_iload_n hΓ 1 dX8_error_20 rfl ?_
    obtain ⟨x1, he7, hf⟩ := lt_eq hf
    have K2 : GG Γ (0, 0) (qM σ (upd v 0 0) m) 50 [(0, .ref (ya (gl Γ) 18 0)), (1, .int p1), (2, .int p2)] [.int x1, .ref (ya (gl Γ) 18 0)] := by
      refine F_put hΓ (t := 18) (i := 0) (ci := 11) (C := RX8) (T := TX8) (N := 47) (fs8 (gl Γ) 0) (f := (upd v 0 0)) (f' := (upd (upd v 0 0) 0 x1)) (σ' := (qM σ (upd (upd v 0 0) 0 x1) m)) (ty := .int) (v := .int x1) tyX8 tyX8_ok nmX8 (FMi hF (t := 18) (by decide)) (fun _ _ _ => rfl) rfl qM_v rfl inW8 0 (by decide) (TT_cons kw_880) rfl (by decide +kernel) rfl rfl (fun _ _ => Nat.le_of_ble_eq_true rfl) (fun _ _ => rfl) dX8_error_50 ?_
      refine G_aload_n hΓ 0 dX8_error_53 rfl ?_
      refine F_get hΓ (t := 18) (i := 0) (ci := 11) (C := RX8) (T := TX8) (N := 47) (fs8 (gl Γ) 0) (v := .int x1) (FMi hF (t := 18) (by decide)) (fun _ _ _ => rfl) rfl rfl rfl rfl inW8 0 (by decide) (TT_cons kw_880) rfl dX8_error_54 ?_
      refine G_if_le hΓ (tgt := 62) dX8_error_57 (by decide) (fun hc17 => ?_) (fun hc17 => ?_)
      · rw [if_pos hc17] at hf
        refine G_iload_n hΓ 2 dX8_error_62 rfl ?_
        obtain ⟨k10, hk_k10, hf⟩ := jn_eq hf
        try dsimp only at hf
        have K11 : ∀ x8, k10 x8 = some (v', r9) → GG Γ (0, 0) (qM σ (upd (upd v 0 0) 0 x1) m) 95 [(0, .ref (ya (gl Γ) 18 0)), (1, .int p1), (2, .int p2)] [.int x8] := by
          intro x8 hf
          subst hk_k10
          try dsimp only at hf
          cases hf
          exact G_iret hΓ hE dX8_error_95
        clear hk_k10
        refine G_if_ne hΓ (tgt := 75) dX8_error_63 (by decide) (fun hc16 => ?_) (fun hc16 => ?_)
        · rw [if_neg hc16] at hf
          refine G_iload_n hΓ 2 dX8_error_75 rfl ?_
          refine G_iconst (v := 1) hΓ dX8_error_76 (by decide) ?_
          refine G_icmp_ne hΓ (tgt := 89) dX8_error_77 (by decide) (fun hc14 => ?_) (fun hc14 => ?_)
          · rw [if_neg hc14] at hf
            refine G_aload_n hΓ 0 dX8_error_89 rfl ?_
            refine F_get hΓ (t := 18) (i := 0) (ci := 11) (C := RX8) (T := TX8) (N := 47) (fs8 (gl Γ) 0) (v := .ref (ya (gl Γ) 19 25)) (FMi hF (t := 18) (by decide)) (fun _ _ _ => rfl) rfl rfl rfl rfl inW8 32 (by decide) (TT_cons kw_912) rfl dX8_error_90 ?_
            refine G_iload_n hΓ 1 dX8_error_93 rfl ?_
            obtain ⟨hg12, hf⟩ := gd_some hf
            refine F_ald (G_iald hΓ) (t := 19) (i := 25) (f := (m 25)) (FMi hF (t := 19) (by decide)) (fun _ _ _ => rfl) rfl hg12 dX8_error_94 ?_
            exact K11 _ hf
          · rw [if_pos hc14] at hf
            refine G_aload_n hΓ 0 dX8_error_80 rfl ?_
            refine F_get hΓ (t := 18) (i := 0) (ci := 11) (C := RX8) (T := TX8) (N := 47) (fs8 (gl Γ) 0) (v := .ref (ya (gl Γ) 19 24)) (FMi hF (t := 18) (by decide)) (fun _ _ _ => rfl) rfl rfl rfl rfl inW8 31 (by decide) (TT_cons kw_911) rfl dX8_error_81 ?_
            refine G_iload_n hΓ 1 dX8_error_84 rfl ?_
            obtain ⟨hg13, hf⟩ := gd_some hf
            refine F_ald (G_bald hΓ) (t := 19) (i := 24) (f := (m 24)) (FMi hF (t := 19) (by decide)) (fun _ _ _ => rfl) rfl hg13 dX8_error_85 ?_
            refine G_goto hΓ (tgt := 95) dX8_error_86 (by decide) ?_
            exact K11 _ hf
        · rw [if_pos hc16] at hf
          refine G_aload_n hΓ 0 dX8_error_66 rfl ?_
          refine F_get hΓ (t := 18) (i := 0) (ci := 11) (C := RX8) (T := TX8) (N := 47) (fs8 (gl Γ) 0) (v := .ref (ya (gl Γ) 19 23)) (FMi hF (t := 18) (by decide)) (fun _ _ _ => rfl) rfl rfl rfl rfl inW8 30 (by decide) (TT_cons kw_910) rfl dX8_error_67 ?_
          refine G_iload_n hΓ 1 dX8_error_70 rfl ?_
          obtain ⟨hg15, hf⟩ := gd_some hf
          refine F_ald (G_bald hΓ) (t := 19) (i := 23) (f := (m 23)) (FMi hF (t := 19) (by decide)) (fun _ _ _ => rfl) rfl hg15 dX8_error_71 ?_
          refine G_goto hΓ (tgt := 95) dX8_error_72 (by decide) ?_
          exact K11 _ hf
      · rw [if_neg hc17] at hf
        refine G_iconst (v := 0) hΓ dX8_error_60 (by decide) ?_
        cases hf
        exact G_iret hΓ hE dX8_error_61
    have he := he7
    refine G_if_lt hΓ (tgt := 32) dX8_error_21 (by decide) (fun hc6 => ?_) (fun hc6 => ?_)
    · rw [if_pos hc6] at he
      refine G_iconst (v := 1) hΓ dX8_error_32 (by decide) ?_
      refine G_goto hΓ (tgt := 50) dX8_error_33 (by decide) ?_
      subst he
      exact K2
    · rw [if_neg hc6] at he
      refine G_iload_n hΓ 1 dX8_error_24 rfl ?_
      refine G_aload_n hΓ 0 dX8_error_25 rfl ?_
      refine F_get hΓ (t := 18) (i := 0) (ci := 11) (C := RX8) (T := TX8) (N := 47) (fs8 (gl Γ) 0) (v := .int (v 29)) (FMi hF (t := 18) (by decide)) (fun _ _ _ => rfl) rfl rfl rfl rfl inW8 29 (by decide) (TT_cons kw_909) rfl dX8_error_26 ?_
      refine G_icmp_lt hΓ (tgt := 36) dX8_error_29 (by decide) (fun hc5 => ?_) (fun hc5 => ?_)
      · rw [if_pos hc5] at he
        refine G_iload_n hΓ 2 dX8_error_36 rfl ?_
        refine G_if_lt hΓ (tgt := 45) dX8_error_37 (by decide) (fun hc4 => ?_) (fun hc4 => ?_)
        · rw [if_pos hc4] at he
          refine G_iconst (v := 2) hΓ dX8_error_45 (by decide) ?_
          refine G_goto hΓ (tgt := 50) dX8_error_46 (by decide) ?_
          subst he
          exact K2
        · rw [if_neg hc4] at he
          refine G_iload_n hΓ 2 dX8_error_40 rfl ?_
          refine G_iconst (v := 2) hΓ dX8_error_41 (by decide) ?_
          refine G_icmp_le hΓ (tgt := 49) dX8_error_42 (by decide) (fun hc3 => ?_) (fun hc3 => ?_)
          · rw [if_pos hc3] at he
            refine G_iconst (v := 0) hΓ dX8_error_49 (by decide) ?_
            subst he
            exact K2
          · rw [if_neg hc3] at he
            refine G_iconst (v := 2) hΓ dX8_error_45 (by decide) ?_
            refine G_goto hΓ (tgt := 50) dX8_error_46 (by decide) ?_
            subst he
            exact K2
      · rw [if_neg hc5] at he
        refine G_iconst (v := 1) hΓ dX8_error_32 (by decide) ?_
        refine G_goto hΓ (tgt := 50) dX8_error_33 (by decide) ?_
        subst he
        exact K2
  · rw [if_pos hc36] at hf
    refine G_iload_n hΓ 2 dX8_error_10 rfl ?_
    refine G_if_ne hΓ (tgt := 19) dX8_error_11 (by decide) (fun hc35 => ?_) (fun hc35 => ?_)
    · rw [if_neg hc35] at hf
      refine G_aload_n hΓ 0 dX8_error_19 rfl ?_
      refine G_iload_n hΓ 1 dX8_error_20 rfl ?_
      obtain ⟨x18, he24, hf⟩ := lt_eq hf
      have K19 : GG Γ (0, 0) (qM σ (upd v 0 0) m) 50 [(0, .ref (ya (gl Γ) 18 0)), (1, .int p1), (2, .int p2)] [.int x18, .ref (ya (gl Γ) 18 0)] := by
        refine F_put hΓ (t := 18) (i := 0) (ci := 11) (C := RX8) (T := TX8) (N := 47) (fs8 (gl Γ) 0) (f := (upd v 0 0)) (f' := (upd (upd v 0 0) 0 x18)) (σ' := (qM σ (upd (upd v 0 0) 0 x18) m)) (ty := .int) (v := .int x18) tyX8 tyX8_ok nmX8 (FMi hF (t := 18) (by decide)) (fun _ _ _ => rfl) rfl qM_v rfl inW8 0 (by decide) (TT_cons kw_880) rfl (by decide +kernel) rfl rfl (fun _ _ => Nat.le_of_ble_eq_true rfl) (fun _ _ => rfl) dX8_error_50 ?_
        refine G_aload_n hΓ 0 dX8_error_53 rfl ?_
        refine F_get hΓ (t := 18) (i := 0) (ci := 11) (C := RX8) (T := TX8) (N := 47) (fs8 (gl Γ) 0) (v := .int x18) (FMi hF (t := 18) (by decide)) (fun _ _ _ => rfl) rfl rfl rfl rfl inW8 0 (by decide) (TT_cons kw_880) rfl dX8_error_54 ?_
        refine G_if_le hΓ (tgt := 62) dX8_error_57 (by decide) (fun hc34 => ?_) (fun hc34 => ?_)
        · rw [if_pos hc34] at hf
          refine G_iload_n hΓ 2 dX8_error_62 rfl ?_
          obtain ⟨k27, hk_k27, hf⟩ := jn_eq hf
          try dsimp only at hf
          have K28 : ∀ x25, k27 x25 = some (v', r9) → GG Γ (0, 0) (qM σ (upd (upd v 0 0) 0 x18) m) 95 [(0, .ref (ya (gl Γ) 18 0)), (1, .int p1), (2, .int p2)] [.int x25] := by
            intro x25 hf
            subst hk_k27
            try dsimp only at hf
            cases hf
            exact G_iret hΓ hE dX8_error_95
          clear hk_k27
          refine G_if_ne hΓ (tgt := 75) dX8_error_63 (by decide) (fun hc33 => ?_) (fun hc33 => ?_)
          · rw [if_neg hc33] at hf
            refine G_iload_n hΓ 2 dX8_error_75 rfl ?_
            refine G_iconst (v := 1) hΓ dX8_error_76 (by decide) ?_
            refine G_icmp_ne hΓ (tgt := 89) dX8_error_77 (by decide) (fun hc31 => ?_) (fun hc31 => ?_)
            · rw [if_neg hc31] at hf
              refine G_aload_n hΓ 0 dX8_error_89 rfl ?_
              refine F_get hΓ (t := 18) (i := 0) (ci := 11) (C := RX8) (T := TX8) (N := 47) (fs8 (gl Γ) 0) (v := .ref (ya (gl Γ) 19 25)) (FMi hF (t := 18) (by decide)) (fun _ _ _ => rfl) rfl rfl rfl rfl inW8 32 (by decide) (TT_cons kw_912) rfl dX8_error_90 ?_
              refine G_iload_n hΓ 1 dX8_error_93 rfl ?_
              obtain ⟨hg29, hf⟩ := gd_some hf
              refine F_ald (G_iald hΓ) (t := 19) (i := 25) (f := (m 25)) (FMi hF (t := 19) (by decide)) (fun _ _ _ => rfl) rfl hg29 dX8_error_94 ?_
              exact K28 _ hf
            · rw [if_pos hc31] at hf
              refine G_aload_n hΓ 0 dX8_error_80 rfl ?_
              refine F_get hΓ (t := 18) (i := 0) (ci := 11) (C := RX8) (T := TX8) (N := 47) (fs8 (gl Γ) 0) (v := .ref (ya (gl Γ) 19 24)) (FMi hF (t := 18) (by decide)) (fun _ _ _ => rfl) rfl rfl rfl rfl inW8 31 (by decide) (TT_cons kw_911) rfl dX8_error_81 ?_
              refine G_iload_n hΓ 1 dX8_error_84 rfl ?_
              obtain ⟨hg30, hf⟩ := gd_some hf
              refine F_ald (G_bald hΓ) (t := 19) (i := 24) (f := (m 24)) (FMi hF (t := 19) (by decide)) (fun _ _ _ => rfl) rfl hg30 dX8_error_85 ?_
              refine G_goto hΓ (tgt := 95) dX8_error_86 (by decide) ?_
              exact K28 _ hf
          · rw [if_pos hc33] at hf
            refine G_aload_n hΓ 0 dX8_error_66 rfl ?_
            refine F_get hΓ (t := 18) (i := 0) (ci := 11) (C := RX8) (T := TX8) (N := 47) (fs8 (gl Γ) 0) (v := .ref (ya (gl Γ) 19 23)) (FMi hF (t := 18) (by decide)) (fun _ _ _ => rfl) rfl rfl rfl rfl inW8 30 (by decide) (TT_cons kw_910) rfl dX8_error_67 ?_
            refine G_iload_n hΓ 1 dX8_error_70 rfl ?_
            obtain ⟨hg32, hf⟩ := gd_some hf
            refine F_ald (G_bald hΓ) (t := 19) (i := 23) (f := (m 23)) (FMi hF (t := 19) (by decide)) (fun _ _ _ => rfl) rfl hg32 dX8_error_71 ?_
            refine G_goto hΓ (tgt := 95) dX8_error_72 (by decide) ?_
            exact K28 _ hf
        · rw [if_neg hc34] at hf
          refine G_iconst (v := 0) hΓ dX8_error_60 (by decide) ?_
          cases hf
          exact G_iret hΓ hE dX8_error_61
      have he := he24
      refine G_if_lt hΓ (tgt := 32) dX8_error_21 (by decide) (fun hc23 => ?_) (fun hc23 => ?_)
      · rw [if_pos hc23] at he
        refine G_iconst (v := 1) hΓ dX8_error_32 (by decide) ?_
        refine G_goto hΓ (tgt := 50) dX8_error_33 (by decide) ?_
        subst he
        exact K19
      · rw [if_neg hc23] at he
        refine G_iload_n hΓ 1 dX8_error_24 rfl ?_
        refine G_aload_n hΓ 0 dX8_error_25 rfl ?_
        refine F_get hΓ (t := 18) (i := 0) (ci := 11) (C := RX8) (T := TX8) (N := 47) (fs8 (gl Γ) 0) (v := .int (v 29)) (FMi hF (t := 18) (by decide)) (fun _ _ _ => rfl) rfl rfl rfl rfl inW8 29 (by decide) (TT_cons kw_909) rfl dX8_error_26 ?_
        refine G_icmp_lt hΓ (tgt := 36) dX8_error_29 (by decide) (fun hc22 => ?_) (fun hc22 => ?_)
        · rw [if_pos hc22] at he
          refine G_iload_n hΓ 2 dX8_error_36 rfl ?_
          refine G_if_lt hΓ (tgt := 45) dX8_error_37 (by decide) (fun hc21 => ?_) (fun hc21 => ?_)
          · rw [if_pos hc21] at he
            refine G_iconst (v := 2) hΓ dX8_error_45 (by decide) ?_
            refine G_goto hΓ (tgt := 50) dX8_error_46 (by decide) ?_
            subst he
            exact K19
          · rw [if_neg hc21] at he
            refine G_iload_n hΓ 2 dX8_error_40 rfl ?_
            refine G_iconst (v := 2) hΓ dX8_error_41 (by decide) ?_
            refine G_icmp_le hΓ (tgt := 49) dX8_error_42 (by decide) (fun hc20 => ?_) (fun hc20 => ?_)
            · rw [if_pos hc20] at he
              refine G_iconst (v := 0) hΓ dX8_error_49 (by decide) ?_
              subst he
              exact K19
            · rw [if_neg hc20] at he
              refine G_iconst (v := 2) hΓ dX8_error_45 (by decide) ?_
              refine G_goto hΓ (tgt := 50) dX8_error_46 (by decide) ?_
              subst he
              exact K19
        · rw [if_neg hc22] at he
          refine G_iconst (v := 1) hΓ dX8_error_32 (by decide) ?_
          refine G_goto hΓ (tgt := 50) dX8_error_33 (by decide) ?_
          subst he
          exact K19
    · rw [if_pos hc35] at hf
      refine G_aload_n hΓ 0 dX8_error_14 rfl ?_
      refine F_get hΓ (t := 18) (i := 0) (ci := 11) (C := RX8) (T := TX8) (N := 47) (fs8 (gl Γ) 0) (v := .int (v 29)) (FMi hF (t := 18) (by decide)) (fun _ _ _ => rfl) rfl rfl rfl rfl inW8 29 (by decide) (TT_cons kw_909) rfl dX8_error_15 ?_
      cases hf
      exact G_iret hΓ hE dX8_error_18
