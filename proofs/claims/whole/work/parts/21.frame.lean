theorem dX0_begin_0 : decode cX0_begin 0 = .ok (.aload_n 0, 1) := by decide +kernel
theorem dX0_begin_1 : decode cX0_begin 1 = .ok (.iload_n 1, 1) := by decide +kernel
theorem dX0_begin_2 : decode cX0_begin 2 = .ok (.putfield 19, 3) := by decide +kernel
theorem dX0_begin_5 : decode cX0_begin 5 = .ok (.aload_n 0, 1) := by decide +kernel
theorem dX0_begin_6 : decode cX0_begin 6 = .ok (.iload_n 2, 1) := by decide +kernel
theorem dX0_begin_7 : decode cX0_begin 7 = .ok (.putfield 23, 3) := by decide +kernel
theorem dX0_begin_10 : decode cX0_begin 10 = .ok (.aload_n 0, 1) := by decide +kernel
theorem dX0_begin_11 : decode cX0_begin 11 = .ok (.iload_n 3, 1) := by decide +kernel
theorem dX0_begin_12 : decode cX0_begin 12 = .ok (.putfield 26, 3) := by decide +kernel
theorem dX0_begin_15 : decode cX0_begin 15 = .ok (.aload_n 0, 1) := by decide +kernel
theorem dX0_begin_16 : decode cX0_begin 16 = .ok (.iload 4, 2) := by decide +kernel
theorem dX0_begin_18 : decode cX0_begin 18 = .ok (.putfield 29, 3) := by decide +kernel
theorem dX0_begin_21 : decode cX0_begin 21 = .ok (.aload_n 0, 1) := by decide +kernel
theorem dX0_begin_22 : decode cX0_begin 22 = .ok (.iconst 0, 1) := by decide +kernel
theorem dX0_begin_23 : decode cX0_begin 23 = .ok (.putfield 32, 3) := by decide +kernel
theorem dX0_begin_26 : decode cX0_begin 26 = .ok (.iconst 0, 1) := by decide +kernel
theorem dX0_begin_27 : decode cX0_begin 27 = .ok (.istore 5, 2) := by decide +kernel
theorem dX0_begin_29 : decode cX0_begin 29 = .ok (.iload 5, 2) := by decide +kernel
theorem dX0_begin_31 : decode cX0_begin 31 = .ok (.bipush 64, 2) := by decide +kernel
theorem dX0_begin_33 : decode cX0_begin 33 = .ok (.if_icmp .ge 17, 3) := by decide +kernel
theorem dX0_begin_36 : decode cX0_begin 36 = .ok (.aload_n 0, 1) := by decide +kernel
theorem dX0_begin_37 : decode cX0_begin 37 = .ok (.getfield 9, 3) := by decide +kernel
theorem dX0_begin_40 : decode cX0_begin 40 = .ok (.iload 5, 2) := by decide +kernel
theorem dX0_begin_42 : decode cX0_begin 42 = .ok (.iconst 0, 1) := by decide +kernel
theorem dX0_begin_43 : decode cX0_begin 43 = .ok (.iastore, 1) := by decide +kernel
theorem dX0_begin_44 : decode cX0_begin 44 = .ok (.iinc 5 1, 3) := by decide +kernel
theorem dX0_begin_47 : decode cX0_begin 47 = .ok (.goto (-18), 3) := by decide +kernel
theorem dX0_begin_50 : decode cX0_begin 50 = .ok (.return_, 1) := by decide +kernel
noncomputable def L_X0_begin_29  (k3 : (Nat → Int32) × Int32 → Option ((Nat → Int32) × (Nat → Int32))) : Nat → (Nat → Int32) → Int32 → Option ((Nat → Int32) × (Nat → Int32))
  | 0, _, _ => none
  | nn + 1, v1, v2 => if 64 ≤ v2 then k3 (v1, v2) else gd (vp_in v2 64) (L_X0_begin_29  k3 nn (upd v1 v2.toNatClampNeg 0) (v2 + 1))
noncomputable def f_X0_begin  (ff : Nat → Int32) (fo : Nat → Int32) (p1 : Int32) (p2 : Int32) (p3 : Int32) (p4 : Int32) : Option ((Nat → Int32) × (Nat → Int32)) := jn (α := (Nat → Int32) × Int32) (fun ⟨v1, v2⟩ => some ((upd (upd (upd (upd (upd ff 3 p1) 4 p2) 5 p3) 7 p4) 8 0), v1)) (fun k3 => L_X0_begin_29  k3 fu fo 0)
set_option maxHeartbeats 4000000 in
set_option maxRecDepth 100000 in
theorem c_X0_begin (l : Launch) (Λ : LY) (hF : FL Λ) (σ : CS) (j : Nat) (fh : Int64) (ff : Nat → Int32) (fo : Nat → Int32) (fb : Nat → Int32) (p1 : Int32) (p2 : Int32) (p3 : Int32) (p4 : Int32) (hij : j < 200)  {ff' : Nat → Int32} {fo' : Nat → Int32} (hf : f_X0_begin ff fo p1 p2 p3 p4 = some (ff', fo')) : CM l yX0_begin (.code yX0_begin cX0_begin 6 none :: TT) ({ frames := 0, cells := 0, slots := 0, locals := 0 }) Λ [.ref (ya Λ 13 j), .int p1, .int p2, .int p3, .int p4] (qFr σ j fh ff fo fb) (qFr σ j fh ff' fo' fb) (none) := by
  refine CM_intro (own := RX0) (by decide) rfl (Nat.le_of_ble_eq_true rfl) ?_
  intro Γ hg hl hΓ hE
  subst hg; subst hl
  show GG Γ (0, 0) (qFr σ j fh ff fo fb) 0 [(0, .ref (ya (gl Γ) 13 j)), (1, .int p1), (2, .int p2), (3, .int p3), (4, .int p4)] []
  unfold f_X0_begin at hf
  refine G_aload_n hΓ 0 dX0_begin_0 rfl ?_
  refine G_iload_n hΓ 1 dX0_begin_1 rfl ?_
  refine F_put hΓ (t := 13) (i := j) (ci := 3) (C := RX0) (T := TX0) (N := 9) (fs0 (gl Γ) j) (f := ff) (f' := (upd ff 3 p1)) (σ' := (qFr σ j fh (upd ff 3 p1) fo fb)) (ty := .int) (v := .int p1) tyX0 tyX0_ok nmX0 (FLi hF (t := 13) hij) (fun _ _ _ => rfl) qFr_g13 qFr_s13 rfl inW0 3 (by decide) (TT_cons kw_218) rfl (by decide +kernel) rfl rfl (fun _ _ => Nat.le_of_ble_eq_true rfl) (fun _ _ => rfl) dX0_begin_2 ?_
  refine G_aload_n hΓ 0 dX0_begin_5 rfl ?_
  refine G_iload_n hΓ 2 dX0_begin_6 rfl ?_
  refine F_put hΓ (t := 13) (i := j) (ci := 3) (C := RX0) (T := TX0) (N := 9) (fs0 (gl Γ) j) (f := (upd ff 3 p1)) (f' := (upd (upd ff 3 p1) 4 p2)) (σ' := (qFr σ j fh (upd (upd ff 3 p1) 4 p2) fo fb)) (ty := .int) (v := .int p2) tyX0 tyX0_ok nmX0 (FLi hF (t := 13) hij) (fun _ _ _ => rfl) qFr_g13 qFr_s13 rfl inW0 4 (by decide) (TT_cons kw_220) rfl (by decide +kernel) rfl rfl (fun _ _ => Nat.le_of_ble_eq_true rfl) (fun _ _ => rfl) dX0_begin_7 ?_
  refine G_aload_n hΓ 0 dX0_begin_10 rfl ?_
  refine G_iload_n hΓ 3 dX0_begin_11 rfl ?_
  refine F_put hΓ (t := 13) (i := j) (ci := 3) (C := RX0) (T := TX0) (N := 9) (fs0 (gl Γ) j) (f := (upd (upd ff 3 p1) 4 p2)) (f' := (upd (upd (upd ff 3 p1) 4 p2) 5 p3)) (σ' := (qFr σ j fh (upd (upd (upd ff 3 p1) 4 p2) 5 p3) fo fb)) (ty := .int) (v := .int p3) tyX0 tyX0_ok nmX0 (FLi hF (t := 13) hij) (fun _ _ _ => rfl) qFr_g13 qFr_s13 rfl inW0 5 (by decide) (TT_cons kw_223) rfl (by decide +kernel) rfl rfl (fun _ _ => Nat.le_of_ble_eq_true rfl) (fun _ _ => rfl) dX0_begin_12 ?_
  refine G_aload_n hΓ 0 dX0_begin_15 rfl ?_
  refine G_iload hΓ 4 dX0_begin_16 rfl ?_
  refine F_put hΓ (t := 13) (i := j) (ci := 3) (C := RX0) (T := TX0) (N := 9) (fs0 (gl Γ) j) (f := (upd (upd (upd ff 3 p1) 4 p2) 5 p3)) (f' := (upd (upd (upd (upd ff 3 p1) 4 p2) 5 p3) 7 p4)) (σ' := (qFr σ j fh (upd (upd (upd (upd ff 3 p1) 4 p2) 5 p3) 7 p4) fo fb)) (ty := .int) (v := .int p4) tyX0 tyX0_ok nmX0 (FLi hF (t := 13) hij) (fun _ _ _ => rfl) qFr_g13 qFr_s13 rfl inW0 7 (by decide) (TT_cons kw_227) rfl (by decide +kernel) rfl rfl (fun _ _ => Nat.le_of_ble_eq_true rfl) (fun _ _ => rfl) dX0_begin_18 ?_
  refine G_aload_n hΓ 0 dX0_begin_21 rfl ?_
  refine G_iconst (v := 0) hΓ dX0_begin_22 (by decide) ?_
  refine F_put hΓ (t := 13) (i := j) (ci := 3) (C := RX0) (T := TX0) (N := 9) (fs0 (gl Γ) j) (f := (upd (upd (upd (upd ff 3 p1) 4 p2) 5 p3) 7 p4)) (f' := (upd (upd (upd (upd (upd ff 3 p1) 4 p2) 5 p3) 7 p4) 8 0)) (σ' := (qFr σ j fh (upd (upd (upd (upd (upd ff 3 p1) 4 p2) 5 p3) 7 p4) 8 0) fo fb)) (ty := .boolean) (v := .int 0) tyX0 tyX0_ok nmX0 (FLi hF (t := 13) hij) (fun _ _ _ => rfl) qFr_g13 qFr_s13 rfl inW0 8 (by decide) (TT_cons kw_230) rfl (by decide +kernel) rfl (fit_z rfl) (fun _ _ => Nat.le_of_ble_eq_true rfl) (fun _ _ => rfl) dX0_begin_23 ?_
  refine G_iconst (v := 0) hΓ dX0_begin_26 (by decide) ?_
  refine G_istore hΓ [(5, .int 0), (0, .ref (ya (gl Γ) 13 j)), (1, .int p1), (2, .int p2), (3, .int p3), (4, .int p4)] dX0_begin_27 (by decide) rfl ?_
  obtain ⟨k3, hk_k3, hf⟩ := jn_eq hf
  try dsimp only at hf
  have K4 : ∀ v1 v2, k3 (v1, v2) = some (ff', fo') → GG Γ (0, 0) (qFr σ j fh (upd (upd (upd (upd (upd ff 3 p1) 4 p2) 5 p3) 7 p4) 8 0) v1 fb) 50 [(5, .int v2), (0, .ref (ya (gl Γ) 13 j)), (1, .int p1), (2, .int p2), (3, .int p3), (4, .int p4)] [] := by
    intro v1 v2 hf
    subst hk_k3
    try dsimp only at hf
    cases hf
    exact G_vret hΓ hE dX0_begin_50
  clear hk_k3
  have loop7 : ∀ (nn : Nat) v1 v2, L_X0_begin_29  k3 nn v1 v2 = some (ff', fo') → GG Γ (0, 0) (qFr σ j fh (upd (upd (upd (upd (upd ff 3 p1) 4 p2) 5 p3) 7 p4) 8 0) v1 fb) 29 [(5, .int v2), (0, .ref (ya (gl Γ) 13 j)), (1, .int p1), (2, .int p2), (3, .int p3), (4, .int p4)] [] := by
    intro nn
    induction nn with
    | zero => intro v1 v2 hf; cases hf
    | succ nn ih =>
      intro v1 v2 hf
      rw [L_X0_begin_29] at hf
      refine G_iload hΓ 0 dX0_begin_29 rfl ?_
      refine G_bipush (v := 64) hΓ dX0_begin_31 (by decide) ?_
      refine G_icmp_ge hΓ (tgt := 50) dX0_begin_33 (by decide) (fun hc6 => ?_) (fun hc6 => ?_)
      · rw [if_pos hc6] at hf
        exact (K4 _ _ hf)
      · rw [if_neg hc6] at hf
        refine G_aload_n hΓ 1 dX0_begin_36 rfl ?_
        refine F_get hΓ (t := 13) (i := j) (ci := 3) (C := RX0) (T := TX0) (N := 9) (fs0 (gl Γ) j) (v := .ref (ya (gl Γ) 14 j)) (FLi hF (t := 13) hij) (fun _ _ _ => rfl) rfl rfl rfl rfl inW0 0 (by decide) (TT_cons kw_210) rfl dX0_begin_37 ?_
        refine G_iload hΓ 0 dX0_begin_40 rfl ?_
        refine G_iconst (v := 0) hΓ dX0_begin_42 (by decide) ?_
        obtain ⟨hg5, hf⟩ := gd_some hf
        refine F_iast hΓ (t := 14) (i := j) (f := v1) (σ' := (qFr σ j fh (upd (upd (upd (upd (upd ff 3 p1) 4 p2) 5 p3) 7 p4) 8 0) (upd v1 v2.toNatClampNeg 0) fb)) (FLi hF (t := 14) hij) (fun _ _ _ => rfl) qFr_g14 qFr_s14 hg5 dX0_begin_43 ?_
        refine G_iinc hΓ 0 [(5, .int (v2 + 1)), (0, .ref (ya (gl Γ) 13 j)), (1, .int p1), (2, .int p2), (3, .int p3), (4, .int p4)] dX0_begin_44 rfl rfl (by decide) rfl ?_
        refine G_goto hΓ (tgt := 29) dX0_begin_47 (by decide) ?_
        exact (ih _ _ hf)
  exact loop7 _ _ _ hf
theorem dX0_append_0 : decode cX0_append 0 = .ok (.aload_n 0, 1) := by decide +kernel
theorem dX0_append_1 : decode cX0_append 1 = .ok (.getfield 40, 3) := by decide +kernel
theorem dX0_append_4 : decode cX0_append 4 = .ok (.sipush 733, 3) := by decide +kernel
theorem dX0_append_7 : decode cX0_append 7 = .ok (.if_icmp .ge 31, 3) := by decide +kernel
theorem dX0_append_10 : decode cX0_append 10 = .ok (.aload_n 0, 1) := by decide +kernel
theorem dX0_append_11 : decode cX0_append 11 = .ok (.getfield 15, 3) := by decide +kernel
theorem dX0_append_14 : decode cX0_append 14 = .ok (.aload_n 0, 1) := by decide +kernel
theorem dX0_append_15 : decode cX0_append 15 = .ok (.dup, 1) := by decide +kernel
theorem dX0_append_16 : decode cX0_append 16 = .ok (.getfield 40, 3) := by decide +kernel
theorem dX0_append_19 : decode cX0_append 19 = .ok (.dup_x1, 1) := by decide +kernel
theorem dX0_append_20 : decode cX0_append 20 = .ok (.iconst 1, 1) := by decide +kernel
theorem dX0_append_21 : decode cX0_append 21 = .ok (.iadd, 1) := by decide +kernel
theorem dX0_append_22 : decode cX0_append 22 = .ok (.putfield 40, 3) := by decide +kernel
theorem dX0_append_25 : decode cX0_append 25 = .ok (.iload_n 2, 1) := by decide +kernel
theorem dX0_append_26 : decode cX0_append 26 = .ok (.ifCond .eq 9, 3) := by decide +kernel
theorem dX0_append_29 : decode cX0_append 29 = .ok (.iload_n 1, 1) := by decide +kernel
theorem dX0_append_30 : decode cX0_append 30 = .ok (.iconst 2, 1) := by decide +kernel
theorem dX0_append_31 : decode cX0_append 31 = .ok (.ior, 1) := by decide +kernel
theorem dX0_append_32 : decode cX0_append 32 = .ok (.goto 4, 3) := by decide +kernel
theorem dX0_append_35 : decode cX0_append 35 = .ok (.iload_n 1, 1) := by decide +kernel
theorem dX0_append_36 : decode cX0_append 36 = .ok (.i2b, 1) := by decide +kernel
theorem dX0_append_37 : decode cX0_append 37 = .ok (.bastore, 1) := by decide +kernel
theorem dX0_append_38 : decode cX0_append 38 = .ok (.return_, 1) := by decide +kernel
noncomputable def f_X0_append  (ff : Nat → Int32) (fb : Nat → Int32) (p1 : Int32) (p2 : Int32) : Option ((Nat → Int32) × (Nat → Int32)) := jn (α := (Nat → Int32) × (Nat → Int32)) (fun ⟨x1, x2⟩ => some (x1, x2)) (fun k3 => if 733 ≤ (ff 2) then k3 (ff, fb) else lt (α := Int32) (if p2 = 0 then p1 else (p1 ||| 2)) (fun x5 => gd (vp_in (ff 2) 733) (k3 ((upd ff 2 ((ff 2) + 1)), (upd fb ((ff 2).toNatClampNeg) (vp_nar .byte x5.toInt8.toInt32))))))
set_option maxHeartbeats 4000000 in
set_option maxRecDepth 100000 in
theorem c_X0_append (l : Launch) (Λ : LY) (hF : FL Λ) (σ : CS) (j : Nat) (fh : Int64) (ff : Nat → Int32) (fo : Nat → Int32) (fb : Nat → Int32) (p1 : Int32) (p2 : Int32) (hij : j < 200)  {ff' : Nat → Int32} {fb' : Nat → Int32} (hf : f_X0_append ff fb p1 p2 = some (ff', fb')) : CM l yX0_append (.code yX0_append cX0_append 3 none :: TT) ({ frames := 0, cells := 0, slots := 0, locals := 0 }) Λ [.ref (ya Λ 13 j), .int p1, .int p2] (qFr σ j fh ff fo fb) (qFr σ j fh ff' fo fb') (none) := by
  refine CM_intro (own := RX0) (by decide) rfl (Nat.le_of_ble_eq_true rfl) ?_
  intro Γ hg hl hΓ hE
  subst hg; subst hl
  show GG Γ (0, 0) (qFr σ j fh ff fo fb) 0 [(0, .ref (ya (gl Γ) 13 j)), (1, .int p1), (2, .int p2)] []
  unfold f_X0_append at hf
  refine G_aload_n hΓ 0 dX0_append_0 rfl ?_
  refine F_get hΓ (t := 13) (i := j) (ci := 3) (C := RX0) (T := TX0) (N := 9) (fs0 (gl Γ) j) (v := .int (ff 2)) (FLi hF (t := 13) hij) (fun _ _ _ => rfl) qFr_g13 rfl rfl rfl inW0 2 (by decide) (TT_cons kw_215) rfl dX0_append_1 ?_
  refine G_sipush (v := 733) hΓ dX0_append_4 (by decide) ?_
  obtain ⟨k3, hk_k3, hf⟩ := jn_eq hf
  try dsimp only at hf
  have K4 : ∀ x1 x2, k3 (x1, x2) = some (ff', fb') → GG Γ (0, 0) (qFr σ j fh x1 fo x2) 38 [(0, .ref (ya (gl Γ) 13 j)), (1, .int p1), (2, .int p2)] [] := by
    intro x1 x2 hf
    subst hk_k3
    try dsimp only at hf
    cases hf
    exact G_vret hΓ hE dX0_append_38
  clear hk_k3
  refine G_icmp_ge hΓ (tgt := 38) dX0_append_7 (by decide) (fun hc10 => ?_) (fun hc10 => ?_)
  · rw [if_pos hc10] at hf
    exact K4 _ _ hf
  · rw [if_neg hc10] at hf
    refine G_aload_n hΓ 0 dX0_append_10 rfl ?_
    refine F_get hΓ (t := 13) (i := j) (ci := 3) (C := RX0) (T := TX0) (N := 9) (fs0 (gl Γ) j) (v := .ref (ya (gl Γ) 15 j)) (FLi hF (t := 13) hij) (fun _ _ _ => rfl) rfl rfl rfl rfl inW0 1 (by decide) (TT_cons kw_213) rfl dX0_append_11 ?_
    refine G_aload_n hΓ 0 dX0_append_14 rfl ?_
    refine G_dup hΓ dX0_append_15 rfl ?_
    refine F_get hΓ (t := 13) (i := j) (ci := 3) (C := RX0) (T := TX0) (N := 9) (fs0 (gl Γ) j) (v := .int (ff 2)) (FLi hF (t := 13) hij) (fun _ _ _ => rfl) qFr_g13 rfl rfl rfl inW0 2 (by decide) (TT_cons kw_215) rfl dX0_append_16 ?_
    refine G_dup_x1 hΓ dX0_append_19 rfl rfl ?_
    refine G_iconst (v := 1) hΓ dX0_append_20 (by decide) ?_
    refine G_iadd hΓ dX0_append_21 ?_
    refine F_put hΓ (t := 13) (i := j) (ci := 3) (C := RX0) (T := TX0) (N := 9) (fs0 (gl Γ) j) (f := ff) (f' := (upd ff 2 ((ff 2) + 1))) (σ' := (qFr σ j fh (upd ff 2 ((ff 2) + 1)) fo fb)) (ty := .int) (v := .int ((ff 2) + 1)) tyX0 tyX0_ok nmX0 (FLi hF (t := 13) hij) (fun _ _ _ => rfl) qFr_g13 qFr_s13 rfl inW0 2 (by decide) (TT_cons kw_215) rfl (by decide +kernel) rfl rfl (fun _ _ => Nat.le_of_ble_eq_true rfl) (fun _ _ => rfl) dX0_append_22 ?_
    refine G_iload_n hΓ 2 dX0_append_25 rfl ?_
    obtain ⟨x5, he8, hf⟩ := lt_eq hf
    have K6 : GG Γ (0, 0) (qFr σ j fh (upd ff 2 ((ff 2) + 1)) fo fb) 36 [(0, .ref (ya (gl Γ) 13 j)), (1, .int p1), (2, .int p2)] [.int x5, .int (ff 2), .ref (ya (gl Γ) 15 j)] := by
      refine G_i2b hΓ dX0_append_36 ?_
      obtain ⟨hg9, hf⟩ := gd_some hf
      refine F_bast hΓ (t := 15) (i := j) (f := fb) (σ' := (qFr σ j fh (upd ff 2 ((ff 2) + 1)) fo (upd fb ((ff 2).toNatClampNeg) (vp_nar .byte x5.toInt8.toInt32)))) (FLi hF (t := 15) hij) (fun _ _ _ => rfl) qFr_g15 qFr_s15 hg9 dX0_append_37 ?_
      exact K4 _ _ hf
    have he := he8
    refine G_if_eq hΓ (tgt := 35) dX0_append_26 (by decide) (fun hc7 => ?_) (fun hc7 => ?_)
    · rw [if_pos hc7] at he
      refine G_iload_n hΓ 1 dX0_append_35 rfl ?_
      subst he
      exact K6
    · rw [if_neg hc7] at he
      refine G_iload_n hΓ 1 dX0_append_29 rfl ?_
      refine G_iconst (v := 2) hΓ dX0_append_30 (by decide) ?_
      refine G_ior hΓ dX0_append_31 ?_
      refine G_goto hΓ (tgt := 36) dX0_append_32 (by decide) ?_
      subst he
      exact K6
theorem dX0_rowBit_0 : decode cX0_rowBit 0 = .ok (.iload_n 1, 1) := by decide +kernel
theorem dX0_rowBit_1 : decode cX0_rowBit 1 = .ok (.ifCond .lt 22, 3) := by decide +kernel
theorem dX0_rowBit_4 : decode cX0_rowBit 4 = .ok (.iload_n 1, 1) := by decide +kernel
theorem dX0_rowBit_5 : decode cX0_rowBit 5 = .ok (.aload_n 0, 1) := by decide +kernel
theorem dX0_rowBit_6 : decode cX0_rowBit 6 = .ok (.getfield 40, 3) := by decide +kernel
theorem dX0_rowBit_9 : decode cX0_rowBit 9 = .ok (.if_icmp .ge 14, 3) := by decide +kernel
theorem dX0_rowBit_12 : decode cX0_rowBit 12 = .ok (.aload_n 0, 1) := by decide +kernel
theorem dX0_rowBit_13 : decode cX0_rowBit 13 = .ok (.getfield 15, 3) := by decide +kernel
theorem dX0_rowBit_16 : decode cX0_rowBit 16 = .ok (.iload_n 1, 1) := by decide +kernel
theorem dX0_rowBit_17 : decode cX0_rowBit 17 = .ok (.baload, 1) := by decide +kernel
theorem dX0_rowBit_18 : decode cX0_rowBit 18 = .ok (.iconst 1, 1) := by decide +kernel
theorem dX0_rowBit_19 : decode cX0_rowBit 19 = .ok (.iand, 1) := by decide +kernel
theorem dX0_rowBit_20 : decode cX0_rowBit 20 = .ok (.goto 4, 3) := by decide +kernel
theorem dX0_rowBit_23 : decode cX0_rowBit 23 = .ok (.iconst 1, 1) := by decide +kernel
theorem dX0_rowBit_24 : decode cX0_rowBit 24 = .ok (.ireturn, 1) := by decide +kernel
noncomputable def f_X0_rowBit  (ff : Nat → Int32) (fb : Nat → Int32) (p1 : Int32) : Option (Int32) := jn (α := Int32) (fun x1 => some (x1)) (fun k3 => if p1 < 0 then k3 1 else if (ff 2) ≤ p1 then k3 1 else gd (vp_in p1 733) (k3 ((fb p1.toNatClampNeg) &&& 1)))
set_option maxHeartbeats 4000000 in
set_option maxRecDepth 100000 in
theorem c_X0_rowBit (l : Launch) (Λ : LY) (hF : FL Λ) (σ : CS) (j : Nat) (fh : Int64) (ff : Nat → Int32) (fo : Nat → Int32) (fb : Nat → Int32) (p1 : Int32) (hij : j < 200) (hr_fh : σ.2.1 13 j = fh) (hr_ff : σ.1 13 j = ff) (hr_fo : σ.1 14 j = fo) (hr_fb : σ.1 15 j = fb) {r9 : Int32} (hf : f_X0_rowBit ff fb p1 = some r9) : CM l yX0_rowBit (.code yX0_rowBit cX0_rowBit 2 (some .int) :: TT) ({ frames := 0, cells := 0, slots := 0, locals := 0 }) Λ [.ref (ya Λ 13 j), .int p1] σ σ (some (.int r9)) := by
  refine CM_intro (own := RX0) (by decide) rfl (Nat.le_of_ble_eq_true rfl) ?_
  intro Γ hg hl hΓ hE
  subst hg; subst hl
  show GG Γ (0, 0) σ 0 [(0, .ref (ya (gl Γ) 13 j)), (1, .int p1)] []
  unfold f_X0_rowBit at hf
  refine G_iload_n hΓ 1 dX0_rowBit_0 rfl ?_
  obtain ⟨k3, hk_k3, hf⟩ := jn_eq hf
  try dsimp only at hf
  have K4 : ∀ x1, k3 x1 = some r9 → GG Γ (0, 0) σ 24 [(0, .ref (ya (gl Γ) 13 j)), (1, .int p1)] [.int x1] := by
    intro x1 hf
    subst hk_k3
    try dsimp only at hf
    cases hf
    exact G_iret hΓ hE dX0_rowBit_24
  clear hk_k3
  refine G_if_lt hΓ (tgt := 23) dX0_rowBit_1 (by decide) (fun hc7 => ?_) (fun hc7 => ?_)
  · rw [if_pos hc7] at hf
    refine G_iconst (v := 1) hΓ dX0_rowBit_23 (by decide) ?_
    exact K4 _ hf
  · rw [if_neg hc7] at hf
    refine G_iload_n hΓ 1 dX0_rowBit_4 rfl ?_
    refine G_aload_n hΓ 0 dX0_rowBit_5 rfl ?_
    refine F_get hΓ (t := 13) (i := j) (ci := 3) (C := RX0) (T := TX0) (N := 9) (fs0 (gl Γ) j) (v := .int (ff 2)) (FLi hF (t := 13) hij) (fun _ _ _ => rfl) hr_ff rfl rfl rfl inW0 2 (by decide) (TT_cons kw_215) rfl dX0_rowBit_6 ?_
    refine G_icmp_ge hΓ (tgt := 23) dX0_rowBit_9 (by decide) (fun hc6 => ?_) (fun hc6 => ?_)
    · rw [if_pos hc6] at hf
      refine G_iconst (v := 1) hΓ dX0_rowBit_23 (by decide) ?_
      exact K4 _ hf
    · rw [if_neg hc6] at hf
      refine G_aload_n hΓ 0 dX0_rowBit_12 rfl ?_
      refine F_get hΓ (t := 13) (i := j) (ci := 3) (C := RX0) (T := TX0) (N := 9) (fs0 (gl Γ) j) (v := .ref (ya (gl Γ) 15 j)) (FLi hF (t := 13) hij) (fun _ _ _ => rfl) rfl rfl rfl rfl inW0 1 (by decide) (TT_cons kw_213) rfl dX0_rowBit_13 ?_
      refine G_iload_n hΓ 1 dX0_rowBit_16 rfl ?_
      obtain ⟨hg5, hf⟩ := gd_some hf
      refine F_ald (G_bald hΓ) (t := 15) (i := j) (f := fb) (FLi hF (t := 15) hij) (fun _ _ _ => rfl) hr_fb hg5 dX0_rowBit_17 ?_
      refine G_iconst (v := 1) hΓ dX0_rowBit_18 (by decide) ?_
      refine G_iand hΓ dX0_rowBit_19 ?_
      refine G_goto hΓ (tgt := 24) dX0_rowBit_20 (by decide) ?_
      exact K4 _ hf
theorem dX0_canLoseAt_0 : decode cX0_canLoseAt 0 = .ok (.iload_n 1, 1) := by decide +kernel
theorem dX0_canLoseAt_1 : decode cX0_canLoseAt 1 = .ok (.ifCond .lt 25, 3) := by decide +kernel
theorem dX0_canLoseAt_4 : decode cX0_canLoseAt 4 = .ok (.iload_n 1, 1) := by decide +kernel
theorem dX0_canLoseAt_5 : decode cX0_canLoseAt 5 = .ok (.aload_n 0, 1) := by decide +kernel
theorem dX0_canLoseAt_6 : decode cX0_canLoseAt 6 = .ok (.getfield 40, 3) := by decide +kernel
theorem dX0_canLoseAt_9 : decode cX0_canLoseAt 9 = .ok (.if_icmp .ge 17, 3) := by decide +kernel
theorem dX0_canLoseAt_12 : decode cX0_canLoseAt 12 = .ok (.aload_n 0, 1) := by decide +kernel
theorem dX0_canLoseAt_13 : decode cX0_canLoseAt 13 = .ok (.getfield 15, 3) := by decide +kernel
theorem dX0_canLoseAt_16 : decode cX0_canLoseAt 16 = .ok (.iload_n 1, 1) := by decide +kernel
theorem dX0_canLoseAt_17 : decode cX0_canLoseAt 17 = .ok (.baload, 1) := by decide +kernel
theorem dX0_canLoseAt_18 : decode cX0_canLoseAt 18 = .ok (.iconst 3, 1) := by decide +kernel
theorem dX0_canLoseAt_19 : decode cX0_canLoseAt 19 = .ok (.if_icmp .ne 7, 3) := by decide +kernel
theorem dX0_canLoseAt_22 : decode cX0_canLoseAt 22 = .ok (.iconst 1, 1) := by decide +kernel
theorem dX0_canLoseAt_23 : decode cX0_canLoseAt 23 = .ok (.goto 4, 3) := by decide +kernel
theorem dX0_canLoseAt_26 : decode cX0_canLoseAt 26 = .ok (.iconst 0, 1) := by decide +kernel
theorem dX0_canLoseAt_27 : decode cX0_canLoseAt 27 = .ok (.ireturn, 1) := by decide +kernel
noncomputable def f_X0_canLoseAt  (ff : Nat → Int32) (fb : Nat → Int32) (p1 : Int32) : Option (Int32) := jn (α := Int32) (fun x1 => some (x1)) (fun k3 => if p1 < 0 then k3 0 else if (ff 2) ≤ p1 then k3 0 else gd (vp_in p1 733) (if (fb p1.toNatClampNeg) = 3 then k3 1 else k3 0))
set_option maxHeartbeats 4000000 in
set_option maxRecDepth 100000 in
theorem c_X0_canLoseAt (l : Launch) (Λ : LY) (hF : FL Λ) (σ : CS) (j : Nat) (fh : Int64) (ff : Nat → Int32) (fo : Nat → Int32) (fb : Nat → Int32) (p1 : Int32) (hij : j < 200) (hr_fh : σ.2.1 13 j = fh) (hr_ff : σ.1 13 j = ff) (hr_fo : σ.1 14 j = fo) (hr_fb : σ.1 15 j = fb) {r9 : Int32} (hf : f_X0_canLoseAt ff fb p1 = some r9) : CM l yX0_canLoseAt (.code yX0_canLoseAt cX0_canLoseAt 2 (some .boolean) :: TT) ({ frames := 0, cells := 0, slots := 0, locals := 0 }) Λ [.ref (ya Λ 13 j), .int p1] σ σ (some (.int r9)) := by
  refine CM_intro (own := RX0) (by decide) rfl (Nat.le_of_ble_eq_true rfl) ?_
  intro Γ hg hl hΓ hE
  subst hg; subst hl
  show GG Γ (0, 0) σ 0 [(0, .ref (ya (gl Γ) 13 j)), (1, .int p1)] []
  unfold f_X0_canLoseAt at hf
  refine G_iload_n hΓ 1 dX0_canLoseAt_0 rfl ?_
  obtain ⟨k3, hk_k3, hf⟩ := jn_eq hf
  try dsimp only at hf
  have K4 : ∀ x1, (x1 = 0 ∨ x1 = 1) → k3 x1 = some r9 → GG Γ (0, 0) σ 27 [(0, .ref (ya (gl Γ) 13 j)), (1, .int p1)] [.int x1] := by
    intro x1 hb_x1 hf
    subst hk_k3
    try dsimp only at hf
    cases hf
    exact G_zret hΓ (nar01 hb_x1) hE dX0_canLoseAt_27
  clear hk_k3
  refine G_if_lt hΓ (tgt := 26) dX0_canLoseAt_1 (by decide) (fun hc8 => ?_) (fun hc8 => ?_)
  · rw [if_pos hc8] at hf
    refine G_iconst (v := 0) hΓ dX0_canLoseAt_26 (by decide) ?_
    exact K4 _ (Or.inl rfl) hf
  · rw [if_neg hc8] at hf
    refine G_iload_n hΓ 1 dX0_canLoseAt_4 rfl ?_
    refine G_aload_n hΓ 0 dX0_canLoseAt_5 rfl ?_
    refine F_get hΓ (t := 13) (i := j) (ci := 3) (C := RX0) (T := TX0) (N := 9) (fs0 (gl Γ) j) (v := .int (ff 2)) (FLi hF (t := 13) hij) (fun _ _ _ => rfl) hr_ff rfl rfl rfl inW0 2 (by decide) (TT_cons kw_215) rfl dX0_canLoseAt_6 ?_
    refine G_icmp_ge hΓ (tgt := 26) dX0_canLoseAt_9 (by decide) (fun hc7 => ?_) (fun hc7 => ?_)
    · rw [if_pos hc7] at hf
      refine G_iconst (v := 0) hΓ dX0_canLoseAt_26 (by decide) ?_
      exact K4 _ (Or.inl rfl) hf
    · rw [if_neg hc7] at hf
      refine G_aload_n hΓ 0 dX0_canLoseAt_12 rfl ?_
      refine F_get hΓ (t := 13) (i := j) (ci := 3) (C := RX0) (T := TX0) (N := 9) (fs0 (gl Γ) j) (v := .ref (ya (gl Γ) 15 j)) (FLi hF (t := 13) hij) (fun _ _ _ => rfl) rfl rfl rfl rfl inW0 1 (by decide) (TT_cons kw_213) rfl dX0_canLoseAt_13 ?_
      refine G_iload_n hΓ 1 dX0_canLoseAt_16 rfl ?_
      obtain ⟨hg5, hf⟩ := gd_some hf
      refine F_ald (G_bald hΓ) (t := 15) (i := j) (f := fb) (FLi hF (t := 15) hij) (fun _ _ _ => rfl) hr_fb hg5 dX0_canLoseAt_17 ?_
      refine G_iconst (v := 3) hΓ dX0_canLoseAt_18 (by decide) ?_
      refine G_icmp_ne hΓ (tgt := 26) dX0_canLoseAt_19 (by decide) (fun hc6 => ?_) (fun hc6 => ?_)
      · rw [if_neg hc6] at hf
        refine G_iconst (v := 0) hΓ dX0_canLoseAt_26 (by decide) ?_
        exact K4 _ (Or.inl rfl) hf
      · rw [if_pos hc6] at hf
        refine G_iconst (v := 1) hΓ dX0_canLoseAt_22 (by decide) ?_
        refine G_goto hΓ (tgt := 27) dX0_canLoseAt_23 (by decide) ?_
        exact K4 _ (Or.inr rfl) hf
theorem dX0_acknowledgedAt_0 : decode cX0_acknowledgedAt 0 = .ok (.iload_n 1, 1) := by decide +kernel
theorem dX0_acknowledgedAt_1 : decode cX0_acknowledgedAt 1 = .ok (.aload_n 0, 1) := by decide +kernel
theorem dX0_acknowledgedAt_2 : decode cX0_acknowledgedAt 2 = .ok (.getfield 40, 3) := by decide +kernel
theorem dX0_acknowledgedAt_5 : decode cX0_acknowledgedAt 5 = .ok (.bipush 9, 2) := by decide +kernel
theorem dX0_acknowledgedAt_7 : decode cX0_acknowledgedAt 7 = .ok (.isub, 1) := by decide +kernel
theorem dX0_acknowledgedAt_8 : decode cX0_acknowledgedAt 8 = .ok (.if_icmp .ne 7, 3) := by decide +kernel
theorem dX0_acknowledgedAt_11 : decode cX0_acknowledgedAt 11 = .ok (.iconst 1, 1) := by decide +kernel
theorem dX0_acknowledgedAt_12 : decode cX0_acknowledgedAt 12 = .ok (.goto 4, 3) := by decide +kernel
theorem dX0_acknowledgedAt_15 : decode cX0_acknowledgedAt 15 = .ok (.iconst 0, 1) := by decide +kernel
theorem dX0_acknowledgedAt_16 : decode cX0_acknowledgedAt 16 = .ok (.ireturn, 1) := by decide +kernel
noncomputable def f_X0_acknowledgedAt  (ff : Nat → Int32) (p1 : Int32) : Option (Int32) := lt (α := Int32) (if p1 = ((ff 2) - 9) then 1 else 0) (fun x1 => some (x1))
set_option maxHeartbeats 4000000 in
set_option maxRecDepth 100000 in
theorem c_X0_acknowledgedAt (l : Launch) (Λ : LY) (hF : FL Λ) (σ : CS) (j : Nat) (fh : Int64) (ff : Nat → Int32) (fo : Nat → Int32) (fb : Nat → Int32) (p1 : Int32) (hij : j < 200) (hr_fh : σ.2.1 13 j = fh) (hr_ff : σ.1 13 j = ff) (hr_fo : σ.1 14 j = fo) (hr_fb : σ.1 15 j = fb) {r9 : Int32} (hf : f_X0_acknowledgedAt ff p1 = some r9) : CM l yX0_acknowledgedAt (.code yX0_acknowledgedAt cX0_acknowledgedAt 2 (some .boolean) :: TT) ({ frames := 0, cells := 0, slots := 0, locals := 0 }) Λ [.ref (ya Λ 13 j), .int p1] σ σ (some (.int r9)) := by
  refine CM_intro (own := RX0) (by decide) rfl (Nat.le_of_ble_eq_true rfl) ?_
  intro Γ hg hl hΓ hE
  subst hg; subst hl
  show GG Γ (0, 0) σ 0 [(0, .ref (ya (gl Γ) 13 j)), (1, .int p1)] []
  unfold f_X0_acknowledgedAt at hf
  refine G_iload_n hΓ 1 dX0_acknowledgedAt_0 rfl ?_
  refine G_aload_n hΓ 0 dX0_acknowledgedAt_1 rfl ?_
  refine F_get hΓ (t := 13) (i := j) (ci := 3) (C := RX0) (T := TX0) (N := 9) (fs0 (gl Γ) j) (v := .int (ff 2)) (FLi hF (t := 13) hij) (fun _ _ _ => rfl) hr_ff rfl rfl rfl inW0 2 (by decide) (TT_cons kw_215) rfl dX0_acknowledgedAt_2 ?_
  refine G_bipush (v := 9) hΓ dX0_acknowledgedAt_5 (by decide) ?_
  refine G_isub hΓ dX0_acknowledgedAt_7 ?_
  obtain ⟨x1, he4, hf⟩ := lt_eq hf
  have K2 : GG Γ (0, 0) σ 16 [(0, .ref (ya (gl Γ) 13 j)), (1, .int p1)] [.int x1] := by
    cases hf
    exact G_zret hΓ (by rw [he4]; (repeat' split) <;> rfl) hE dX0_acknowledgedAt_16
  have he := he4
  refine G_icmp_ne hΓ (tgt := 15) dX0_acknowledgedAt_8 (by decide) (fun hc3 => ?_) (fun hc3 => ?_)
  · rw [if_neg hc3] at he
    refine G_iconst (v := 0) hΓ dX0_acknowledgedAt_15 (by decide) ?_
    subst he
    exact K2
  · rw [if_pos hc3] at he
    refine G_iconst (v := 1) hΓ dX0_acknowledgedAt_11 (by decide) ?_
    refine G_goto hΓ (tgt := 16) dX0_acknowledgedAt_12 (by decide) ?_
    subst he
    exact K2
