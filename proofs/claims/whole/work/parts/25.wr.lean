theorem dX6_begin_0 : decode cX6_begin 0 = .ok (.aload_n 0, 1) := by decide +kernel
theorem dX6_begin_1 : decode cX6_begin 1 = .ok (.getfield 12, 3) := by decide +kernel
theorem dX6_begin_4 : decode cX6_begin 4 = .ok (.invokevirtual 80, 3) := by decide +kernel
theorem dX6_begin_7 : decode cX6_begin 7 = .ok (.aload_n 0, 1) := by decide +kernel
theorem dX6_begin_8 : decode cX6_begin 8 = .ok (.iconst 1, 1) := by decide +kernel
theorem dX6_begin_9 : decode cX6_begin 9 = .ok (.putfield 81, 3) := by decide +kernel
theorem dX6_begin_12 : decode cX6_begin 12 = .ok (.aload_n 0, 1) := by decide +kernel
theorem dX6_begin_13 : decode cX6_begin 13 = .ok (.iconst 0, 1) := by decide +kernel
theorem dX6_begin_14 : decode cX6_begin 14 = .ok (.putfield 84, 3) := by decide +kernel
theorem dX6_begin_17 : decode cX6_begin 17 = .ok (.aload_n 0, 1) := by decide +kernel
theorem dX6_begin_18 : decode cX6_begin 18 = .ok (.iconst 0, 1) := by decide +kernel
theorem dX6_begin_19 : decode cX6_begin 19 = .ok (.putfield 87, 3) := by decide +kernel
theorem dX6_begin_22 : decode cX6_begin 22 = .ok (.return_, 1) := by decide +kernel
noncomputable def f_X6_begin  (w : Nat → Int32) (a : Nat → Int32) (b : Nat → Int32) (c : Nat → Int32)  : Option ((Nat → Int32) × (Nat → Int32) × (Nat → Int32) × (Nat → Int32)) := bd (f_X4_begin a b c) (fun ⟨u1, u2, u3⟩ => some ((upd (upd (upd w 1 1) 2 0) 3 0), u1, u2, u3))
set_option maxHeartbeats 4000000 in
set_option maxRecDepth 100000 in
theorem c_X6_begin (l : Launch) (Λ : LY) (hF : FL Λ) (σ : CS)  (w : Nat → Int32) (a : Nat → Int32) (b : Nat → Int32) (c : Nat → Int32)    {w' : Nat → Int32} {a' : Nat → Int32} {b' : Nat → Int32} {c' : Nat → Int32} (hf : f_X6_begin w a b c = some (w', a', b', c')) : CM l yX6_begin (.code yX6_begin cX6_begin 1 none :: TT) ({ frames := 2, cells := 0, slots := 0, locals := 40 }) Λ [.ref (ya Λ 16 0)] (qWr σ w a b c) (qWr σ w' a' b' c') (none) := by
  refine CM_intro (own := RX6) (by decide) rfl (Nat.le_of_ble_eq_true rfl) ?_
  intro Γ hg hl hΓ hE
  subst hg; subst hl
  show GG Γ (0, 0) (qWr σ w a b c) 0 [(0, .ref (ya (gl Γ) 16 0))] []
  unfold f_X6_begin at hf
  refine G_aload_n hΓ 0 dX6_begin_0 rfl ?_
  refine F_get hΓ (t := 16) (i := 0) (ci := 9) (C := RX6) (T := TX6) (N := 4) (fs6 (gl Γ) 0) (v := .ref (ya (gl Γ) 6 32)) (FLi hF (t := 16) (by decide)) (fun _ _ _ => rfl) rfl rfl rfl rfl inW6 0 (by decide) (TT_cons kw_260) rfl dX6_begin_1 ?_
  obtain ⟨⟨u1, u2, u3⟩, hc4, hf⟩ := bd_some hf
  try dsimp only at hf
  refine G_callV hΓ (n := 0) (As := []) (t := 6) (i := 32) (ci := 7) (T := TX4) (N := 3) (FS := fs4 (gl Γ) 32) (σ' := (qWr σ w u1 u2 u3)) (c_X4_begin (gL Γ) (gl Γ) hF (qWr σ w a b c) 32 a b c  (by decide) hc4) qSum_qWr qSum_qWr kw_536 kw_537 kw_538 kw_4 kw_539 ⟨rfl, by decide, by decide, by decide +kernel⟩ (FLi hF (t := 6) (by decide)) (fun _ _ _ => rfl) rfl rfl rfl ⟨Nat.le_of_ble_eq_true rfl, Nat.le_of_ble_eq_true rfl⟩ rfl (Nat.le_of_ble_eq_true rfl) dX6_begin_4 ⟨_, rfl⟩ rfl ?_
  refine G_aload_n hΓ 0 dX6_begin_7 rfl ?_
  refine G_iconst (v := 1) hΓ dX6_begin_8 (by decide) ?_
  refine F_put hΓ (t := 16) (i := 0) (ci := 9) (C := RX6) (T := TX6) (N := 4) (fs6 (gl Γ) 0) (f := w) (f' := (upd w 1 1)) (σ' := (qWr σ (upd w 1 1) u1 u2 u3)) (ty := .int) (v := .int 1) tyX6 tyX6_ok nmX6 (FLi hF (t := 16) (by decide)) (fun _ _ _ => rfl) qWr_g16 qWr_s16 rfl inW6 1 (by decide) (TT_cons kw_262) rfl (by decide +kernel) rfl rfl (fun _ _ => Nat.le_of_ble_eq_true rfl) (fun _ _ => rfl) dX6_begin_9 ?_
  refine G_aload_n hΓ 0 dX6_begin_12 rfl ?_
  refine G_iconst (v := 0) hΓ dX6_begin_13 (by decide) ?_
  refine F_put hΓ (t := 16) (i := 0) (ci := 9) (C := RX6) (T := TX6) (N := 4) (fs6 (gl Γ) 0) (f := (upd w 1 1)) (f' := (upd (upd w 1 1) 2 0)) (σ' := (qWr σ (upd (upd w 1 1) 2 0) u1 u2 u3)) (ty := .int) (v := .int 0) tyX6 tyX6_ok nmX6 (FLi hF (t := 16) (by decide)) (fun _ _ _ => rfl) qWr_g16 qWr_s16 rfl inW6 2 (by decide) (TT_cons kw_263) rfl (by decide +kernel) rfl rfl (fun _ _ => Nat.le_of_ble_eq_true rfl) (fun _ _ => rfl) dX6_begin_14 ?_
  refine G_aload_n hΓ 0 dX6_begin_17 rfl ?_
  refine G_iconst (v := 0) hΓ dX6_begin_18 (by decide) ?_
  refine F_put hΓ (t := 16) (i := 0) (ci := 9) (C := RX6) (T := TX6) (N := 4) (fs6 (gl Γ) 0) (f := (upd (upd w 1 1) 2 0)) (f' := (upd (upd (upd w 1 1) 2 0) 3 0)) (σ' := (qWr σ (upd (upd (upd w 1 1) 2 0) 3 0) u1 u2 u3)) (ty := .int) (v := .int 0) tyX6 tyX6_ok nmX6 (FLi hF (t := 16) (by decide)) (fun _ _ _ => rfl) qWr_g16 qWr_s16 rfl inW6 3 (by decide) (TT_cons kw_264) rfl (by decide +kernel) rfl rfl (fun _ _ => Nat.le_of_ble_eq_true rfl) (fun _ _ => rfl) dX6_begin_19 ?_
  cases hf
  exact G_vret hΓ hE dX6_begin_22
theorem dX6_writeStuffBit_0 : decode cX6_writeStuffBit 0 = .ok (.aload_n 0, 1) := by decide +kernel
theorem dX6_writeStuffBit_1 : decode cX6_writeStuffBit 1 = .ok (.getfield 84, 3) := by decide +kernel
theorem dX6_writeStuffBit_4 : decode cX6_writeStuffBit 4 = .ok (.iconst 5, 1) := by decide +kernel
theorem dX6_writeStuffBit_5 : decode cX6_writeStuffBit 5 = .ok (.if_icmp .ne 48, 3) := by decide +kernel
theorem dX6_writeStuffBit_8 : decode cX6_writeStuffBit 8 = .ok (.aload_n 0, 1) := by decide +kernel
theorem dX6_writeStuffBit_9 : decode cX6_writeStuffBit 9 = .ok (.iconst 1, 1) := by decide +kernel
theorem dX6_writeStuffBit_10 : decode cX6_writeStuffBit 10 = .ok (.aload_n 0, 1) := by decide +kernel
theorem dX6_writeStuffBit_11 : decode cX6_writeStuffBit 11 = .ok (.getfield 81, 3) := by decide +kernel
theorem dX6_writeStuffBit_14 : decode cX6_writeStuffBit 14 = .ok (.isub, 1) := by decide +kernel
theorem dX6_writeStuffBit_15 : decode cX6_writeStuffBit 15 = .ok (.putfield 81, 3) := by decide +kernel
theorem dX6_writeStuffBit_18 : decode cX6_writeStuffBit 18 = .ok (.aload_n 0, 1) := by decide +kernel
theorem dX6_writeStuffBit_19 : decode cX6_writeStuffBit 19 = .ok (.iconst 1, 1) := by decide +kernel
theorem dX6_writeStuffBit_20 : decode cX6_writeStuffBit 20 = .ok (.putfield 84, 3) := by decide +kernel
theorem dX6_writeStuffBit_23 : decode cX6_writeStuffBit 23 = .ok (.aload_n 0, 1) := by decide +kernel
theorem dX6_writeStuffBit_24 : decode cX6_writeStuffBit 24 = .ok (.dup, 1) := by decide +kernel
theorem dX6_writeStuffBit_25 : decode cX6_writeStuffBit 25 = .ok (.getfield 87, 3) := by decide +kernel
theorem dX6_writeStuffBit_28 : decode cX6_writeStuffBit 28 = .ok (.iconst 1, 1) := by decide +kernel
theorem dX6_writeStuffBit_29 : decode cX6_writeStuffBit 29 = .ok (.iadd, 1) := by decide +kernel
theorem dX6_writeStuffBit_30 : decode cX6_writeStuffBit 30 = .ok (.putfield 87, 3) := by decide +kernel
theorem dX6_writeStuffBit_33 : decode cX6_writeStuffBit 33 = .ok (.aload_n 0, 1) := by decide +kernel
theorem dX6_writeStuffBit_34 : decode cX6_writeStuffBit 34 = .ok (.getfield 12, 3) := by decide +kernel
theorem dX6_writeStuffBit_37 : decode cX6_writeStuffBit 37 = .ok (.aload_n 0, 1) := by decide +kernel
theorem dX6_writeStuffBit_38 : decode cX6_writeStuffBit 38 = .ok (.getfield 81, 3) := by decide +kernel
theorem dX6_writeStuffBit_41 : decode cX6_writeStuffBit 41 = .ok (.invokevirtual 94, 3) := by decide +kernel
theorem dX6_writeStuffBit_44 : decode cX6_writeStuffBit 44 = .ok (.aload_n 1, 1) := by decide +kernel
theorem dX6_writeStuffBit_45 : decode cX6_writeStuffBit 45 = .ok (.aload_n 0, 1) := by decide +kernel
theorem dX6_writeStuffBit_46 : decode cX6_writeStuffBit 46 = .ok (.getfield 81, 3) := by decide +kernel
theorem dX6_writeStuffBit_49 : decode cX6_writeStuffBit 49 = .ok (.iconst 0, 1) := by decide +kernel
theorem dX6_writeStuffBit_50 : decode cX6_writeStuffBit 50 = .ok (.invokevirtual 76, 3) := by decide +kernel
theorem dX6_writeStuffBit_53 : decode cX6_writeStuffBit 53 = .ok (.return_, 1) := by decide +kernel
noncomputable def f_X6_writeStuffBit  (w : Nat → Int32) (b : Nat → Int32) (c : Nat → Int32) (ff : Nat → Int32) (fb : Nat → Int32)  : Option ((Nat → Int32) × (Nat → Int32) × (Nat → Int32) × (Nat → Int32) × (Nat → Int32)) := jn (α := (Nat → Int32) × (Nat → Int32) × (Nat → Int32) × (Nat → Int32) × (Nat → Int32)) (fun ⟨x1, x2, x3, x4, x5⟩ => some (x1, x2, x3, x4, x5)) (fun k6 => if (w 2) = 5 then bd (f_X4_addOther b c (1 - (w 1))) (fun ⟨u8, u9⟩ => bd (f_X0_append ff fb (1 - (w 1)) 0) (fun ⟨u11, u12⟩ => k6 ((upd (upd (upd w 1 (1 - (w 1))) 2 1) 3 ((w 3) + 1)), u8, u9, u11, u12))) else k6 (w, b, c, ff, fb))
set_option maxHeartbeats 4000000 in
set_option maxRecDepth 100000 in
theorem c_X6_writeStuffBit (l : Launch) (Λ : LY) (hF : FL Λ) (σ : CS) (j : Nat) (w : Nat → Int32) (a : Nat → Int32) (b : Nat → Int32) (c : Nat → Int32) (fh : Int64) (ff : Nat → Int32) (fo : Nat → Int32) (fb : Nat → Int32)  (hij : j < 200)  {w' : Nat → Int32} {b' : Nat → Int32} {c' : Nat → Int32} {ff' : Nat → Int32} {fb' : Nat → Int32} (hf : f_X6_writeStuffBit w b c ff fb = some (w', b', c', ff', fb')) : CM l yX6_writeStuffBit (.code yX6_writeStuffBit cX6_writeStuffBit 2 none :: TT) ({ frames := 2, cells := 0, slots := 0, locals := 43 }) Λ [.ref (ya Λ 16 0), .ref (ya Λ 13 j)] (qWF σ j w a b c fh ff fo fb) (qWF σ j w' a b' c' fh ff' fo fb') (none) := by
  refine CM_intro (own := RX6) (by decide) rfl (Nat.le_of_ble_eq_true rfl) ?_
  intro Γ hg hl hΓ hE
  subst hg; subst hl
  show GG Γ (0, 0) (qWF σ j w a b c fh ff fo fb) 0 [(0, .ref (ya (gl Γ) 16 0)), (1, .ref (ya (gl Γ) 13 j))] []
  unfold f_X6_writeStuffBit at hf
  refine G_aload_n hΓ 0 dX6_writeStuffBit_0 rfl ?_
  refine F_get hΓ (t := 16) (i := 0) (ci := 9) (C := RX6) (T := TX6) (N := 4) (fs6 (gl Γ) 0) (v := .int (w 2)) (FLi hF (t := 16) (by decide)) (fun _ _ _ => rfl) qWF_g16 rfl rfl rfl inW6 2 (by decide) (TT_cons kw_263) rfl dX6_writeStuffBit_1 ?_
  refine G_iconst (v := 5) hΓ dX6_writeStuffBit_4 (by decide) ?_
  obtain ⟨k6, hk_k6, hf⟩ := jn_eq hf
  try dsimp only at hf
  have K7 : ∀ x1 x2 x3 x4 x5, k6 (x1, x2, x3, x4, x5) = some (w', b', c', ff', fb') → GG Γ (0, 0) (qWF σ j x1 a x2 x3 fh x4 fo x5) 53 [(0, .ref (ya (gl Γ) 16 0)), (1, .ref (ya (gl Γ) 13 j))] [] := by
    intro x1 x2 x3 x4 x5 hf
    subst hk_k6
    try dsimp only at hf
    cases hf
    exact G_vret hΓ hE dX6_writeStuffBit_53
  clear hk_k6
  refine G_icmp_ne hΓ (tgt := 53) dX6_writeStuffBit_5 (by decide) (fun hc14 => ?_) (fun hc14 => ?_)
  · rw [if_neg hc14] at hf
    exact K7 _ _ _ _ _ hf
  · rw [if_pos hc14] at hf
    refine G_aload_n hΓ 0 dX6_writeStuffBit_8 rfl ?_
    refine G_iconst (v := 1) hΓ dX6_writeStuffBit_9 (by decide) ?_
    refine G_aload_n hΓ 0 dX6_writeStuffBit_10 rfl ?_
    refine F_get hΓ (t := 16) (i := 0) (ci := 9) (C := RX6) (T := TX6) (N := 4) (fs6 (gl Γ) 0) (v := .int (w 1)) (FLi hF (t := 16) (by decide)) (fun _ _ _ => rfl) qWF_g16 rfl rfl rfl inW6 1 (by decide) (TT_cons kw_262) rfl dX6_writeStuffBit_11 ?_
    refine G_isub hΓ dX6_writeStuffBit_14 ?_
    refine F_put hΓ (t := 16) (i := 0) (ci := 9) (C := RX6) (T := TX6) (N := 4) (fs6 (gl Γ) 0) (f := w) (f' := (upd w 1 (1 - (w 1)))) (σ' := (qWF σ j (upd w 1 (1 - (w 1))) a b c fh ff fo fb)) (ty := .int) (v := .int (1 - (w 1))) tyX6 tyX6_ok nmX6 (FLi hF (t := 16) (by decide)) (fun _ _ _ => rfl) qWF_g16 qWF_s16 rfl inW6 1 (by decide) (TT_cons kw_262) rfl (by decide +kernel) rfl rfl (fun _ _ => Nat.le_of_ble_eq_true rfl) (fun _ _ => rfl) dX6_writeStuffBit_15 ?_
    refine G_aload_n hΓ 0 dX6_writeStuffBit_18 rfl ?_
    refine G_iconst (v := 1) hΓ dX6_writeStuffBit_19 (by decide) ?_
    refine F_put hΓ (t := 16) (i := 0) (ci := 9) (C := RX6) (T := TX6) (N := 4) (fs6 (gl Γ) 0) (f := (upd w 1 (1 - (w 1)))) (f' := (upd (upd w 1 (1 - (w 1))) 2 1)) (σ' := (qWF σ j (upd (upd w 1 (1 - (w 1))) 2 1) a b c fh ff fo fb)) (ty := .int) (v := .int 1) tyX6 tyX6_ok nmX6 (FLi hF (t := 16) (by decide)) (fun _ _ _ => rfl) qWF_g16 qWF_s16 rfl inW6 2 (by decide) (TT_cons kw_263) rfl (by decide +kernel) rfl rfl (fun _ _ => Nat.le_of_ble_eq_true rfl) (fun _ _ => rfl) dX6_writeStuffBit_20 ?_
    refine G_aload_n hΓ 0 dX6_writeStuffBit_23 rfl ?_
    refine G_dup hΓ dX6_writeStuffBit_24 rfl ?_
    refine F_get hΓ (t := 16) (i := 0) (ci := 9) (C := RX6) (T := TX6) (N := 4) (fs6 (gl Γ) 0) (v := .int (w 3)) (FLi hF (t := 16) (by decide)) (fun _ _ _ => rfl) qWF_g16 rfl rfl rfl inW6 3 (by decide) (TT_cons kw_264) rfl dX6_writeStuffBit_25 ?_
    refine G_iconst (v := 1) hΓ dX6_writeStuffBit_28 (by decide) ?_
    refine G_iadd hΓ dX6_writeStuffBit_29 ?_
    refine F_put hΓ (t := 16) (i := 0) (ci := 9) (C := RX6) (T := TX6) (N := 4) (fs6 (gl Γ) 0) (f := (upd (upd w 1 (1 - (w 1))) 2 1)) (f' := (upd (upd (upd w 1 (1 - (w 1))) 2 1) 3 ((w 3) + 1))) (σ' := (qWF σ j (upd (upd (upd w 1 (1 - (w 1))) 2 1) 3 ((w 3) + 1)) a b c fh ff fo fb)) (ty := .int) (v := .int ((w 3) + 1)) tyX6 tyX6_ok nmX6 (FLi hF (t := 16) (by decide)) (fun _ _ _ => rfl) qWF_g16 qWF_s16 rfl inW6 3 (by decide) (TT_cons kw_264) rfl (by decide +kernel) rfl rfl (fun _ _ => Nat.le_of_ble_eq_true rfl) (fun _ _ => rfl) dX6_writeStuffBit_30 ?_
    refine G_aload_n hΓ 0 dX6_writeStuffBit_33 rfl ?_
    refine F_get hΓ (t := 16) (i := 0) (ci := 9) (C := RX6) (T := TX6) (N := 4) (fs6 (gl Γ) 0) (v := .ref (ya (gl Γ) 6 32)) (FLi hF (t := 16) (by decide)) (fun _ _ _ => rfl) rfl rfl rfl rfl inW6 0 (by decide) (TT_cons kw_260) rfl dX6_writeStuffBit_34 ?_
    refine G_aload_n hΓ 0 dX6_writeStuffBit_37 rfl ?_
    refine F_get hΓ (t := 16) (i := 0) (ci := 9) (C := RX6) (T := TX6) (N := 4) (fs6 (gl Γ) 0) (v := .int (1 - (w 1))) (FLi hF (t := 16) (by decide)) (fun _ _ _ => rfl) qWF_g16 rfl rfl rfl inW6 1 (by decide) (TT_cons kw_262) rfl dX6_writeStuffBit_38 ?_
    obtain ⟨⟨u8, u9⟩, hc10, hf⟩ := bd_some hf
    try dsimp only at hf
    refine G_callV hΓ (n := 1) (As := [.int (1 - (w 1))]) (t := 6) (i := 32) (ci := 7) (T := TX4) (N := 3) (FS := fs4 (gl Γ) 32) (σ' := (qWF σ j (upd (upd (upd w 1 (1 - (w 1))) 2 1) 3 ((w 3) + 1)) a u8 u9 fh ff fo fb)) (c_X4_addOther (gL Γ) (gl Γ) hF (qWF σ j (upd (upd (upd w 1 (1 - (w 1))) 2 1) 3 ((w 3) + 1)) a b c fh ff fo fb) 32 a b c (1 - (w 1)) (by decide) hc10) qSum_qWF qSum_qWF kw_555 kw_556 kw_557 kw_4 kw_558 ⟨rfl, by decide, by decide, by decide +kernel⟩ (FLi hF (t := 6) (by decide)) (fun _ _ _ => rfl) rfl rfl rfl ⟨Nat.le_of_ble_eq_true rfl, Nat.le_of_ble_eq_true rfl⟩ rfl (Nat.le_of_ble_eq_true rfl) dX6_writeStuffBit_41 ⟨_, rfl⟩ rfl ?_
    refine G_aload_n hΓ 1 dX6_writeStuffBit_44 rfl ?_
    refine G_aload_n hΓ 0 dX6_writeStuffBit_45 rfl ?_
    refine F_get hΓ (t := 16) (i := 0) (ci := 9) (C := RX6) (T := TX6) (N := 4) (fs6 (gl Γ) 0) (v := .int (1 - (w 1))) (FLi hF (t := 16) (by decide)) (fun _ _ _ => rfl) qWF_g16 rfl rfl rfl inW6 1 (by decide) (TT_cons kw_262) rfl dX6_writeStuffBit_46 ?_
    refine G_iconst (v := 0) hΓ dX6_writeStuffBit_49 (by decide) ?_
    obtain ⟨⟨u11, u12⟩, hc13, hf⟩ := bd_some hf
    try dsimp only at hf
    refine G_callV hΓ (n := 2) (As := [.int (1 - (w 1)), .int 0]) (t := 13) (i := j) (ci := 3) (T := TX0) (N := 9) (FS := fs0 (gl Γ) j) (σ' := (qWF σ j (upd (upd (upd w 1 (1 - (w 1))) 2 1) 3 ((w 3) + 1)) a u8 u9 fh u11 fo u12)) (c_X0_append (gL Γ) (gl Γ) hF (qWF σ j (upd (upd (upd w 1 (1 - (w 1))) 2 1) 3 ((w 3) + 1)) a u8 u9 fh ff fo fb) j fh ff fo fb (1 - (w 1)) 0 hij hc13) qFr_qWF qFr_qWF kw_563 kw_564 kw_565 kw_7 kw_566 ⟨rfl, by decide, by decide, by decide +kernel⟩ (FLi hF (t := 13) hij) (fun _ _ _ => rfl) rfl rfl rfl ⟨Nat.le_of_ble_eq_true rfl, Nat.le_of_ble_eq_true rfl⟩ rfl (Nat.le_of_ble_eq_true rfl) dX6_writeStuffBit_50 ⟨_, rfl⟩ rfl ?_
    exact K7 _ _ _ _ _ hf
theorem dX6_writePlain_0 : decode cX6_writePlain 0 = .ok (.aload_n 0, 1) := by decide +kernel
theorem dX6_writePlain_1 : decode cX6_writePlain 1 = .ok (.aload_n 1, 1) := by decide +kernel
theorem dX6_writePlain_2 : decode cX6_writePlain 2 = .ok (.invokevirtual 73, 3) := by decide +kernel
theorem dX6_writePlain_5 : decode cX6_writePlain 5 = .ok (.aload_n 0, 1) := by decide +kernel
theorem dX6_writePlain_6 : decode cX6_writePlain 6 = .ok (.getfield 12, 3) := by decide +kernel
theorem dX6_writePlain_9 : decode cX6_writePlain 9 = .ok (.iload_n 2, 1) := by decide +kernel
theorem dX6_writePlain_10 : decode cX6_writePlain 10 = .ok (.invokevirtual 90, 3) := by decide +kernel
theorem dX6_writePlain_13 : decode cX6_writePlain 13 = .ok (.aload_n 0, 1) := by decide +kernel
theorem dX6_writePlain_14 : decode cX6_writePlain 14 = .ok (.iload_n 2, 1) := by decide +kernel
theorem dX6_writePlain_15 : decode cX6_writePlain 15 = .ok (.aload_n 0, 1) := by decide +kernel
theorem dX6_writePlain_16 : decode cX6_writePlain 16 = .ok (.getfield 81, 3) := by decide +kernel
theorem dX6_writePlain_19 : decode cX6_writePlain 19 = .ok (.if_icmp .ne 12, 3) := by decide +kernel
theorem dX6_writePlain_22 : decode cX6_writePlain 22 = .ok (.aload_n 0, 1) := by decide +kernel
theorem dX6_writePlain_23 : decode cX6_writePlain 23 = .ok (.getfield 84, 3) := by decide +kernel
theorem dX6_writePlain_26 : decode cX6_writePlain 26 = .ok (.iconst 1, 1) := by decide +kernel
theorem dX6_writePlain_27 : decode cX6_writePlain 27 = .ok (.iadd, 1) := by decide +kernel
theorem dX6_writePlain_28 : decode cX6_writePlain 28 = .ok (.goto 4, 3) := by decide +kernel
theorem dX6_writePlain_31 : decode cX6_writePlain 31 = .ok (.iconst 1, 1) := by decide +kernel
theorem dX6_writePlain_32 : decode cX6_writePlain 32 = .ok (.putfield 84, 3) := by decide +kernel
theorem dX6_writePlain_35 : decode cX6_writePlain 35 = .ok (.aload_n 0, 1) := by decide +kernel
theorem dX6_writePlain_36 : decode cX6_writePlain 36 = .ok (.iload_n 2, 1) := by decide +kernel
theorem dX6_writePlain_37 : decode cX6_writePlain 37 = .ok (.putfield 81, 3) := by decide +kernel
theorem dX6_writePlain_40 : decode cX6_writePlain 40 = .ok (.aload_n 1, 1) := by decide +kernel
theorem dX6_writePlain_41 : decode cX6_writePlain 41 = .ok (.iload_n 2, 1) := by decide +kernel
theorem dX6_writePlain_42 : decode cX6_writePlain 42 = .ok (.iload_n 3, 1) := by decide +kernel
theorem dX6_writePlain_43 : decode cX6_writePlain 43 = .ok (.invokevirtual 76, 3) := by decide +kernel
theorem dX6_writePlain_46 : decode cX6_writePlain 46 = .ok (.return_, 1) := by decide +kernel
noncomputable def f_X6_writePlain  (w : Nat → Int32) (a : Nat → Int32) (b : Nat → Int32) (c : Nat → Int32) (ff : Nat → Int32) (fb : Nat → Int32) (p2 : Int32) (p3 : Int32) : Option ((Nat → Int32) × (Nat → Int32) × (Nat → Int32) × (Nat → Int32) × (Nat → Int32) × (Nat → Int32)) := bd (f_X6_writeStuffBit w b c ff fb) (fun ⟨u1, u2, u3, u4, u5⟩ => bd (f_X4_addPlain a u2 u3 p2) (fun ⟨u7, u8, u9⟩ => lt (α := Int32) (if p2 = (u1 1) then ((u1 2) + 1) else 1) (fun x11 => bd (f_X0_append u4 u5 p2 p3) (fun ⟨u15, u16⟩ => some ((upd (upd u1 2 x11) 1 p2), u7, u8, u9, u15, u16)))))
set_option maxHeartbeats 4000000 in
set_option maxRecDepth 100000 in
theorem c_X6_writePlain (l : Launch) (Λ : LY) (hF : FL Λ) (σ : CS) (j : Nat) (w : Nat → Int32) (a : Nat → Int32) (b : Nat → Int32) (c : Nat → Int32) (fh : Int64) (ff : Nat → Int32) (fo : Nat → Int32) (fb : Nat → Int32) (p2 : Int32) (p3 : Int32) (hij : j < 200)  {w' : Nat → Int32} {a' : Nat → Int32} {b' : Nat → Int32} {c' : Nat → Int32} {ff' : Nat → Int32} {fb' : Nat → Int32} (hf : f_X6_writePlain w a b c ff fb p2 p3 = some (w', a', b', c', ff', fb')) : CM l yX6_writePlain (.code yX6_writePlain cX6_writePlain 4 none :: TT) ({ frames := 3, cells := 0, slots := 0, locals := 64 }) Λ [.ref (ya Λ 16 0), .ref (ya Λ 13 j), .int p2, .int p3] (qWF σ j w a b c fh ff fo fb) (qWF σ j w' a' b' c' fh ff' fo fb') (none) := by
  refine CM_intro (own := RX6) (by decide) rfl (Nat.le_of_ble_eq_true rfl) ?_
  intro Γ hg hl hΓ hE
  subst hg; subst hl
  show GG Γ (0, 0) (qWF σ j w a b c fh ff fo fb) 0 [(0, .ref (ya (gl Γ) 16 0)), (1, .ref (ya (gl Γ) 13 j)), (2, .int p2), (3, .int p3)] []
  unfold f_X6_writePlain at hf
  refine G_aload_n hΓ 0 dX6_writePlain_0 rfl ?_
  refine G_aload_n hΓ 1 dX6_writePlain_1 rfl ?_
  obtain ⟨⟨u1, u2, u3, u4, u5⟩, hc6, hf⟩ := bd_some hf
  try dsimp only at hf
  refine G_callV hΓ (n := 1) (As := [.ref (ya (gl Γ) 13 j)]) (t := 16) (i := 0) (ci := 9) (T := TX6) (N := 4) (FS := fs6 (gl Γ) 0) (σ' := (qWF σ j u1 a u2 u3 fh u4 fo u5)) (c_X6_writeStuffBit (gL Γ) (gl Γ) hF σ j w a b c fh ff fo fb  hij hc6) rfl rfl kw_551 kw_553 kp_6 kw_8 kw_554 ⟨rfl, by decide, by decide, by decide +kernel⟩ (FLi hF (t := 16) (by decide)) (fun _ _ _ => rfl) rfl rfl rfl ⟨Nat.le_of_ble_eq_true rfl, Nat.le_of_ble_eq_true rfl⟩ rfl (Nat.le_of_ble_eq_true rfl) dX6_writePlain_2 ⟨_, rfl⟩ rfl ?_
  refine G_aload_n hΓ 0 dX6_writePlain_5 rfl ?_
  refine F_get hΓ (t := 16) (i := 0) (ci := 9) (C := RX6) (T := TX6) (N := 4) (fs6 (gl Γ) 0) (v := .ref (ya (gl Γ) 6 32)) (FLi hF (t := 16) (by decide)) (fun _ _ _ => rfl) rfl rfl rfl rfl inW6 0 (by decide) (TT_cons kw_260) rfl dX6_writePlain_6 ?_
  refine G_iload_n hΓ 2 dX6_writePlain_9 rfl ?_
  obtain ⟨⟨u7, u8, u9⟩, hc10, hf⟩ := bd_some hf
  try dsimp only at hf
  refine G_callV hΓ (n := 1) (As := [.int p2]) (t := 6) (i := 32) (ci := 7) (T := TX4) (N := 3) (FS := fs4 (gl Γ) 32) (σ' := (qWF σ j u1 u7 u8 u9 fh u4 fo u5)) (c_X4_addPlain (gL Γ) (gl Γ) hF (qWF σ j u1 a u2 u3 fh u4 fo u5) 32 a u2 u3 p2 (by decide) hc10) qSum_qWF qSum_qWF kw_567 kw_568 kw_569 kw_4 kw_570 ⟨rfl, by decide, by decide, by decide +kernel⟩ (FLi hF (t := 6) (by decide)) (fun _ _ _ => rfl) rfl rfl rfl ⟨Nat.le_of_ble_eq_true rfl, Nat.le_of_ble_eq_true rfl⟩ rfl (Nat.le_of_ble_eq_true rfl) dX6_writePlain_10 ⟨_, rfl⟩ rfl ?_
  refine G_aload_n hΓ 0 dX6_writePlain_13 rfl ?_
  refine G_iload_n hΓ 2 dX6_writePlain_14 rfl ?_
  refine G_aload_n hΓ 0 dX6_writePlain_15 rfl ?_
  refine F_get hΓ (t := 16) (i := 0) (ci := 9) (C := RX6) (T := TX6) (N := 4) (fs6 (gl Γ) 0) (v := .int (u1 1)) (FLi hF (t := 16) (by decide)) (fun _ _ _ => rfl) qWF_g16 rfl rfl rfl inW6 1 (by decide) (TT_cons kw_262) rfl dX6_writePlain_16 ?_
  obtain ⟨x11, he14, hf⟩ := lt_eq hf
  have K12 : GG Γ (0, 0) (qWF σ j u1 u7 u8 u9 fh u4 fo u5) 32 [(0, .ref (ya (gl Γ) 16 0)), (1, .ref (ya (gl Γ) 13 j)), (2, .int p2), (3, .int p3)] [.int x11, .ref (ya (gl Γ) 16 0)] := by
    refine F_put hΓ (t := 16) (i := 0) (ci := 9) (C := RX6) (T := TX6) (N := 4) (fs6 (gl Γ) 0) (f := u1) (f' := (upd u1 2 x11)) (σ' := (qWF σ j (upd u1 2 x11) u7 u8 u9 fh u4 fo u5)) (ty := .int) (v := .int x11) tyX6 tyX6_ok nmX6 (FLi hF (t := 16) (by decide)) (fun _ _ _ => rfl) qWF_g16 qWF_s16 rfl inW6 2 (by decide) (TT_cons kw_263) rfl (by decide +kernel) rfl rfl (fun _ _ => Nat.le_of_ble_eq_true rfl) (fun _ _ => rfl) dX6_writePlain_32 ?_
    refine G_aload_n hΓ 0 dX6_writePlain_35 rfl ?_
    refine G_iload_n hΓ 2 dX6_writePlain_36 rfl ?_
    refine F_put hΓ (t := 16) (i := 0) (ci := 9) (C := RX6) (T := TX6) (N := 4) (fs6 (gl Γ) 0) (f := (upd u1 2 x11)) (f' := (upd (upd u1 2 x11) 1 p2)) (σ' := (qWF σ j (upd (upd u1 2 x11) 1 p2) u7 u8 u9 fh u4 fo u5)) (ty := .int) (v := .int p2) tyX6 tyX6_ok nmX6 (FLi hF (t := 16) (by decide)) (fun _ _ _ => rfl) qWF_g16 qWF_s16 rfl inW6 1 (by decide) (TT_cons kw_262) rfl (by decide +kernel) rfl rfl (fun _ _ => Nat.le_of_ble_eq_true rfl) (fun _ _ => rfl) dX6_writePlain_37 ?_
    refine G_aload_n hΓ 1 dX6_writePlain_40 rfl ?_
    refine G_iload_n hΓ 2 dX6_writePlain_41 rfl ?_
    refine G_iload_n hΓ 3 dX6_writePlain_42 rfl ?_
    obtain ⟨⟨u15, u16⟩, hc17, hf⟩ := bd_some hf
    try dsimp only at hf
    refine G_callV hΓ (n := 2) (As := [.int p2, .int p3]) (t := 13) (i := j) (ci := 3) (T := TX0) (N := 9) (FS := fs0 (gl Γ) j) (σ' := (qWF σ j (upd (upd u1 2 x11) 1 p2) u7 u8 u9 fh u15 fo u16)) (c_X0_append (gL Γ) (gl Γ) hF (qWF σ j (upd (upd u1 2 x11) 1 p2) u7 u8 u9 fh u4 fo u5) j fh u4 fo u5 p2 p3 hij hc17) qFr_qWF qFr_qWF kw_563 kw_564 kw_565 kw_7 kw_566 ⟨rfl, by decide, by decide, by decide +kernel⟩ (FLi hF (t := 13) hij) (fun _ _ _ => rfl) rfl rfl rfl ⟨Nat.le_of_ble_eq_true rfl, Nat.le_of_ble_eq_true rfl⟩ rfl (Nat.le_of_ble_eq_true rfl) dX6_writePlain_43 ⟨_, rfl⟩ rfl ?_
    cases hf
    exact G_vret hΓ hE dX6_writePlain_46
  have he := he14
  refine G_icmp_ne hΓ (tgt := 31) dX6_writePlain_19 (by decide) (fun hc13 => ?_) (fun hc13 => ?_)
  · rw [if_neg hc13] at he
    refine G_iconst (v := 1) hΓ dX6_writePlain_31 (by decide) ?_
    subst he
    exact K12
  · rw [if_pos hc13] at he
    refine G_aload_n hΓ 0 dX6_writePlain_22 rfl ?_
    refine F_get hΓ (t := 16) (i := 0) (ci := 9) (C := RX6) (T := TX6) (N := 4) (fs6 (gl Γ) 0) (v := .int (u1 2)) (FLi hF (t := 16) (by decide)) (fun _ _ _ => rfl) qWF_g16 rfl rfl rfl inW6 2 (by decide) (TT_cons kw_263) rfl dX6_writePlain_23 ?_
    refine G_iconst (v := 1) hΓ dX6_writePlain_26 (by decide) ?_
    refine G_iadd hΓ dX6_writePlain_27 ?_
    refine G_goto hΓ (tgt := 32) dX6_writePlain_28 (by decide) ?_
    subst he
    exact K12
theorem dX6_writeNumber_0 : decode cX6_writeNumber 0 = .ok (.iload_n 3, 1) := by decide +kernel
theorem dX6_writeNumber_1 : decode cX6_writeNumber 1 = .ok (.iconst 1, 1) := by decide +kernel
theorem dX6_writeNumber_2 : decode cX6_writeNumber 2 = .ok (.isub, 1) := by decide +kernel
theorem dX6_writeNumber_3 : decode cX6_writeNumber 3 = .ok (.istore 4, 2) := by decide +kernel
theorem dX6_writeNumber_5 : decode cX6_writeNumber 5 = .ok (.iload 4, 2) := by decide +kernel
theorem dX6_writeNumber_7 : decode cX6_writeNumber 7 = .ok (.ifCond .lt 21, 3) := by decide +kernel
theorem dX6_writeNumber_10 : decode cX6_writeNumber 10 = .ok (.aload_n 0, 1) := by decide +kernel
theorem dX6_writeNumber_11 : decode cX6_writeNumber 11 = .ok (.aload_n 1, 1) := by decide +kernel
theorem dX6_writeNumber_12 : decode cX6_writeNumber 12 = .ok (.iload_n 2, 1) := by decide +kernel
theorem dX6_writeNumber_13 : decode cX6_writeNumber 13 = .ok (.iload 4, 2) := by decide +kernel
theorem dX6_writeNumber_15 : decode cX6_writeNumber 15 = .ok (.ishr, 1) := by decide +kernel
theorem dX6_writeNumber_16 : decode cX6_writeNumber 16 = .ok (.iconst 1, 1) := by decide +kernel
theorem dX6_writeNumber_17 : decode cX6_writeNumber 17 = .ok (.iand, 1) := by decide +kernel
theorem dX6_writeNumber_18 : decode cX6_writeNumber 18 = .ok (.iconst 0, 1) := by decide +kernel
theorem dX6_writeNumber_19 : decode cX6_writeNumber 19 = .ok (.invokevirtual 45, 3) := by decide +kernel
theorem dX6_writeNumber_22 : decode cX6_writeNumber 22 = .ok (.iinc 4 (-1), 3) := by decide +kernel
theorem dX6_writeNumber_25 : decode cX6_writeNumber 25 = .ok (.goto (-20), 3) := by decide +kernel
theorem dX6_writeNumber_28 : decode cX6_writeNumber 28 = .ok (.return_, 1) := by decide +kernel
noncomputable def L_X6_writeNumber_5 (p2 : Int32) (k8 : (Nat → Int32) × (Nat → Int32) × (Nat → Int32) × (Nat → Int32) × (Nat → Int32) × (Nat → Int32) × Int32 → Option ((Nat → Int32) × (Nat → Int32) × (Nat → Int32) × (Nat → Int32) × (Nat → Int32) × (Nat → Int32))) : Nat → (Nat → Int32) → (Nat → Int32) → (Nat → Int32) → (Nat → Int32) → (Nat → Int32) → (Nat → Int32) → Int32 → Option ((Nat → Int32) × (Nat → Int32) × (Nat → Int32) × (Nat → Int32) × (Nat → Int32) × (Nat → Int32))
  | 0, _, _, _, _, _, _, _ => none
  | nn + 1, v1, v2, v3, v4, v5, v6, v7 => if v7 < 0 then k8 (v1, v2, v3, v4, v5, v6, v7) else bd (f_X6_writePlain v1 v2 v3 v4 v5 v6 ((p2 >>> (v7 &&& 31)) &&& 1) 0) (fun ⟨u10, u11, u12, u13, u14, u15⟩ => L_X6_writeNumber_5 p2 k8 nn u10 u11 u12 u13 u14 u15 (v7 + (-1)))
noncomputable def f_X6_writeNumber  (w : Nat → Int32) (a : Nat → Int32) (b : Nat → Int32) (c : Nat → Int32) (ff : Nat → Int32) (fb : Nat → Int32) (p2 : Int32) (p3 : Int32) : Option ((Nat → Int32) × (Nat → Int32) × (Nat → Int32) × (Nat → Int32) × (Nat → Int32) × (Nat → Int32)) := jn (α := (Nat → Int32) × (Nat → Int32) × (Nat → Int32) × (Nat → Int32) × (Nat → Int32) × (Nat → Int32) × Int32) (fun ⟨v1, v2, v3, v4, v5, v6, v7⟩ => some (v1, v2, v3, v4, v5, v6)) (fun k8 => L_X6_writeNumber_5 p2 k8 fu w a b c ff fb (p3 - 1))
set_option maxHeartbeats 4000000 in
set_option maxRecDepth 100000 in
theorem c_X6_writeNumber (l : Launch) (Λ : LY) (hF : FL Λ) (σ : CS) (j : Nat) (w : Nat → Int32) (a : Nat → Int32) (b : Nat → Int32) (c : Nat → Int32) (fh : Int64) (ff : Nat → Int32) (fo : Nat → Int32) (fb : Nat → Int32) (p2 : Int32) (p3 : Int32) (hij : j < 200)  {w' : Nat → Int32} {a' : Nat → Int32} {b' : Nat → Int32} {c' : Nat → Int32} {ff' : Nat → Int32} {fb' : Nat → Int32} (hf : f_X6_writeNumber w a b c ff fb p2 p3 = some (w', a', b', c', ff', fb')) : CM l yX6_writeNumber (.code yX6_writeNumber cX6_writeNumber 5 none :: TT) ({ frames := 4, cells := 0, slots := 0, locals := 87 }) Λ [.ref (ya Λ 16 0), .ref (ya Λ 13 j), .int p2, .int p3] (qWF σ j w a b c fh ff fo fb) (qWF σ j w' a' b' c' fh ff' fo fb') (none) := by
  refine CM_intro (own := RX6) (by decide) rfl (Nat.le_of_ble_eq_true rfl) ?_
  intro Γ hg hl hΓ hE
  subst hg; subst hl
  show GG Γ (0, 0) (qWF σ j w a b c fh ff fo fb) 0 [(0, .ref (ya (gl Γ) 16 0)), (1, .ref (ya (gl Γ) 13 j)), (2, .int p2), (3, .int p3)] []
  unfold f_X6_writeNumber at hf
  refine G_iload_n hΓ 3 dX6_writeNumber_0 rfl ?_
  refine G_iconst (v := 1) hΓ dX6_writeNumber_1 (by decide) ?_
  refine G_isub hΓ dX6_writeNumber_2 ?_
  refine G_istore hΓ [(4, .int (p3 - 1)), (0, .ref (ya (gl Γ) 16 0)), (1, .ref (ya (gl Γ) 13 j)), (2, .int p2), (3, .int p3)] dX6_writeNumber_3 (by decide) rfl ?_
  obtain ⟨k8, hk_k8, hf⟩ := jn_eq hf
  try dsimp only at hf
  have K9 : ∀ v1 v2 v3 v4 v5 v6 v7, k8 (v1, v2, v3, v4, v5, v6, v7) = some (w', a', b', c', ff', fb') → GG Γ (0, 0) (qWF σ j v1 v2 v3 v4 fh v5 fo v6) 28 [(4, .int v7), (0, .ref (ya (gl Γ) 16 0)), (1, .ref (ya (gl Γ) 13 j)), (2, .int p2), (3, .int p3)] [] := by
    intro v1 v2 v3 v4 v5 v6 v7 hf
    subst hk_k8
    try dsimp only at hf
    cases hf
    exact G_vret hΓ hE dX6_writeNumber_28
  clear hk_k8
  have loop18 : ∀ (nn : Nat) v1 v2 v3 v4 v5 v6 v7, L_X6_writeNumber_5 p2 k8 nn v1 v2 v3 v4 v5 v6 v7 = some (w', a', b', c', ff', fb') → GG Γ (0, 0) (qWF σ j v1 v2 v3 v4 fh v5 fo v6) 5 [(4, .int v7), (0, .ref (ya (gl Γ) 16 0)), (1, .ref (ya (gl Γ) 13 j)), (2, .int p2), (3, .int p3)] [] := by
    intro nn
    induction nn with
    | zero => intro v1 v2 v3 v4 v5 v6 v7 hf; cases hf
    | succ nn ih =>
      intro v1 v2 v3 v4 v5 v6 v7 hf
      rw [L_X6_writeNumber_5] at hf
      refine G_iload hΓ 0 dX6_writeNumber_5 rfl ?_
      refine G_if_lt hΓ (tgt := 28) dX6_writeNumber_7 (by decide) (fun hc17 => ?_) (fun hc17 => ?_)
      · rw [if_pos hc17] at hf
        exact (K9 _ _ _ _ _ _ _ hf)
      · rw [if_neg hc17] at hf
        refine G_aload_n hΓ 1 dX6_writeNumber_10 rfl ?_
        refine G_aload_n hΓ 2 dX6_writeNumber_11 rfl ?_
        refine G_iload_n hΓ 3 dX6_writeNumber_12 rfl ?_
        refine G_iload hΓ 0 dX6_writeNumber_13 rfl ?_
        refine G_ishr hΓ dX6_writeNumber_15 ?_
        refine G_iconst (v := 1) hΓ dX6_writeNumber_16 (by decide) ?_
        refine G_iand hΓ dX6_writeNumber_17 ?_
        refine G_iconst (v := 0) hΓ dX6_writeNumber_18 (by decide) ?_
        obtain ⟨⟨u10, u11, u12, u13, u14, u15⟩, hc16, hf⟩ := bd_some hf
        try dsimp only at hf
        refine G_callV hΓ (n := 3) (As := [.ref (ya (gl Γ) 13 j), .int ((p2 >>> (v7 &&& 31)) &&& 1), .int 0]) (t := 16) (i := 0) (ci := 9) (T := TX6) (N := 4) (FS := fs6 (gl Γ) 0) (σ' := (qWF σ j u10 u11 u12 u13 fh u14 fo u15)) (c_X6_writePlain (gL Γ) (gl Γ) hF σ j v1 v2 v3 v4 fh v5 fo v6 ((p2 >>> (v7 &&& 31)) &&& 1) 0 hij hc16) rfl rfl kw_547 kw_549 kp_5 kw_8 kw_550 ⟨rfl, by decide, by decide, by decide +kernel⟩ (FLi hF (t := 16) (by decide)) (fun _ _ _ => rfl) rfl rfl rfl ⟨Nat.le_of_ble_eq_true rfl, Nat.le_of_ble_eq_true rfl⟩ rfl (Nat.le_of_ble_eq_true rfl) dX6_writeNumber_19 ⟨_, rfl⟩ rfl ?_
        refine G_iinc hΓ 0 [(4, .int (v7 + (-1))), (0, .ref (ya (gl Γ) 16 0)), (1, .ref (ya (gl Γ) 13 j)), (2, .int p2), (3, .int p3)] dX6_writeNumber_22 rfl rfl (by decide) rfl ?_
        refine G_goto hΓ (tgt := 5) dX6_writeNumber_25 (by decide) ?_
        exact (ih _ _ _ _ _ _ _ hf)
  exact loop18 _ _ _ _ _ _ _ _ hf
theorem dX6_writeFixed_0 : decode cX6_writeFixed 0 = .ok (.aload_n 0, 1) := by decide +kernel
theorem dX6_writeFixed_1 : decode cX6_writeFixed 1 = .ok (.getfield 87, 3) := by decide +kernel
theorem dX6_writeFixed_4 : decode cX6_writeFixed 4 = .ok (.invokestatic 97, 3) := by decide +kernel
theorem dX6_writeFixed_7 : decode cX6_writeFixed 7 = .ok (.istore_n 2, 1) := by decide +kernel
theorem dX6_writeFixed_8 : decode cX6_writeFixed 8 = .ok (.iconst 3, 1) := by decide +kernel
theorem dX6_writeFixed_9 : decode cX6_writeFixed 9 = .ok (.istore_n 3, 1) := by decide +kernel
theorem dX6_writeFixed_10 : decode cX6_writeFixed 10 = .ok (.iload_n 3, 1) := by decide +kernel
theorem dX6_writeFixed_11 : decode cX6_writeFixed 11 = .ok (.ifCond .lt 21, 3) := by decide +kernel
theorem dX6_writeFixed_14 : decode cX6_writeFixed 14 = .ok (.aload_n 0, 1) := by decide +kernel
theorem dX6_writeFixed_15 : decode cX6_writeFixed 15 = .ok (.getfield 12, 3) := by decide +kernel
theorem dX6_writeFixed_18 : decode cX6_writeFixed 18 = .ok (.iload_n 2, 1) := by decide +kernel
theorem dX6_writeFixed_19 : decode cX6_writeFixed 19 = .ok (.iload_n 3, 1) := by decide +kernel
theorem dX6_writeFixed_20 : decode cX6_writeFixed 20 = .ok (.ishr, 1) := by decide +kernel
theorem dX6_writeFixed_21 : decode cX6_writeFixed 21 = .ok (.iconst 1, 1) := by decide +kernel
theorem dX6_writeFixed_22 : decode cX6_writeFixed 22 = .ok (.iand, 1) := by decide +kernel
theorem dX6_writeFixed_23 : decode cX6_writeFixed 23 = .ok (.invokevirtual 94, 3) := by decide +kernel
theorem dX6_writeFixed_26 : decode cX6_writeFixed 26 = .ok (.iinc 3 (-1), 3) := by decide +kernel
theorem dX6_writeFixed_29 : decode cX6_writeFixed 29 = .ok (.goto (-19), 3) := by decide +kernel
theorem dX6_writeFixed_32 : decode cX6_writeFixed 32 = .ok (.aload_n 1, 1) := by decide +kernel
theorem dX6_writeFixed_33 : decode cX6_writeFixed 33 = .ok (.getfield 49, 3) := by decide +kernel
theorem dX6_writeFixed_36 : decode cX6_writeFixed 36 = .ok (.invokestatic 101, 3) := by decide +kernel
theorem dX6_writeFixed_39 : decode cX6_writeFixed 39 = .ok (.istore_n 3, 1) := by decide +kernel
theorem dX6_writeFixed_40 : decode cX6_writeFixed 40 = .ok (.iload_n 2, 1) := by decide +kernel
theorem dX6_writeFixed_41 : decode cX6_writeFixed 41 = .ok (.iload_n 3, 1) := by decide +kernel
theorem dX6_writeFixed_42 : decode cX6_writeFixed 42 = .ok (.ishl, 1) := by decide +kernel
theorem dX6_writeFixed_43 : decode cX6_writeFixed 43 = .ok (.aload_n 0, 1) := by decide +kernel
theorem dX6_writeFixed_44 : decode cX6_writeFixed 44 = .ok (.getfield 12, 3) := by decide +kernel
theorem dX6_writeFixed_47 : decode cX6_writeFixed 47 = .ok (.aload_n 1, 1) := by decide +kernel
theorem dX6_writeFixed_48 : decode cX6_writeFixed 48 = .ok (.getfield 49, 3) := by decide +kernel
theorem dX6_writeFixed_51 : decode cX6_writeFixed 51 = .ok (.invokevirtual 104, 3) := by decide +kernel
theorem dX6_writeFixed_54 : decode cX6_writeFixed 54 = .ok (.ior, 1) := by decide +kernel
theorem dX6_writeFixed_55 : decode cX6_writeFixed 55 = .ok (.istore 4, 2) := by decide +kernel
theorem dX6_writeFixed_57 : decode cX6_writeFixed 57 = .ok (.iconst 0, 1) := by decide +kernel
theorem dX6_writeFixed_58 : decode cX6_writeFixed 58 = .ok (.istore 5, 2) := by decide +kernel
theorem dX6_writeFixed_60 : decode cX6_writeFixed 60 = .ok (.iload 5, 2) := by decide +kernel
theorem dX6_writeFixed_62 : decode cX6_writeFixed 62 = .ok (.iload_n 3, 1) := by decide +kernel
theorem dX6_writeFixed_63 : decode cX6_writeFixed 63 = .ok (.iconst 4, 1) := by decide +kernel
theorem dX6_writeFixed_64 : decode cX6_writeFixed 64 = .ok (.iadd, 1) := by decide +kernel
theorem dX6_writeFixed_65 : decode cX6_writeFixed 65 = .ok (.if_icmp .ge 51, 3) := by decide +kernel
theorem dX6_writeFixed_68 : decode cX6_writeFixed 68 = .ok (.iload 5, 2) := by decide +kernel
theorem dX6_writeFixed_70 : decode cX6_writeFixed 70 = .ok (.iconst 4, 1) := by decide +kernel
theorem dX6_writeFixed_71 : decode cX6_writeFixed 71 = .ok (.irem, 1) := by decide +kernel
theorem dX6_writeFixed_72 : decode cX6_writeFixed 72 = .ok (.ifCond .ne 14, 3) := by decide +kernel
theorem dX6_writeFixed_75 : decode cX6_writeFixed 75 = .ok (.aload_n 1, 1) := by decide +kernel
theorem dX6_writeFixed_76 : decode cX6_writeFixed 76 = .ok (.iconst 1, 1) := by decide +kernel
theorem dX6_writeFixed_77 : decode cX6_writeFixed 77 = .ok (.aload_n 0, 1) := by decide +kernel
theorem dX6_writeFixed_78 : decode cX6_writeFixed 78 = .ok (.getfield 81, 3) := by decide +kernel
theorem dX6_writeFixed_81 : decode cX6_writeFixed 81 = .ok (.isub, 1) := by decide +kernel
theorem dX6_writeFixed_82 : decode cX6_writeFixed 82 = .ok (.iconst 0, 1) := by decide +kernel
theorem dX6_writeFixed_83 : decode cX6_writeFixed 83 = .ok (.invokevirtual 76, 3) := by decide +kernel
theorem dX6_writeFixed_86 : decode cX6_writeFixed 86 = .ok (.aload_n 0, 1) := by decide +kernel
theorem dX6_writeFixed_87 : decode cX6_writeFixed 87 = .ok (.iload 4, 2) := by decide +kernel
theorem dX6_writeFixed_89 : decode cX6_writeFixed 89 = .ok (.iload_n 3, 1) := by decide +kernel
theorem dX6_writeFixed_90 : decode cX6_writeFixed 90 = .ok (.iconst 3, 1) := by decide +kernel
theorem dX6_writeFixed_91 : decode cX6_writeFixed 91 = .ok (.iadd, 1) := by decide +kernel
theorem dX6_writeFixed_92 : decode cX6_writeFixed 92 = .ok (.iload 5, 2) := by decide +kernel
theorem dX6_writeFixed_94 : decode cX6_writeFixed 94 = .ok (.isub, 1) := by decide +kernel
theorem dX6_writeFixed_95 : decode cX6_writeFixed 95 = .ok (.ishr, 1) := by decide +kernel
theorem dX6_writeFixed_96 : decode cX6_writeFixed 96 = .ok (.iconst 1, 1) := by decide +kernel
theorem dX6_writeFixed_97 : decode cX6_writeFixed 97 = .ok (.iand, 1) := by decide +kernel
theorem dX6_writeFixed_98 : decode cX6_writeFixed 98 = .ok (.putfield 81, 3) := by decide +kernel
theorem dX6_writeFixed_101 : decode cX6_writeFixed 101 = .ok (.aload_n 1, 1) := by decide +kernel
theorem dX6_writeFixed_102 : decode cX6_writeFixed 102 = .ok (.aload_n 0, 1) := by decide +kernel
theorem dX6_writeFixed_103 : decode cX6_writeFixed 103 = .ok (.getfield 81, 3) := by decide +kernel
theorem dX6_writeFixed_106 : decode cX6_writeFixed 106 = .ok (.iconst 0, 1) := by decide +kernel
theorem dX6_writeFixed_107 : decode cX6_writeFixed 107 = .ok (.invokevirtual 76, 3) := by decide +kernel
theorem dX6_writeFixed_110 : decode cX6_writeFixed 110 = .ok (.iinc 5 1, 3) := by decide +kernel
theorem dX6_writeFixed_113 : decode cX6_writeFixed 113 = .ok (.goto (-53), 3) := by decide +kernel
theorem dX6_writeFixed_116 : decode cX6_writeFixed 116 = .ok (.return_, 1) := by decide +kernel
noncomputable def L_X6_writeFixed_60 (u12 : Int32) (v16 : Int32) (k21 : (Nat → Int32) × (Nat → Int32) × (Nat → Int32) × Int32 → Option ((Nat → Int32) × (Nat → Int32) × (Nat → Int32) × (Nat → Int32) × (Nat → Int32))) : Nat → (Nat → Int32) → (Nat → Int32) → (Nat → Int32) → Int32 → Option ((Nat → Int32) × (Nat → Int32) × (Nat → Int32) × (Nat → Int32) × (Nat → Int32))
  | 0, _, _, _, _ => none
  | nn + 1, v17, v18, v19, v20 => if (u12 + 4) ≤ v20 then k21 (v17, v18, v19, v20) else jn (α := (Nat → Int32) × (Nat → Int32)) (fun ⟨x23, x24⟩ => lt (α := Int32) ((v16 >>> (((u12 + 3) - v20) &&& 31)) &&& 1) (fun v27 => bd (f_X0_append x23 x24 v27 0) (fun ⟨u28, u29⟩ => L_X6_writeFixed_60 u12 v16 k21 nn (upd v17 1 v27) u28 u29 (v20 + 1)))) (fun k25 => if (v20 - v20 / 4 * 4) = 0 then bd (f_X0_append v18 v19 (1 - (v17 1)) 0) (fun ⟨u31, u32⟩ => k25 (u31, u32)) else k25 (v18, v19))
noncomputable def L_X6_writeFixed_10 (u1 : Int32) (k6 : (Nat → Int32) × (Nat → Int32) × Int32 → Option ((Nat → Int32) × (Nat → Int32) × (Nat → Int32) × (Nat → Int32) × (Nat → Int32))) : Nat → (Nat → Int32) → (Nat → Int32) → Int32 → Option ((Nat → Int32) × (Nat → Int32) × (Nat → Int32) × (Nat → Int32) × (Nat → Int32))
  | 0, _, _, _ => none
  | nn + 1, v3, v4, v5 => if v5 < 0 then k6 (v3, v4, v5) else bd (f_X4_addOther v3 v4 ((u1 >>> (v5 &&& 31)) &&& 1)) (fun ⟨u8, u9⟩ => L_X6_writeFixed_10 u1 k6 nn u8 u9 (v5 + (-1)))
noncomputable def f_X6_writeFixed  (w : Nat → Int32) (b : Nat → Int32) (c : Nat → Int32) (ff : Nat → Int32) (fb : Nat → Int32)  : Option ((Nat → Int32) × (Nat → Int32) × (Nat → Int32) × (Nat → Int32) × (Nat → Int32)) := bd (f_X7_countOf (w 3)) (fun u1 => jn (α := (Nat → Int32) × (Nat → Int32) × Int32) (fun ⟨v3, v4, v5⟩ => bd (f_X4_flexibleWidth (ff 7)) (fun u12 => bd (f_X4_ofFlexible v3 v4 (ff 7)) (fun u14 => lt (α := Int32) ((u1 <<< (u12 &&& 31)) ||| u14) (fun v16 => jn (α := (Nat → Int32) × (Nat → Int32) × (Nat → Int32) × Int32) (fun ⟨v17, v18, v19, v20⟩ => some (v17, v3, v4, v18, v19)) (fun k21 => L_X6_writeFixed_60 u12 v16 k21 fu w ff fb 0))))) (fun k6 => L_X6_writeFixed_10 u1 k6 fu b c 3))
set_option maxHeartbeats 4000000 in
set_option maxRecDepth 100000 in
theorem c_X6_writeFixed (l : Launch) (Λ : LY) (hF : FL Λ) (σ : CS) (j : Nat) (w : Nat → Int32) (a : Nat → Int32) (b : Nat → Int32) (c : Nat → Int32) (fh : Int64) (ff : Nat → Int32) (fo : Nat → Int32) (fb : Nat → Int32)  (hij : j < 200)  {w' : Nat → Int32} {b' : Nat → Int32} {c' : Nat → Int32} {ff' : Nat → Int32} {fb' : Nat → Int32} (hf : f_X6_writeFixed w b c ff fb = some (w', b', c', ff', fb')) : CM l yX6_writeFixed (.code yX6_writeFixed cX6_writeFixed 6 none :: TT) ({ frames := 2, cells := 0, slots := 0, locals := 43 }) Λ [.ref (ya Λ 16 0), .ref (ya Λ 13 j)] (qWF σ j w a b c fh ff fo fb) (qWF σ j w' a b' c' fh ff' fo fb') (none) := by
  refine CM_intro (own := RX6) (by decide) rfl (Nat.le_of_ble_eq_true rfl) ?_
  intro Γ hg hl hΓ hE
  subst hg; subst hl
  show GG Γ (0, 0) (qWF σ j w a b c fh ff fo fb) 0 [(0, .ref (ya (gl Γ) 16 0)), (1, .ref (ya (gl Γ) 13 j))] []
  unfold f_X6_writeFixed at hf
  refine G_aload_n hΓ 0 dX6_writeFixed_0 rfl ?_
  refine F_get hΓ (t := 16) (i := 0) (ci := 9) (C := RX6) (T := TX6) (N := 4) (fs6 (gl Γ) 0) (v := .int (w 3)) (FLi hF (t := 16) (by decide)) (fun _ _ _ => rfl) qWF_g16 rfl rfl rfl inW6 3 (by decide) (TT_cons kw_264) rfl dX6_writeFixed_1 ?_
  obtain ⟨u1, hc2, hf⟩ := bd_some hf
  refine G_callSN hΓ (n := 1) (As := [.int (w 3)]) (σ' := (qWF σ j w a b c fh ff fo fb)) (c_X7_countOf (gL Γ) (gl Γ) hF (qWF σ j w a b c fh ff fo fb)   (w 3)  hc2) rfl rfl 10 (host := "CanBits") rfl kw_580 kw_1 kw_581 ⟨by decide, by decide, by decide +kernel⟩ rfl rfl ⟨Nat.le_of_ble_eq_true rfl, Nat.le_of_ble_eq_true rfl⟩ rfl (Nat.le_of_ble_eq_true rfl) dX6_writeFixed_4 ⟨_, rfl⟩ rfl ?_
  refine G_istore_n hΓ [(2, .int u1), (0, .ref (ya (gl Γ) 16 0)), (1, .ref (ya (gl Γ) 13 j))] dX6_writeFixed_7 (by decide) rfl ?_
  refine G_iconst (v := 3) hΓ dX6_writeFixed_8 (by decide) ?_
  refine G_istore_n hΓ [(3, .int 3), (2, .int u1), (0, .ref (ya (gl Γ) 16 0)), (1, .ref (ya (gl Γ) 13 j))] dX6_writeFixed_9 (by decide) rfl ?_
  obtain ⟨k6, hk_k6, hf⟩ := jn_eq hf
  try dsimp only at hf
  have K7 : ∀ v3 v4 v5, k6 (v3, v4, v5) = some (w', b', c', ff', fb') → GG Γ (0, 0) (qWF σ j w a v3 v4 fh ff fo fb) 32 [(3, .int v5), (2, .int u1), (0, .ref (ya (gl Γ) 16 0)), (1, .ref (ya (gl Γ) 13 j))] [] := by
    intro v3 v4 v5 hf
    subst hk_k6
    try dsimp only at hf
    refine G_aload_n hΓ 3 dX6_writeFixed_32 rfl ?_
    refine F_getN hΓ (t := 13) (i := j) (ci := 3) (C := RX0) (T := TX0) (N := 9) (fs0 (gl Γ) j) (v := .int (ff 7)) (FLi hF (t := 13) hij) (fun _ _ _ => rfl) qWF_g13 rfl rfl rfl inW0 7 (by decide) 29 (host := "CanBits") rfl rfl dX6_writeFixed_33 ?_
    obtain ⟨u12, hc13, hf⟩ := bd_some hf
    refine G_callS hΓ (n := 1) (As := [.int (ff 7)]) (σ' := (qWF σ j w a v3 v4 fh ff fo fb)) (c_X4_flexibleWidth (gL Γ) (gl Γ) hF (qWF σ j w a v3 v4 fh ff fo fb)   (ff 7)  hc13) rfl rfl kw_588 kw_589 kw_4 kw_590 ⟨by decide, by decide, by decide +kernel⟩ rfl rfl ⟨Nat.le_of_ble_eq_true rfl, Nat.le_of_ble_eq_true rfl⟩ rfl (Nat.le_of_ble_eq_true rfl) dX6_writeFixed_36 ⟨_, rfl⟩ rfl ?_
    refine G_istore_n hΓ [(3, .int u12), (2, .int u1), (0, .ref (ya (gl Γ) 16 0)), (1, .ref (ya (gl Γ) 13 j))] dX6_writeFixed_39 (by decide) rfl ?_
    refine G_iload_n hΓ 1 dX6_writeFixed_40 rfl ?_
    refine G_iload_n hΓ 0 dX6_writeFixed_41 rfl ?_
    refine G_ishl hΓ dX6_writeFixed_42 ?_
    refine G_aload_n hΓ 2 dX6_writeFixed_43 rfl ?_
    refine F_get hΓ (t := 16) (i := 0) (ci := 9) (C := RX6) (T := TX6) (N := 4) (fs6 (gl Γ) 0) (v := .ref (ya (gl Γ) 6 32)) (FLi hF (t := 16) (by decide)) (fun _ _ _ => rfl) rfl rfl rfl rfl inW6 0 (by decide) (TT_cons kw_260) rfl dX6_writeFixed_44 ?_
    refine G_aload_n hΓ 3 dX6_writeFixed_47 rfl ?_
    refine F_getN hΓ (t := 13) (i := j) (ci := 3) (C := RX0) (T := TX0) (N := 9) (fs0 (gl Γ) j) (v := .int (ff 7)) (FLi hF (t := 13) hij) (fun _ _ _ => rfl) qWF_g13 rfl rfl rfl inW0 7 (by decide) 29 (host := "CanBits") rfl rfl dX6_writeFixed_48 ?_
    obtain ⟨u14, hc15, hf⟩ := bd_some hf
    refine G_callV hΓ (n := 1) (As := [.int (ff 7)]) (t := 6) (i := 32) (ci := 7) (T := TX4) (N := 3) (FS := fs4 (gl Γ) 32) (σ' := (qWF σ j w a v3 v4 fh ff fo fb)) (c_X4_ofFlexible (gL Γ) (gl Γ) hF (qWF σ j w a v3 v4 fh ff fo fb) 32 a v3 v4 (ff 7) (by decide) hc15) qSum_qWF qSum_qWF kw_591 kw_592 kw_593 kw_4 kw_594 ⟨rfl, by decide, by decide, by decide +kernel⟩ (FLi hF (t := 6) (by decide)) (fun _ _ _ => rfl) rfl rfl rfl ⟨Nat.le_of_ble_eq_true rfl, Nat.le_of_ble_eq_true rfl⟩ rfl (Nat.le_of_ble_eq_true rfl) dX6_writeFixed_51 ⟨_, rfl⟩ rfl ?_
    refine G_ior hΓ dX6_writeFixed_54 ?_
    obtain ⟨v16, hv_v16, hf⟩ := lt_eq hf
    refine G_topi hv_v16 ?_
    refine G_istore hΓ [(4, .int v16), (3, .int u12), (2, .int u1), (0, .ref (ya (gl Γ) 16 0)), (1, .ref (ya (gl Γ) 13 j))] dX6_writeFixed_55 (by decide) rfl ?_
    refine G_iconst (v := 0) hΓ dX6_writeFixed_57 (by decide) ?_
    refine G_istore hΓ [(5, .int 0), (4, .int v16), (3, .int u12), (2, .int u1), (0, .ref (ya (gl Γ) 16 0)), (1, .ref (ya (gl Γ) 13 j))] dX6_writeFixed_58 (by decide) rfl ?_
    obtain ⟨k21, hk_k21, hf⟩ := jn_eq hf
    try dsimp only at hf
    have K22 : ∀ v17 v18 v19 v20, k21 (v17, v18, v19, v20) = some (w', b', c', ff', fb') → GG Γ (0, 0) (qWF σ j v17 a v3 v4 fh v18 fo v19) 116 [(5, .int v20), (4, .int v16), (3, .int u12), (2, .int u1), (0, .ref (ya (gl Γ) 16 0)), (1, .ref (ya (gl Γ) 13 j))] [] := by
      intro v17 v18 v19 v20 hf
      subst hk_k21
      try dsimp only at hf
      cases hf
      exact G_vret hΓ hE dX6_writeFixed_116
    clear hk_k21
    have loop36 : ∀ (nn : Nat) v17 v18 v19 v20, L_X6_writeFixed_60 u12 v16 k21 nn v17 v18 v19 v20 = some (w', b', c', ff', fb') → GG Γ (0, 0) (qWF σ j v17 a v3 v4 fh v18 fo v19) 60 [(5, .int v20), (4, .int v16), (3, .int u12), (2, .int u1), (0, .ref (ya (gl Γ) 16 0)), (1, .ref (ya (gl Γ) 13 j))] [] := by
      intro nn
      induction nn with
      | zero => intro v17 v18 v19 v20 hf; cases hf
      | succ nn ih =>
        intro v17 v18 v19 v20 hf
        rw [L_X6_writeFixed_60] at hf
        refine G_iload hΓ 0 dX6_writeFixed_60 rfl ?_
        refine G_iload_n hΓ 2 dX6_writeFixed_62 rfl ?_
        refine G_iconst (v := 4) hΓ dX6_writeFixed_63 (by decide) ?_
        refine G_iadd hΓ dX6_writeFixed_64 ?_
        refine G_icmp_ge hΓ (tgt := 116) dX6_writeFixed_65 (by decide) (fun hc35 => ?_) (fun hc35 => ?_)
        · rw [if_pos hc35] at hf
          exact (K22 _ _ _ _ hf)
        · rw [if_neg hc35] at hf
          refine G_iload hΓ 0 dX6_writeFixed_68 rfl ?_
          refine G_iconst (v := 4) hΓ dX6_writeFixed_70 (by decide) ?_
          refine G_irem hΓ dX6_writeFixed_71 (by decide) ?_
          obtain ⟨k25, hk_k25, hf⟩ := jn_eq hf
          try dsimp only at hf
          have K26 : ∀ x23 x24, k25 (x23, x24) = some (w', b', c', ff', fb') → GG Γ (0, 0) (qWF σ j v17 a v3 v4 fh x23 fo x24) 86 [(5, .int v20), (4, .int v16), (3, .int u12), (2, .int u1), (0, .ref (ya (gl Γ) 16 0)), (1, .ref (ya (gl Γ) 13 j))] [] := by
            intro x23 x24 hf
            subst hk_k25
            try dsimp only at hf
            refine G_aload_n hΓ 4 dX6_writeFixed_86 rfl ?_
            refine G_iload hΓ 1 dX6_writeFixed_87 rfl ?_
            refine G_iload_n hΓ 2 dX6_writeFixed_89 rfl ?_
            refine G_iconst (v := 3) hΓ dX6_writeFixed_90 (by decide) ?_
            refine G_iadd hΓ dX6_writeFixed_91 ?_
            refine G_iload hΓ 0 dX6_writeFixed_92 rfl ?_
            refine G_isub hΓ dX6_writeFixed_94 ?_
            refine G_ishr hΓ dX6_writeFixed_95 ?_
            refine G_iconst (v := 1) hΓ dX6_writeFixed_96 (by decide) ?_
            refine G_iand hΓ dX6_writeFixed_97 ?_
            obtain ⟨v27, hv_v27, hf⟩ := lt_eq hf
            refine G_topi hv_v27 ?_
            refine F_put hΓ (t := 16) (i := 0) (ci := 9) (C := RX6) (T := TX6) (N := 4) (fs6 (gl Γ) 0) (f := v17) (f' := (upd v17 1 v27)) (σ' := (qWF σ j (upd v17 1 v27) a v3 v4 fh x23 fo x24)) (ty := .int) (v := .int v27) tyX6 tyX6_ok nmX6 (FLi hF (t := 16) (by decide)) (fun _ _ _ => rfl) qWF_g16 qWF_s16 rfl inW6 1 (by decide) (TT_cons kw_262) rfl (by decide +kernel) rfl rfl (fun _ _ => Nat.le_of_ble_eq_true rfl) (fun _ _ => rfl) dX6_writeFixed_98 ?_
            refine G_aload_n hΓ 5 dX6_writeFixed_101 rfl ?_
            refine G_aload_n hΓ 4 dX6_writeFixed_102 rfl ?_
            refine F_get hΓ (t := 16) (i := 0) (ci := 9) (C := RX6) (T := TX6) (N := 4) (fs6 (gl Γ) 0) (v := .int v27) (FLi hF (t := 16) (by decide)) (fun _ _ _ => rfl) qWF_g16 rfl rfl rfl inW6 1 (by decide) (TT_cons kw_262) rfl dX6_writeFixed_103 ?_
            refine G_iconst (v := 0) hΓ dX6_writeFixed_106 (by decide) ?_
            obtain ⟨⟨u28, u29⟩, hc30, hf⟩ := bd_some hf
            try dsimp only at hf
            refine G_callV hΓ (n := 2) (As := [.int v27, .int 0]) (t := 13) (i := j) (ci := 3) (T := TX0) (N := 9) (FS := fs0 (gl Γ) j) (σ' := (qWF σ j (upd v17 1 v27) a v3 v4 fh u28 fo u29)) (c_X0_append (gL Γ) (gl Γ) hF (qWF σ j (upd v17 1 v27) a v3 v4 fh x23 fo x24) j fh x23 fo x24 v27 0 hij hc30) qFr_qWF qFr_qWF kw_563 kw_564 kw_565 kw_7 kw_566 ⟨rfl, by decide, by decide, by decide +kernel⟩ (FLi hF (t := 13) hij) (fun _ _ _ => rfl) rfl rfl rfl ⟨Nat.le_of_ble_eq_true rfl, Nat.le_of_ble_eq_true rfl⟩ rfl (Nat.le_of_ble_eq_true rfl) dX6_writeFixed_107 ⟨_, rfl⟩ rfl ?_
            refine G_iinc hΓ 0 [(5, .int (v20 + 1)), (4, .int v16), (3, .int u12), (2, .int u1), (0, .ref (ya (gl Γ) 16 0)), (1, .ref (ya (gl Γ) 13 j))] dX6_writeFixed_110 rfl rfl (by decide) rfl ?_
            refine G_goto hΓ (tgt := 60) dX6_writeFixed_113 (by decide) ?_
            exact (ih _ _ _ _ hf)
          clear hk_k25
          refine G_if_ne hΓ (tgt := 86) dX6_writeFixed_72 (by decide) (fun hc34 => ?_) (fun hc34 => ?_)
          · rw [if_neg hc34] at hf
            exact K26 _ _ hf
          · rw [if_pos hc34] at hf
            refine G_aload_n hΓ 5 dX6_writeFixed_75 rfl ?_
            refine G_iconst (v := 1) hΓ dX6_writeFixed_76 (by decide) ?_
            refine G_aload_n hΓ 4 dX6_writeFixed_77 rfl ?_
            refine F_get hΓ (t := 16) (i := 0) (ci := 9) (C := RX6) (T := TX6) (N := 4) (fs6 (gl Γ) 0) (v := .int (v17 1)) (FLi hF (t := 16) (by decide)) (fun _ _ _ => rfl) qWF_g16 rfl rfl rfl inW6 1 (by decide) (TT_cons kw_262) rfl dX6_writeFixed_78 ?_
            refine G_isub hΓ dX6_writeFixed_81 ?_
            refine G_iconst (v := 0) hΓ dX6_writeFixed_82 (by decide) ?_
            obtain ⟨⟨u31, u32⟩, hc33, hf⟩ := bd_some hf
            try dsimp only at hf
            refine G_callV hΓ (n := 2) (As := [.int (1 - (v17 1)), .int 0]) (t := 13) (i := j) (ci := 3) (T := TX0) (N := 9) (FS := fs0 (gl Γ) j) (σ' := (qWF σ j v17 a v3 v4 fh u31 fo u32)) (c_X0_append (gL Γ) (gl Γ) hF (qWF σ j v17 a v3 v4 fh v18 fo v19) j fh v18 fo v19 (1 - (v17 1)) 0 hij hc33) qFr_qWF qFr_qWF kw_563 kw_564 kw_565 kw_7 kw_566 ⟨rfl, by decide, by decide, by decide +kernel⟩ (FLi hF (t := 13) hij) (fun _ _ _ => rfl) rfl rfl rfl ⟨Nat.le_of_ble_eq_true rfl, Nat.le_of_ble_eq_true rfl⟩ rfl (Nat.le_of_ble_eq_true rfl) dX6_writeFixed_83 ⟨_, rfl⟩ rfl ?_
            exact K26 _ _ hf
    exact loop36 _ _ _ _ _ hf
  clear hk_k6
  have loop37 : ∀ (nn : Nat) v3 v4 v5, L_X6_writeFixed_10 u1 k6 nn v3 v4 v5 = some (w', b', c', ff', fb') → GG Γ (0, 0) (qWF σ j w a v3 v4 fh ff fo fb) 10 [(3, .int v5), (2, .int u1), (0, .ref (ya (gl Γ) 16 0)), (1, .ref (ya (gl Γ) 13 j))] [] := by
    intro nn
    induction nn with
    | zero => intro v3 v4 v5 hf; cases hf
    | succ nn ih =>
      intro v3 v4 v5 hf
      rw [L_X6_writeFixed_10] at hf
      refine G_iload_n hΓ 0 dX6_writeFixed_10 rfl ?_
      refine G_if_lt hΓ (tgt := 32) dX6_writeFixed_11 (by decide) (fun hc11 => ?_) (fun hc11 => ?_)
      · rw [if_pos hc11] at hf
        exact (K7 _ _ _ hf)
      · rw [if_neg hc11] at hf
        refine G_aload_n hΓ 2 dX6_writeFixed_14 rfl ?_
        refine F_get hΓ (t := 16) (i := 0) (ci := 9) (C := RX6) (T := TX6) (N := 4) (fs6 (gl Γ) 0) (v := .ref (ya (gl Γ) 6 32)) (FLi hF (t := 16) (by decide)) (fun _ _ _ => rfl) rfl rfl rfl rfl inW6 0 (by decide) (TT_cons kw_260) rfl dX6_writeFixed_15 ?_
        refine G_iload_n hΓ 1 dX6_writeFixed_18 rfl ?_
        refine G_iload_n hΓ 0 dX6_writeFixed_19 rfl ?_
        refine G_ishr hΓ dX6_writeFixed_20 ?_
        refine G_iconst (v := 1) hΓ dX6_writeFixed_21 (by decide) ?_
        refine G_iand hΓ dX6_writeFixed_22 ?_
        obtain ⟨⟨u8, u9⟩, hc10, hf⟩ := bd_some hf
        try dsimp only at hf
        refine G_callV hΓ (n := 1) (As := [.int ((u1 >>> (v5 &&& 31)) &&& 1)]) (t := 6) (i := 32) (ci := 7) (T := TX4) (N := 3) (FS := fs4 (gl Γ) 32) (σ' := (qWF σ j w a u8 u9 fh ff fo fb)) (c_X4_addOther (gL Γ) (gl Γ) hF (qWF σ j w a v3 v4 fh ff fo fb) 32 a v3 v4 ((u1 >>> (v5 &&& 31)) &&& 1) (by decide) hc10) qSum_qWF qSum_qWF kw_555 kw_556 kw_557 kw_4 kw_558 ⟨rfl, by decide, by decide, by decide +kernel⟩ (FLi hF (t := 6) (by decide)) (fun _ _ _ => rfl) rfl rfl rfl ⟨Nat.le_of_ble_eq_true rfl, Nat.le_of_ble_eq_true rfl⟩ rfl (Nat.le_of_ble_eq_true rfl) dX6_writeFixed_23 ⟨_, rfl⟩ rfl ?_
        refine G_iinc hΓ 0 [(3, .int (v5 + (-1))), (2, .int u1), (0, .ref (ya (gl Γ) 16 0)), (1, .ref (ya (gl Γ) 13 j))] dX6_writeFixed_26 rfl rfl (by decide) rfl ?_
        refine G_goto hΓ (tgt := 10) dX6_writeFixed_29 (by decide) ?_
        exact (ih _ _ _ hf)
  exact loop37 _ _ _ _ hf
theorem dX6_write_0 : decode cX6_write 0 = .ok (.aload_n 0, 1) := by decide +kernel
theorem dX6_write_1 : decode cX6_write 1 = .ok (.invokevirtual 18, 3) := by decide +kernel
theorem dX6_write_4 : decode cX6_write 4 = .ok (.aload_n 1, 1) := by decide +kernel
theorem dX6_write_5 : decode cX6_write 5 = .ok (.iconst 0, 1) := by decide +kernel
theorem dX6_write_6 : decode cX6_write 6 = .ok (.putfield 21, 3) := by decide +kernel
theorem dX6_write_9 : decode cX6_write 9 = .ok (.aload_n 1, 1) := by decide +kernel
theorem dX6_write_10 : decode cX6_write 10 = .ok (.getfield 27, 3) := by decide +kernel
theorem dX6_write_13 : decode cX6_write 13 = .ok (.invokestatic 30, 3) := by decide +kernel
theorem dX6_write_16 : decode cX6_write 16 = .ok (.aload_n 1, 1) := by decide +kernel
theorem dX6_write_17 : decode cX6_write 17 = .ok (.getfield 27, 3) := by decide +kernel
theorem dX6_write_20 : decode cX6_write 20 = .ok (.invokestatic 34, 3) := by decide +kernel
theorem dX6_write_23 : decode cX6_write 23 = .ok (.invokestatic 37, 3) := by decide +kernel
theorem dX6_write_26 : decode cX6_write 26 = .ok (.istore_n 2, 1) := by decide +kernel
theorem dX6_write_27 : decode cX6_write 27 = .ok (.aload_n 1, 1) := by decide +kernel
theorem dX6_write_28 : decode cX6_write 28 = .ok (.getfield 27, 3) := by decide +kernel
theorem dX6_write_31 : decode cX6_write 31 = .ok (.invokestatic 30, 3) := by decide +kernel
theorem dX6_write_34 : decode cX6_write 34 = .ok (.ifCond .eq 8, 3) := by decide +kernel
theorem dX6_write_37 : decode cX6_write 37 = .ok (.bipush 32, 2) := by decide +kernel
theorem dX6_write_39 : decode cX6_write 39 = .ok (.goto 5, 3) := by decide +kernel
theorem dX6_write_42 : decode cX6_write 42 = .ok (.bipush 13, 2) := by decide +kernel
theorem dX6_write_44 : decode cX6_write 44 = .ok (.istore_n 3, 1) := by decide +kernel
theorem dX6_write_45 : decode cX6_write 45 = .ok (.iconst 0, 1) := by decide +kernel
theorem dX6_write_46 : decode cX6_write 46 = .ok (.istore 4, 2) := by decide +kernel
theorem dX6_write_48 : decode cX6_write 48 = .ok (.iload 4, 2) := by decide +kernel
theorem dX6_write_50 : decode cX6_write 50 = .ok (.iload_n 2, 1) := by decide +kernel
theorem dX6_write_51 : decode cX6_write 51 = .ok (.if_icmp .ge 38, 3) := by decide +kernel
theorem dX6_write_54 : decode cX6_write 54 = .ok (.aload_n 0, 1) := by decide +kernel
theorem dX6_write_55 : decode cX6_write 55 = .ok (.aload_n 1, 1) := by decide +kernel
theorem dX6_write_56 : decode cX6_write 56 = .ok (.aload_n 1, 1) := by decide +kernel
theorem dX6_write_57 : decode cX6_write 57 = .ok (.getfield 41, 3) := by decide +kernel
theorem dX6_write_60 : decode cX6_write 60 = .ok (.bipush 40, 2) := by decide +kernel
theorem dX6_write_62 : decode cX6_write 62 = .ok (.iload 4, 2) := by decide +kernel
theorem dX6_write_64 : decode cX6_write 64 = .ok (.isub, 1) := by decide +kernel
theorem dX6_write_65 : decode cX6_write 65 = .ok (.lshr, 1) := by decide +kernel
theorem dX6_write_66 : decode cX6_write 66 = .ok (.l2i, 1) := by decide +kernel
theorem dX6_write_67 : decode cX6_write 67 = .ok (.iconst 1, 1) := by decide +kernel
theorem dX6_write_68 : decode cX6_write 68 = .ok (.iand, 1) := by decide +kernel
theorem dX6_write_69 : decode cX6_write 69 = .ok (.iload 4, 2) := by decide +kernel
theorem dX6_write_71 : decode cX6_write 71 = .ok (.iload_n 3, 1) := by decide +kernel
theorem dX6_write_72 : decode cX6_write 72 = .ok (.if_icmp .gt 7, 3) := by decide +kernel
theorem dX6_write_75 : decode cX6_write 75 = .ok (.iconst 1, 1) := by decide +kernel
theorem dX6_write_76 : decode cX6_write 76 = .ok (.goto 4, 3) := by decide +kernel
theorem dX6_write_79 : decode cX6_write 79 = .ok (.iconst 0, 1) := by decide +kernel
theorem dX6_write_80 : decode cX6_write 80 = .ok (.invokevirtual 45, 3) := by decide +kernel
theorem dX6_write_83 : decode cX6_write 83 = .ok (.iinc 4 1, 3) := by decide +kernel
theorem dX6_write_86 : decode cX6_write 86 = .ok (.goto (-38), 3) := by decide +kernel
theorem dX6_write_89 : decode cX6_write 89 = .ok (.iconst 0, 1) := by decide +kernel
theorem dX6_write_90 : decode cX6_write 90 = .ok (.istore 4, 2) := by decide +kernel
theorem dX6_write_92 : decode cX6_write 92 = .ok (.iload 4, 2) := by decide +kernel
theorem dX6_write_94 : decode cX6_write 94 = .ok (.aload_n 1, 1) := by decide +kernel
theorem dX6_write_95 : decode cX6_write 95 = .ok (.getfield 49, 3) := by decide +kernel
theorem dX6_write_98 : decode cX6_write 98 = .ok (.if_icmp .ge 30, 3) := by decide +kernel
theorem dX6_write_101 : decode cX6_write 101 = .ok (.iload 4, 2) := by decide +kernel
theorem dX6_write_103 : decode cX6_write 103 = .ok (.bipush 64, 2) := by decide +kernel
theorem dX6_write_105 : decode cX6_write 105 = .ok (.if_icmp .ge 23, 3) := by decide +kernel
theorem dX6_write_108 : decode cX6_write 108 = .ok (.aload_n 0, 1) := by decide +kernel
theorem dX6_write_109 : decode cX6_write 109 = .ok (.aload_n 1, 1) := by decide +kernel
theorem dX6_write_110 : decode cX6_write 110 = .ok (.aload_n 1, 1) := by decide +kernel
theorem dX6_write_111 : decode cX6_write 111 = .ok (.getfield 52, 3) := by decide +kernel
theorem dX6_write_114 : decode cX6_write 114 = .ok (.iload 4, 2) := by decide +kernel
theorem dX6_write_116 : decode cX6_write 116 = .ok (.iaload, 1) := by decide +kernel
theorem dX6_write_117 : decode cX6_write 117 = .ok (.bipush 8, 2) := by decide +kernel
theorem dX6_write_119 : decode cX6_write 119 = .ok (.invokevirtual 56, 3) := by decide +kernel
theorem dX6_write_122 : decode cX6_write 122 = .ok (.iinc 4 1, 3) := by decide +kernel
theorem dX6_write_125 : decode cX6_write 125 = .ok (.goto (-33), 3) := by decide +kernel
theorem dX6_write_128 : decode cX6_write 128 = .ok (.aload_n 1, 1) := by decide +kernel
theorem dX6_write_129 : decode cX6_write 129 = .ok (.getfield 27, 3) := by decide +kernel
theorem dX6_write_132 : decode cX6_write 132 = .ok (.invokestatic 34, 3) := by decide +kernel
theorem dX6_write_135 : decode cX6_write 135 = .ok (.ifCond .eq 11, 3) := by decide +kernel
theorem dX6_write_138 : decode cX6_write 138 = .ok (.aload_n 0, 1) := by decide +kernel
theorem dX6_write_139 : decode cX6_write 139 = .ok (.aload_n 1, 1) := by decide +kernel
theorem dX6_write_140 : decode cX6_write 140 = .ok (.invokevirtual 60, 3) := by decide +kernel
theorem dX6_write_143 : decode cX6_write 143 = .ok (.goto 25, 3) := by decide +kernel
theorem dX6_write_146 : decode cX6_write 146 = .ok (.aload_n 0, 1) := by decide +kernel
theorem dX6_write_147 : decode cX6_write 147 = .ok (.aload_n 1, 1) := by decide +kernel
theorem dX6_write_148 : decode cX6_write 148 = .ok (.aload_n 0, 1) := by decide +kernel
theorem dX6_write_149 : decode cX6_write 149 = .ok (.getfield 12, 3) := by decide +kernel
theorem dX6_write_152 : decode cX6_write 152 = .ok (.getfield 64, 3) := by decide +kernel
theorem dX6_write_155 : decode cX6_write 155 = .ok (.getfield 68, 3) := by decide +kernel
theorem dX6_write_158 : decode cX6_write 158 = .ok (.bipush 15, 2) := by decide +kernel
theorem dX6_write_160 : decode cX6_write 160 = .ok (.invokevirtual 56, 3) := by decide +kernel
theorem dX6_write_163 : decode cX6_write 163 = .ok (.aload_n 0, 1) := by decide +kernel
theorem dX6_write_164 : decode cX6_write 164 = .ok (.aload_n 1, 1) := by decide +kernel
theorem dX6_write_165 : decode cX6_write 165 = .ok (.invokevirtual 73, 3) := by decide +kernel
theorem dX6_write_168 : decode cX6_write 168 = .ok (.iconst 0, 1) := by decide +kernel
theorem dX6_write_169 : decode cX6_write 169 = .ok (.istore 4, 2) := by decide +kernel
theorem dX6_write_171 : decode cX6_write 171 = .ok (.iload 4, 2) := by decide +kernel
theorem dX6_write_173 : decode cX6_write 173 = .ok (.bipush 10, 2) := by decide +kernel
theorem dX6_write_175 : decode cX6_write 175 = .ok (.if_icmp .ge 15, 3) := by decide +kernel
theorem dX6_write_178 : decode cX6_write 178 = .ok (.aload_n 1, 1) := by decide +kernel
theorem dX6_write_179 : decode cX6_write 179 = .ok (.iconst 1, 1) := by decide +kernel
theorem dX6_write_180 : decode cX6_write 180 = .ok (.iconst 0, 1) := by decide +kernel
theorem dX6_write_181 : decode cX6_write 181 = .ok (.invokevirtual 76, 3) := by decide +kernel
theorem dX6_write_184 : decode cX6_write 184 = .ok (.iinc 4 1, 3) := by decide +kernel
theorem dX6_write_187 : decode cX6_write 187 = .ok (.goto (-16), 3) := by decide +kernel
theorem dX6_write_190 : decode cX6_write 190 = .ok (.return_, 1) := by decide +kernel
noncomputable def L_X6_write_171  (k71 : (Nat → Int32) × (Nat → Int32) × Int32 → Option ((Nat → Int32) × (Nat → Int32) × (Nat → Int32) × (Nat → Int32) × (Nat → Int32) × (Nat → Int32))) : Nat → (Nat → Int32) → (Nat → Int32) → Int32 → Option ((Nat → Int32) × (Nat → Int32) × (Nat → Int32) × (Nat → Int32) × (Nat → Int32) × (Nat → Int32))
  | 0, _, _, _ => none
  | nn + 1, v68, v69, v70 => if 10 ≤ v70 then k71 (v68, v69, v70) else bd (f_X0_append v68 v69 1 0) (fun ⟨u73, u74⟩ => L_X6_write_171  k71 nn u73 u74 (v70 + 1))
noncomputable def L_X6_write_92 (fo : Nat → Int32) (k46 : (Nat → Int32) × (Nat → Int32) × (Nat → Int32) × (Nat → Int32) × (Nat → Int32) × (Nat → Int32) × Int32 → Option ((Nat → Int32) × (Nat → Int32) × (Nat → Int32) × (Nat → Int32) × (Nat → Int32) × (Nat → Int32))) : Nat → (Nat → Int32) → (Nat → Int32) → (Nat → Int32) → (Nat → Int32) → (Nat → Int32) → (Nat → Int32) → Int32 → Option ((Nat → Int32) × (Nat → Int32) × (Nat → Int32) × (Nat → Int32) × (Nat → Int32) × (Nat → Int32))
  | 0, _, _, _, _, _, _, _ => none
  | nn + 1, v39, v40, v41, v42, v43, v44, v45 => if (v43 7) ≤ v45 then k46 (v39, v40, v41, v42, v43, v44, v45) else if 64 ≤ v45 then k46 (v39, v40, v41, v42, v43, v44, v45) else gd (vp_in v45 64) (bd (f_X6_writeNumber v39 v40 v41 v42 v43 v44 (fo v45.toNatClampNeg) 8) (fun ⟨u49, u50, u51, u52, u53, u54⟩ => L_X6_write_92 fo k46 nn u49 u50 u51 u52 u53 u54 (v45 + 1)))
noncomputable def L_X6_write_48 (u10 : Int32) (x14 : Int32) (fh : Int64) (k25 : (Nat → Int32) × (Nat → Int32) × (Nat → Int32) × (Nat → Int32) × (Nat → Int32) × (Nat → Int32) × Int32 → Option ((Nat → Int32) × (Nat → Int32) × (Nat → Int32) × (Nat → Int32) × (Nat → Int32) × (Nat → Int32))) : Nat → (Nat → Int32) → (Nat → Int32) → (Nat → Int32) → (Nat → Int32) → (Nat → Int32) → (Nat → Int32) → Int32 → Option ((Nat → Int32) × (Nat → Int32) × (Nat → Int32) × (Nat → Int32) × (Nat → Int32) × (Nat → Int32))
  | 0, _, _, _, _, _, _, _ => none
  | nn + 1, v18, v19, v20, v21, v22, v23, v24 => if u10 ≤ v24 then k25 (v18, v19, v20, v21, v22, v23, v24) else lt (α := Int32) (if x14 < v24 then 0 else 1) (fun x27 => bd (f_X6_writePlain v18 v19 v20 v21 v22 v23 (((fh >>> ((40 - v24).toInt64 &&& 63)).toInt32) &&& 1) x27) (fun ⟨u31, u32, u33, u34, u35, u36⟩ => L_X6_write_48 u10 x14 fh k25 nn u31 u32 u33 u34 u35 u36 (v24 + 1)))
noncomputable def f_X6_write  (w : Nat → Int32) (a : Nat → Int32) (b : Nat → Int32) (c : Nat → Int32) (fh : Int64) (ff : Nat → Int32) (fo : Nat → Int32) (fb : Nat → Int32)  : Option ((Nat → Int32) × (Nat → Int32) × (Nat → Int32) × (Nat → Int32) × (Nat → Int32) × (Nat → Int32)) := bd (f_X6_begin w a b c) (fun ⟨u1, u2, u3, u4⟩ => bd (f_X7_isLong (ff 5)) (fun u6 => bd (f_X7_isFlexible (ff 5)) (fun u8 => bd (f_X7_headLength u6 u8) (fun u10 => bd (f_X7_isLong (ff 5)) (fun u12 => lt (α := Int32) (if u12 = 0 then 13 else 32) (fun x14 => jn (α := (Nat → Int32) × (Nat → Int32) × (Nat → Int32) × (Nat → Int32) × (Nat → Int32) × (Nat → Int32) × Int32) (fun ⟨v18, v19, v20, v21, v22, v23, v24⟩ => jn (α := (Nat → Int32) × (Nat → Int32) × (Nat → Int32) × (Nat → Int32) × (Nat → Int32) × (Nat → Int32) × Int32) (fun ⟨v39, v40, v41, v42, v43, v44, v45⟩ => bd (f_X7_isFlexible (v43 5)) (fun u58 => jn (α := (Nat → Int32) × (Nat → Int32) × (Nat → Int32) × (Nat → Int32) × (Nat → Int32) × (Nat → Int32)) (fun ⟨x60, x61, x62, x63, x64, x65⟩ => jn (α := (Nat → Int32) × (Nat → Int32) × Int32) (fun ⟨v68, v69, v70⟩ => some (x60, x61, x62, x63, v68, v69)) (fun k71 => L_X6_write_171  k71 fu x64 x65 0)) (fun k66 => if u58 = 0 then bd (f_X6_writeNumber v39 v40 v41 v42 v43 v44 (v40 3) 15) (fun ⟨u78, u79, u80, u81, u82, u83⟩ => bd (f_X6_writeStuffBit u78 u80 u81 u82 u83) (fun ⟨u85, u86, u87, u88, u89⟩ => k66 (u85, u79, u86, u87, u88, u89))) else bd (f_X6_writeFixed v39 v41 v42 v43 v44) (fun ⟨u91, u92, u93, u94, u95⟩ => k66 (u91, v40, u92, u93, u94, u95))))) (fun k46 => L_X6_write_92 fo k46 fu v18 v19 v20 v21 v22 v23 0)) (fun k25 => L_X6_write_48 u10 x14 fh k25 fu u1 u2 u3 u4 (upd ff 2 0) fb 0)))))))
set_option maxHeartbeats 4000000 in
set_option maxRecDepth 100000 in
theorem c_X6_write (l : Launch) (Λ : LY) (hF : FL Λ) (σ : CS) (j : Nat) (w : Nat → Int32) (a : Nat → Int32) (b : Nat → Int32) (c : Nat → Int32) (fh : Int64) (ff : Nat → Int32) (fo : Nat → Int32) (fb : Nat → Int32)  (hij : j < 200)  {w' : Nat → Int32} {a' : Nat → Int32} {b' : Nat → Int32} {c' : Nat → Int32} {ff' : Nat → Int32} {fb' : Nat → Int32} (hf : f_X6_write w a b c fh ff fo fb = some (w', a', b', c', ff', fb')) : CM l yX6_write (.code yX6_write cX6_write 5 none :: TT) ({ frames := 5, cells := 0, slots := 0, locals := 111 }) Λ [.ref (ya Λ 16 0), .ref (ya Λ 13 j)] (qWF σ j w a b c fh ff fo fb) (qWF σ j w' a' b' c' fh ff' fo fb') (none) := by
  refine CM_intro (own := RX6) (by decide) rfl (Nat.le_of_ble_eq_true rfl) ?_
  intro Γ hg hl hΓ hE
  subst hg; subst hl
  show GG Γ (0, 0) (qWF σ j w a b c fh ff fo fb) 0 [(0, .ref (ya (gl Γ) 16 0)), (1, .ref (ya (gl Γ) 13 j))] []
  unfold f_X6_write at hf
  refine G_aload_n hΓ 0 dX6_write_0 rfl ?_
  obtain ⟨⟨u1, u2, u3, u4⟩, hc5, hf⟩ := bd_some hf
  try dsimp only at hf
  refine G_callV hΓ (n := 0) (As := []) (t := 16) (i := 0) (ci := 9) (T := TX6) (N := 4) (FS := fs6 (gl Γ) 0) (σ' := (qWF σ j u1 u2 u3 u4 fh ff fo fb)) (c_X6_begin (gL Γ) (gl Γ) hF (qWF σ j w a b c fh ff fo fb)  w a b c   hc5) qWr_qWF qWr_qWF kw_532 kw_534 kp_4 kw_8 kw_535 ⟨rfl, by decide, by decide, by decide +kernel⟩ (FLi hF (t := 16) (by decide)) (fun _ _ _ => rfl) rfl rfl rfl ⟨Nat.le_of_ble_eq_true rfl, Nat.le_of_ble_eq_true rfl⟩ rfl (Nat.le_of_ble_eq_true rfl) dX6_write_1 ⟨_, rfl⟩ rfl ?_
  refine G_aload_n hΓ 1 dX6_write_4 rfl ?_
  refine G_iconst (v := 0) hΓ dX6_write_5 (by decide) ?_
  refine F_putN hΓ (t := 13) (i := j) (ci := 3) (C := RX0) (T := TX0) (N := 9) (fs0 (gl Γ) j) (f := ff) (f' := (upd ff 2 0)) (σ' := (qWF σ j u1 u2 u3 u4 fh (upd ff 2 0) fo fb)) (ty := .int) (v := .int 0) tyX0 tyX0_ok nmX0 (FLi hF (t := 13) hij) (fun _ _ _ => rfl) qWF_g13 qWF_s13 rfl inW0 2 (by decide) 21 (host := "CanBits") rfl rfl (by decide +kernel) rfl rfl (fun _ _ => Nat.le_of_ble_eq_true rfl) (fun _ _ => rfl) dX6_write_6 ?_
  refine G_aload_n hΓ 1 dX6_write_9 rfl ?_
  refine F_getN hΓ (t := 13) (i := j) (ci := 3) (C := RX0) (T := TX0) (N := 9) (fs0 (gl Γ) j) (v := .int (ff 5)) (FLi hF (t := 13) hij) (fun _ _ _ => rfl) qWF_g13 rfl rfl rfl inW0 5 (by decide) 26 (host := "CanBits") rfl rfl dX6_write_10 ?_
  obtain ⟨u6, hc7, hf⟩ := bd_some hf
  refine G_callSN hΓ (n := 1) (As := [.int (ff 5)]) (σ' := (qWF σ j u1 u2 u3 u4 fh (upd ff 2 0) fo fb)) (c_X7_isLong (gL Γ) (gl Γ) hF (qWF σ j u1 u2 u3 u4 fh (upd ff 2 0) fo fb)   (ff 5)  hc7) rfl rfl 7 (host := "CanBits") rfl kw_483 kw_1 kw_484 ⟨by decide, by decide, by decide +kernel⟩ rfl rfl ⟨Nat.le_of_ble_eq_true rfl, Nat.le_of_ble_eq_true rfl⟩ rfl (Nat.le_of_ble_eq_true rfl) dX6_write_13 ⟨_, rfl⟩ rfl ?_
  refine G_aload_n hΓ 1 dX6_write_16 rfl ?_
  refine F_getN hΓ (t := 13) (i := j) (ci := 3) (C := RX0) (T := TX0) (N := 9) (fs0 (gl Γ) j) (v := .int (ff 5)) (FLi hF (t := 13) hij) (fun _ _ _ => rfl) qWF_g13 rfl rfl rfl inW0 5 (by decide) 26 (host := "CanBits") rfl rfl dX6_write_17 ?_
  obtain ⟨u8, hc9, hf⟩ := bd_some hf
  refine G_callSN hΓ (n := 1) (As := [.int (ff 5)]) (σ' := (qWF σ j u1 u2 u3 u4 fh (upd ff 2 0) fo fb)) (c_X7_isFlexible (gL Γ) (gl Γ) hF (qWF σ j u1 u2 u3 u4 fh (upd ff 2 0) fo fb)   (ff 5)  hc9) rfl rfl 8 (host := "CanBits") rfl kw_517 kw_1 kw_518 ⟨by decide, by decide, by decide +kernel⟩ rfl rfl ⟨Nat.le_of_ble_eq_true rfl, Nat.le_of_ble_eq_true rfl⟩ rfl (Nat.le_of_ble_eq_true rfl) dX6_write_20 ⟨_, rfl⟩ rfl ?_
  obtain ⟨u10, hc11, hf⟩ := bd_some hf
  refine G_callSN hΓ (n := 2) (As := [.int u6, .int u8]) (σ' := (qWF σ j u1 u2 u3 u4 fh (upd ff 2 0) fo fb)) (c_X7_headLength (gL Γ) (gl Γ) hF (qWF σ j u1 u2 u3 u4 fh (upd ff 2 0) fo fb)   u6 u8  hc11) rfl rfl 9 (host := "CanBits") rfl kw_526 kw_1 kw_527 ⟨by decide, by decide, by decide +kernel⟩ rfl rfl ⟨Nat.le_of_ble_eq_true rfl, Nat.le_of_ble_eq_true rfl⟩ rfl (Nat.le_of_ble_eq_true rfl) dX6_write_23 ⟨_, rfl⟩ rfl ?_
  refine G_istore_n hΓ [(2, .int u10), (0, .ref (ya (gl Γ) 16 0)), (1, .ref (ya (gl Γ) 13 j))] dX6_write_26 (by decide) rfl ?_
  refine G_aload_n hΓ 2 dX6_write_27 rfl ?_
  refine F_getN hΓ (t := 13) (i := j) (ci := 3) (C := RX0) (T := TX0) (N := 9) (fs0 (gl Γ) j) (v := .int (ff 5)) (FLi hF (t := 13) hij) (fun _ _ _ => rfl) qWF_g13 rfl rfl rfl inW0 5 (by decide) 26 (host := "CanBits") rfl rfl dX6_write_28 ?_
  obtain ⟨u12, hc13, hf⟩ := bd_some hf
  refine G_callSN hΓ (n := 1) (As := [.int (ff 5)]) (σ' := (qWF σ j u1 u2 u3 u4 fh (upd ff 2 0) fo fb)) (c_X7_isLong (gL Γ) (gl Γ) hF (qWF σ j u1 u2 u3 u4 fh (upd ff 2 0) fo fb)   (ff 5)  hc13) rfl rfl 7 (host := "CanBits") rfl kw_483 kw_1 kw_484 ⟨by decide, by decide, by decide +kernel⟩ rfl rfl ⟨Nat.le_of_ble_eq_true rfl, Nat.le_of_ble_eq_true rfl⟩ rfl (Nat.le_of_ble_eq_true rfl) dX6_write_31 ⟨_, rfl⟩ rfl ?_
  obtain ⟨x14, he17, hf⟩ := lt_eq hf
  have K15 : GG Γ (0, 0) (qWF σ j u1 u2 u3 u4 fh (upd ff 2 0) fo fb) 44 [(2, .int u10), (0, .ref (ya (gl Γ) 16 0)), (1, .ref (ya (gl Γ) 13 j))] [.int x14] := by
    refine G_istore_n hΓ [(3, .int x14), (2, .int u10), (0, .ref (ya (gl Γ) 16 0)), (1, .ref (ya (gl Γ) 13 j))] dX6_write_44 (by decide) rfl ?_
    refine G_iconst (v := 0) hΓ dX6_write_45 (by decide) ?_
    refine G_istore hΓ [(4, .int 0), (3, .int x14), (2, .int u10), (0, .ref (ya (gl Γ) 16 0)), (1, .ref (ya (gl Γ) 13 j))] dX6_write_46 (by decide) rfl ?_
    obtain ⟨k25, hk_k25, hf⟩ := jn_eq hf
    try dsimp only at hf
    have K26 : ∀ v18 v19 v20 v21 v22 v23 v24, k25 (v18, v19, v20, v21, v22, v23, v24) = some (w', a', b', c', ff', fb') → GG Γ (0, 0) (qWF σ j v18 v19 v20 v21 fh v22 fo v23) 89 [(4, .int v24), (3, .int x14), (2, .int u10), (0, .ref (ya (gl Γ) 16 0)), (1, .ref (ya (gl Γ) 13 j))] [] := by
      intro v18 v19 v20 v21 v22 v23 v24 hf
      subst hk_k25
      try dsimp only at hf
      refine G_iconst (v := 0) hΓ dX6_write_89 (by decide) ?_
      refine G_istore hΓ [(4, .int 0), (3, .int x14), (2, .int u10), (0, .ref (ya (gl Γ) 16 0)), (1, .ref (ya (gl Γ) 13 j))] dX6_write_90 (by decide) rfl ?_
      obtain ⟨k46, hk_k46, hf⟩ := jn_eq hf
      try dsimp only at hf
      have K47 : ∀ v39 v40 v41 v42 v43 v44 v45, k46 (v39, v40, v41, v42, v43, v44, v45) = some (w', a', b', c', ff', fb') → GG Γ (0, 0) (qWF σ j v39 v40 v41 v42 fh v43 fo v44) 128 [(4, .int v45), (3, .int x14), (2, .int u10), (0, .ref (ya (gl Γ) 16 0)), (1, .ref (ya (gl Γ) 13 j))] [] := by
        intro v39 v40 v41 v42 v43 v44 v45 hf
        subst hk_k46
        try dsimp only at hf
        refine G_aload_n hΓ 4 dX6_write_128 rfl ?_
        refine F_getN hΓ (t := 13) (i := j) (ci := 3) (C := RX0) (T := TX0) (N := 9) (fs0 (gl Γ) j) (v := .int (v43 5)) (FLi hF (t := 13) hij) (fun _ _ _ => rfl) qWF_g13 rfl rfl rfl inW0 5 (by decide) 26 (host := "CanBits") rfl rfl dX6_write_129 ?_
        obtain ⟨u58, hc59, hf⟩ := bd_some hf
        refine G_callSN hΓ (n := 1) (As := [.int (v43 5)]) (σ' := (qWF σ j v39 v40 v41 v42 fh v43 fo v44)) (c_X7_isFlexible (gL Γ) (gl Γ) hF (qWF σ j v39 v40 v41 v42 fh v43 fo v44)   (v43 5)  hc59) rfl rfl 8 (host := "CanBits") rfl kw_517 kw_1 kw_518 ⟨by decide, by decide, by decide +kernel⟩ rfl rfl ⟨Nat.le_of_ble_eq_true rfl, Nat.le_of_ble_eq_true rfl⟩ rfl (Nat.le_of_ble_eq_true rfl) dX6_write_132 ⟨_, rfl⟩ rfl ?_
        obtain ⟨k66, hk_k66, hf⟩ := jn_eq hf
        try dsimp only at hf
        have K67 : ∀ x60 x61 x62 x63 x64 x65, k66 (x60, x61, x62, x63, x64, x65) = some (w', a', b', c', ff', fb') → GG Γ (0, 0) (qWF σ j x60 x61 x62 x63 fh x64 fo x65) 168 [(4, .int v45), (3, .int x14), (2, .int u10), (0, .ref (ya (gl Γ) 16 0)), (1, .ref (ya (gl Γ) 13 j))] [] := by
          intro x60 x61 x62 x63 x64 x65 hf
          subst hk_k66
          try dsimp only at hf
          refine G_iconst (v := 0) hΓ dX6_write_168 (by decide) ?_
          refine G_istore hΓ [(4, .int 0), (3, .int x14), (2, .int u10), (0, .ref (ya (gl Γ) 16 0)), (1, .ref (ya (gl Γ) 13 j))] dX6_write_169 (by decide) rfl ?_
          obtain ⟨k71, hk_k71, hf⟩ := jn_eq hf
          try dsimp only at hf
          have K72 : ∀ v68 v69 v70, k71 (v68, v69, v70) = some (w', a', b', c', ff', fb') → GG Γ (0, 0) (qWF σ j x60 x61 x62 x63 fh v68 fo v69) 190 [(4, .int v70), (3, .int x14), (2, .int u10), (0, .ref (ya (gl Γ) 16 0)), (1, .ref (ya (gl Γ) 13 j))] [] := by
            intro v68 v69 v70 hf
            subst hk_k71
            try dsimp only at hf
            cases hf
            exact G_vret hΓ hE dX6_write_190
          clear hk_k71
          have loop77 : ∀ (nn : Nat) v68 v69 v70, L_X6_write_171  k71 nn v68 v69 v70 = some (w', a', b', c', ff', fb') → GG Γ (0, 0) (qWF σ j x60 x61 x62 x63 fh v68 fo v69) 171 [(4, .int v70), (3, .int x14), (2, .int u10), (0, .ref (ya (gl Γ) 16 0)), (1, .ref (ya (gl Γ) 13 j))] [] := by
            intro nn
            induction nn with
            | zero => intro v68 v69 v70 hf; cases hf
            | succ nn ih =>
              intro v68 v69 v70 hf
              rw [L_X6_write_171] at hf
              refine G_iload hΓ 0 dX6_write_171 rfl ?_
              refine G_bipush (v := 10) hΓ dX6_write_173 (by decide) ?_
              refine G_icmp_ge hΓ (tgt := 190) dX6_write_175 (by decide) (fun hc76 => ?_) (fun hc76 => ?_)
              · rw [if_pos hc76] at hf
                exact (K72 _ _ _ hf)
              · rw [if_neg hc76] at hf
                refine G_aload_n hΓ 4 dX6_write_178 rfl ?_
                refine G_iconst (v := 1) hΓ dX6_write_179 (by decide) ?_
                refine G_iconst (v := 0) hΓ dX6_write_180 (by decide) ?_
                obtain ⟨⟨u73, u74⟩, hc75, hf⟩ := bd_some hf
                try dsimp only at hf
                refine G_callV hΓ (n := 2) (As := [.int 1, .int 0]) (t := 13) (i := j) (ci := 3) (T := TX0) (N := 9) (FS := fs0 (gl Γ) j) (σ' := (qWF σ j x60 x61 x62 x63 fh u73 fo u74)) (c_X0_append (gL Γ) (gl Γ) hF (qWF σ j x60 x61 x62 x63 fh v68 fo v69) j fh v68 fo v69 1 0 hij hc75) qFr_qWF qFr_qWF kw_563 kw_564 kw_565 kw_7 kw_566 ⟨rfl, by decide, by decide, by decide +kernel⟩ (FLi hF (t := 13) hij) (fun _ _ _ => rfl) rfl rfl rfl ⟨Nat.le_of_ble_eq_true rfl, Nat.le_of_ble_eq_true rfl⟩ rfl (Nat.le_of_ble_eq_true rfl) dX6_write_181 ⟨_, rfl⟩ rfl ?_
                refine G_iinc hΓ 0 [(4, .int (v70 + 1)), (3, .int x14), (2, .int u10), (0, .ref (ya (gl Γ) 16 0)), (1, .ref (ya (gl Γ) 13 j))] dX6_write_184 rfl rfl (by decide) rfl ?_
                refine G_goto hΓ (tgt := 171) dX6_write_187 (by decide) ?_
                exact (ih _ _ _ hf)
          exact loop77 _ _ _ _ hf
        clear hk_k66
        refine G_if_eq hΓ (tgt := 146) dX6_write_135 (by decide) (fun hc97 => ?_) (fun hc97 => ?_)
        · rw [if_pos hc97] at hf
          refine G_aload_n hΓ 3 dX6_write_146 rfl ?_
          refine G_aload_n hΓ 4 dX6_write_147 rfl ?_
          refine G_aload_n hΓ 3 dX6_write_148 rfl ?_
          refine F_get hΓ (t := 16) (i := 0) (ci := 9) (C := RX6) (T := TX6) (N := 4) (fs6 (gl Γ) 0) (v := .ref (ya (gl Γ) 6 32)) (FLi hF (t := 16) (by decide)) (fun _ _ _ => rfl) rfl rfl rfl rfl inW6 0 (by decide) (TT_cons kw_260) rfl dX6_write_149 ?_
          refine F_getN hΓ (t := 6) (i := 32) (ci := 7) (C := RX4) (T := TX4) (N := 3) (fs4 (gl Γ) 32) (v := .ref (ya (gl Γ) 7 32)) (FLi hF (t := 6) (by decide)) (fun _ _ _ => rfl) rfl rfl rfl rfl inW4 0 (by decide) 4 (host := "CanBits") rfl rfl dX6_write_152 ?_
          refine F_getN hΓ (t := 7) (i := 32) (ci := 6) (C := RX3) (T := TX3) (N := 4) (fs3 (gl Γ) 32) (v := .int (v40 3)) (FLi hF (t := 7) (by decide)) (fun _ _ _ => rfl) qWF_g7 rfl rfl rfl inW3 3 (by decide) 0 (host := "CanBits") rfl rfl dX6_write_155 ?_
          refine G_bipush (v := 15) hΓ dX6_write_158 (by decide) ?_
          obtain ⟨⟨u78, u79, u80, u81, u82, u83⟩, hc84, hf⟩ := bd_some hf
          try dsimp only at hf
          refine G_callV hΓ (n := 3) (As := [.ref (ya (gl Γ) 13 j), .int (v40 3), .int 15]) (t := 16) (i := 0) (ci := 9) (T := TX6) (N := 4) (FS := fs6 (gl Γ) 0) (σ' := (qWF σ j u78 u79 u80 u81 fh u82 fo u83)) (c_X6_writeNumber (gL Γ) (gl Γ) hF σ j v39 v40 v41 v42 fh v43 fo v44 (v40 3) 15 hij hc84) rfl rfl kw_571 kw_573 kp_7 kw_8 kw_574 ⟨rfl, by decide, by decide, by decide +kernel⟩ (FLi hF (t := 16) (by decide)) (fun _ _ _ => rfl) rfl rfl rfl ⟨Nat.le_of_ble_eq_true rfl, Nat.le_of_ble_eq_true rfl⟩ rfl (Nat.le_of_ble_eq_true rfl) dX6_write_160 ⟨_, rfl⟩ rfl ?_
          refine G_aload_n hΓ 3 dX6_write_163 rfl ?_
          refine G_aload_n hΓ 4 dX6_write_164 rfl ?_
          obtain ⟨⟨u85, u86, u87, u88, u89⟩, hc90, hf⟩ := bd_some hf
          try dsimp only at hf
          refine G_callV hΓ (n := 1) (As := [.ref (ya (gl Γ) 13 j)]) (t := 16) (i := 0) (ci := 9) (T := TX6) (N := 4) (FS := fs6 (gl Γ) 0) (σ' := (qWF σ j u85 u79 u86 u87 fh u88 fo u89)) (c_X6_writeStuffBit (gL Γ) (gl Γ) hF σ j u78 u79 u80 u81 fh u82 fo u83  hij hc90) rfl rfl kw_551 kw_553 kp_6 kw_8 kw_554 ⟨rfl, by decide, by decide, by decide +kernel⟩ (FLi hF (t := 16) (by decide)) (fun _ _ _ => rfl) rfl rfl rfl ⟨Nat.le_of_ble_eq_true rfl, Nat.le_of_ble_eq_true rfl⟩ rfl (Nat.le_of_ble_eq_true rfl) dX6_write_165 ⟨_, rfl⟩ rfl ?_
          exact K67 _ _ _ _ _ _ hf
        · rw [if_neg hc97] at hf
          refine G_aload_n hΓ 3 dX6_write_138 rfl ?_
          refine G_aload_n hΓ 4 dX6_write_139 rfl ?_
          obtain ⟨⟨u91, u92, u93, u94, u95⟩, hc96, hf⟩ := bd_some hf
          try dsimp only at hf
          refine G_callV hΓ (n := 1) (As := [.ref (ya (gl Γ) 13 j)]) (t := 16) (i := 0) (ci := 9) (T := TX6) (N := 4) (FS := fs6 (gl Γ) 0) (σ' := (qWF σ j u91 v40 u92 u93 fh u94 fo u95)) (c_X6_writeFixed (gL Γ) (gl Γ) hF σ j v39 v40 v41 v42 fh v43 fo v44  hij hc96) rfl rfl kw_575 kw_577 kp_8 kw_8 kw_578 ⟨rfl, by decide, by decide, by decide +kernel⟩ (FLi hF (t := 16) (by decide)) (fun _ _ _ => rfl) rfl rfl rfl ⟨Nat.le_of_ble_eq_true rfl, Nat.le_of_ble_eq_true rfl⟩ rfl (Nat.le_of_ble_eq_true rfl) dX6_write_140 ⟨_, rfl⟩ rfl ?_
          refine G_goto hΓ (tgt := 168) dX6_write_143 (by decide) ?_
          exact K67 _ _ _ _ _ _ hf
      clear hk_k46
      have loop98 : ∀ (nn : Nat) v39 v40 v41 v42 v43 v44 v45, L_X6_write_92 fo k46 nn v39 v40 v41 v42 v43 v44 v45 = some (w', a', b', c', ff', fb') → GG Γ (0, 0) (qWF σ j v39 v40 v41 v42 fh v43 fo v44) 92 [(4, .int v45), (3, .int x14), (2, .int u10), (0, .ref (ya (gl Γ) 16 0)), (1, .ref (ya (gl Γ) 13 j))] [] := by
        intro nn
        induction nn with
        | zero => intro v39 v40 v41 v42 v43 v44 v45 hf; cases hf
        | succ nn ih =>
          intro v39 v40 v41 v42 v43 v44 v45 hf
          rw [L_X6_write_92] at hf
          refine G_iload hΓ 0 dX6_write_92 rfl ?_
          refine G_aload_n hΓ 4 dX6_write_94 rfl ?_
          refine F_getN hΓ (t := 13) (i := j) (ci := 3) (C := RX0) (T := TX0) (N := 9) (fs0 (gl Γ) j) (v := .int (v43 7)) (FLi hF (t := 13) hij) (fun _ _ _ => rfl) qWF_g13 rfl rfl rfl inW0 7 (by decide) 29 (host := "CanBits") rfl rfl dX6_write_95 ?_
          refine G_icmp_ge hΓ (tgt := 128) dX6_write_98 (by decide) (fun hc57 => ?_) (fun hc57 => ?_)
          · rw [if_pos hc57] at hf
            exact (K47 _ _ _ _ _ _ _ hf)
          · rw [if_neg hc57] at hf
            refine G_iload hΓ 0 dX6_write_101 rfl ?_
            refine G_bipush (v := 64) hΓ dX6_write_103 (by decide) ?_
            refine G_icmp_ge hΓ (tgt := 128) dX6_write_105 (by decide) (fun hc56 => ?_) (fun hc56 => ?_)
            · rw [if_pos hc56] at hf
              exact (K47 _ _ _ _ _ _ _ hf)
            · rw [if_neg hc56] at hf
              refine G_aload_n hΓ 3 dX6_write_108 rfl ?_
              refine G_aload_n hΓ 4 dX6_write_109 rfl ?_
              refine G_aload_n hΓ 4 dX6_write_110 rfl ?_
              refine F_getN hΓ (t := 13) (i := j) (ci := 3) (C := RX0) (T := TX0) (N := 9) (fs0 (gl Γ) j) (v := .ref (ya (gl Γ) 14 j)) (FLi hF (t := 13) hij) (fun _ _ _ => rfl) rfl rfl rfl rfl inW0 0 (by decide) 19 (host := "CanBits") rfl rfl dX6_write_111 ?_
              refine G_iload hΓ 0 dX6_write_114 rfl ?_
              obtain ⟨hg48, hf⟩ := gd_some hf
              refine F_ald (G_iald hΓ) (t := 14) (i := j) (f := fo) (FLi hF (t := 14) hij) (fun _ _ _ => rfl) qWF_g14 hg48 dX6_write_116 ?_
              refine G_bipush (v := 8) hΓ dX6_write_117 (by decide) ?_
              obtain ⟨⟨u49, u50, u51, u52, u53, u54⟩, hc55, hf⟩ := bd_some hf
              try dsimp only at hf
              refine G_callV hΓ (n := 3) (As := [.ref (ya (gl Γ) 13 j), .int (fo v45.toNatClampNeg), .int 8]) (t := 16) (i := 0) (ci := 9) (T := TX6) (N := 4) (FS := fs6 (gl Γ) 0) (σ' := (qWF σ j u49 u50 u51 u52 fh u53 fo u54)) (c_X6_writeNumber (gL Γ) (gl Γ) hF σ j v39 v40 v41 v42 fh v43 fo v44 (fo v45.toNatClampNeg) 8 hij hc55) rfl rfl kw_571 kw_573 kp_7 kw_8 kw_574 ⟨rfl, by decide, by decide, by decide +kernel⟩ (FLi hF (t := 16) (by decide)) (fun _ _ _ => rfl) rfl rfl rfl ⟨Nat.le_of_ble_eq_true rfl, Nat.le_of_ble_eq_true rfl⟩ rfl (Nat.le_of_ble_eq_true rfl) dX6_write_119 ⟨_, rfl⟩ rfl ?_
              refine G_iinc hΓ 0 [(4, .int (v45 + 1)), (3, .int x14), (2, .int u10), (0, .ref (ya (gl Γ) 16 0)), (1, .ref (ya (gl Γ) 13 j))] dX6_write_122 rfl rfl (by decide) rfl ?_
              refine G_goto hΓ (tgt := 92) dX6_write_125 (by decide) ?_
              exact (ih _ _ _ _ _ _ _ hf)
      exact loop98 _ _ _ _ _ _ _ _ hf
    clear hk_k25
    have loop99 : ∀ (nn : Nat) v18 v19 v20 v21 v22 v23 v24, L_X6_write_48 u10 x14 fh k25 nn v18 v19 v20 v21 v22 v23 v24 = some (w', a', b', c', ff', fb') → GG Γ (0, 0) (qWF σ j v18 v19 v20 v21 fh v22 fo v23) 48 [(4, .int v24), (3, .int x14), (2, .int u10), (0, .ref (ya (gl Γ) 16 0)), (1, .ref (ya (gl Γ) 13 j))] [] := by
      intro nn
      induction nn with
      | zero => intro v18 v19 v20 v21 v22 v23 v24 hf; cases hf
      | succ nn ih =>
        intro v18 v19 v20 v21 v22 v23 v24 hf
        rw [L_X6_write_48] at hf
        refine G_iload hΓ 0 dX6_write_48 rfl ?_
        refine G_iload_n hΓ 2 dX6_write_50 rfl ?_
        refine G_icmp_ge hΓ (tgt := 89) dX6_write_51 (by decide) (fun hc38 => ?_) (fun hc38 => ?_)
        · rw [if_pos hc38] at hf
          exact (K26 _ _ _ _ _ _ _ hf)
        · rw [if_neg hc38] at hf
          refine G_aload_n hΓ 3 dX6_write_54 rfl ?_
          refine G_aload_n hΓ 4 dX6_write_55 rfl ?_
          refine G_aload_n hΓ 4 dX6_write_56 rfl ?_
          refine F_getN hΓ (t := 13) (i := j) (ci := 3) (C := RX0) (T := TX0) (N := 9) (fs0 (gl Γ) j) (v := .long fh) (FLi hF (t := 13) hij) (fun _ _ _ => rfl) rfl qWF_h rfl rfl inW0 6 (by decide) 27 (host := "CanBits") rfl rfl dX6_write_57 ?_
          refine G_bipush (v := 40) hΓ dX6_write_60 (by decide) ?_
          refine G_iload hΓ 0 dX6_write_62 rfl ?_
          refine G_isub hΓ dX6_write_64 ?_
          refine G_lshr hΓ dX6_write_65 ?_
          refine G_l2i hΓ dX6_write_66 ?_
          refine G_iconst (v := 1) hΓ dX6_write_67 (by decide) ?_
          refine G_iand hΓ dX6_write_68 ?_
          refine G_iload hΓ 0 dX6_write_69 rfl ?_
          refine G_iload_n hΓ 1 dX6_write_71 rfl ?_
          obtain ⟨x27, he30, hf⟩ := lt_eq hf
          have K28 : GG Γ (0, 0) (qWF σ j v18 v19 v20 v21 fh v22 fo v23) 80 [(4, .int v24), (3, .int x14), (2, .int u10), (0, .ref (ya (gl Γ) 16 0)), (1, .ref (ya (gl Γ) 13 j))] [.int x27, .int (((fh >>> ((40 - v24).toInt64 &&& 63)).toInt32) &&& 1), .ref (ya (gl Γ) 13 j), .ref (ya (gl Γ) 16 0)] := by
            obtain ⟨⟨u31, u32, u33, u34, u35, u36⟩, hc37, hf⟩ := bd_some hf
            try dsimp only at hf
            refine G_callV hΓ (n := 3) (As := [.ref (ya (gl Γ) 13 j), .int (((fh >>> ((40 - v24).toInt64 &&& 63)).toInt32) &&& 1), .int x27]) (t := 16) (i := 0) (ci := 9) (T := TX6) (N := 4) (FS := fs6 (gl Γ) 0) (σ' := (qWF σ j u31 u32 u33 u34 fh u35 fo u36)) (c_X6_writePlain (gL Γ) (gl Γ) hF σ j v18 v19 v20 v21 fh v22 fo v23 (((fh >>> ((40 - v24).toInt64 &&& 63)).toInt32) &&& 1) x27 hij hc37) rfl rfl kw_547 kw_549 kp_5 kw_8 kw_550 ⟨rfl, by decide, by decide, by decide +kernel⟩ (FLi hF (t := 16) (by decide)) (fun _ _ _ => rfl) rfl rfl rfl ⟨Nat.le_of_ble_eq_true rfl, Nat.le_of_ble_eq_true rfl⟩ rfl (Nat.le_of_ble_eq_true rfl) dX6_write_80 ⟨_, rfl⟩ rfl ?_
            refine G_iinc hΓ 0 [(4, .int (v24 + 1)), (3, .int x14), (2, .int u10), (0, .ref (ya (gl Γ) 16 0)), (1, .ref (ya (gl Γ) 13 j))] dX6_write_83 rfl rfl (by decide) rfl ?_
            refine G_goto hΓ (tgt := 48) dX6_write_86 (by decide) ?_
            exact (ih _ _ _ _ _ _ _ hf)
          have he := he30
          refine G_icmp_gt hΓ (tgt := 79) dX6_write_72 (by decide) (fun hc29 => ?_) (fun hc29 => ?_)
          · rw [if_pos hc29] at he
            refine G_iconst (v := 0) hΓ dX6_write_79 (by decide) ?_
            subst he
            exact K28
          · rw [if_neg hc29] at he
            refine G_iconst (v := 1) hΓ dX6_write_75 (by decide) ?_
            refine G_goto hΓ (tgt := 80) dX6_write_76 (by decide) ?_
            subst he
            exact K28
    exact loop99 _ _ _ _ _ _ _ _ hf
  have he := he17
  refine G_if_eq hΓ (tgt := 42) dX6_write_34 (by decide) (fun hc16 => ?_) (fun hc16 => ?_)
  · rw [if_pos hc16] at he
    refine G_bipush (v := 13) hΓ dX6_write_42 (by decide) ?_
    subst he
    exact K15
  · rw [if_neg hc16] at he
    refine G_bipush (v := 32) hΓ dX6_write_37 (by decide) ?_
    refine G_goto hΓ (tgt := 44) dX6_write_39 (by decide) ?_
    subst he
    exact K15
