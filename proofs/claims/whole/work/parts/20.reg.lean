theorem dX3_begin_0 : decode cX3_begin 0 = .ok (.aload_n 0, 1) := by decide +kernel
theorem dX3_begin_1 : decode cX3_begin 1 = .ok (.aload_n 0, 1) := by decide +kernel
theorem dX3_begin_2 : decode cX3_begin 2 = .ok (.getfield 16, 3) := by decide +kernel
theorem dX3_begin_5 : decode cX3_begin 5 = .ok (.putfield 19, 3) := by decide +kernel
theorem dX3_begin_8 : decode cX3_begin 8 = .ok (.return_, 1) := by decide +kernel
noncomputable def f_X3_begin  (f : Nat → Int32)  : Option ((Nat → Int32)) := some ((upd f 3 (f 2)))
set_option maxHeartbeats 4000000 in
set_option maxRecDepth 100000 in
theorem c_X3_begin (l : Launch) (Λ : LY) (hF : FL Λ) (σ : CS) (t : Nat) (s : Nat) (f : Nat → Int32)  (ht : t = 7 ∨ t = 8 ∨ t = 9) (his : s < 33)  {f' : Nat → Int32} (hf : f_X3_begin f = some f') : CM l yX3_begin (.code yX3_begin cX3_begin 1 none :: TT) ({ frames := 0, cells := 0, slots := 0, locals := 0 }) Λ [.ref (ya Λ t s)] (sZ σ t s f) (sZ σ t s f') (none) := by
  refine CM_intro (own := RX3) (by decide) rfl (Nat.le_of_ble_eq_true rfl) ?_
  intro Γ hg hl hΓ hE
  subst hg; subst hl
  show GG Γ (0, 0) (sZ σ t s f) 0 [(0, .ref (ya (gl Γ) t s))] []
  unfold f_X3_begin at hf
  refine G_aload_n hΓ 0 dX3_begin_0 rfl ?_
  refine G_aload_n hΓ 0 dX3_begin_1 rfl ?_
  refine F_get hΓ (t := t) (i := s) (ci := 6) (C := RX3) (T := TX3) (N := 4) (fs3 (gl Γ) s) (v := .int (f 2)) (FLr hF ht his) (cel_reg ht) sZ_g rfl rfl rfl inW3 2 (by decide) (TT_cons kw_56) rfl dX3_begin_2 ?_
  refine F_put hΓ (t := t) (i := s) (ci := 6) (C := RX3) (T := TX3) (N := 4) (fs3 (gl Γ) s) (f := f) (f' := (upd f 3 (f 2))) (σ' := (sZ σ t s (upd f 3 (f 2)))) (ty := .int) (v := .int (f 2)) tyX3 tyX3_ok nmX3 (FLr hF ht his) (cel_reg ht) sZ_g sZ_same rfl inW3 3 (by decide) (TT_cons kw_57) rfl (by decide +kernel) rfl rfl (fun _ _ => Nat.le_of_ble_eq_true rfl) (fun _ _ => rfl) dX3_begin_5 ?_
  cases hf
  exact G_vret hΓ hE dX3_begin_8
theorem dX3_move_0 : decode cX3_move 0 = .ok (.aload_n 0, 1) := by decide +kernel
theorem dX3_move_1 : decode cX3_move 1 = .ok (.getfield 19, 3) := by decide +kernel
theorem dX3_move_4 : decode cX3_move 4 = .ok (.aload_n 0, 1) := by decide +kernel
theorem dX3_move_5 : decode cX3_move 5 = .ok (.getfield 7, 3) := by decide +kernel
theorem dX3_move_8 : decode cX3_move 8 = .ok (.iand, 1) := by decide +kernel
theorem dX3_move_9 : decode cX3_move 9 = .ok (.ifCond .ne 7, 3) := by decide +kernel
theorem dX3_move_12 : decode cX3_move 12 = .ok (.iconst 0, 1) := by decide +kernel
theorem dX3_move_13 : decode cX3_move 13 = .ok (.goto 4, 3) := by decide +kernel
theorem dX3_move_16 : decode cX3_move 16 = .ok (.iconst 1, 1) := by decide +kernel
theorem dX3_move_17 : decode cX3_move 17 = .ok (.istore_n 2, 1) := by decide +kernel
theorem dX3_move_18 : decode cX3_move 18 = .ok (.aload_n 0, 1) := by decide +kernel
theorem dX3_move_19 : decode cX3_move 19 = .ok (.aload_n 0, 1) := by decide +kernel
theorem dX3_move_20 : decode cX3_move 20 = .ok (.getfield 19, 3) := by decide +kernel
theorem dX3_move_23 : decode cX3_move 23 = .ok (.iconst 1, 1) := by decide +kernel
theorem dX3_move_24 : decode cX3_move 24 = .ok (.ishl, 1) := by decide +kernel
theorem dX3_move_25 : decode cX3_move 25 = .ok (.aload_n 0, 1) := by decide +kernel
theorem dX3_move_26 : decode cX3_move 26 = .ok (.getfield 7, 3) := by decide +kernel
theorem dX3_move_29 : decode cX3_move 29 = .ok (.iconst 1, 1) := by decide +kernel
theorem dX3_move_30 : decode cX3_move 30 = .ok (.ishl, 1) := by decide +kernel
theorem dX3_move_31 : decode cX3_move 31 = .ok (.iconst 1, 1) := by decide +kernel
theorem dX3_move_32 : decode cX3_move 32 = .ok (.isub, 1) := by decide +kernel
theorem dX3_move_33 : decode cX3_move 33 = .ok (.iand, 1) := by decide +kernel
theorem dX3_move_34 : decode cX3_move 34 = .ok (.putfield 19, 3) := by decide +kernel
theorem dX3_move_37 : decode cX3_move 37 = .ok (.iload_n 2, 1) := by decide +kernel
theorem dX3_move_38 : decode cX3_move 38 = .ok (.iload_n 1, 1) := by decide +kernel
theorem dX3_move_39 : decode cX3_move 39 = .ok (.if_icmp .eq 16, 3) := by decide +kernel
theorem dX3_move_42 : decode cX3_move 42 = .ok (.aload_n 0, 1) := by decide +kernel
theorem dX3_move_43 : decode cX3_move 43 = .ok (.dup, 1) := by decide +kernel
theorem dX3_move_44 : decode cX3_move 44 = .ok (.getfield 19, 3) := by decide +kernel
theorem dX3_move_47 : decode cX3_move 47 = .ok (.aload_n 0, 1) := by decide +kernel
theorem dX3_move_48 : decode cX3_move 48 = .ok (.getfield 13, 3) := by decide +kernel
theorem dX3_move_51 : decode cX3_move 51 = .ok (.ixor, 1) := by decide +kernel
theorem dX3_move_52 : decode cX3_move 52 = .ok (.putfield 19, 3) := by decide +kernel
theorem dX3_move_55 : decode cX3_move 55 = .ok (.return_, 1) := by decide +kernel
noncomputable def f_X3_move  (f : Nat → Int32) (p1 : Int32) : Option ((Nat → Int32)) := lt (α := Int32) (if ((f 3) &&& (f 0)) = 0 then 0 else 1) (fun x1 => lt (α := Int32) (((f 3) <<< ((1 : Int32) &&& 31)) &&& (((f 0) <<< ((1 : Int32) &&& 31)) - 1)) (fun v5 => jn (α := Nat → Int32) (fun x6 => some (x6)) (fun k7 => if x1 = p1 then k7 (upd f 3 v5) else k7 (upd (upd f 3 v5) 3 (v5 ^^^ (f 1))))))
set_option maxHeartbeats 4000000 in
set_option maxRecDepth 100000 in
theorem c_X3_move (l : Launch) (Λ : LY) (hF : FL Λ) (σ : CS) (t : Nat) (s : Nat) (f : Nat → Int32) (p1 : Int32) (ht : t = 7 ∨ t = 8 ∨ t = 9) (his : s < 33)  {f' : Nat → Int32} (hf : f_X3_move f p1 = some f') : CM l yX3_move (.code yX3_move cX3_move 3 none :: TT) ({ frames := 0, cells := 0, slots := 0, locals := 0 }) Λ [.ref (ya Λ t s), .int p1] (sZ σ t s f) (sZ σ t s f') (none) := by
  refine CM_intro (own := RX3) (by decide) rfl (Nat.le_of_ble_eq_true rfl) ?_
  intro Γ hg hl hΓ hE
  subst hg; subst hl
  show GG Γ (0, 0) (sZ σ t s f) 0 [(0, .ref (ya (gl Γ) t s)), (1, .int p1)] []
  unfold f_X3_move at hf
  refine G_aload_n hΓ 0 dX3_move_0 rfl ?_
  refine F_get hΓ (t := t) (i := s) (ci := 6) (C := RX3) (T := TX3) (N := 4) (fs3 (gl Γ) s) (v := .int (f 3)) (FLr hF ht his) (cel_reg ht) sZ_g rfl rfl rfl inW3 3 (by decide) (TT_cons kw_57) rfl dX3_move_1 ?_
  refine G_aload_n hΓ 0 dX3_move_4 rfl ?_
  refine F_get hΓ (t := t) (i := s) (ci := 6) (C := RX3) (T := TX3) (N := 4) (fs3 (gl Γ) s) (v := .int (f 0)) (FLr hF ht his) (cel_reg ht) sZ_g rfl rfl rfl inW3 0 (by decide) (TT_cons kw_54) rfl dX3_move_5 ?_
  refine G_iand hΓ dX3_move_8 ?_
  obtain ⟨x1, he4, hf⟩ := lt_eq hf
  have K2 : GG Γ (0, 0) (sZ σ t s f) 17 [(0, .ref (ya (gl Γ) t s)), (1, .int p1)] [.int x1] := by
    refine G_istore_n hΓ [(2, .int x1), (0, .ref (ya (gl Γ) t s)), (1, .int p1)] dX3_move_17 (by decide) rfl ?_
    refine G_aload_n hΓ 1 dX3_move_18 rfl ?_
    refine G_aload_n hΓ 1 dX3_move_19 rfl ?_
    refine F_get hΓ (t := t) (i := s) (ci := 6) (C := RX3) (T := TX3) (N := 4) (fs3 (gl Γ) s) (v := .int (f 3)) (FLr hF ht his) (cel_reg ht) sZ_g rfl rfl rfl inW3 3 (by decide) (TT_cons kw_57) rfl dX3_move_20 ?_
    refine G_iconst (v := 1) hΓ dX3_move_23 (by decide) ?_
    refine G_ishl hΓ dX3_move_24 ?_
    refine G_aload_n hΓ 1 dX3_move_25 rfl ?_
    refine F_get hΓ (t := t) (i := s) (ci := 6) (C := RX3) (T := TX3) (N := 4) (fs3 (gl Γ) s) (v := .int (f 0)) (FLr hF ht his) (cel_reg ht) sZ_g rfl rfl rfl inW3 0 (by decide) (TT_cons kw_54) rfl dX3_move_26 ?_
    refine G_iconst (v := 1) hΓ dX3_move_29 (by decide) ?_
    refine G_ishl hΓ dX3_move_30 ?_
    refine G_iconst (v := 1) hΓ dX3_move_31 (by decide) ?_
    refine G_isub hΓ dX3_move_32 ?_
    refine G_iand hΓ dX3_move_33 ?_
    obtain ⟨v5, hv_v5, hf⟩ := lt_eq hf
    refine G_topi hv_v5 ?_
    refine F_put hΓ (t := t) (i := s) (ci := 6) (C := RX3) (T := TX3) (N := 4) (fs3 (gl Γ) s) (f := f) (f' := (upd f 3 v5)) (σ' := (sZ σ t s (upd f 3 v5))) (ty := .int) (v := .int v5) tyX3 tyX3_ok nmX3 (FLr hF ht his) (cel_reg ht) sZ_g sZ_same rfl inW3 3 (by decide) (TT_cons kw_57) rfl (by decide +kernel) rfl rfl (fun _ _ => Nat.le_of_ble_eq_true rfl) (fun _ _ => rfl) dX3_move_34 ?_
    refine G_iload_n hΓ 0 dX3_move_37 rfl ?_
    refine G_iload_n hΓ 2 dX3_move_38 rfl ?_
    obtain ⟨k7, hk_k7, hf⟩ := jn_eq hf
    try dsimp only at hf
    have K8 : ∀ x6, k7 x6 = some f' → GG Γ (0, 0) (sZ σ t s x6) 55 [(2, .int x1), (0, .ref (ya (gl Γ) t s)), (1, .int p1)] [] := by
      intro x6 hf
      subst hk_k7
      try dsimp only at hf
      cases hf
      exact G_vret hΓ hE dX3_move_55
    clear hk_k7
    refine G_icmp_eq hΓ (tgt := 55) dX3_move_39 (by decide) (fun hc9 => ?_) (fun hc9 => ?_)
    · rw [if_pos hc9] at hf
      exact K8 _ hf
    · rw [if_neg hc9] at hf
      refine G_aload_n hΓ 1 dX3_move_42 rfl ?_
      refine G_dup hΓ dX3_move_43 rfl ?_
      refine F_get hΓ (t := t) (i := s) (ci := 6) (C := RX3) (T := TX3) (N := 4) (fs3 (gl Γ) s) (v := .int v5) (FLr hF ht his) (cel_reg ht) sZ_g rfl rfl rfl inW3 3 (by decide) (TT_cons kw_57) rfl dX3_move_44 ?_
      refine G_aload_n hΓ 1 dX3_move_47 rfl ?_
      refine F_get hΓ (t := t) (i := s) (ci := 6) (C := RX3) (T := TX3) (N := 4) (fs3 (gl Γ) s) (v := .int (f 1)) (FLr hF ht his) (cel_reg ht) sZ_g rfl rfl rfl inW3 1 (by decide) (TT_cons kw_55) rfl dX3_move_48 ?_
      refine G_ixor hΓ dX3_move_51 ?_
      refine F_put hΓ (t := t) (i := s) (ci := 6) (C := RX3) (T := TX3) (N := 4) (fs3 (gl Γ) s) (f := (upd f 3 v5)) (f' := (upd (upd f 3 v5) 3 (v5 ^^^ (f 1)))) (σ' := (sZ σ t s (upd (upd f 3 v5) 3 (v5 ^^^ (f 1))))) (ty := .int) (v := .int (v5 ^^^ (f 1))) tyX3 tyX3_ok nmX3 (FLr hF ht his) (cel_reg ht) sZ_g sZ_same rfl inW3 3 (by decide) (TT_cons kw_57) rfl (by decide +kernel) rfl rfl (fun _ _ => Nat.le_of_ble_eq_true rfl) (fun _ _ => rfl) dX3_move_52 ?_
      exact K8 _ hf
  have he := he4
  refine G_if_ne hΓ (tgt := 16) dX3_move_9 (by decide) (fun hc3 => ?_) (fun hc3 => ?_)
  · rw [if_neg hc3] at he
    refine G_iconst (v := 1) hΓ dX3_move_16 (by decide) ?_
    subst he
    exact K2
  · rw [if_pos hc3] at he
    refine G_iconst (v := 0) hΓ dX3_move_12 (by decide) ?_
    refine G_goto hΓ (tgt := 17) dX3_move_13 (by decide) ?_
    subst he
    exact K2
theorem dX4_begin_0 : decode cX4_begin 0 = .ok (.aload_n 0, 1) := by decide +kernel
theorem dX4_begin_1 : decode cX4_begin 1 = .ok (.getfield 12, 3) := by decide +kernel
theorem dX4_begin_4 : decode cX4_begin 4 = .ok (.invokevirtual 28, 3) := by decide +kernel
theorem dX4_begin_7 : decode cX4_begin 7 = .ok (.aload_n 0, 1) := by decide +kernel
theorem dX4_begin_8 : decode cX4_begin 8 = .ok (.getfield 20, 3) := by decide +kernel
theorem dX4_begin_11 : decode cX4_begin 11 = .ok (.invokevirtual 28, 3) := by decide +kernel
theorem dX4_begin_14 : decode cX4_begin 14 = .ok (.aload_n 0, 1) := by decide +kernel
theorem dX4_begin_15 : decode cX4_begin 15 = .ok (.getfield 25, 3) := by decide +kernel
theorem dX4_begin_18 : decode cX4_begin 18 = .ok (.invokevirtual 28, 3) := by decide +kernel
theorem dX4_begin_21 : decode cX4_begin 21 = .ok (.return_, 1) := by decide +kernel
noncomputable def f_X4_begin  (a : Nat → Int32) (b : Nat → Int32) (c : Nat → Int32)  : Option ((Nat → Int32) × (Nat → Int32) × (Nat → Int32)) := bd (f_X3_begin a) (fun u1 => bd (f_X3_begin b) (fun u3 => bd (f_X3_begin c) (fun u5 => some (u1, u3, u5))))
set_option maxHeartbeats 4000000 in
set_option maxRecDepth 100000 in
theorem c_X4_begin (l : Launch) (Λ : LY) (hF : FL Λ) (σ : CS) (s : Nat) (a : Nat → Int32) (b : Nat → Int32) (c : Nat → Int32)  (his : s < 33)  {a' : Nat → Int32} {b' : Nat → Int32} {c' : Nat → Int32} (hf : f_X4_begin a b c = some (a', b', c')) : CM l yX4_begin (.code yX4_begin cX4_begin 1 none :: TT) ({ frames := 1, cells := 0, slots := 0, locals := 20 }) Λ [.ref (ya Λ 6 s)] (qSum σ s a b c) (qSum σ s a' b' c') (none) := by
  refine CM_intro (own := RX4) (by decide) rfl (Nat.le_of_ble_eq_true rfl) ?_
  intro Γ hg hl hΓ hE
  subst hg; subst hl
  show GG Γ (0, 0) (qSum σ s a b c) 0 [(0, .ref (ya (gl Γ) 6 s))] []
  unfold f_X4_begin at hf
  refine G_aload_n hΓ 0 dX4_begin_0 rfl ?_
  refine F_get hΓ (t := 6) (i := s) (ci := 7) (C := RX4) (T := TX4) (N := 3) (fs4 (gl Γ) s) (v := .ref (ya (gl Γ) 7 s)) (FLi hF (t := 6) his) (fun _ _ _ => rfl) rfl rfl rfl rfl inW4 0 (by decide) (TT_cons kw_75) rfl dX4_begin_1 ?_
  obtain ⟨u1, hc2, hf⟩ := bd_some hf
  refine G_callV hΓ (n := 0) (As := []) (t := 7) (i := s) (ci := 6) (T := TX3) (N := 4) (FS := fs3 (gl Γ) s) (σ' := (qSum σ s u1 b c)) (c_X3_begin (gL Γ) (gl Γ) hF (qSum σ s a b c) 7 s a  (by decide) his hc2) (qSum_s7) (qSum_s7) kw_540 kw_541 kw_542 kw_5 kw_543 ⟨rfl, by decide, by decide, by decide +kernel⟩ (FLi hF (t := 7) his) (fun _ _ _ => rfl) rfl rfl rfl ⟨Nat.le_of_ble_eq_true rfl, Nat.le_of_ble_eq_true rfl⟩ rfl (Nat.le_of_ble_eq_true rfl) dX4_begin_4 ⟨_, rfl⟩ rfl ?_
  refine G_aload_n hΓ 0 dX4_begin_7 rfl ?_
  refine F_get hΓ (t := 6) (i := s) (ci := 7) (C := RX4) (T := TX4) (N := 3) (fs4 (gl Γ) s) (v := .ref (ya (gl Γ) 8 s)) (FLi hF (t := 6) his) (fun _ _ _ => rfl) rfl rfl rfl rfl inW4 1 (by decide) (TT_cons kw_79) rfl dX4_begin_8 ?_
  obtain ⟨u3, hc4, hf⟩ := bd_some hf
  refine G_callV hΓ (n := 0) (As := []) (t := 8) (i := s) (ci := 6) (T := TX3) (N := 4) (FS := fs3 (gl Γ) s) (σ' := (qSum σ s u1 u3 c)) (c_X3_begin (gL Γ) (gl Γ) hF (qSum σ s u1 b c) 8 s b  (by decide) his hc4) (qSum_s8) (qSum_s8) kw_540 kw_541 kw_542 kw_5 kw_543 ⟨rfl, by decide, by decide, by decide +kernel⟩ (FLi hF (t := 8) his) (fun _ _ _ => rfl) rfl rfl rfl ⟨Nat.le_of_ble_eq_true rfl, Nat.le_of_ble_eq_true rfl⟩ rfl (Nat.le_of_ble_eq_true rfl) dX4_begin_11 ⟨_, rfl⟩ rfl ?_
  refine G_aload_n hΓ 0 dX4_begin_14 rfl ?_
  refine F_get hΓ (t := 6) (i := s) (ci := 7) (C := RX4) (T := TX4) (N := 3) (fs4 (gl Γ) s) (v := .ref (ya (gl Γ) 9 s)) (FLi hF (t := 6) his) (fun _ _ _ => rfl) rfl rfl rfl rfl inW4 2 (by decide) (TT_cons kw_81) rfl dX4_begin_15 ?_
  obtain ⟨u5, hc6, hf⟩ := bd_some hf
  refine G_callV hΓ (n := 0) (As := []) (t := 9) (i := s) (ci := 6) (T := TX3) (N := 4) (FS := fs3 (gl Γ) s) (σ' := (qSum σ s u1 u3 u5)) (c_X3_begin (gL Γ) (gl Γ) hF (qSum σ s u1 u3 c) 9 s c  (by decide) his hc6) (qSum_s9) (qSum_s9) kw_540 kw_541 kw_542 kw_5 kw_543 ⟨rfl, by decide, by decide, by decide +kernel⟩ (FLi hF (t := 9) his) (fun _ _ _ => rfl) rfl rfl rfl ⟨Nat.le_of_ble_eq_true rfl, Nat.le_of_ble_eq_true rfl⟩ rfl (Nat.le_of_ble_eq_true rfl) dX4_begin_18 ⟨_, rfl⟩ rfl ?_
  cases hf
  exact G_vret hΓ hE dX4_begin_21
theorem dX4_addPlain_0 : decode cX4_addPlain 0 = .ok (.aload_n 0, 1) := by decide +kernel
theorem dX4_addPlain_1 : decode cX4_addPlain 1 = .ok (.getfield 12, 3) := by decide +kernel
theorem dX4_addPlain_4 : decode cX4_addPlain 4 = .ok (.iload_n 1, 1) := by decide +kernel
theorem dX4_addPlain_5 : decode cX4_addPlain 5 = .ok (.invokevirtual 31, 3) := by decide +kernel
theorem dX4_addPlain_8 : decode cX4_addPlain 8 = .ok (.aload_n 0, 1) := by decide +kernel
theorem dX4_addPlain_9 : decode cX4_addPlain 9 = .ok (.getfield 20, 3) := by decide +kernel
theorem dX4_addPlain_12 : decode cX4_addPlain 12 = .ok (.iload_n 1, 1) := by decide +kernel
theorem dX4_addPlain_13 : decode cX4_addPlain 13 = .ok (.invokevirtual 31, 3) := by decide +kernel
theorem dX4_addPlain_16 : decode cX4_addPlain 16 = .ok (.aload_n 0, 1) := by decide +kernel
theorem dX4_addPlain_17 : decode cX4_addPlain 17 = .ok (.getfield 25, 3) := by decide +kernel
theorem dX4_addPlain_20 : decode cX4_addPlain 20 = .ok (.iload_n 1, 1) := by decide +kernel
theorem dX4_addPlain_21 : decode cX4_addPlain 21 = .ok (.invokevirtual 31, 3) := by decide +kernel
theorem dX4_addPlain_24 : decode cX4_addPlain 24 = .ok (.return_, 1) := by decide +kernel
noncomputable def f_X4_addPlain  (a : Nat → Int32) (b : Nat → Int32) (c : Nat → Int32) (p1 : Int32) : Option ((Nat → Int32) × (Nat → Int32) × (Nat → Int32)) := bd (f_X3_move a p1) (fun u1 => bd (f_X3_move b p1) (fun u3 => bd (f_X3_move c p1) (fun u5 => some (u1, u3, u5))))
set_option maxHeartbeats 4000000 in
set_option maxRecDepth 100000 in
theorem c_X4_addPlain (l : Launch) (Λ : LY) (hF : FL Λ) (σ : CS) (s : Nat) (a : Nat → Int32) (b : Nat → Int32) (c : Nat → Int32) (p1 : Int32) (his : s < 33)  {a' : Nat → Int32} {b' : Nat → Int32} {c' : Nat → Int32} (hf : f_X4_addPlain a b c p1 = some (a', b', c')) : CM l yX4_addPlain (.code yX4_addPlain cX4_addPlain 2 none :: TT) ({ frames := 1, cells := 0, slots := 0, locals := 22 }) Λ [.ref (ya Λ 6 s), .int p1] (qSum σ s a b c) (qSum σ s a' b' c') (none) := by
  refine CM_intro (own := RX4) (by decide) rfl (Nat.le_of_ble_eq_true rfl) ?_
  intro Γ hg hl hΓ hE
  subst hg; subst hl
  show GG Γ (0, 0) (qSum σ s a b c) 0 [(0, .ref (ya (gl Γ) 6 s)), (1, .int p1)] []
  unfold f_X4_addPlain at hf
  refine G_aload_n hΓ 0 dX4_addPlain_0 rfl ?_
  refine F_get hΓ (t := 6) (i := s) (ci := 7) (C := RX4) (T := TX4) (N := 3) (fs4 (gl Γ) s) (v := .ref (ya (gl Γ) 7 s)) (FLi hF (t := 6) his) (fun _ _ _ => rfl) rfl rfl rfl rfl inW4 0 (by decide) (TT_cons kw_75) rfl dX4_addPlain_1 ?_
  refine G_iload_n hΓ 1 dX4_addPlain_4 rfl ?_
  obtain ⟨u1, hc2, hf⟩ := bd_some hf
  refine G_callV hΓ (n := 1) (As := [.int p1]) (t := 7) (i := s) (ci := 6) (T := TX3) (N := 4) (FS := fs3 (gl Γ) s) (σ' := (qSum σ s u1 b c)) (c_X3_move (gL Γ) (gl Γ) hF (qSum σ s a b c) 7 s a p1 (by decide) his hc2) (qSum_s7) (qSum_s7) kw_559 kw_560 kw_561 kw_5 kw_562 ⟨rfl, by decide, by decide, by decide +kernel⟩ (FLi hF (t := 7) his) (fun _ _ _ => rfl) rfl rfl rfl ⟨Nat.le_of_ble_eq_true rfl, Nat.le_of_ble_eq_true rfl⟩ rfl (Nat.le_of_ble_eq_true rfl) dX4_addPlain_5 ⟨_, rfl⟩ rfl ?_
  refine G_aload_n hΓ 0 dX4_addPlain_8 rfl ?_
  refine F_get hΓ (t := 6) (i := s) (ci := 7) (C := RX4) (T := TX4) (N := 3) (fs4 (gl Γ) s) (v := .ref (ya (gl Γ) 8 s)) (FLi hF (t := 6) his) (fun _ _ _ => rfl) rfl rfl rfl rfl inW4 1 (by decide) (TT_cons kw_79) rfl dX4_addPlain_9 ?_
  refine G_iload_n hΓ 1 dX4_addPlain_12 rfl ?_
  obtain ⟨u3, hc4, hf⟩ := bd_some hf
  refine G_callV hΓ (n := 1) (As := [.int p1]) (t := 8) (i := s) (ci := 6) (T := TX3) (N := 4) (FS := fs3 (gl Γ) s) (σ' := (qSum σ s u1 u3 c)) (c_X3_move (gL Γ) (gl Γ) hF (qSum σ s u1 b c) 8 s b p1 (by decide) his hc4) (qSum_s8) (qSum_s8) kw_559 kw_560 kw_561 kw_5 kw_562 ⟨rfl, by decide, by decide, by decide +kernel⟩ (FLi hF (t := 8) his) (fun _ _ _ => rfl) rfl rfl rfl ⟨Nat.le_of_ble_eq_true rfl, Nat.le_of_ble_eq_true rfl⟩ rfl (Nat.le_of_ble_eq_true rfl) dX4_addPlain_13 ⟨_, rfl⟩ rfl ?_
  refine G_aload_n hΓ 0 dX4_addPlain_16 rfl ?_
  refine F_get hΓ (t := 6) (i := s) (ci := 7) (C := RX4) (T := TX4) (N := 3) (fs4 (gl Γ) s) (v := .ref (ya (gl Γ) 9 s)) (FLi hF (t := 6) his) (fun _ _ _ => rfl) rfl rfl rfl rfl inW4 2 (by decide) (TT_cons kw_81) rfl dX4_addPlain_17 ?_
  refine G_iload_n hΓ 1 dX4_addPlain_20 rfl ?_
  obtain ⟨u5, hc6, hf⟩ := bd_some hf
  refine G_callV hΓ (n := 1) (As := [.int p1]) (t := 9) (i := s) (ci := 6) (T := TX3) (N := 4) (FS := fs3 (gl Γ) s) (σ' := (qSum σ s u1 u3 u5)) (c_X3_move (gL Γ) (gl Γ) hF (qSum σ s u1 u3 c) 9 s c p1 (by decide) his hc6) (qSum_s9) (qSum_s9) kw_559 kw_560 kw_561 kw_5 kw_562 ⟨rfl, by decide, by decide, by decide +kernel⟩ (FLi hF (t := 9) his) (fun _ _ _ => rfl) rfl rfl rfl ⟨Nat.le_of_ble_eq_true rfl, Nat.le_of_ble_eq_true rfl⟩ rfl (Nat.le_of_ble_eq_true rfl) dX4_addPlain_21 ⟨_, rfl⟩ rfl ?_
  cases hf
  exact G_vret hΓ hE dX4_addPlain_24
theorem dX4_addOther_0 : decode cX4_addOther 0 = .ok (.aload_n 0, 1) := by decide +kernel
theorem dX4_addOther_1 : decode cX4_addOther 1 = .ok (.getfield 20, 3) := by decide +kernel
theorem dX4_addOther_4 : decode cX4_addOther 4 = .ok (.iload_n 1, 1) := by decide +kernel
theorem dX4_addOther_5 : decode cX4_addOther 5 = .ok (.invokevirtual 31, 3) := by decide +kernel
theorem dX4_addOther_8 : decode cX4_addOther 8 = .ok (.aload_n 0, 1) := by decide +kernel
theorem dX4_addOther_9 : decode cX4_addOther 9 = .ok (.getfield 25, 3) := by decide +kernel
theorem dX4_addOther_12 : decode cX4_addOther 12 = .ok (.iload_n 1, 1) := by decide +kernel
theorem dX4_addOther_13 : decode cX4_addOther 13 = .ok (.invokevirtual 31, 3) := by decide +kernel
theorem dX4_addOther_16 : decode cX4_addOther 16 = .ok (.return_, 1) := by decide +kernel
noncomputable def f_X4_addOther  (b : Nat → Int32) (c : Nat → Int32) (p1 : Int32) : Option ((Nat → Int32) × (Nat → Int32)) := bd (f_X3_move b p1) (fun u1 => bd (f_X3_move c p1) (fun u3 => some (u1, u3)))
set_option maxHeartbeats 4000000 in
set_option maxRecDepth 100000 in
theorem c_X4_addOther (l : Launch) (Λ : LY) (hF : FL Λ) (σ : CS) (s : Nat) (a : Nat → Int32) (b : Nat → Int32) (c : Nat → Int32) (p1 : Int32) (his : s < 33)  {b' : Nat → Int32} {c' : Nat → Int32} (hf : f_X4_addOther b c p1 = some (b', c')) : CM l yX4_addOther (.code yX4_addOther cX4_addOther 2 none :: TT) ({ frames := 1, cells := 0, slots := 0, locals := 22 }) Λ [.ref (ya Λ 6 s), .int p1] (qSum σ s a b c) (qSum σ s a b' c') (none) := by
  refine CM_intro (own := RX4) (by decide) rfl (Nat.le_of_ble_eq_true rfl) ?_
  intro Γ hg hl hΓ hE
  subst hg; subst hl
  show GG Γ (0, 0) (qSum σ s a b c) 0 [(0, .ref (ya (gl Γ) 6 s)), (1, .int p1)] []
  unfold f_X4_addOther at hf
  refine G_aload_n hΓ 0 dX4_addOther_0 rfl ?_
  refine F_get hΓ (t := 6) (i := s) (ci := 7) (C := RX4) (T := TX4) (N := 3) (fs4 (gl Γ) s) (v := .ref (ya (gl Γ) 8 s)) (FLi hF (t := 6) his) (fun _ _ _ => rfl) rfl rfl rfl rfl inW4 1 (by decide) (TT_cons kw_79) rfl dX4_addOther_1 ?_
  refine G_iload_n hΓ 1 dX4_addOther_4 rfl ?_
  obtain ⟨u1, hc2, hf⟩ := bd_some hf
  refine G_callV hΓ (n := 1) (As := [.int p1]) (t := 8) (i := s) (ci := 6) (T := TX3) (N := 4) (FS := fs3 (gl Γ) s) (σ' := (qSum σ s a u1 c)) (c_X3_move (gL Γ) (gl Γ) hF (qSum σ s a b c) 8 s b p1 (by decide) his hc2) (qSum_s8) (qSum_s8) kw_559 kw_560 kw_561 kw_5 kw_562 ⟨rfl, by decide, by decide, by decide +kernel⟩ (FLi hF (t := 8) his) (fun _ _ _ => rfl) rfl rfl rfl ⟨Nat.le_of_ble_eq_true rfl, Nat.le_of_ble_eq_true rfl⟩ rfl (Nat.le_of_ble_eq_true rfl) dX4_addOther_5 ⟨_, rfl⟩ rfl ?_
  refine G_aload_n hΓ 0 dX4_addOther_8 rfl ?_
  refine F_get hΓ (t := 6) (i := s) (ci := 7) (C := RX4) (T := TX4) (N := 3) (fs4 (gl Γ) s) (v := .ref (ya (gl Γ) 9 s)) (FLi hF (t := 6) his) (fun _ _ _ => rfl) rfl rfl rfl rfl inW4 2 (by decide) (TT_cons kw_81) rfl dX4_addOther_9 ?_
  refine G_iload_n hΓ 1 dX4_addOther_12 rfl ?_
  obtain ⟨u3, hc4, hf⟩ := bd_some hf
  refine G_callV hΓ (n := 1) (As := [.int p1]) (t := 9) (i := s) (ci := 6) (T := TX3) (N := 4) (FS := fs3 (gl Γ) s) (σ' := (qSum σ s a u1 u3)) (c_X3_move (gL Γ) (gl Γ) hF (qSum σ s a u1 c) 9 s c p1 (by decide) his hc4) (qSum_s9) (qSum_s9) kw_559 kw_560 kw_561 kw_5 kw_562 ⟨rfl, by decide, by decide, by decide +kernel⟩ (FLi hF (t := 9) his) (fun _ _ _ => rfl) rfl rfl rfl ⟨Nat.le_of_ble_eq_true rfl, Nat.le_of_ble_eq_true rfl⟩ rfl (Nat.le_of_ble_eq_true rfl) dX4_addOther_13 ⟨_, rfl⟩ rfl ?_
  cases hf
  exact G_vret hΓ hE dX4_addOther_16
theorem dX4_ofFlexible_0 : decode cX4_ofFlexible 0 = .ok (.iload_n 1, 1) := by decide +kernel
theorem dX4_ofFlexible_1 : decode cX4_ofFlexible 1 = .ok (.bipush 16, 2) := by decide +kernel
theorem dX4_ofFlexible_3 : decode cX4_ofFlexible 3 = .ok (.if_icmp .gt 13, 3) := by decide +kernel
theorem dX4_ofFlexible_6 : decode cX4_ofFlexible 6 = .ok (.aload_n 0, 1) := by decide +kernel
theorem dX4_ofFlexible_7 : decode cX4_ofFlexible 7 = .ok (.getfield 20, 3) := by decide +kernel
theorem dX4_ofFlexible_10 : decode cX4_ofFlexible 10 = .ok (.getfield 35, 3) := by decide +kernel
theorem dX4_ofFlexible_13 : decode cX4_ofFlexible 13 = .ok (.goto 10, 3) := by decide +kernel
theorem dX4_ofFlexible_16 : decode cX4_ofFlexible 16 = .ok (.aload_n 0, 1) := by decide +kernel
theorem dX4_ofFlexible_17 : decode cX4_ofFlexible 17 = .ok (.getfield 25, 3) := by decide +kernel
theorem dX4_ofFlexible_20 : decode cX4_ofFlexible 20 = .ok (.getfield 35, 3) := by decide +kernel
theorem dX4_ofFlexible_23 : decode cX4_ofFlexible 23 = .ok (.ireturn, 1) := by decide +kernel
noncomputable def f_X4_ofFlexible  (b : Nat → Int32) (c : Nat → Int32) (p1 : Int32) : Option (Int32) := lt (α := Int32) (if 16 < p1 then (c 3) else (b 3)) (fun x1 => some (x1))
set_option maxHeartbeats 4000000 in
set_option maxRecDepth 100000 in
theorem c_X4_ofFlexible (l : Launch) (Λ : LY) (hF : FL Λ) (σ : CS) (s : Nat) (a : Nat → Int32) (b : Nat → Int32) (c : Nat → Int32) (p1 : Int32) (his : s < 33)  {r9 : Int32} (hf : f_X4_ofFlexible b c p1 = some r9) : CM l yX4_ofFlexible (.code yX4_ofFlexible cX4_ofFlexible 2 (some .int) :: TT) ({ frames := 0, cells := 0, slots := 0, locals := 0 }) Λ [.ref (ya Λ 6 s), .int p1] (qSum σ s a b c) (qSum σ s a b c) (some (.int r9)) := by
  refine CM_intro (own := RX4) (by decide) rfl (Nat.le_of_ble_eq_true rfl) ?_
  intro Γ hg hl hΓ hE
  subst hg; subst hl
  show GG Γ (0, 0) (qSum σ s a b c) 0 [(0, .ref (ya (gl Γ) 6 s)), (1, .int p1)] []
  unfold f_X4_ofFlexible at hf
  refine G_iload_n hΓ 1 dX4_ofFlexible_0 rfl ?_
  refine G_bipush (v := 16) hΓ dX4_ofFlexible_1 (by decide) ?_
  obtain ⟨x1, he4, hf⟩ := lt_eq hf
  have K2 : GG Γ (0, 0) (qSum σ s a b c) 23 [(0, .ref (ya (gl Γ) 6 s)), (1, .int p1)] [.int x1] := by
    cases hf
    exact G_iret hΓ hE dX4_ofFlexible_23
  have he := he4
  refine G_icmp_gt hΓ (tgt := 16) dX4_ofFlexible_3 (by decide) (fun hc3 => ?_) (fun hc3 => ?_)
  · rw [if_pos hc3] at he
    refine G_aload_n hΓ 0 dX4_ofFlexible_16 rfl ?_
    refine F_get hΓ (t := 6) (i := s) (ci := 7) (C := RX4) (T := TX4) (N := 3) (fs4 (gl Γ) s) (v := .ref (ya (gl Γ) 9 s)) (FLi hF (t := 6) his) (fun _ _ _ => rfl) rfl rfl rfl rfl inW4 2 (by decide) (TT_cons kw_81) rfl dX4_ofFlexible_17 ?_
    refine F_getN hΓ (t := 9) (i := s) (ci := 6) (C := RX3) (T := TX3) (N := 4) (fs3 (gl Γ) s) (v := .int (c 3)) (FLi hF (t := 9) his) (fun _ _ _ => rfl) qSum_g9 rfl rfl rfl inW3 3 (by decide) 1 (host := "CanBits") rfl rfl dX4_ofFlexible_20 ?_
    subst he
    exact K2
  · rw [if_neg hc3] at he
    refine G_aload_n hΓ 0 dX4_ofFlexible_6 rfl ?_
    refine F_get hΓ (t := 6) (i := s) (ci := 7) (C := RX4) (T := TX4) (N := 3) (fs4 (gl Γ) s) (v := .ref (ya (gl Γ) 8 s)) (FLi hF (t := 6) his) (fun _ _ _ => rfl) rfl rfl rfl rfl inW4 1 (by decide) (TT_cons kw_79) rfl dX4_ofFlexible_7 ?_
    refine F_getN hΓ (t := 8) (i := s) (ci := 6) (C := RX3) (T := TX3) (N := 4) (fs3 (gl Γ) s) (v := .int (b 3)) (FLi hF (t := 8) his) (fun _ _ _ => rfl) qSum_g8 rfl rfl rfl inW3 3 (by decide) 1 (host := "CanBits") rfl rfl dX4_ofFlexible_10 ?_
    refine G_goto hΓ (tgt := 23) dX4_ofFlexible_13 (by decide) ?_
    subst he
    exact K2
theorem dX4_flexibleWidth_0 : decode cX4_flexibleWidth 0 = .ok (.iload_n 0, 1) := by decide +kernel
theorem dX4_flexibleWidth_1 : decode cX4_flexibleWidth 1 = .ok (.bipush 16, 2) := by decide +kernel
theorem dX4_flexibleWidth_3 : decode cX4_flexibleWidth 3 = .ok (.if_icmp .gt 8, 3) := by decide +kernel
theorem dX4_flexibleWidth_6 : decode cX4_flexibleWidth 6 = .ok (.bipush 17, 2) := by decide +kernel
theorem dX4_flexibleWidth_8 : decode cX4_flexibleWidth 8 = .ok (.goto 5, 3) := by decide +kernel
theorem dX4_flexibleWidth_11 : decode cX4_flexibleWidth 11 = .ok (.bipush 21, 2) := by decide +kernel
theorem dX4_flexibleWidth_13 : decode cX4_flexibleWidth 13 = .ok (.ireturn, 1) := by decide +kernel
noncomputable def f_X4_flexibleWidth   (p1 : Int32) : Option (Int32) := lt (α := Int32) (if 16 < p1 then 21 else 17) (fun x1 => some (x1))
set_option maxHeartbeats 4000000 in
set_option maxRecDepth 100000 in
theorem c_X4_flexibleWidth (l : Launch) (Λ : LY) (hF : FL Λ) (σ : CS)   (p1 : Int32)   {r9 : Int32} (hf : f_X4_flexibleWidth p1 = some r9) : CM l yX4_flexibleWidth (.code yX4_flexibleWidth cX4_flexibleWidth 1 (some .int) :: TT) ({ frames := 0, cells := 0, slots := 0, locals := 0 }) Λ [.int p1] σ σ (some (.int r9)) := by
  refine CM_intro (own := RX4) (by decide) rfl (Nat.le_of_ble_eq_true rfl) ?_
  intro Γ hg hl hΓ hE
  subst hg; subst hl
  show GG Γ (0, 0) σ 0 [(0, .int p1)] []
  unfold f_X4_flexibleWidth at hf
  refine G_iload_n hΓ 0 dX4_flexibleWidth_0 rfl ?_
  refine G_bipush (v := 16) hΓ dX4_flexibleWidth_1 (by decide) ?_
  obtain ⟨x1, he4, hf⟩ := lt_eq hf
  have K2 : GG Γ (0, 0) σ 13 [(0, .int p1)] [.int x1] := by
    cases hf
    exact G_iret hΓ hE dX4_flexibleWidth_13
  have he := he4
  refine G_icmp_gt hΓ (tgt := 11) dX4_flexibleWidth_3 (by decide) (fun hc3 => ?_) (fun hc3 => ?_)
  · rw [if_pos hc3] at he
    refine G_bipush (v := 21) hΓ dX4_flexibleWidth_11 (by decide) ?_
    subst he
    exact K2
  · rw [if_neg hc3] at he
    refine G_bipush (v := 17) hΓ dX4_flexibleWidth_6 (by decide) ?_
    refine G_goto hΓ (tgt := 13) dX4_flexibleWidth_8 (by decide) ?_
    subst he
    exact K2
