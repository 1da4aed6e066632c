theorem dX3_init_0 : decode cX3_init 0 = .ok (.aload_n 0, 1) := by decide +kernel
theorem dX3_init_1 : decode cX3_init 1 = .ok (.invokespecial 1, 3) := by decide +kernel
theorem dX3_init_4 : decode cX3_init 4 = .ok (.aload_n 0, 1) := by decide +kernel
theorem dX3_init_5 : decode cX3_init 5 = .ok (.iconst 1, 1) := by decide +kernel
theorem dX3_init_6 : decode cX3_init 6 = .ok (.iload_n 1, 1) := by decide +kernel
theorem dX3_init_7 : decode cX3_init 7 = .ok (.iconst 1, 1) := by decide +kernel
theorem dX3_init_8 : decode cX3_init 8 = .ok (.isub, 1) := by decide +kernel
theorem dX3_init_9 : decode cX3_init 9 = .ok (.ishl, 1) := by decide +kernel
theorem dX3_init_10 : decode cX3_init 10 = .ok (.putfield 7, 3) := by decide +kernel
theorem dX3_init_13 : decode cX3_init 13 = .ok (.aload_n 0, 1) := by decide +kernel
theorem dX3_init_14 : decode cX3_init 14 = .ok (.iload_n 2, 1) := by decide +kernel
theorem dX3_init_15 : decode cX3_init 15 = .ok (.putfield 13, 3) := by decide +kernel
theorem dX3_init_18 : decode cX3_init 18 = .ok (.aload_n 0, 1) := by decide +kernel
theorem dX3_init_19 : decode cX3_init 19 = .ok (.iload_n 3, 1) := by decide +kernel
theorem dX3_init_20 : decode cX3_init 20 = .ok (.putfield 16, 3) := by decide +kernel
theorem dX3_init_23 : decode cX3_init 23 = .ok (.return_, 1) := by decide +kernel
set_option maxHeartbeats 4000000 in
set_option maxRecDepth 100000 in
theorem c_X3_init (l : Launch) (D : va_G) (cy : Nat → ClassId) (sz h0 : Nat) (p1 : Int32) (p2 : Int32) (p3 : Int32) : CI l yX3_init (.code yX3_init cX3_init 4 none :: TT) ({ frames := 1, cells := 0, slots := 0, locals := 12 }) D cy sz h0 (.inr (6, [.int 0, .int 0, .int 0, .int 0])) [.int p1, .int p2, .int p3] (fun a => [(h0, .inr (6, [.int ((1 : Int32) <<< (((p1 - 1) : Int32) &&& 31)), .int p2, .int p3, .int 0]))]) := by
  refine CI_intro (own := RX3) (by decide) rfl rfl (Nat.le_of_ble_eq_true rfl) ?_
  intro Γ hg1 hg2 hg3 hΓ hN hE
  subst hg1; subst hg2; subst hg3
  show GW Γ (0, 0) [(h0, .inr (6, [.int 0, .int 0, .int 0, .int 0]))] 0 [(0, .ref h0), (1, .int p1), (2, .int p2), (3, .int p3)] []
  refine W_aload_n hΓ 0 dX3_init_0 rfl ?_
  refine W_objInit hΓ (TT_cons kw_53) (TT_cons kw_27) (TT_cons kw_28) dX3_init_1 (by decide) (Nat.le_of_ble_eq_true rfl) ?_
  refine W_aload_n hΓ 0 dX3_init_4 rfl ?_
  refine W_iconst (v := 1) hΓ dX3_init_5 (by decide) ?_
  refine W_iload_n hΓ 1 dX3_init_6 rfl ?_
  refine W_iconst (v := 1) hΓ dX3_init_7 (by decide) ?_
  refine W_isub hΓ dX3_init_8 ?_
  refine W_ishl hΓ dX3_init_9 ?_
  refine W_putF hΓ (ci := 6) (C := RX3) (T := TX3) (N := 4) (ty := .int) [(h0, .inr (6, [.int ((1 : Int32) <<< (((p1 - 1) : Int32) &&& 31)), .int 0, .int 0, .int 0]))] tyX3 tyX3_ok nmX3 inW3 rfl 0 rfl 0 (by decide) (TT_cons kw_54) rfl hN rfl (by decide +kernel) rfl rfl (Nat.le_of_ble_eq_true rfl) rfl dX3_init_10 ?_
  refine W_aload_n hΓ 0 dX3_init_13 rfl ?_
  refine W_iload_n hΓ 2 dX3_init_14 rfl ?_
  refine W_putF hΓ (ci := 6) (C := RX3) (T := TX3) (N := 4) (ty := .int) [(h0, .inr (6, [.int ((1 : Int32) <<< (((p1 - 1) : Int32) &&& 31)), .int p2, .int 0, .int 0]))] tyX3 tyX3_ok nmX3 inW3 rfl 0 rfl 1 (by decide) (TT_cons kw_55) rfl hN rfl (by decide +kernel) rfl rfl (Nat.le_of_ble_eq_true rfl) rfl dX3_init_15 ?_
  refine W_aload_n hΓ 0 dX3_init_18 rfl ?_
  refine W_iload_n hΓ 3 dX3_init_19 rfl ?_
  refine W_putF hΓ (ci := 6) (C := RX3) (T := TX3) (N := 4) (ty := .int) [(h0, .inr (6, [.int ((1 : Int32) <<< (((p1 - 1) : Int32) &&& 31)), .int p2, .int p3, .int 0]))] tyX3 tyX3_ok nmX3 inW3 rfl 0 rfl 2 (by decide) (TT_cons kw_56) rfl hN rfl (by decide +kernel) rfl rfl (Nat.le_of_ble_eq_true rfl) rfl dX3_init_20 ?_
  exact W_vret hΓ hE (fun k => k) rfl ⟨Nat.le_refl _, Nat.le_refl _⟩ dX3_init_23
theorem dX4_init_0 : decode cX4_init 0 = .ok (.aload_n 0, 1) := by decide +kernel
theorem dX4_init_1 : decode cX4_init 1 = .ok (.invokespecial 1, 3) := by decide +kernel
theorem dX4_init_4 : decode cX4_init 4 = .ok (.aload_n 0, 1) := by decide +kernel
theorem dX4_init_5 : decode cX4_init 5 = .ok (.new 7, 3) := by decide +kernel
theorem dX4_init_8 : decode cX4_init 8 = .ok (.dup, 1) := by decide +kernel
theorem dX4_init_9 : decode cX4_init 9 = .ok (.bipush 15, 2) := by decide +kernel
theorem dX4_init_11 : decode cX4_init 11 = .ok (.sipush 17817, 3) := by decide +kernel
theorem dX4_init_14 : decode cX4_init 14 = .ok (.iconst 0, 1) := by decide +kernel
theorem dX4_init_15 : decode cX4_init 15 = .ok (.invokespecial 9, 3) := by decide +kernel
theorem dX4_init_18 : decode cX4_init 18 = .ok (.putfield 12, 3) := by decide +kernel
theorem dX4_init_21 : decode cX4_init 21 = .ok (.aload_n 0, 1) := by decide +kernel
theorem dX4_init_22 : decode cX4_init 22 = .ok (.new 7, 3) := by decide +kernel
theorem dX4_init_25 : decode cX4_init 25 = .ok (.dup, 1) := by decide +kernel
theorem dX4_init_26 : decode cX4_init 26 = .ok (.bipush 17, 2) := by decide +kernel
theorem dX4_init_28 : decode cX4_init 28 = .ok (.ldc 18, 2) := by decide +kernel
theorem dX4_init_30 : decode cX4_init 30 = .ok (.ldc 19, 2) := by decide +kernel
theorem dX4_init_32 : decode cX4_init 32 = .ok (.invokespecial 9, 3) := by decide +kernel
theorem dX4_init_35 : decode cX4_init 35 = .ok (.putfield 20, 3) := by decide +kernel
theorem dX4_init_38 : decode cX4_init 38 = .ok (.aload_n 0, 1) := by decide +kernel
theorem dX4_init_39 : decode cX4_init 39 = .ok (.new 7, 3) := by decide +kernel
theorem dX4_init_42 : decode cX4_init 42 = .ok (.dup, 1) := by decide +kernel
theorem dX4_init_43 : decode cX4_init 43 = .ok (.bipush 21, 2) := by decide +kernel
theorem dX4_init_45 : decode cX4_init 45 = .ok (.ldc 23, 2) := by decide +kernel
theorem dX4_init_47 : decode cX4_init 47 = .ok (.ldc 24, 2) := by decide +kernel
theorem dX4_init_49 : decode cX4_init 49 = .ok (.invokespecial 9, 3) := by decide +kernel
theorem dX4_init_52 : decode cX4_init 52 = .ok (.putfield 25, 3) := by decide +kernel
theorem dX4_init_55 : decode cX4_init 55 = .ok (.return_, 1) := by decide +kernel
set_option maxHeartbeats 4000000 in
set_option maxRecDepth 100000 in
theorem c_X4_init (l : Launch) (D : va_G) (cy : Nat → ClassId) (sz h0 : Nat)  : CI l yX4_init (.code yX4_init cX4_init 1 none :: TT) ({ frames := 2, cells := 3, slots := 12, locals := 35 }) D cy sz h0 (.inr (7, [.null, .null, .null])) [] (fun a => [(h0, .inr (7, [.ref (a 1), .ref (a 2), .ref (a 3)])), ((a 1), .inr (6, [.int ((1 : Int32) <<< (((15 - 1) : Int32) &&& 31)), .int 17817, .int 0, .int 0])), ((a 2), .inr (6, [.int ((1 : Int32) <<< (((17 - 1) : Int32) &&& 31)), .int 92251, .int 65536, .int 0])), ((a 3), .inr (6, [.int ((1 : Int32) <<< (((21 - 1) : Int32) &&& 31)), .int 1058969, .int 1048576, .int 0]))]) := by
  refine CI_intro (own := RX4) (by decide) rfl rfl (Nat.le_of_ble_eq_true rfl) ?_
  intro Γ hg1 hg2 hg3 hΓ hN hE
  subst hg1; subst hg2; subst hg3
  show GW Γ (0, 0) [(h0, .inr (7, [.null, .null, .null]))] 0 [(0, .ref h0)] []
  refine W_aload_n hΓ 0 dX4_init_0 rfl ?_
  refine W_objInit hΓ (TT_cons kw_47) (TT_cons kw_27) (TT_cons kw_28) dX4_init_1 (by decide) (Nat.le_of_ble_eq_true rfl) ?_
  refine W_aload_n hΓ 0 dX4_init_4 rfl ?_
  refine W_new hΓ (ci := 6) (C := RX3) (T := TX3) (N := 4) (fs := [.int 0, .int 0, .int 0, .int 0]) tyX3 tyX3_ok inW3 (TT_cons kw_48) (TT_cons kw_49) (TT_cons kw_5) rfl (fun j hj => by rcases (show j = 0 ∨ j = 1 ∨ j = 2 ∨ j = 3 by omega) with rfl | rfl | rfl | rfl <;> rfl) (Nat.le_of_ble_eq_true rfl) (Nat.le_of_ble_eq_true rfl) dX4_init_5 (fun q1 => ?_)
  show GW Γ (1, 4) ([(h0, .inr (7, [.null, .null, .null]))] ++ [(q1, .inr (6, [.int 0, .int 0, .int 0, .int 0]))]) 8 [(0, .ref h0)] [.ref q1, .ref h0]
  refine W_dup hΓ dX4_init_8 rfl ?_
  refine W_bipush (v := 15) hΓ dX4_init_9 (by decide) ?_
  refine W_sipush (v := 17817) hΓ dX4_init_11 (by decide) ?_
  refine W_iconst (v := 0) hΓ dX4_init_14 (by decide) ?_
  refine W_ctor hΓ (n := 3) (q := q1) (As := [.int 15, .int 17817, .int 0]) (blank := .inr (6, [.int 0, .int 0, .int 0, .int 0])) (post := fun a => [(q1, .inr (6, [.int ((1 : Int32) <<< (((15 - 1) : Int32) &&& 31)), .int 17817, .int 0, .int 0]))]) (fun sz => c_X3_init (yl9 Γ) (yD9 Γ) (yc9 Γ) sz q1 15 17817 0) kw_50 kw_51 kw_5 kw_52 rfl ⟨by decide, by decide, by decide +kernel⟩ ⟨Nat.le_of_ble_eq_true rfl, Nat.le_of_ble_eq_true rfl⟩ ⟨Nat.le_of_ble_eq_true rfl, Nat.le_of_ble_eq_true rfl⟩ rfl (Nat.le_of_ble_eq_true rfl) dX4_init_15 (fun a2 => ?_)
  show GW Γ (1, 4) [(h0, .inr (7, [.null, .null, .null])), (q1, .inr (6, [.int ((1 : Int32) <<< (((15 - 1) : Int32) &&& 31)), .int 17817, .int 0, .int 0]))] 18 [(0, .ref h0)] [.ref q1, .ref h0]
  refine W_putF hΓ (ci := 7) (C := RX4) (T := TX4) (N := 3) (ty := (.object "CanBits$Register")) [(h0, .inr (7, [.ref q1, .null, .null])), (q1, .inr (6, [.int ((1 : Int32) <<< (((15 - 1) : Int32) &&& 31)), .int 17817, .int 0, .int 0]))] tyX4 tyX4_ok nmX4 inW4 rfl 0 rfl 0 (by decide) (TT_cons kw_75) rfl hN rfl (by decide +kernel) rfl rfl (Nat.le_of_ble_eq_true rfl) rfl dX4_init_18 ?_
  refine W_aload_n hΓ 0 dX4_init_21 rfl ?_
  refine W_new hΓ (ci := 6) (C := RX3) (T := TX3) (N := 4) (fs := [.int 0, .int 0, .int 0, .int 0]) tyX3 tyX3_ok inW3 (TT_cons kw_48) (TT_cons kw_49) (TT_cons kw_5) rfl (fun j hj => by rcases (show j = 0 ∨ j = 1 ∨ j = 2 ∨ j = 3 by omega) with rfl | rfl | rfl | rfl <;> rfl) (Nat.le_of_ble_eq_true rfl) (Nat.le_of_ble_eq_true rfl) dX4_init_22 (fun q3 => ?_)
  show GW Γ (2, 8) ([(h0, .inr (7, [.ref q1, .null, .null])), (q1, .inr (6, [.int ((1 : Int32) <<< (((15 - 1) : Int32) &&& 31)), .int 17817, .int 0, .int 0]))] ++ [(q3, .inr (6, [.int 0, .int 0, .int 0, .int 0]))]) 25 [(0, .ref h0)] [.ref q3, .ref h0]
  refine W_dup hΓ dX4_init_25 rfl ?_
  refine W_bipush (v := 17) hΓ dX4_init_26 (by decide) ?_
  refine W_ldc hΓ (v := 92251) (TT_cons kw_71) dX4_init_28 ?_
  refine W_ldc hΓ (v := 65536) (TT_cons kw_72) dX4_init_30 ?_
  refine W_ctor hΓ (n := 3) (q := q3) (As := [.int 17, .int 92251, .int 65536]) (blank := .inr (6, [.int 0, .int 0, .int 0, .int 0])) (post := fun a => [(q3, .inr (6, [.int ((1 : Int32) <<< (((17 - 1) : Int32) &&& 31)), .int 92251, .int 65536, .int 0]))]) (fun sz => c_X3_init (yl9 Γ) (yD9 Γ) (yc9 Γ) sz q3 17 92251 65536) kw_50 kw_51 kw_5 kw_52 rfl ⟨by decide, by decide, by decide +kernel⟩ ⟨Nat.le_of_ble_eq_true rfl, Nat.le_of_ble_eq_true rfl⟩ ⟨Nat.le_of_ble_eq_true rfl, Nat.le_of_ble_eq_true rfl⟩ rfl (Nat.le_of_ble_eq_true rfl) dX4_init_32 (fun a4 => ?_)
  show GW Γ (2, 8) [(h0, .inr (7, [.ref q1, .null, .null])), (q1, .inr (6, [.int ((1 : Int32) <<< (((15 - 1) : Int32) &&& 31)), .int 17817, .int 0, .int 0])), (q3, .inr (6, [.int ((1 : Int32) <<< (((17 - 1) : Int32) &&& 31)), .int 92251, .int 65536, .int 0]))] 35 [(0, .ref h0)] [.ref q3, .ref h0]
  refine W_putF hΓ (ci := 7) (C := RX4) (T := TX4) (N := 3) (ty := (.object "CanBits$Register")) [(h0, .inr (7, [.ref q1, .ref q3, .null])), (q1, .inr (6, [.int ((1 : Int32) <<< (((15 - 1) : Int32) &&& 31)), .int 17817, .int 0, .int 0])), (q3, .inr (6, [.int ((1 : Int32) <<< (((17 - 1) : Int32) &&& 31)), .int 92251, .int 65536, .int 0]))] tyX4 tyX4_ok nmX4 inW4 rfl 0 rfl 1 (by decide) (TT_cons kw_79) rfl hN rfl (by decide +kernel) rfl rfl (Nat.le_of_ble_eq_true rfl) rfl dX4_init_35 ?_
  refine W_aload_n hΓ 0 dX4_init_38 rfl ?_
  refine W_new hΓ (ci := 6) (C := RX3) (T := TX3) (N := 4) (fs := [.int 0, .int 0, .int 0, .int 0]) tyX3 tyX3_ok inW3 (TT_cons kw_48) (TT_cons kw_49) (TT_cons kw_5) rfl (fun j hj => by rcases (show j = 0 ∨ j = 1 ∨ j = 2 ∨ j = 3 by omega) with rfl | rfl | rfl | rfl <;> rfl) (Nat.le_of_ble_eq_true rfl) (Nat.le_of_ble_eq_true rfl) dX4_init_39 (fun q5 => ?_)
  show GW Γ (3, 12) ([(h0, .inr (7, [.ref q1, .ref q3, .null])), (q1, .inr (6, [.int ((1 : Int32) <<< (((15 - 1) : Int32) &&& 31)), .int 17817, .int 0, .int 0])), (q3, .inr (6, [.int ((1 : Int32) <<< (((17 - 1) : Int32) &&& 31)), .int 92251, .int 65536, .int 0]))] ++ [(q5, .inr (6, [.int 0, .int 0, .int 0, .int 0]))]) 42 [(0, .ref h0)] [.ref q5, .ref h0]
  refine W_dup hΓ dX4_init_42 rfl ?_
  refine W_bipush (v := 21) hΓ dX4_init_43 (by decide) ?_
  refine W_ldc hΓ (v := 1058969) (TT_cons kw_73) dX4_init_45 ?_
  refine W_ldc hΓ (v := 1048576) (TT_cons kw_74) dX4_init_47 ?_
  refine W_ctor hΓ (n := 3) (q := q5) (As := [.int 21, .int 1058969, .int 1048576]) (blank := .inr (6, [.int 0, .int 0, .int 0, .int 0])) (post := fun a => [(q5, .inr (6, [.int ((1 : Int32) <<< (((21 - 1) : Int32) &&& 31)), .int 1058969, .int 1048576, .int 0]))]) (fun sz => c_X3_init (yl9 Γ) (yD9 Γ) (yc9 Γ) sz q5 21 1058969 1048576) kw_50 kw_51 kw_5 kw_52 rfl ⟨by decide, by decide, by decide +kernel⟩ ⟨Nat.le_of_ble_eq_true rfl, Nat.le_of_ble_eq_true rfl⟩ ⟨Nat.le_of_ble_eq_true rfl, Nat.le_of_ble_eq_true rfl⟩ rfl (Nat.le_of_ble_eq_true rfl) dX4_init_49 (fun a6 => ?_)
  show GW Γ (3, 12) [(h0, .inr (7, [.ref q1, .ref q3, .null])), (q1, .inr (6, [.int ((1 : Int32) <<< (((15 - 1) : Int32) &&& 31)), .int 17817, .int 0, .int 0])), (q3, .inr (6, [.int ((1 : Int32) <<< (((17 - 1) : Int32) &&& 31)), .int 92251, .int 65536, .int 0])), (q5, .inr (6, [.int ((1 : Int32) <<< (((21 - 1) : Int32) &&& 31)), .int 1058969, .int 1048576, .int 0]))] 52 [(0, .ref h0)] [.ref q5, .ref h0]
  refine W_putF hΓ (ci := 7) (C := RX4) (T := TX4) (N := 3) (ty := (.object "CanBits$Register")) [(h0, .inr (7, [.ref q1, .ref q3, .ref q5])), (q1, .inr (6, [.int ((1 : Int32) <<< (((15 - 1) : Int32) &&& 31)), .int 17817, .int 0, .int 0])), (q3, .inr (6, [.int ((1 : Int32) <<< (((17 - 1) : Int32) &&& 31)), .int 92251, .int 65536, .int 0])), (q5, .inr (6, [.int ((1 : Int32) <<< (((21 - 1) : Int32) &&& 31)), .int 1058969, .int 1048576, .int 0]))] tyX4 tyX4_ok nmX4 inW4 rfl 0 rfl 2 (by decide) (TT_cons kw_81) rfl hN rfl (by decide +kernel) rfl rfl (Nat.le_of_ble_eq_true rfl) rfl dX4_init_52 ?_
  exact W_vret hΓ hE (fun k => match k with | 1 => q1 | 2 => q3 | _ => q5) rfl ⟨Nat.le_refl _, Nat.le_refl _⟩ dX4_init_55
theorem dX1_init_0 : decode cX1_init 0 = .ok (.aload_n 0, 1) := by decide +kernel
theorem dX1_init_1 : decode cX1_init 1 = .ok (.invokespecial 3, 3) := by decide +kernel
theorem dX1_init_4 : decode cX1_init 4 = .ok (.aload_n 0, 1) := by decide +kernel
theorem dX1_init_5 : decode cX1_init 5 = .ok (.new 9, 3) := by decide +kernel
theorem dX1_init_8 : decode cX1_init 8 = .ok (.dup, 1) := by decide +kernel
theorem dX1_init_9 : decode cX1_init 9 = .ok (.invokespecial 11, 3) := by decide +kernel
theorem dX1_init_12 : decode cX1_init 12 = .ok (.putfield 12, 3) := by decide +kernel
theorem dX1_init_15 : decode cX1_init 15 = .ok (.aload_n 0, 1) := by decide +kernel
theorem dX1_init_16 : decode cX1_init 16 = .ok (.bipush 64, 2) := by decide +kernel
theorem dX1_init_18 : decode cX1_init 18 = .ok (.newarray .int, 2) := by decide +kernel
theorem dX1_init_20 : decode cX1_init 20 = .ok (.putfield 18, 3) := by decide +kernel
theorem dX1_init_23 : decode cX1_init 23 = .ok (.return_, 1) := by decide +kernel
set_option maxHeartbeats 4000000 in
set_option maxRecDepth 100000 in
theorem c_X1_init (l : Launch) (D : va_G) (cy : Nat → ClassId) (sz h0 : Nat)  : CI l yX1_init (.code yX1_init cX1_init 1 none :: TT) ({ frames := 3, cells := 5, slots := 79, locals := 55 }) D cy sz h0 (.inr (4, [.null, .null, .int 0, .int 0, .int 0, .int 0, .int 0, .int 0, .long 0, .int 0, .int 0, .int 0, .int 0, .int 0, .int 0, .int 0, .int 0])) [] (fun a => [(h0, .inr (4, [.ref (a 1), .ref (a 5), .int 0, .int 0, .int 0, .int 0, .int 0, .int 0, .long 0, .int 0, .int 0, .int 0, .int 0, .int 0, .int 0, .int 0, .int 0])), ((a 1), .inr (7, [.ref (a 2), .ref (a 3), .ref (a 4)])), ((a 2), .inr (6, [.int ((1 : Int32) <<< (((15 - 1) : Int32) &&& 31)), .int 17817, .int 0, .int 0])), ((a 3), .inr (6, [.int ((1 : Int32) <<< (((17 - 1) : Int32) &&& 31)), .int 92251, .int 65536, .int 0])), ((a 4), .inr (6, [.int ((1 : Int32) <<< (((21 - 1) : Int32) &&& 31)), .int 1058969, .int 1048576, .int 0])), ((a 5), .inl (cy 0, 64, .inl (fun _ => 0)))]) := by
  refine CI_intro (own := RX1) (by decide) rfl rfl (Nat.le_of_ble_eq_true rfl) ?_
  intro Γ hg1 hg2 hg3 hΓ hN hE
  subst hg1; subst hg2; subst hg3
  show GW Γ (0, 0) [(h0, .inr (4, [.null, .null, .int 0, .int 0, .int 0, .int 0, .int 0, .int 0, .long 0, .int 0, .int 0, .int 0, .int 0, .int 0, .int 0, .int 0, .int 0]))] 0 [(0, .ref h0)] []
  refine W_aload_n hΓ 0 dX1_init_0 rfl ?_
  refine W_objInit hΓ (TT_cons kw_41) (TT_cons kw_27) (TT_cons kw_28) dX1_init_1 (by decide) (Nat.le_of_ble_eq_true rfl) ?_
  refine W_aload_n hΓ 0 dX1_init_4 rfl ?_
  refine W_new hΓ (ci := 7) (C := RX4) (T := TX4) (N := 3) (fs := [.null, .null, .null]) tyX4 tyX4_ok inW4 (TT_cons kw_42) (TT_cons kw_43) (TT_cons kw_4) rfl (fun j hj => by rcases (show j = 0 ∨ j = 1 ∨ j = 2 by omega) with rfl | rfl | rfl <;> rfl) (Nat.le_of_ble_eq_true rfl) (Nat.le_of_ble_eq_true rfl) dX1_init_5 (fun q1 => ?_)
  show GW Γ (1, 3) ([(h0, .inr (4, [.null, .null, .int 0, .int 0, .int 0, .int 0, .int 0, .int 0, .long 0, .int 0, .int 0, .int 0, .int 0, .int 0, .int 0, .int 0, .int 0]))] ++ [(q1, .inr (7, [.null, .null, .null]))]) 8 [(0, .ref h0)] [.ref q1, .ref h0]
  refine W_dup hΓ dX1_init_8 rfl ?_
  refine W_ctorN hΓ (n := 0) (q := q1) (As := []) (blank := .inr (7, [.null, .null, .null])) (post := fun a => [(q1, .inr (7, [.ref (a 1), .ref (a 2), .ref (a 3)])), ((a 1), .inr (6, [.int ((1 : Int32) <<< (((15 - 1) : Int32) &&& 31)), .int 17817, .int 0, .int 0])), ((a 2), .inr (6, [.int ((1 : Int32) <<< (((17 - 1) : Int32) &&& 31)), .int 92251, .int 65536, .int 0])), ((a 3), .inr (6, [.int ((1 : Int32) <<< (((21 - 1) : Int32) &&& 31)), .int 1058969, .int 1048576, .int 0]))]) (fun sz => c_X4_init (yl9 Γ) (yD9 Γ) (yc9 Γ) sz q1 ) 2 (host := "CanBits") rfl kw_45 kw_4 kw_46 rfl ⟨by decide, by decide, by decide +kernel⟩ ⟨Nat.le_of_ble_eq_true rfl, Nat.le_of_ble_eq_true rfl⟩ ⟨Nat.le_of_ble_eq_true rfl, Nat.le_of_ble_eq_true rfl⟩ rfl (Nat.le_of_ble_eq_true rfl) dX1_init_9 (fun a2 => ?_)
  show GW Γ (4, 15) [(h0, .inr (4, [.null, .null, .int 0, .int 0, .int 0, .int 0, .int 0, .int 0, .long 0, .int 0, .int 0, .int 0, .int 0, .int 0, .int 0, .int 0, .int 0])), (q1, .inr (7, [.ref (a2 1), .ref (a2 2), .ref (a2 3)])), ((a2 1), .inr (6, [.int ((1 : Int32) <<< (((15 - 1) : Int32) &&& 31)), .int 17817, .int 0, .int 0])), ((a2 2), .inr (6, [.int ((1 : Int32) <<< (((17 - 1) : Int32) &&& 31)), .int 92251, .int 65536, .int 0])), ((a2 3), .inr (6, [.int ((1 : Int32) <<< (((21 - 1) : Int32) &&& 31)), .int 1058969, .int 1048576, .int 0]))] 12 [(0, .ref h0)] [.ref q1, .ref h0]
  refine W_putF hΓ (ci := 4) (C := RX1) (T := TX1) (N := 17) (ty := (.object "CanBits$Sums")) [(h0, .inr (4, [.ref q1, .null, .int 0, .int 0, .int 0, .int 0, .int 0, .int 0, .long 0, .int 0, .int 0, .int 0, .int 0, .int 0, .int 0, .int 0, .int 0])), (q1, .inr (7, [.ref (a2 1), .ref (a2 2), .ref (a2 3)])), ((a2 1), .inr (6, [.int ((1 : Int32) <<< (((15 - 1) : Int32) &&& 31)), .int 17817, .int 0, .int 0])), ((a2 2), .inr (6, [.int ((1 : Int32) <<< (((17 - 1) : Int32) &&& 31)), .int 92251, .int 65536, .int 0])), ((a2 3), .inr (6, [.int ((1 : Int32) <<< (((21 - 1) : Int32) &&& 31)), .int 1058969, .int 1048576, .int 0]))] tyX1 tyX1_ok nmX1 inW1 rfl 0 rfl 0 (by decide) (TT_cons kw_90) rfl hN rfl (by decide +kernel) rfl rfl (Nat.le_of_ble_eq_true rfl) rfl dX1_init_12 ?_
  refine W_aload_n hΓ 0 dX1_init_15 rfl ?_
  refine W_bipush (v := 64) hΓ dX1_init_16 (by decide) ?_
  refine W_newa hΓ (atype := .int) (ty := .int) (N := 64) (t0 := 0) (TT_cons kw_144) rfl (fun _ => rfl) (fun _ h => by cases h) (64, .inl (fun _ => 0)) (fun _ => rfl) (by decide) (by decide) (by decide) (Nat.le_of_ble_eq_true rfl) (Nat.le_of_ble_eq_true rfl) dX1_init_18 (fun q3 => ?_)
  show GW Γ (5, 79) [(h0, .inr (4, [.ref q1, .null, .int 0, .int 0, .int 0, .int 0, .int 0, .int 0, .long 0, .int 0, .int 0, .int 0, .int 0, .int 0, .int 0, .int 0, .int 0])), (q1, .inr (7, [.ref (a2 1), .ref (a2 2), .ref (a2 3)])), ((a2 1), .inr (6, [.int ((1 : Int32) <<< (((15 - 1) : Int32) &&& 31)), .int 17817, .int 0, .int 0])), ((a2 2), .inr (6, [.int ((1 : Int32) <<< (((17 - 1) : Int32) &&& 31)), .int 92251, .int 65536, .int 0])), ((a2 3), .inr (6, [.int ((1 : Int32) <<< (((21 - 1) : Int32) &&& 31)), .int 1058969, .int 1048576, .int 0])), (q3, .inl ((yc9 Γ) 0, 64, .inl (fun _ => 0)))] 20 [(0, .ref h0)] [.ref q3, .ref h0]
  refine W_putF hΓ (ci := 4) (C := RX1) (T := TX1) (N := 17) (ty := (.array .int)) [(h0, .inr (4, [.ref q1, .ref q3, .int 0, .int 0, .int 0, .int 0, .int 0, .int 0, .long 0, .int 0, .int 0, .int 0, .int 0, .int 0, .int 0, .int 0, .int 0])), (q1, .inr (7, [.ref (a2 1), .ref (a2 2), .ref (a2 3)])), ((a2 1), .inr (6, [.int ((1 : Int32) <<< (((15 - 1) : Int32) &&& 31)), .int 17817, .int 0, .int 0])), ((a2 2), .inr (6, [.int ((1 : Int32) <<< (((17 - 1) : Int32) &&& 31)), .int 92251, .int 65536, .int 0])), ((a2 3), .inr (6, [.int ((1 : Int32) <<< (((21 - 1) : Int32) &&& 31)), .int 1058969, .int 1048576, .int 0])), (q3, .inl ((yc9 Γ) 0, 64, .inl (fun _ => 0)))] tyX1 tyX1_ok nmX1 inW1 rfl 0 rfl 1 (by decide) (TT_cons kw_91) rfl hN rfl (by decide +kernel) rfl rfl (Nat.le_of_ble_eq_true rfl) rfl dX1_init_20 ?_
  exact W_vret hΓ hE (fun k => match k with | 1 => q1 | 2 => (a2 1) | 3 => (a2 2) | 4 => (a2 3) | _ => q3) rfl ⟨Nat.le_refl _, Nat.le_refl _⟩ dX1_init_23
theorem dX5_init_0 : decode cX5_init 0 = .ok (.aload_n 0, 1) := by decide +kernel
theorem dX5_init_1 : decode cX5_init 1 = .ok (.invokespecial 3, 3) := by decide +kernel
theorem dX5_init_4 : decode cX5_init 4 = .ok (.aload_n 0, 1) := by decide +kernel
theorem dX5_init_5 : decode cX5_init 5 = .ok (.sipush 2616, 3) := by decide +kernel
theorem dX5_init_8 : decode cX5_init 8 = .ok (.newarray .int, 2) := by decide +kernel
theorem dX5_init_10 : decode cX5_init 10 = .ok (.putfield 11, 3) := by decide +kernel
theorem dX5_init_13 : decode cX5_init 13 = .ok (.aload_n 0, 1) := by decide +kernel
theorem dX5_init_14 : decode cX5_init 14 = .ok (.sipush 2500, 3) := by decide +kernel
theorem dX5_init_17 : decode cX5_init 17 = .ok (.newarray .int, 2) := by decide +kernel
theorem dX5_init_19 : decode cX5_init 19 = .ok (.putfield 15, 3) := by decide +kernel
theorem dX5_init_22 : decode cX5_init 22 = .ok (.return_, 1) := by decide +kernel
set_option maxHeartbeats 4000000 in
set_option maxRecDepth 100000 in
theorem c_X5_init (l : Launch) (D : va_G) (cy : Nat → ClassId) (sz h0 : Nat)  : CI l yX5_init (.code yX5_init cX5_init 1 none :: TT) ({ frames := 1, cells := 2, slots := 5116, locals := 12 }) D cy sz h0 (.inr (8, [.null, .null, .int 0, .int 0])) [] (fun a => [(h0, .inr (8, [.ref (a 1), .ref (a 2), .int 0, .int 0])), ((a 1), .inl (cy 0, 2616, .inl (fun _ => 0))), ((a 2), .inl (cy 0, 2500, .inl (fun _ => 0)))]) := by
  refine CI_intro (own := RX5) (by decide) rfl rfl (Nat.le_of_ble_eq_true rfl) ?_
  intro Γ hg1 hg2 hg3 hΓ hN hE
  subst hg1; subst hg2; subst hg3
  show GW Γ (0, 0) [(h0, .inr (8, [.null, .null, .int 0, .int 0]))] 0 [(0, .ref h0)] []
  refine W_aload_n hΓ 0 dX5_init_0 rfl ?_
  refine W_objInit hΓ (TT_cons kw_150) (TT_cons kw_27) (TT_cons kw_28) dX5_init_1 (by decide) (Nat.le_of_ble_eq_true rfl) ?_
  refine W_aload_n hΓ 0 dX5_init_4 rfl ?_
  refine W_sipush (v := 2616) hΓ dX5_init_5 (by decide) ?_
  refine W_newa hΓ (atype := .int) (ty := .int) (N := 2616) (t0 := 0) (TT_cons kw_144) rfl (fun _ => rfl) (fun _ h => by cases h) (2616, .inl (fun _ => 0)) (fun _ => rfl) (by decide) (by decide) (by decide) (Nat.le_of_ble_eq_true rfl) (Nat.le_of_ble_eq_true rfl) dX5_init_8 (fun q1 => ?_)
  show GW Γ (1, 2616) [(h0, .inr (8, [.null, .null, .int 0, .int 0])), (q1, .inl ((yc9 Γ) 0, 2616, .inl (fun _ => 0)))] 10 [(0, .ref h0)] [.ref q1, .ref h0]
  refine W_putF hΓ (ci := 8) (C := RX5) (T := TX5) (N := 4) (ty := (.array .int)) [(h0, .inr (8, [.ref q1, .null, .int 0, .int 0])), (q1, .inl ((yc9 Γ) 0, 2616, .inl (fun _ => 0)))] tyX5 tyX5_ok nmX5 inW5 rfl 0 rfl 0 (by decide) (TT_cons kw_151) rfl hN rfl (by decide +kernel) rfl rfl (Nat.le_of_ble_eq_true rfl) rfl dX5_init_10 ?_
  refine W_aload_n hΓ 0 dX5_init_13 rfl ?_
  refine W_sipush (v := 2500) hΓ dX5_init_14 (by decide) ?_
  refine W_newa hΓ (atype := .int) (ty := .int) (N := 2500) (t0 := 0) (TT_cons kw_144) rfl (fun _ => rfl) (fun _ h => by cases h) (2500, .inl (fun _ => 0)) (fun _ => rfl) (by decide) (by decide) (by decide) (Nat.le_of_ble_eq_true rfl) (Nat.le_of_ble_eq_true rfl) dX5_init_17 (fun q2 => ?_)
  show GW Γ (2, 5116) [(h0, .inr (8, [.ref q1, .null, .int 0, .int 0])), (q1, .inl ((yc9 Γ) 0, 2616, .inl (fun _ => 0))), (q2, .inl ((yc9 Γ) 0, 2500, .inl (fun _ => 0)))] 19 [(0, .ref h0)] [.ref q2, .ref h0]
  refine W_putF hΓ (ci := 8) (C := RX5) (T := TX5) (N := 4) (ty := (.array .int)) [(h0, .inr (8, [.ref q1, .ref q2, .int 0, .int 0])), (q1, .inl ((yc9 Γ) 0, 2616, .inl (fun _ => 0))), (q2, .inl ((yc9 Γ) 0, 2500, .inl (fun _ => 0)))] tyX5 tyX5_ok nmX5 inW5 rfl 0 rfl 1 (by decide) (TT_cons kw_152) rfl hN rfl (by decide +kernel) rfl rfl (Nat.le_of_ble_eq_true rfl) rfl dX5_init_19 ?_
  exact W_vret hΓ hE (fun k => match k with | 1 => q1 | _ => q2) rfl ⟨Nat.le_refl _, Nat.le_refl _⟩ dX5_init_22
theorem dX2_init_0 : decode cX2_init 0 = .ok (.aload_n 0, 1) := by decide +kernel
theorem dX2_init_1 : decode cX2_init 1 = .ok (.invokespecial 3, 3) := by decide +kernel
theorem dX2_init_4 : decode cX2_init 4 = .ok (.aload_n 0, 1) := by decide +kernel
theorem dX2_init_5 : decode cX2_init 5 = .ok (.new 9, 3) := by decide +kernel
theorem dX2_init_8 : decode cX2_init 8 = .ok (.dup, 1) := by decide +kernel
theorem dX2_init_9 : decode cX2_init 9 = .ok (.invokespecial 11, 3) := by decide +kernel
theorem dX2_init_12 : decode cX2_init 12 = .ok (.putfield 12, 3) := by decide +kernel
theorem dX2_init_15 : decode cX2_init 15 = .ok (.aload_n 0, 1) := by decide +kernel
theorem dX2_init_16 : decode cX2_init 16 = .ok (.new 18, 3) := by decide +kernel
theorem dX2_init_19 : decode cX2_init 19 = .ok (.dup, 1) := by decide +kernel
theorem dX2_init_20 : decode cX2_init 20 = .ok (.invokespecial 20, 3) := by decide +kernel
theorem dX2_init_23 : decode cX2_init 23 = .ok (.putfield 21, 3) := by decide +kernel
theorem dX2_init_26 : decode cX2_init 26 = .ok (.return_, 1) := by decide +kernel
set_option maxHeartbeats 4000000 in
set_option maxRecDepth 100000 in
theorem c_X2_init (l : Launch) (D : va_G) (cy : Nat → ClassId) (sz h0 : Nat)  : CI l yX2_init (.code yX2_init cX2_init 1 none :: TT) ({ frames := 4, cells := 9, slots := 5216, locals := 75 }) D cy sz h0 (.inr (5, [.null, .null, .int 0, .int 0, .int 0, .int 0, .int 0, .null, .null, .int 0])) [] (fun a => [(h0, .inr (5, [.ref (a 1), .ref (a 7), .int 0, .int 0, .int 0, .int 0, .int 0, .null, .null, .int 0])), ((a 1), .inr (4, [.ref (a 2), .ref (a 6), .int 0, .int 0, .int 0, .int 0, .int 0, .int 0, .long 0, .int 0, .int 0, .int 0, .int 0, .int 0, .int 0, .int 0, .int 0])), ((a 2), .inr (7, [.ref (a 3), .ref (a 4), .ref (a 5)])), ((a 3), .inr (6, [.int ((1 : Int32) <<< (((15 - 1) : Int32) &&& 31)), .int 17817, .int 0, .int 0])), ((a 4), .inr (6, [.int ((1 : Int32) <<< (((17 - 1) : Int32) &&& 31)), .int 92251, .int 65536, .int 0])), ((a 5), .inr (6, [.int ((1 : Int32) <<< (((21 - 1) : Int32) &&& 31)), .int 1058969, .int 1048576, .int 0])), ((a 6), .inl (cy 0, 64, .inl (fun _ => 0))), ((a 7), .inr (8, [.ref (a 8), .ref (a 9), .int 0, .int 0])), ((a 8), .inl (cy 0, 2616, .inl (fun _ => 0))), ((a 9), .inl (cy 0, 2500, .inl (fun _ => 0)))]) := by
  refine CI_intro (own := RX2) (by decide) rfl rfl (Nat.le_of_ble_eq_true rfl) ?_
  intro Γ hg1 hg2 hg3 hΓ hN hE
  subst hg1; subst hg2; subst hg3
  show GW Γ (0, 0) [(h0, .inr (5, [.null, .null, .int 0, .int 0, .int 0, .int 0, .int 0, .null, .null, .int 0]))] 0 [(0, .ref h0)] []
  refine W_aload_n hΓ 0 dX2_init_0 rfl ?_
  refine W_objInit hΓ (TT_cons kw_35) (TT_cons kw_27) (TT_cons kw_28) dX2_init_1 (by decide) (Nat.le_of_ble_eq_true rfl) ?_
  refine W_aload_n hΓ 0 dX2_init_4 rfl ?_
  refine W_new hΓ (ci := 4) (C := RX1) (T := TX1) (N := 17) (fs := [.null, .null, .int 0, .int 0, .int 0, .int 0, .int 0, .int 0, .long 0, .int 0, .int 0, .int 0, .int 0, .int 0, .int 0, .int 0, .int 0]) tyX1 tyX1_ok inW1 (TT_cons kw_36) (TT_cons kw_37) (TT_cons kw_3) rfl (fun j hj => by rcases (show j = 0 ∨ j = 1 ∨ j = 2 ∨ j = 3 ∨ j = 4 ∨ j = 5 ∨ j = 6 ∨ j = 7 ∨ j = 8 ∨ j = 9 ∨ j = 10 ∨ j = 11 ∨ j = 12 ∨ j = 13 ∨ j = 14 ∨ j = 15 ∨ j = 16 by omega) with rfl | rfl | rfl | rfl | rfl | rfl | rfl | rfl | rfl | rfl | rfl | rfl | rfl | rfl | rfl | rfl | rfl <;> rfl) (Nat.le_of_ble_eq_true rfl) (Nat.le_of_ble_eq_true rfl) dX2_init_5 (fun q1 => ?_)
  show GW Γ (1, 17) ([(h0, .inr (5, [.null, .null, .int 0, .int 0, .int 0, .int 0, .int 0, .null, .null, .int 0]))] ++ [(q1, .inr (4, [.null, .null, .int 0, .int 0, .int 0, .int 0, .int 0, .int 0, .long 0, .int 0, .int 0, .int 0, .int 0, .int 0, .int 0, .int 0, .int 0]))]) 8 [(0, .ref h0)] [.ref q1, .ref h0]
  refine W_dup hΓ dX2_init_8 rfl ?_
  refine W_ctorN hΓ (n := 0) (q := q1) (As := []) (blank := .inr (4, [.null, .null, .int 0, .int 0, .int 0, .int 0, .int 0, .int 0, .long 0, .int 0, .int 0, .int 0, .int 0, .int 0, .int 0, .int 0, .int 0])) (post := fun a => [(q1, .inr (4, [.ref (a 1), .ref (a 5), .int 0, .int 0, .int 0, .int 0, .int 0, .int 0, .long 0, .int 0, .int 0, .int 0, .int 0, .int 0, .int 0, .int 0, .int 0])), ((a 1), .inr (7, [.ref (a 2), .ref (a 3), .ref (a 4)])), ((a 2), .inr (6, [.int ((1 : Int32) <<< (((15 - 1) : Int32) &&& 31)), .int 17817, .int 0, .int 0])), ((a 3), .inr (6, [.int ((1 : Int32) <<< (((17 - 1) : Int32) &&& 31)), .int 92251, .int 65536, .int 0])), ((a 4), .inr (6, [.int ((1 : Int32) <<< (((21 - 1) : Int32) &&& 31)), .int 1058969, .int 1048576, .int 0])), ((a 5), .inl ((yc9 Γ) 0, 64, .inl (fun _ => 0)))]) (fun sz => c_X1_init (yl9 Γ) (yD9 Γ) (yc9 Γ) sz q1 ) 1 (host := "CanBits") rfl kw_39 kw_3 kw_40 rfl ⟨by decide, by decide, by decide +kernel⟩ ⟨Nat.le_of_ble_eq_true rfl, Nat.le_of_ble_eq_true rfl⟩ ⟨Nat.le_of_ble_eq_true rfl, Nat.le_of_ble_eq_true rfl⟩ rfl (Nat.le_of_ble_eq_true rfl) dX2_init_9 (fun a2 => ?_)
  show GW Γ (6, 96) [(h0, .inr (5, [.null, .null, .int 0, .int 0, .int 0, .int 0, .int 0, .null, .null, .int 0])), (q1, .inr (4, [.ref (a2 1), .ref (a2 5), .int 0, .int 0, .int 0, .int 0, .int 0, .int 0, .long 0, .int 0, .int 0, .int 0, .int 0, .int 0, .int 0, .int 0, .int 0])), ((a2 1), .inr (7, [.ref (a2 2), .ref (a2 3), .ref (a2 4)])), ((a2 2), .inr (6, [.int ((1 : Int32) <<< (((15 - 1) : Int32) &&& 31)), .int 17817, .int 0, .int 0])), ((a2 3), .inr (6, [.int ((1 : Int32) <<< (((17 - 1) : Int32) &&& 31)), .int 92251, .int 65536, .int 0])), ((a2 4), .inr (6, [.int ((1 : Int32) <<< (((21 - 1) : Int32) &&& 31)), .int 1058969, .int 1048576, .int 0])), ((a2 5), .inl ((yc9 Γ) 0, 64, .inl (fun _ => 0)))] 12 [(0, .ref h0)] [.ref q1, .ref h0]
  refine W_putF hΓ (ci := 5) (C := RX2) (T := TX2) (N := 10) (ty := (.object "CanBits$Listener")) [(h0, .inr (5, [.ref q1, .null, .int 0, .int 0, .int 0, .int 0, .int 0, .null, .null, .int 0])), (q1, .inr (4, [.ref (a2 1), .ref (a2 5), .int 0, .int 0, .int 0, .int 0, .int 0, .int 0, .long 0, .int 0, .int 0, .int 0, .int 0, .int 0, .int 0, .int 0, .int 0])), ((a2 1), .inr (7, [.ref (a2 2), .ref (a2 3), .ref (a2 4)])), ((a2 2), .inr (6, [.int ((1 : Int32) <<< (((15 - 1) : Int32) &&& 31)), .int 17817, .int 0, .int 0])), ((a2 3), .inr (6, [.int ((1 : Int32) <<< (((17 - 1) : Int32) &&& 31)), .int 92251, .int 65536, .int 0])), ((a2 4), .inr (6, [.int ((1 : Int32) <<< (((21 - 1) : Int32) &&& 31)), .int 1058969, .int 1048576, .int 0])), ((a2 5), .inl ((yc9 Γ) 0, 64, .inl (fun _ => 0)))] tyX2 tyX2_ok nmX2 inW2 rfl 0 rfl 0 (by decide) (TT_cons kw_165) rfl hN rfl (by decide +kernel) rfl rfl (Nat.le_of_ble_eq_true rfl) rfl dX2_init_12 ?_
  refine W_aload_n hΓ 0 dX2_init_15 rfl ?_
  refine W_new hΓ (ci := 8) (C := RX5) (T := TX5) (N := 4) (fs := [.null, .null, .int 0, .int 0]) tyX5 tyX5_ok inW5 (TT_cons kw_145) (TT_cons kw_146) (TT_cons kw_6) rfl (fun j hj => by rcases (show j = 0 ∨ j = 1 ∨ j = 2 ∨ j = 3 by omega) with rfl | rfl | rfl | rfl <;> rfl) (Nat.le_of_ble_eq_true rfl) (Nat.le_of_ble_eq_true rfl) dX2_init_16 (fun q3 => ?_)
  show GW Γ (7, 100) ([(h0, .inr (5, [.ref q1, .null, .int 0, .int 0, .int 0, .int 0, .int 0, .null, .null, .int 0])), (q1, .inr (4, [.ref (a2 1), .ref (a2 5), .int 0, .int 0, .int 0, .int 0, .int 0, .int 0, .long 0, .int 0, .int 0, .int 0, .int 0, .int 0, .int 0, .int 0, .int 0])), ((a2 1), .inr (7, [.ref (a2 2), .ref (a2 3), .ref (a2 4)])), ((a2 2), .inr (6, [.int ((1 : Int32) <<< (((15 - 1) : Int32) &&& 31)), .int 17817, .int 0, .int 0])), ((a2 3), .inr (6, [.int ((1 : Int32) <<< (((17 - 1) : Int32) &&& 31)), .int 92251, .int 65536, .int 0])), ((a2 4), .inr (6, [.int ((1 : Int32) <<< (((21 - 1) : Int32) &&& 31)), .int 1058969, .int 1048576, .int 0])), ((a2 5), .inl ((yc9 Γ) 0, 64, .inl (fun _ => 0)))] ++ [(q3, .inr (8, [.null, .null, .int 0, .int 0]))]) 19 [(0, .ref h0)] [.ref q3, .ref h0]
  refine W_dup hΓ dX2_init_19 rfl ?_
  refine W_ctorN hΓ (n := 0) (q := q3) (As := []) (blank := .inr (8, [.null, .null, .int 0, .int 0])) (post := fun a => [(q3, .inr (8, [.ref (a 1), .ref (a 2), .int 0, .int 0])), ((a 1), .inl ((yc9 Γ) 0, 2616, .inl (fun _ => 0))), ((a 2), .inl ((yc9 Γ) 0, 2500, .inl (fun _ => 0)))]) (fun sz => c_X5_init (yl9 Γ) (yD9 Γ) (yc9 Γ) sz q3 ) 3 (host := "CanBits") rfl kw_148 kw_6 kw_149 rfl ⟨by decide, by decide, by decide +kernel⟩ ⟨Nat.le_of_ble_eq_true rfl, Nat.le_of_ble_eq_true rfl⟩ ⟨Nat.le_of_ble_eq_true rfl, Nat.le_of_ble_eq_true rfl⟩ rfl (Nat.le_of_ble_eq_true rfl) dX2_init_20 (fun a4 => ?_)
  show GW Γ (9, 5216) [(h0, .inr (5, [.ref q1, .null, .int 0, .int 0, .int 0, .int 0, .int 0, .null, .null, .int 0])), (q1, .inr (4, [.ref (a2 1), .ref (a2 5), .int 0, .int 0, .int 0, .int 0, .int 0, .int 0, .long 0, .int 0, .int 0, .int 0, .int 0, .int 0, .int 0, .int 0, .int 0])), ((a2 1), .inr (7, [.ref (a2 2), .ref (a2 3), .ref (a2 4)])), ((a2 2), .inr (6, [.int ((1 : Int32) <<< (((15 - 1) : Int32) &&& 31)), .int 17817, .int 0, .int 0])), ((a2 3), .inr (6, [.int ((1 : Int32) <<< (((17 - 1) : Int32) &&& 31)), .int 92251, .int 65536, .int 0])), ((a2 4), .inr (6, [.int ((1 : Int32) <<< (((21 - 1) : Int32) &&& 31)), .int 1058969, .int 1048576, .int 0])), ((a2 5), .inl ((yc9 Γ) 0, 64, .inl (fun _ => 0))), (q3, .inr (8, [.ref (a4 1), .ref (a4 2), .int 0, .int 0])), ((a4 1), .inl ((yc9 Γ) 0, 2616, .inl (fun _ => 0))), ((a4 2), .inl ((yc9 Γ) 0, 2500, .inl (fun _ => 0)))] 23 [(0, .ref h0)] [.ref q3, .ref h0]
  refine W_putF hΓ (ci := 5) (C := RX2) (T := TX2) (N := 10) (ty := (.object "CanBits$Takings")) [(h0, .inr (5, [.ref q1, .ref q3, .int 0, .int 0, .int 0, .int 0, .int 0, .null, .null, .int 0])), (q1, .inr (4, [.ref (a2 1), .ref (a2 5), .int 0, .int 0, .int 0, .int 0, .int 0, .int 0, .long 0, .int 0, .int 0, .int 0, .int 0, .int 0, .int 0, .int 0, .int 0])), ((a2 1), .inr (7, [.ref (a2 2), .ref (a2 3), .ref (a2 4)])), ((a2 2), .inr (6, [.int ((1 : Int32) <<< (((15 - 1) : Int32) &&& 31)), .int 17817, .int 0, .int 0])), ((a2 3), .inr (6, [.int ((1 : Int32) <<< (((17 - 1) : Int32) &&& 31)), .int 92251, .int 65536, .int 0])), ((a2 4), .inr (6, [.int ((1 : Int32) <<< (((21 - 1) : Int32) &&& 31)), .int 1058969, .int 1048576, .int 0])), ((a2 5), .inl ((yc9 Γ) 0, 64, .inl (fun _ => 0))), (q3, .inr (8, [.ref (a4 1), .ref (a4 2), .int 0, .int 0])), ((a4 1), .inl ((yc9 Γ) 0, 2616, .inl (fun _ => 0))), ((a4 2), .inl ((yc9 Γ) 0, 2500, .inl (fun _ => 0)))] tyX2 tyX2_ok nmX2 inW2 rfl 0 rfl 1 (by decide) (TT_cons kw_166) rfl hN rfl (by decide +kernel) rfl rfl (Nat.le_of_ble_eq_true rfl) rfl dX2_init_23 ?_
  exact W_vret hΓ hE (fun k => match k with | 1 => q1 | 2 => (a2 1) | 3 => (a2 2) | 4 => (a2 3) | 5 => (a2 4) | 6 => (a2 5) | 7 => q3 | 8 => (a4 1) | _ => (a4 2)) rfl ⟨Nat.le_refl _, Nat.le_refl _⟩ dX2_init_26
theorem dX0_init_0 : decode cX0_init 0 = .ok (.aload_n 0, 1) := by decide +kernel
theorem dX0_init_1 : decode cX0_init 1 = .ok (.invokespecial 3, 3) := by decide +kernel
theorem dX0_init_4 : decode cX0_init 4 = .ok (.aload_n 0, 1) := by decide +kernel
theorem dX0_init_5 : decode cX0_init 5 = .ok (.bipush 64, 2) := by decide +kernel
theorem dX0_init_7 : decode cX0_init 7 = .ok (.newarray .int, 2) := by decide +kernel
theorem dX0_init_9 : decode cX0_init 9 = .ok (.putfield 9, 3) := by decide +kernel
theorem dX0_init_12 : decode cX0_init 12 = .ok (.aload_n 0, 1) := by decide +kernel
theorem dX0_init_13 : decode cX0_init 13 = .ok (.sipush 733, 3) := by decide +kernel
theorem dX0_init_16 : decode cX0_init 16 = .ok (.newarray .byte, 2) := by decide +kernel
theorem dX0_init_18 : decode cX0_init 18 = .ok (.putfield 15, 3) := by decide +kernel
theorem dX0_init_21 : decode cX0_init 21 = .ok (.return_, 1) := by decide +kernel
set_option maxHeartbeats 4000000 in
set_option maxRecDepth 100000 in
theorem c_X0_init (l : Launch) (D : va_G) (cy : Nat → ClassId) (sz h0 : Nat)  : CI l yX0_init (.code yX0_init cX0_init 1 none :: TT) ({ frames := 1, cells := 2, slots := 797, locals := 12 }) D cy sz h0 (.inr (3, [.null, .null, .int 0, .int 0, .int 0, .int 0, .long 0, .int 0, .int 0])) [] (fun a => [(h0, .inr (3, [.ref (a 1), .ref (a 2), .int 0, .int 0, .int 0, .int 0, .long 0, .int 0, .int 0])), ((a 1), .inl (cy 0, 64, .inl (fun _ => 0))), ((a 2), .inl (cy 1, 733, .inl (fun _ => 0)))]) := by
  refine CI_intro (own := RX0) (by decide) rfl rfl (Nat.le_of_ble_eq_true rfl) ?_
  intro Γ hg1 hg2 hg3 hΓ hN hE
  subst hg1; subst hg2; subst hg3
  show GW Γ (0, 0) [(h0, .inr (3, [.null, .null, .int 0, .int 0, .int 0, .int 0, .long 0, .int 0, .int 0]))] 0 [(0, .ref h0)] []
  refine W_aload_n hΓ 0 dX0_init_0 rfl ?_
  refine W_objInit hΓ (TT_cons kw_209) (TT_cons kw_27) (TT_cons kw_28) dX0_init_1 (by decide) (Nat.le_of_ble_eq_true rfl) ?_
  refine W_aload_n hΓ 0 dX0_init_4 rfl ?_
  refine W_bipush (v := 64) hΓ dX0_init_5 (by decide) ?_
  refine W_newa hΓ (atype := .int) (ty := .int) (N := 64) (t0 := 0) (TT_cons kw_144) rfl (fun _ => rfl) (fun _ h => by cases h) (64, .inl (fun _ => 0)) (fun _ => rfl) (by decide) (by decide) (by decide) (Nat.le_of_ble_eq_true rfl) (Nat.le_of_ble_eq_true rfl) dX0_init_7 (fun q1 => ?_)
  show GW Γ (1, 64) [(h0, .inr (3, [.null, .null, .int 0, .int 0, .int 0, .int 0, .long 0, .int 0, .int 0])), (q1, .inl ((yc9 Γ) 0, 64, .inl (fun _ => 0)))] 9 [(0, .ref h0)] [.ref q1, .ref h0]
  refine W_putF hΓ (ci := 3) (C := RX0) (T := TX0) (N := 9) (ty := (.array .int)) [(h0, .inr (3, [.ref q1, .null, .int 0, .int 0, .int 0, .int 0, .long 0, .int 0, .int 0])), (q1, .inl ((yc9 Γ) 0, 64, .inl (fun _ => 0)))] tyX0 tyX0_ok nmX0 inW0 rfl 0 rfl 0 (by decide) (TT_cons kw_210) rfl hN rfl (by decide +kernel) rfl rfl (Nat.le_of_ble_eq_true rfl) rfl dX0_init_9 ?_
  refine W_aload_n hΓ 0 dX0_init_12 rfl ?_
  refine W_sipush (v := 733) hΓ dX0_init_13 (by decide) ?_
  refine W_newa hΓ (atype := .byte) (ty := .byte) (N := 733) (t0 := 1) (TT_cons kw_251) rfl (fun _ => rfl) (fun _ h => by cases h) (733, .inl (fun _ => 0)) (fun _ => rfl) (by decide) (by decide) (by decide) (Nat.le_of_ble_eq_true rfl) (Nat.le_of_ble_eq_true rfl) dX0_init_16 (fun q2 => ?_)
  show GW Γ (2, 797) [(h0, .inr (3, [.ref q1, .null, .int 0, .int 0, .int 0, .int 0, .long 0, .int 0, .int 0])), (q1, .inl ((yc9 Γ) 0, 64, .inl (fun _ => 0))), (q2, .inl ((yc9 Γ) 1, 733, .inl (fun _ => 0)))] 18 [(0, .ref h0)] [.ref q2, .ref h0]
  refine W_putF hΓ (ci := 3) (C := RX0) (T := TX0) (N := 9) (ty := (.array .byte)) [(h0, .inr (3, [.ref q1, .ref q2, .int 0, .int 0, .int 0, .int 0, .long 0, .int 0, .int 0])), (q1, .inl ((yc9 Γ) 0, 64, .inl (fun _ => 0))), (q2, .inl ((yc9 Γ) 1, 733, .inl (fun _ => 0)))] tyX0 tyX0_ok nmX0 inW0 rfl 0 rfl 1 (by decide) (TT_cons kw_213) rfl hN rfl (by decide +kernel) rfl rfl (Nat.le_of_ble_eq_true rfl) rfl dX0_init_18 ?_
  exact W_vret hΓ hE (fun k => match k with | 1 => q1 | _ => q2) rfl ⟨Nat.le_refl _, Nat.le_refl _⟩ dX0_init_21
theorem dX6_init_0 : decode cX6_init 0 = .ok (.aload_n 0, 1) := by decide +kernel
theorem dX6_init_1 : decode cX6_init 1 = .ok (.invokespecial 3, 3) := by decide +kernel
theorem dX6_init_4 : decode cX6_init 4 = .ok (.aload_n 0, 1) := by decide +kernel
theorem dX6_init_5 : decode cX6_init 5 = .ok (.new 9, 3) := by decide +kernel
theorem dX6_init_8 : decode cX6_init 8 = .ok (.dup, 1) := by decide +kernel
theorem dX6_init_9 : decode cX6_init 9 = .ok (.invokespecial 11, 3) := by decide +kernel
theorem dX6_init_12 : decode cX6_init 12 = .ok (.putfield 12, 3) := by decide +kernel
theorem dX6_init_15 : decode cX6_init 15 = .ok (.return_, 1) := by decide +kernel
set_option maxHeartbeats 4000000 in
set_option maxRecDepth 100000 in
theorem c_X6_init (l : Launch) (D : va_G) (cy : Nat → ClassId) (sz h0 : Nat)  : CI l yX6_init (.code yX6_init cX6_init 1 none :: TT) ({ frames := 3, cells := 4, slots := 15, locals := 55 }) D cy sz h0 (.inr (9, [.null, .int 0, .int 0, .int 0])) [] (fun a => [(h0, .inr (9, [.ref (a 1), .int 0, .int 0, .int 0])), ((a 1), .inr (7, [.ref (a 2), .ref (a 3), .ref (a 4)])), ((a 2), .inr (6, [.int ((1 : Int32) <<< (((15 - 1) : Int32) &&& 31)), .int 17817, .int 0, .int 0])), ((a 3), .inr (6, [.int ((1 : Int32) <<< (((17 - 1) : Int32) &&& 31)), .int 92251, .int 65536, .int 0])), ((a 4), .inr (6, [.int ((1 : Int32) <<< (((21 - 1) : Int32) &&& 31)), .int 1058969, .int 1048576, .int 0]))]) := by
  refine CI_intro (own := RX6) (by decide) rfl rfl (Nat.le_of_ble_eq_true rfl) ?_
  intro Γ hg1 hg2 hg3 hΓ hN hE
  subst hg1; subst hg2; subst hg3
  show GW Γ (0, 0) [(h0, .inr (9, [.null, .int 0, .int 0, .int 0]))] 0 [(0, .ref h0)] []
  refine W_aload_n hΓ 0 dX6_init_0 rfl ?_
  refine W_objInit hΓ (TT_cons kw_257) (TT_cons kw_27) (TT_cons kw_28) dX6_init_1 (by decide) (Nat.le_of_ble_eq_true rfl) ?_
  refine W_aload_n hΓ 0 dX6_init_4 rfl ?_
  refine W_new hΓ (ci := 7) (C := RX4) (T := TX4) (N := 3) (fs := [.null, .null, .null]) tyX4 tyX4_ok inW4 (TT_cons kw_258) (TT_cons kw_43) (TT_cons kw_4) rfl (fun j hj => by rcases (show j = 0 ∨ j = 1 ∨ j = 2 by omega) with rfl | rfl | rfl <;> rfl) (Nat.le_of_ble_eq_true rfl) (Nat.le_of_ble_eq_true rfl) dX6_init_5 (fun q1 => ?_)
  show GW Γ (1, 3) ([(h0, .inr (9, [.null, .int 0, .int 0, .int 0]))] ++ [(q1, .inr (7, [.null, .null, .null]))]) 8 [(0, .ref h0)] [.ref q1, .ref h0]
  refine W_dup hΓ dX6_init_8 rfl ?_
  refine W_ctorN hΓ (n := 0) (q := q1) (As := []) (blank := .inr (7, [.null, .null, .null])) (post := fun a => [(q1, .inr (7, [.ref (a 1), .ref (a 2), .ref (a 3)])), ((a 1), .inr (6, [.int ((1 : Int32) <<< (((15 - 1) : Int32) &&& 31)), .int 17817, .int 0, .int 0])), ((a 2), .inr (6, [.int ((1 : Int32) <<< (((17 - 1) : Int32) &&& 31)), .int 92251, .int 65536, .int 0])), ((a 3), .inr (6, [.int ((1 : Int32) <<< (((21 - 1) : Int32) &&& 31)), .int 1058969, .int 1048576, .int 0]))]) (fun sz => c_X4_init (yl9 Γ) (yD9 Γ) (yc9 Γ) sz q1 ) 6 (host := "CanBits") rfl kw_45 kw_4 kw_46 rfl ⟨by decide, by decide, by decide +kernel⟩ ⟨Nat.le_of_ble_eq_true rfl, Nat.le_of_ble_eq_true rfl⟩ ⟨Nat.le_of_ble_eq_true rfl, Nat.le_of_ble_eq_true rfl⟩ rfl (Nat.le_of_ble_eq_true rfl) dX6_init_9 (fun a2 => ?_)
  show GW Γ (4, 15) [(h0, .inr (9, [.null, .int 0, .int 0, .int 0])), (q1, .inr (7, [.ref (a2 1), .ref (a2 2), .ref (a2 3)])), ((a2 1), .inr (6, [.int ((1 : Int32) <<< (((15 - 1) : Int32) &&& 31)), .int 17817, .int 0, .int 0])), ((a2 2), .inr (6, [.int ((1 : Int32) <<< (((17 - 1) : Int32) &&& 31)), .int 92251, .int 65536, .int 0])), ((a2 3), .inr (6, [.int ((1 : Int32) <<< (((21 - 1) : Int32) &&& 31)), .int 1058969, .int 1048576, .int 0]))] 12 [(0, .ref h0)] [.ref q1, .ref h0]
  refine W_putF hΓ (ci := 9) (C := RX6) (T := TX6) (N := 4) (ty := (.object "CanBits$Sums")) [(h0, .inr (9, [.ref q1, .int 0, .int 0, .int 0])), (q1, .inr (7, [.ref (a2 1), .ref (a2 2), .ref (a2 3)])), ((a2 1), .inr (6, [.int ((1 : Int32) <<< (((15 - 1) : Int32) &&& 31)), .int 17817, .int 0, .int 0])), ((a2 2), .inr (6, [.int ((1 : Int32) <<< (((17 - 1) : Int32) &&& 31)), .int 92251, .int 65536, .int 0])), ((a2 3), .inr (6, [.int ((1 : Int32) <<< (((21 - 1) : Int32) &&& 31)), .int 1058969, .int 1048576, .int 0]))] tyX6 tyX6_ok nmX6 inW6 rfl 0 rfl 0 (by decide) (TT_cons kw_260) rfl hN rfl (by decide +kernel) rfl rfl (Nat.le_of_ble_eq_true rfl) rfl dX6_init_12 ?_
  exact W_vret hΓ hE (fun k => match k with | 1 => q1 | 2 => (a2 1) | 3 => (a2 2) | _ => (a2 3)) rfl ⟨Nat.le_refl _, Nat.le_refl _⟩ dX6_init_15
