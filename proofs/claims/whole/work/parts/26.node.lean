theorem dX2_enter_0 : decode cX2_enter 0 = .ok (.aload_n 0, 1) := by decide +kernel
theorem dX2_enter_1 : decode cX2_enter 1 = .ok (.iload_n 1, 1) := by decide +kernel
theorem dX2_enter_2 : decode cX2_enter 2 = .ok (.putfield 52, 3) := by decide +kernel
theorem dX2_enter_5 : decode cX2_enter 5 = .ok (.aload_n 0, 1) := by decide +kernel
theorem dX2_enter_6 : decode cX2_enter 6 = .ok (.iconst 0, 1) := by decide +kernel
theorem dX2_enter_7 : decode cX2_enter 7 = .ok (.putfield 90, 3) := by decide +kernel
theorem dX2_enter_10 : decode cX2_enter 10 = .ok (.return_, 1) := by decide +kernel
noncomputable def f_X2_enter  (nf : Nat → Int32) (p1 : Int32) : Option ((Nat → Int32)) := some ((upd (upd nf 2 p1) 3 0))
set_option maxHeartbeats 4000000 in
set_option maxRecDepth 100000 in
theorem c_X2_enter (l : Launch) (Λ : LY) (hF : FL Λ) (σ : CS) (i : Nat) (r1 : Option Nat) (r2 : Option Nat) (nf : Nat → Int32) (h : Int64) (f : Nat → Int32) (o : Nat → Int32) (a : Nat → Int32) (b : Nat → Int32) (c : Nat → Int32) (tf : Nat → Int32) (tt : Nat → Int32) (tk : Nat → Int32) (p1 : Int32) (hii : i < 32)  {nf' : Nat → Int32} (hf : f_X2_enter nf p1 = some nf') : CM l yX2_enter (.code yX2_enter cX2_enter 2 none :: TT) ({ frames := 0, cells := 0, slots := 0, locals := 0 }) Λ [.ref (ya Λ 3 i), .int p1] (qNd σ i r1 r2 nf h f o a b c tf tt tk) (qNd σ i r1 r2 nf' h f o a b c tf tt tk) (none) := by
  refine CM_intro (own := RX2) (by decide) rfl (Nat.le_of_ble_eq_true rfl) ?_
  intro Γ hg hl hΓ hE
  subst hg; subst hl
  show GG Γ (0, 0) (qNd σ i r1 r2 nf h f o a b c tf tt tk) 0 [(0, .ref (ya (gl Γ) 3 i)), (1, .int p1)] []
  unfold f_X2_enter at hf
  refine G_aload_n hΓ 0 dX2_enter_0 rfl ?_
  refine G_iload_n hΓ 1 dX2_enter_1 rfl ?_
  refine F_put hΓ (t := 3) (i := i) (ci := 5) (C := RX2) (T := TX2) (N := 10) (fs2 (gl Γ) i) (f := nf) (f' := (upd nf 2 p1)) (σ' := (qNd σ i r1 r2 (upd nf 2 p1) h f o a b c tf tt tk)) (ty := .int) (v := .int p1) tyX2 tyX2_ok nmX2 (FLi hF (t := 3) hii) (fun _ _ _ => rfl) qNd_g3 qNd_s3 rfl inW2 2 (by decide) (TT_cons kw_168) rfl (by decide +kernel) rfl rfl (fun _ _ => Nat.le_of_ble_eq_true rfl) (fun _ _ => rfl) dX2_enter_2 ?_
  refine G_aload_n hΓ 0 dX2_enter_5 rfl ?_
  refine G_iconst (v := 0) hΓ dX2_enter_6 (by decide) ?_
  refine F_put hΓ (t := 3) (i := i) (ci := 5) (C := RX2) (T := TX2) (N := 10) (fs2 (gl Γ) i) (f := (upd nf 2 p1)) (f' := (upd (upd nf 2 p1) 3 0)) (σ' := (qNd σ i r1 r2 (upd (upd nf 2 p1) 3 0) h f o a b c tf tt tk)) (ty := .int) (v := .int 0) tyX2 tyX2_ok nmX2 (FLi hF (t := 3) hii) (fun _ _ _ => rfl) qNd_g3 qNd_s3 rfl inW2 3 (by decide) (TT_cons kw_170) rfl (by decide +kernel) rfl rfl (fun _ _ => Nat.le_of_ble_eq_true rfl) (fun _ _ => rfl) dX2_enter_7 ?_
  cases hf
  exact G_vret hΓ hE dX2_enter_10
theorem dX2_begin_0 : decode cX2_begin 0 = .ok (.aload_n 0, 1) := by decide +kernel
theorem dX2_begin_1 : decode cX2_begin 1 = .ok (.getfield 21, 3) := by decide +kernel
theorem dX2_begin_4 : decode cX2_begin 4 = .ok (.invokevirtual 25, 3) := by decide +kernel
theorem dX2_begin_7 : decode cX2_begin 7 = .ok (.aload_n 0, 1) := by decide +kernel
theorem dX2_begin_8 : decode cX2_begin 8 = .ok (.iconst 0, 1) := by decide +kernel
theorem dX2_begin_9 : decode cX2_begin 9 = .ok (.invokevirtual 28, 3) := by decide +kernel
theorem dX2_begin_12 : decode cX2_begin 12 = .ok (.aload_n 0, 1) := by decide +kernel
theorem dX2_begin_13 : decode cX2_begin 13 = .ok (.iconst 0, 1) := by decide +kernel
theorem dX2_begin_14 : decode cX2_begin 14 = .ok (.putfield 32, 3) := by decide +kernel
theorem dX2_begin_17 : decode cX2_begin 17 = .ok (.aload_n 0, 1) := by decide +kernel
theorem dX2_begin_18 : decode cX2_begin 18 = .ok (.iconst 0, 1) := by decide +kernel
theorem dX2_begin_19 : decode cX2_begin 19 = .ok (.putfield 36, 3) := by decide +kernel
theorem dX2_begin_22 : decode cX2_begin 22 = .ok (.aload_n 0, 1) := by decide +kernel
theorem dX2_begin_23 : decode cX2_begin 23 = .ok (.iconst 0, 1) := by decide +kernel
theorem dX2_begin_24 : decode cX2_begin 24 = .ok (.putfield 39, 3) := by decide +kernel
theorem dX2_begin_27 : decode cX2_begin 27 = .ok (.aload_n 0, 1) := by decide +kernel
theorem dX2_begin_28 : decode cX2_begin 28 = .ok (.aconst_null, 1) := by decide +kernel
theorem dX2_begin_29 : decode cX2_begin 29 = .ok (.putfield 42, 3) := by decide +kernel
theorem dX2_begin_32 : decode cX2_begin 32 = .ok (.aload_n 0, 1) := by decide +kernel
theorem dX2_begin_33 : decode cX2_begin 33 = .ok (.aconst_null, 1) := by decide +kernel
theorem dX2_begin_34 : decode cX2_begin 34 = .ok (.putfield 46, 3) := by decide +kernel
theorem dX2_begin_37 : decode cX2_begin 37 = .ok (.aload_n 0, 1) := by decide +kernel
theorem dX2_begin_38 : decode cX2_begin 38 = .ok (.iconst 0, 1) := by decide +kernel
theorem dX2_begin_39 : decode cX2_begin 39 = .ok (.putfield 49, 3) := by decide +kernel
theorem dX2_begin_42 : decode cX2_begin 42 = .ok (.return_, 1) := by decide +kernel
noncomputable def f_X2_begin  (r1 : Option Nat) (r2 : Option Nat) (nf : Nat → Int32) (tf : Nat → Int32)  : Option (Option Nat × Option Nat × (Nat → Int32) × (Nat → Int32)) := bd (f_X5_begin tf) (fun u1 => bd (f_X2_enter nf 0) (fun u3 => some (none, none, (upd (upd (upd (upd u3 4 0) 5 0) 6 0) 9 0), u1)))
set_option maxHeartbeats 4000000 in
set_option maxRecDepth 100000 in
theorem c_X2_begin (l : Launch) (Λ : LY) (hF : FL Λ) (σ : CS) (i : Nat) (r1 : Option Nat) (r2 : Option Nat) (nf : Nat → Int32) (h : Int64) (f : Nat → Int32) (o : Nat → Int32) (a : Nat → Int32) (b : Nat → Int32) (c : Nat → Int32) (tf : Nat → Int32) (tt : Nat → Int32) (tk : Nat → Int32)  (hii : i < 32)  {r1' : Option Nat} {r2' : Option Nat} {nf' : Nat → Int32} {tf' : Nat → Int32} (hf : f_X2_begin r1 r2 nf tf = some (r1', r2', nf', tf')) : CM l yX2_begin (.code yX2_begin cX2_begin 1 none :: TT) ({ frames := 1, cells := 0, slots := 0, locals := 21 }) Λ [.ref (ya Λ 3 i)] (qNd σ i r1 r2 nf h f o a b c tf tt tk) (qNd σ i r1' r2' nf' h f o a b c tf' tt tk) (none) := by
  refine CM_intro (own := RX2) (by decide) rfl (Nat.le_of_ble_eq_true rfl) ?_
  intro Γ hg hl hΓ hE
  subst hg; subst hl
  show GG Γ (0, 0) (qNd σ i r1 r2 nf h f o a b c tf tt tk) 0 [(0, .ref (ya (gl Γ) 3 i))] []
  unfold f_X2_begin at hf
  refine G_aload_n hΓ 0 dX2_begin_0 rfl ?_
  refine F_get hΓ (t := 3) (i := i) (ci := 5) (C := RX2) (T := TX2) (N := 10) (fs2 (gl Γ) i) (v := .ref (ya (gl Γ) 10 i)) (FLi hF (t := 3) hii) (fun _ _ _ => rfl) rfl rfl rfl rfl inW2 1 (by decide) (TT_cons kw_166) rfl dX2_begin_1 ?_
  obtain ⟨u1, hc2, hf⟩ := bd_some hf
  refine G_callV hΓ (n := 0) (As := []) (t := 10) (i := i) (ci := 8) (T := TX5) (N := 4) (FS := fs5 (gl Γ) i) (σ' := (qNd σ i r1 r2 nf h f o a b c u1 tt tk)) (c_X5_begin (gL Γ) (gl Γ) hF (qNd σ i r1 r2 nf h f o a b c tf tt tk) i tf tt tk  hii hc2) qTak_qNd qTak_qNd kw_283 kw_284 kw_285 kw_6 kw_286 ⟨rfl, by decide, by decide, by decide +kernel⟩ (FLi hF (t := 10) hii) (fun _ _ _ => rfl) rfl rfl rfl ⟨Nat.le_of_ble_eq_true rfl, Nat.le_of_ble_eq_true rfl⟩ rfl (Nat.le_of_ble_eq_true rfl) dX2_begin_4 ⟨_, rfl⟩ rfl ?_
  refine G_aload_n hΓ 0 dX2_begin_7 rfl ?_
  refine G_iconst (v := 0) hΓ dX2_begin_8 (by decide) ?_
  obtain ⟨u3, hc4, hf⟩ := bd_some hf
  refine G_callV hΓ (n := 1) (As := [.int 0]) (t := 3) (i := i) (ci := 5) (T := TX2) (N := 10) (FS := fs2 (gl Γ) i) (σ' := (qNd σ i r1 r2 u3 h f o a b c u1 tt tk)) (c_X2_enter (gL Γ) (gl Γ) hF σ i r1 r2 nf h f o a b c u1 tt tk 0 hii hc4) rfl rfl kw_287 kw_289 kp_1 kw_2 kw_290 ⟨rfl, by decide, by decide, by decide +kernel⟩ (FLi hF (t := 3) hii) (fun _ _ _ => rfl) rfl rfl rfl ⟨Nat.le_of_ble_eq_true rfl, Nat.le_of_ble_eq_true rfl⟩ rfl (Nat.le_of_ble_eq_true rfl) dX2_begin_9 ⟨_, rfl⟩ rfl ?_
  refine G_aload_n hΓ 0 dX2_begin_12 rfl ?_
  refine G_iconst (v := 0) hΓ dX2_begin_13 (by decide) ?_
  refine F_put hΓ (t := 3) (i := i) (ci := 5) (C := RX2) (T := TX2) (N := 10) (fs2 (gl Γ) i) (f := u3) (f' := (upd u3 4 0)) (σ' := (qNd σ i r1 r2 (upd u3 4 0) h f o a b c u1 tt tk)) (ty := .int) (v := .int 0) tyX2 tyX2_ok nmX2 (FLi hF (t := 3) hii) (fun _ _ _ => rfl) qNd_g3 qNd_s3 rfl inW2 4 (by decide) (TT_cons kw_171) rfl (by decide +kernel) rfl rfl (fun _ _ => Nat.le_of_ble_eq_true rfl) (fun _ _ => rfl) dX2_begin_14 ?_
  refine G_aload_n hΓ 0 dX2_begin_17 rfl ?_
  refine G_iconst (v := 0) hΓ dX2_begin_18 (by decide) ?_
  refine F_put hΓ (t := 3) (i := i) (ci := 5) (C := RX2) (T := TX2) (N := 10) (fs2 (gl Γ) i) (f := (upd u3 4 0)) (f' := (upd (upd u3 4 0) 5 0)) (σ' := (qNd σ i r1 r2 (upd (upd u3 4 0) 5 0) h f o a b c u1 tt tk)) (ty := .int) (v := .int 0) tyX2 tyX2_ok nmX2 (FLi hF (t := 3) hii) (fun _ _ _ => rfl) qNd_g3 qNd_s3 rfl inW2 5 (by decide) (TT_cons kw_173) rfl (by decide +kernel) rfl rfl (fun _ _ => Nat.le_of_ble_eq_true rfl) (fun _ _ => rfl) dX2_begin_19 ?_
  refine G_aload_n hΓ 0 dX2_begin_22 rfl ?_
  refine G_iconst (v := 0) hΓ dX2_begin_23 (by decide) ?_
  refine F_put hΓ (t := 3) (i := i) (ci := 5) (C := RX2) (T := TX2) (N := 10) (fs2 (gl Γ) i) (f := (upd (upd u3 4 0) 5 0)) (f' := (upd (upd (upd u3 4 0) 5 0) 6 0)) (σ' := (qNd σ i r1 r2 (upd (upd (upd u3 4 0) 5 0) 6 0) h f o a b c u1 tt tk)) (ty := .int) (v := .int 0) tyX2 tyX2_ok nmX2 (FLi hF (t := 3) hii) (fun _ _ _ => rfl) qNd_g3 qNd_s3 rfl inW2 6 (by decide) (TT_cons kw_175) rfl (by decide +kernel) rfl rfl (fun _ _ => Nat.le_of_ble_eq_true rfl) (fun _ _ => rfl) dX2_begin_24 ?_
  refine G_aload_n hΓ 0 dX2_begin_27 rfl ?_
  refine G_null hΓ dX2_begin_28 ?_
  refine F_putR hΓ (i := i) (r := rr r1 r2) (r' := rr none r2) (σ' := (qNd σ i none r2 (upd (upd (upd u3 4 0) 5 0) 6 0) h f o a b c u1 tt tk)) (ty := .object "CanBits$Frame") (v := va_rf (none.map (ya (gl Γ) 13))) (FLi hF (t := 3) hii) qNd_r qNd_sr inW2 7 (by decide) (TT_cons kw_177) rfl (by decide +kernel) fits_rf.1 fits_rf.2 (fun _ _ => Nat.le_of_ble_eq_true rfl) (fun _ _ => rfl) dX2_begin_29 ?_
  refine G_aload_n hΓ 0 dX2_begin_32 rfl ?_
  refine G_null hΓ dX2_begin_33 ?_
  refine F_putR hΓ (i := i) (r := rr none r2) (r' := rr none none) (σ' := (qNd σ i none none (upd (upd (upd u3 4 0) 5 0) 6 0) h f o a b c u1 tt tk)) (ty := .object "CanBits$Frame") (v := va_rf (none.map (ya (gl Γ) 13))) (FLi hF (t := 3) hii) qNd_r qNd_sr inW2 8 (by decide) (TT_cons kw_179) rfl (by decide +kernel) fits_rf.1 fits_rf.2 (fun _ _ => Nat.le_of_ble_eq_true rfl) (fun _ _ => rfl) dX2_begin_34 ?_
  refine G_aload_n hΓ 0 dX2_begin_37 rfl ?_
  refine G_iconst (v := 0) hΓ dX2_begin_38 (by decide) ?_
  refine F_put hΓ (t := 3) (i := i) (ci := 5) (C := RX2) (T := TX2) (N := 10) (fs2 (gl Γ) i) (f := (upd (upd (upd u3 4 0) 5 0) 6 0)) (f' := (upd (upd (upd (upd u3 4 0) 5 0) 6 0) 9 0)) (σ' := (qNd σ i none none (upd (upd (upd (upd u3 4 0) 5 0) 6 0) 9 0) h f o a b c u1 tt tk)) (ty := .int) (v := .int 0) tyX2 tyX2_ok nmX2 (FLi hF (t := 3) hii) (fun _ _ _ => rfl) qNd_g3 qNd_s3 rfl inW2 9 (by decide) (TT_cons kw_181) rfl (by decide +kernel) rfl rfl (fun _ _ => Nat.le_of_ble_eq_true rfl) (fun _ _ => rfl) dX2_begin_39 ?_
  cases hf
  exact G_vret hΓ hE dX2_begin_42
theorem dX2_startSending_0 : decode cX2_startSending 0 = .ok (.aload_n 0, 1) := by decide +kernel
theorem dX2_startSending_1 : decode cX2_startSending 1 = .ok (.iconst 1, 1) := by decide +kernel
theorem dX2_startSending_2 : decode cX2_startSending 2 = .ok (.invokevirtual 28, 3) := by decide +kernel
theorem dX2_startSending_5 : decode cX2_startSending 5 = .ok (.aload_n 0, 1) := by decide +kernel
theorem dX2_startSending_6 : decode cX2_startSending 6 = .ok (.aload_n 0, 1) := by decide +kernel
theorem dX2_startSending_7 : decode cX2_startSending 7 = .ok (.getfield 42, 3) := by decide +kernel
theorem dX2_startSending_10 : decode cX2_startSending 10 = .ok (.putfield 46, 3) := by decide +kernel
theorem dX2_startSending_13 : decode cX2_startSending 13 = .ok (.aload_n 0, 1) := by decide +kernel
theorem dX2_startSending_14 : decode cX2_startSending 14 = .ok (.iload_n 1, 1) := by decide +kernel
theorem dX2_startSending_15 : decode cX2_startSending 15 = .ok (.putfield 49, 3) := by decide +kernel
theorem dX2_startSending_18 : decode cX2_startSending 18 = .ok (.return_, 1) := by decide +kernel
noncomputable def f_X2_startSending  (r1 : Option Nat) (r2 : Option Nat) (nf : Nat → Int32) (p1 : Int32) : Option (Option Nat × Option Nat × (Nat → Int32)) := bd (f_X2_enter nf 1) (fun u1 => some (r1, r1, (upd u1 9 p1)))
set_option maxHeartbeats 4000000 in
set_option maxRecDepth 100000 in
theorem c_X2_startSending (l : Launch) (Λ : LY) (hF : FL Λ) (σ : CS) (i : Nat) (r1 : Option Nat) (r2 : Option Nat) (nf : Nat → Int32) (h : Int64) (f : Nat → Int32) (o : Nat → Int32) (a : Nat → Int32) (b : Nat → Int32) (c : Nat → Int32) (tf : Nat → Int32) (tt : Nat → Int32) (tk : Nat → Int32) (p1 : Int32) (hii : i < 32)  {r1' : Option Nat} {r2' : Option Nat} {nf' : Nat → Int32} (hf : f_X2_startSending r1 r2 nf p1 = some (r1', r2', nf')) : CM l yX2_startSending (.code yX2_startSending cX2_startSending 2 none :: TT) ({ frames := 1, cells := 0, slots := 0, locals := 21 }) Λ [.ref (ya Λ 3 i), .int p1] (qNd σ i r1 r2 nf h f o a b c tf tt tk) (qNd σ i r1' r2' nf' h f o a b c tf tt tk) (none) := by
  refine CM_intro (own := RX2) (by decide) rfl (Nat.le_of_ble_eq_true rfl) ?_
  intro Γ hg hl hΓ hE
  subst hg; subst hl
  show GG Γ (0, 0) (qNd σ i r1 r2 nf h f o a b c tf tt tk) 0 [(0, .ref (ya (gl Γ) 3 i)), (1, .int p1)] []
  unfold f_X2_startSending at hf
  refine G_aload_n hΓ 0 dX2_startSending_0 rfl ?_
  refine G_iconst (v := 1) hΓ dX2_startSending_1 (by decide) ?_
  obtain ⟨u1, hc2, hf⟩ := bd_some hf
  refine G_callV hΓ (n := 1) (As := [.int 1]) (t := 3) (i := i) (ci := 5) (T := TX2) (N := 10) (FS := fs2 (gl Γ) i) (σ' := (qNd σ i r1 r2 u1 h f o a b c tf tt tk)) (c_X2_enter (gL Γ) (gl Γ) hF σ i r1 r2 nf h f o a b c tf tt tk 1 hii hc2) rfl rfl kw_287 kw_289 kp_1 kw_2 kw_290 ⟨rfl, by decide, by decide, by decide +kernel⟩ (FLi hF (t := 3) hii) (fun _ _ _ => rfl) rfl rfl rfl ⟨Nat.le_of_ble_eq_true rfl, Nat.le_of_ble_eq_true rfl⟩ rfl (Nat.le_of_ble_eq_true rfl) dX2_startSending_2 ⟨_, rfl⟩ rfl ?_
  refine G_aload_n hΓ 0 dX2_startSending_5 rfl ?_
  refine G_aload_n hΓ 0 dX2_startSending_6 rfl ?_
  refine F_get hΓ (t := 3) (i := i) (ci := 5) (C := RX2) (T := TX2) (N := 10) (fs2 (gl Γ) i) (v := va_rf (r1.map (ya (gl Γ) 13))) (FLi hF (t := 3) hii) (fun _ _ _ => rfl) rfl rfl qNd_r rfl inW2 7 (by decide) (TT_cons kw_177) rfl dX2_startSending_7 ?_
  refine F_putR hΓ (i := i) (r := rr r1 r2) (r' := rr r1 r1) (σ' := (qNd σ i r1 r1 u1 h f o a b c tf tt tk)) (ty := .object "CanBits$Frame") (v := va_rf (r1.map (ya (gl Γ) 13))) (FLi hF (t := 3) hii) qNd_r qNd_sr inW2 8 (by decide) (TT_cons kw_179) rfl (by decide +kernel) fits_rf.1 fits_rf.2 (fun _ _ => Nat.le_of_ble_eq_true rfl) (fun _ _ => rfl) dX2_startSending_10 ?_
  refine G_aload_n hΓ 0 dX2_startSending_13 rfl ?_
  refine G_iload_n hΓ 1 dX2_startSending_14 rfl ?_
  refine F_put hΓ (t := 3) (i := i) (ci := 5) (C := RX2) (T := TX2) (N := 10) (fs2 (gl Γ) i) (f := u1) (f' := (upd u1 9 p1)) (σ' := (qNd σ i r1 r1 (upd u1 9 p1) h f o a b c tf tt tk)) (ty := .int) (v := .int p1) tyX2 tyX2_ok nmX2 (FLi hF (t := 3) hii) (fun _ _ _ => rfl) qNd_g3 qNd_s3 rfl inW2 9 (by decide) (TT_cons kw_181) rfl (by decide +kernel) rfl rfl (fun _ _ => Nat.le_of_ble_eq_true rfl) (fun _ _ => rfl) dX2_startSending_15 ?_
  cases hf
  exact G_vret hΓ hE dX2_startSending_18
theorem dX2_isSending_0 : decode cX2_isSending 0 = .ok (.aload_n 0, 1) := by decide +kernel
theorem dX2_isSending_1 : decode cX2_isSending 1 = .ok (.getfield 52, 3) := by decide +kernel
theorem dX2_isSending_4 : decode cX2_isSending 4 = .ok (.iconst 1, 1) := by decide +kernel
theorem dX2_isSending_5 : decode cX2_isSending 5 = .ok (.if_icmp .ne 15, 3) := by decide +kernel
theorem dX2_isSending_8 : decode cX2_isSending 8 = .ok (.aload_n 0, 1) := by decide +kernel
theorem dX2_isSending_9 : decode cX2_isSending 9 = .ok (.getfield 46, 3) := by decide +kernel
theorem dX2_isSending_12 : decode cX2_isSending 12 = .ok (.aload_n 1, 1) := by decide +kernel
theorem dX2_isSending_13 : decode cX2_isSending 13 = .ok (.if_acmp .ne 7, 3) := by decide +kernel
theorem dX2_isSending_16 : decode cX2_isSending 16 = .ok (.iconst 1, 1) := by decide +kernel
theorem dX2_isSending_17 : decode cX2_isSending 17 = .ok (.goto 4, 3) := by decide +kernel
theorem dX2_isSending_20 : decode cX2_isSending 20 = .ok (.iconst 0, 1) := by decide +kernel
theorem dX2_isSending_21 : decode cX2_isSending 21 = .ok (.ireturn, 1) := by decide +kernel
noncomputable def f_X2_isSending (j : Nat) (r2 : Option Nat) (nf : Nat → Int32)  : Option (Int32) := jn (α := Int32) (fun x1 => some (x1)) (fun k3 => if (nf 2) = 1 then gd (okr r2) (if r2 = some j then k3 1 else k3 0) else k3 0)
set_option maxHeartbeats 4000000 in
set_option maxRecDepth 100000 in
theorem c_X2_isSending (l : Launch) (Λ : LY) (hF : FL Λ) (σ : CS) (i : Nat) (j : Nat) (r1 : Option Nat) (r2 : Option Nat) (nf : Nat → Int32) (h : Int64) (f : Nat → Int32) (o : Nat → Int32) (a : Nat → Int32) (b : Nat → Int32) (c : Nat → Int32) (tf : Nat → Int32) (tt : Nat → Int32) (tk : Nat → Int32)  (hii : i < 32) (hij : j < 200)  {r9 : Int32} (hf : f_X2_isSending j r2 nf = some r9) : CM l yX2_isSending (.code yX2_isSending cX2_isSending 2 (some .boolean) :: TT) ({ frames := 0, cells := 0, slots := 0, locals := 0 }) Λ [.ref (ya Λ 3 i), .ref (ya Λ 13 j)] (qNd σ i r1 r2 nf h f o a b c tf tt tk) (qNd σ i r1 r2 nf h f o a b c tf tt tk) (some (.int r9)) := by
  refine CM_intro (own := RX2) (by decide) rfl (Nat.le_of_ble_eq_true rfl) ?_
  intro Γ hg hl hΓ hE
  subst hg; subst hl
  show GG Γ (0, 0) (qNd σ i r1 r2 nf h f o a b c tf tt tk) 0 [(0, .ref (ya (gl Γ) 3 i)), (1, .ref (ya (gl Γ) 13 j))] []
  unfold f_X2_isSending at hf
  refine G_aload_n hΓ 0 dX2_isSending_0 rfl ?_
  refine F_get hΓ (t := 3) (i := i) (ci := 5) (C := RX2) (T := TX2) (N := 10) (fs2 (gl Γ) i) (v := .int (nf 2)) (FLi hF (t := 3) hii) (fun _ _ _ => rfl) qNd_g3 rfl rfl rfl inW2 2 (by decide) (TT_cons kw_168) rfl dX2_isSending_1 ?_
  refine G_iconst (v := 1) hΓ dX2_isSending_4 (by decide) ?_
  obtain ⟨k3, hk_k3, hf⟩ := jn_eq hf
  try dsimp only at hf
  have K4 : ∀ x1, (x1 = 0 ∨ x1 = 1) → k3 x1 = some r9 → GG Γ (0, 0) (qNd σ i r1 r2 nf h f o a b c tf tt tk) 21 [(0, .ref (ya (gl Γ) 3 i)), (1, .ref (ya (gl Γ) 13 j))] [.int x1] := by
    intro x1 hb_x1 hf
    subst hk_k3
    try dsimp only at hf
    cases hf
    exact G_zret hΓ (nar01 hb_x1) hE dX2_isSending_21
  clear hk_k3
  refine G_icmp_ne hΓ (tgt := 20) dX2_isSending_5 (by decide) (fun hc7 => ?_) (fun hc7 => ?_)
  · rw [if_neg hc7] at hf
    refine G_iconst (v := 0) hΓ dX2_isSending_20 (by decide) ?_
    exact K4 _ (Or.inl rfl) hf
  · rw [if_pos hc7] at hf
    refine G_aload_n hΓ 0 dX2_isSending_8 rfl ?_
    refine F_get hΓ (t := 3) (i := i) (ci := 5) (C := RX2) (T := TX2) (N := 10) (fs2 (gl Γ) i) (v := va_rf (r2.map (ya (gl Γ) 13))) (FLi hF (t := 3) hii) (fun _ _ _ => rfl) rfl rfl qNd_r rfl inW2 8 (by decide) (TT_cons kw_179) rfl dX2_isSending_9 ?_
    refine G_aload_n hΓ 1 dX2_isSending_12 rfl ?_
    obtain ⟨hg5, hf⟩ := gd_some hf
    refine G_acmp_ne hΓ (rx := r2.map (ya (gl Γ) 13)) (ry := some (ya (gl Γ) 13 j)) (tgt := 20) dX2_isSending_13 (by decide) (fun hc6 => ?_) (fun hc6 => ?_)
    · rw [map_inj hF (GO_O hΓ) hg5 hij] at hc6
      rw [if_neg hc6] at hf
      refine G_iconst (v := 0) hΓ dX2_isSending_20 (by decide) ?_
      exact K4 _ (Or.inl rfl) hf
    · rw [map_inj hF (GO_O hΓ) hg5 hij] at hc6
      rw [if_pos hc6] at hf
      refine G_iconst (v := 1) hΓ dX2_isSending_16 (by decide) ?_
      refine G_goto hΓ (tgt := 21) dX2_isSending_17 (by decide) ?_
      exact K4 _ (Or.inr rfl) hf
theorem dX2_put_0 : decode cX2_put 0 = .ok (.aload_n 0, 1) := by decide +kernel
theorem dX2_put_1 : decode cX2_put 1 = .ok (.getfield 52, 3) := by decide +kernel
theorem dX2_put_4 : decode cX2_put 4 = .ok (.ifCond .ne 15, 3) := by decide +kernel
theorem dX2_put_7 : decode cX2_put 7 = .ok (.aload_n 0, 1) := by decide +kernel
theorem dX2_put_8 : decode cX2_put 8 = .ok (.getfield 42, 3) := by decide +kernel
theorem dX2_put_11 : decode cX2_put 11 = .ok (.ifnull 8, 3) := by decide +kernel
theorem dX2_put_14 : decode cX2_put 14 = .ok (.aload_n 0, 1) := by decide +kernel
theorem dX2_put_15 : decode cX2_put 15 = .ok (.iconst 0, 1) := by decide +kernel
theorem dX2_put_16 : decode cX2_put 16 = .ok (.invokevirtual 55, 3) := by decide +kernel
theorem dX2_put_19 : decode cX2_put 19 = .ok (.aload_n 0, 1) := by decide +kernel
theorem dX2_put_20 : decode cX2_put 20 = .ok (.getfield 52, 3) := by decide +kernel
theorem dX2_put_23 : decode cX2_put 23 = .ok (.iconst 1, 1) := by decide +kernel
theorem dX2_put_24 : decode cX2_put 24 = .ok (.if_icmp .ne 22, 3) := by decide +kernel
theorem dX2_put_27 : decode cX2_put 27 = .ok (.aload_n 0, 1) := by decide +kernel
theorem dX2_put_28 : decode cX2_put 28 = .ok (.getfield 46, 3) := by decide +kernel
theorem dX2_put_31 : decode cX2_put 31 = .ok (.ifnull 15, 3) := by decide +kernel
theorem dX2_put_34 : decode cX2_put 34 = .ok (.aload_n 0, 1) := by decide +kernel
theorem dX2_put_35 : decode cX2_put 35 = .ok (.getfield 46, 3) := by decide +kernel
theorem dX2_put_38 : decode cX2_put 38 = .ok (.aload_n 0, 1) := by decide +kernel
theorem dX2_put_39 : decode cX2_put 39 = .ok (.getfield 49, 3) := by decide +kernel
theorem dX2_put_42 : decode cX2_put 42 = .ok (.invokevirtual 58, 3) := by decide +kernel
theorem dX2_put_45 : decode cX2_put 45 = .ok (.ireturn, 1) := by decide +kernel
theorem dX2_put_46 : decode cX2_put 46 = .ok (.aload_n 0, 1) := by decide +kernel
theorem dX2_put_47 : decode cX2_put 47 = .ok (.getfield 52, 3) := by decide +kernel
theorem dX2_put_50 : decode cX2_put 50 = .ok (.iconst 3, 1) := by decide +kernel
theorem dX2_put_51 : decode cX2_put 51 = .ok (.if_icmp .eq 21, 3) := by decide +kernel
theorem dX2_put_54 : decode cX2_put 54 = .ok (.aload_n 0, 1) := by decide +kernel
theorem dX2_put_55 : decode cX2_put 55 = .ok (.getfield 52, 3) := by decide +kernel
theorem dX2_put_58 : decode cX2_put 58 = .ok (.iconst 2, 1) := by decide +kernel
theorem dX2_put_59 : decode cX2_put 59 = .ok (.if_icmp .ne 17, 3) := by decide +kernel
theorem dX2_put_62 : decode cX2_put 62 = .ok (.aload_n 0, 1) := by decide +kernel
theorem dX2_put_63 : decode cX2_put 63 = .ok (.getfield 12, 3) := by decide +kernel
theorem dX2_put_66 : decode cX2_put 66 = .ok (.invokevirtual 64, 3) := by decide +kernel
theorem dX2_put_69 : decode cX2_put 69 = .ok (.ifCond .eq 7, 3) := by decide +kernel
theorem dX2_put_72 : decode cX2_put 72 = .ok (.iconst 0, 1) := by decide +kernel
theorem dX2_put_73 : decode cX2_put 73 = .ok (.goto 4, 3) := by decide +kernel
theorem dX2_put_76 : decode cX2_put 76 = .ok (.iconst 1, 1) := by decide +kernel
theorem dX2_put_77 : decode cX2_put 77 = .ok (.ireturn, 1) := by decide +kernel
noncomputable def f_X2_put  (r1 : Option Nat) (r2 : Option Nat) (nf : Nat → Int32) (f : Nat → Int32) (φ : Nat → Nat → Int32) (φb : Nat → Nat → Int32)  : Option (Option Nat × Option Nat × (Nat → Int32) × Int32) := jn (α := Option Nat × Option Nat × (Nat → Int32)) (fun ⟨x1, x2, x3⟩ => if (x3 2) = 1 then oc x2 (jn (α := Int32) (fun x17 => some (x1, none, x3, x17)) (fun k19 => if (x3 2) = 3 then k19 0 else if (x3 2) = 2 then bd (f_X1_acknowledges f) (fun u21 => if u21 = 0 then k19 1 else k19 0) else k19 1)) (fun j15 => gd (j15 < 200) (bd (f_X0_rowBit (φ j15) (φb j15) (x3 9)) (fun u26 => some (x1, (some j15), x3, u26)))) else jn (α := Int32) (fun x6 => some (x1, x2, x3, x6)) (fun k8 => if (x3 2) = 3 then k8 0 else if (x3 2) = 2 then bd (f_X1_acknowledges f) (fun u10 => if u10 = 0 then k8 1 else k8 0) else k8 1)) (fun k4 => if (nf 2) = 0 then oc r1 (k4 (none, r2, nf)) (fun j29 => gd (j29 < 200) (bd (f_X2_startSending (some j29) r2 nf 0) (fun ⟨u31, u32, u33⟩ => k4 (u31, u32, u33)))) else k4 (r1, r2, nf))
set_option maxHeartbeats 4000000 in
set_option maxRecDepth 100000 in
theorem c_X2_put (l : Launch) (Λ : LY) (hF : FL Λ) (σ : CS) (i : Nat) (r1 : Option Nat) (r2 : Option Nat) (nf : Nat → Int32) (h : Int64) (f : Nat → Int32) (o : Nat → Int32) (a : Nat → Int32) (b : Nat → Int32) (c : Nat → Int32) (tf : Nat → Int32) (tt : Nat → Int32) (tk : Nat → Int32) (φ : Nat → Nat → Int32) (φb : Nat → Nat → Int32)  (hii : i < 32) (hr_φ : σ.1 13  = φ) (hr_φb : σ.1 15  = φb) {r1' : Option Nat} {r2' : Option Nat} {nf' : Nat → Int32} {r9 : Int32} (hf : f_X2_put r1 r2 nf f φ φb = some (r1', r2', nf', r9)) : CM l yX2_put (.code yX2_put cX2_put 1 (some .int) :: TT) ({ frames := 2, cells := 0, slots := 0, locals := 42 }) Λ [.ref (ya Λ 3 i)] (qNd σ i r1 r2 nf h f o a b c tf tt tk) (qNd σ i r1' r2' nf' h f o a b c tf tt tk) (some (.int r9)) := by
  refine CM_intro (own := RX2) (by decide) rfl (Nat.le_of_ble_eq_true rfl) ?_
  intro Γ hg hl hΓ hE
  subst hg; subst hl
  show GG Γ (0, 0) (qNd σ i r1 r2 nf h f o a b c tf tt tk) 0 [(0, .ref (ya (gl Γ) 3 i))] []
  unfold f_X2_put at hf
  refine G_aload_n hΓ 0 dX2_put_0 rfl ?_
  refine F_get hΓ (t := 3) (i := i) (ci := 5) (C := RX2) (T := TX2) (N := 10) (fs2 (gl Γ) i) (v := .int (nf 2)) (FLi hF (t := 3) hii) (fun _ _ _ => rfl) qNd_g3 rfl rfl rfl inW2 2 (by decide) (TT_cons kw_168) rfl dX2_put_1 ?_
  obtain ⟨k4, hk_k4, hf⟩ := jn_eq hf
  try dsimp only at hf
  have K5 : ∀ x1 x2 x3, k4 (x1, x2, x3) = some (r1', r2', nf', r9) → GG Γ (0, 0) (qNd σ i x1 x2 x3 h f o a b c tf tt tk) 19 [(0, .ref (ya (gl Γ) 3 i))] [] := by
    intro x1 x2 x3 hf
    subst hk_k4
    try dsimp only at hf
    refine G_aload_n hΓ 0 dX2_put_19 rfl ?_
    refine F_get hΓ (t := 3) (i := i) (ci := 5) (C := RX2) (T := TX2) (N := 10) (fs2 (gl Γ) i) (v := .int (x3 2)) (FLi hF (t := 3) hii) (fun _ _ _ => rfl) qNd_g3 rfl rfl rfl inW2 2 (by decide) (TT_cons kw_168) rfl dX2_put_20 ?_
    refine G_iconst (v := 1) hΓ dX2_put_23 (by decide) ?_
    refine G_icmp_ne hΓ (tgt := 46) dX2_put_24 (by decide) (fun hc28 => ?_) (fun hc28 => ?_)
    · rw [if_neg hc28] at hf
      refine G_aload_n hΓ 0 dX2_put_46 rfl ?_
      refine F_get hΓ (t := 3) (i := i) (ci := 5) (C := RX2) (T := TX2) (N := 10) (fs2 (gl Γ) i) (v := .int (x3 2)) (FLi hF (t := 3) hii) (fun _ _ _ => rfl) qNd_g3 rfl rfl rfl inW2 2 (by decide) (TT_cons kw_168) rfl dX2_put_47 ?_
      refine G_iconst (v := 3) hΓ dX2_put_50 (by decide) ?_
      obtain ⟨k8, hk_k8, hf⟩ := jn_eq hf
      try dsimp only at hf
      have K9 : ∀ x6, (x6 = 0 ∨ x6 = 1) → k8 x6 = some (r1', r2', nf', r9) → GG Γ (0, 0) (qNd σ i x1 x2 x3 h f o a b c tf tt tk) 77 [(0, .ref (ya (gl Γ) 3 i))] [.int x6] := by
        intro x6 hb_x6 hf
        subst hk_k8
        try dsimp only at hf
        cases hf
        exact G_iret hΓ hE dX2_put_77
      clear hk_k8
      refine G_icmp_eq hΓ (tgt := 72) dX2_put_51 (by decide) (fun hc14 => ?_) (fun hc14 => ?_)
      · rw [if_pos hc14] at hf
        refine G_iconst (v := 0) hΓ dX2_put_72 (by decide) ?_
        refine G_goto hΓ (tgt := 77) dX2_put_73 (by decide) ?_
        exact K9 _ (Or.inl rfl) hf
      · rw [if_neg hc14] at hf
        refine G_aload_n hΓ 0 dX2_put_54 rfl ?_
        refine F_get hΓ (t := 3) (i := i) (ci := 5) (C := RX2) (T := TX2) (N := 10) (fs2 (gl Γ) i) (v := .int (x3 2)) (FLi hF (t := 3) hii) (fun _ _ _ => rfl) qNd_g3 rfl rfl rfl inW2 2 (by decide) (TT_cons kw_168) rfl dX2_put_55 ?_
        refine G_iconst (v := 2) hΓ dX2_put_58 (by decide) ?_
        refine G_icmp_ne hΓ (tgt := 76) dX2_put_59 (by decide) (fun hc13 => ?_) (fun hc13 => ?_)
        · rw [if_neg hc13] at hf
          refine G_iconst (v := 1) hΓ dX2_put_76 (by decide) ?_
          exact K9 _ (Or.inr rfl) hf
        · rw [if_pos hc13] at hf
          refine G_aload_n hΓ 0 dX2_put_62 rfl ?_
          refine F_get hΓ (t := 3) (i := i) (ci := 5) (C := RX2) (T := TX2) (N := 10) (fs2 (gl Γ) i) (v := .ref (ya (gl Γ) 4 i)) (FLi hF (t := 3) hii) (fun _ _ _ => rfl) rfl rfl rfl rfl inW2 0 (by decide) (TT_cons kw_165) rfl dX2_put_63 ?_
          obtain ⟨u10, hc11, hf⟩ := bd_some hf
          refine G_callV hΓ (n := 0) (As := []) (t := 4) (i := i) (ci := 4) (T := TX1) (N := 17) (FS := fs1 (gl Γ) i) (σ' := (qNd σ i x1 x2 x3 h f o a b c tf tt tk)) (c_X1_acknowledges (gL Γ) (gl Γ) hF (qNd σ i x1 x2 x3 h f o a b c tf tt tk) i h f  hii qNd_h qNd_g4 hc11) rfl rfl kw_672 kw_673 kw_674 kw_3 kw_675 ⟨rfl, by decide, by decide, by decide +kernel⟩ (FLi hF (t := 4) hii) (fun _ _ _ => rfl) rfl rfl rfl ⟨Nat.le_of_ble_eq_true rfl, Nat.le_of_ble_eq_true rfl⟩ rfl (Nat.le_of_ble_eq_true rfl) dX2_put_66 ⟨_, rfl⟩ rfl ?_
          refine G_if_eq hΓ (tgt := 76) dX2_put_69 (by decide) (fun hc12 => ?_) (fun hc12 => ?_)
          · rw [if_pos hc12] at hf
            refine G_iconst (v := 1) hΓ dX2_put_76 (by decide) ?_
            exact K9 _ (Or.inr rfl) hf
          · rw [if_neg hc12] at hf
            refine G_iconst (v := 0) hΓ dX2_put_72 (by decide) ?_
            refine G_goto hΓ (tgt := 77) dX2_put_73 (by decide) ?_
            exact K9 _ (Or.inl rfl) hf
    · rw [if_pos hc28] at hf
      refine G_aload_n hΓ 0 dX2_put_27 rfl ?_
      refine F_get hΓ (t := 3) (i := i) (ci := 5) (C := RX2) (T := TX2) (N := 10) (fs2 (gl Γ) i) (v := va_rf (x2.map (ya (gl Γ) 13))) (FLi hF (t := 3) hii) (fun _ _ _ => rfl) rfl rfl qNd_r rfl inW2 8 (by decide) (TT_cons kw_179) rfl dX2_put_28 ?_
      rcases x2 with _ | j15
      · replace hf := oc_n hf
        refine G_ifnullN hΓ (tgt := 46) dX2_put_31 (by decide) ?_
        refine G_aload_n hΓ 0 dX2_put_46 rfl ?_
        refine F_get hΓ (t := 3) (i := i) (ci := 5) (C := RX2) (T := TX2) (N := 10) (fs2 (gl Γ) i) (v := .int (x3 2)) (FLi hF (t := 3) hii) (fun _ _ _ => rfl) qNd_g3 rfl rfl rfl inW2 2 (by decide) (TT_cons kw_168) rfl dX2_put_47 ?_
        refine G_iconst (v := 3) hΓ dX2_put_50 (by decide) ?_
        obtain ⟨k19, hk_k19, hf⟩ := jn_eq hf
        try dsimp only at hf
        have K20 : ∀ x17, (x17 = 0 ∨ x17 = 1) → k19 x17 = some (r1', r2', nf', r9) → GG Γ (0, 0) (qNd σ i x1 none x3 h f o a b c tf tt tk) 77 [(0, .ref (ya (gl Γ) 3 i))] [.int x17] := by
          intro x17 hb_x17 hf
          subst hk_k19
          try dsimp only at hf
          cases hf
          exact G_iret hΓ hE dX2_put_77
        clear hk_k19
        refine G_icmp_eq hΓ (tgt := 72) dX2_put_51 (by decide) (fun hc25 => ?_) (fun hc25 => ?_)
        · rw [if_pos hc25] at hf
          refine G_iconst (v := 0) hΓ dX2_put_72 (by decide) ?_
          refine G_goto hΓ (tgt := 77) dX2_put_73 (by decide) ?_
          exact K20 _ (Or.inl rfl) hf
        · rw [if_neg hc25] at hf
          refine G_aload_n hΓ 0 dX2_put_54 rfl ?_
          refine F_get hΓ (t := 3) (i := i) (ci := 5) (C := RX2) (T := TX2) (N := 10) (fs2 (gl Γ) i) (v := .int (x3 2)) (FLi hF (t := 3) hii) (fun _ _ _ => rfl) qNd_g3 rfl rfl rfl inW2 2 (by decide) (TT_cons kw_168) rfl dX2_put_55 ?_
          refine G_iconst (v := 2) hΓ dX2_put_58 (by decide) ?_
          refine G_icmp_ne hΓ (tgt := 76) dX2_put_59 (by decide) (fun hc24 => ?_) (fun hc24 => ?_)
          · rw [if_neg hc24] at hf
            refine G_iconst (v := 1) hΓ dX2_put_76 (by decide) ?_
            exact K20 _ (Or.inr rfl) hf
          · rw [if_pos hc24] at hf
            refine G_aload_n hΓ 0 dX2_put_62 rfl ?_
            refine F_get hΓ (t := 3) (i := i) (ci := 5) (C := RX2) (T := TX2) (N := 10) (fs2 (gl Γ) i) (v := .ref (ya (gl Γ) 4 i)) (FLi hF (t := 3) hii) (fun _ _ _ => rfl) rfl rfl rfl rfl inW2 0 (by decide) (TT_cons kw_165) rfl dX2_put_63 ?_
            obtain ⟨u21, hc22, hf⟩ := bd_some hf
            refine G_callV hΓ (n := 0) (As := []) (t := 4) (i := i) (ci := 4) (T := TX1) (N := 17) (FS := fs1 (gl Γ) i) (σ' := (qNd σ i x1 none x3 h f o a b c tf tt tk)) (c_X1_acknowledges (gL Γ) (gl Γ) hF (qNd σ i x1 none x3 h f o a b c tf tt tk) i h f  hii qNd_h qNd_g4 hc22) rfl rfl kw_672 kw_673 kw_674 kw_3 kw_675 ⟨rfl, by decide, by decide, by decide +kernel⟩ (FLi hF (t := 4) hii) (fun _ _ _ => rfl) rfl rfl rfl ⟨Nat.le_of_ble_eq_true rfl, Nat.le_of_ble_eq_true rfl⟩ rfl (Nat.le_of_ble_eq_true rfl) dX2_put_66 ⟨_, rfl⟩ rfl ?_
            refine G_if_eq hΓ (tgt := 76) dX2_put_69 (by decide) (fun hc23 => ?_) (fun hc23 => ?_)
            · rw [if_pos hc23] at hf
              refine G_iconst (v := 1) hΓ dX2_put_76 (by decide) ?_
              exact K20 _ (Or.inr rfl) hf
            · rw [if_neg hc23] at hf
              refine G_iconst (v := 0) hΓ dX2_put_72 (by decide) ?_
              refine G_goto hΓ (tgt := 77) dX2_put_73 (by decide) ?_
              exact K20 _ (Or.inl rfl) hf
      · replace hf := oc_s hf
        obtain ⟨hij15, hf⟩ := gd_some hf
        refine G_ifnull hΓ dX2_put_31 ?_
        refine G_aload_n hΓ 0 dX2_put_34 rfl ?_
        refine F_get hΓ (t := 3) (i := i) (ci := 5) (C := RX2) (T := TX2) (N := 10) (fs2 (gl Γ) i) (v := .ref (ya (gl Γ) 13 j15)) (FLi hF (t := 3) hii) (fun _ _ _ => rfl) rfl rfl qNd_r rfl inW2 8 (by decide) (TT_cons kw_179) rfl dX2_put_35 ?_
        refine G_aload_n hΓ 0 dX2_put_38 rfl ?_
        refine F_get hΓ (t := 3) (i := i) (ci := 5) (C := RX2) (T := TX2) (N := 10) (fs2 (gl Γ) i) (v := .int (x3 9)) (FLi hF (t := 3) hii) (fun _ _ _ => rfl) qNd_g3 rfl rfl rfl inW2 9 (by decide) (TT_cons kw_181) rfl dX2_put_39 ?_
        obtain ⟨u26, hc27, hf⟩ := bd_some hf
        refine G_callV hΓ (n := 1) (As := [.int (x3 9)]) (t := 13) (i := j15) (ci := 3) (T := TX0) (N := 9) (FS := fs0 (gl Γ) j15) (σ' := (qNd σ i x1 (some j15) x3 h f o a b c tf tt tk)) (c_X0_rowBit (gL Γ) (gl Γ) hF (qNd σ i x1 (some j15) x3 h f o a b c tf tt tk) j15 _ (φ j15) _ (φb j15) (x3 9) hij15 rfl (congrFun hr_φ j15) rfl (congrFun hr_φb j15) hc27) rfl rfl kw_668 kw_669 kw_670 kw_7 kw_671 ⟨rfl, by decide, by decide, by decide +kernel⟩ (FLi hF (t := 13) hij15) (fun _ _ _ => rfl) rfl rfl rfl ⟨Nat.le_of_ble_eq_true rfl, Nat.le_of_ble_eq_true rfl⟩ rfl (Nat.le_of_ble_eq_true rfl) dX2_put_42 ⟨_, rfl⟩ rfl ?_
        cases hf
        exact G_iret hΓ hE dX2_put_45
  clear hk_k4
  refine G_if_ne hΓ (tgt := 19) dX2_put_4 (by decide) (fun hc35 => ?_) (fun hc35 => ?_)
  · rw [if_neg hc35] at hf
    exact K5 _ _ _ hf
  · rw [if_pos hc35] at hf
    refine G_aload_n hΓ 0 dX2_put_7 rfl ?_
    refine F_get hΓ (t := 3) (i := i) (ci := 5) (C := RX2) (T := TX2) (N := 10) (fs2 (gl Γ) i) (v := va_rf (r1.map (ya (gl Γ) 13))) (FLi hF (t := 3) hii) (fun _ _ _ => rfl) rfl rfl qNd_r rfl inW2 7 (by decide) (TT_cons kw_177) rfl dX2_put_8 ?_
    rcases r1 with _ | j29
    · replace hf := oc_n hf
      refine G_ifnullN hΓ (tgt := 19) dX2_put_11 (by decide) ?_
      exact K5 _ _ _ hf
    · replace hf := oc_s hf
      obtain ⟨hij29, hf⟩ := gd_some hf
      refine G_ifnull hΓ dX2_put_11 ?_
      refine G_aload_n hΓ 0 dX2_put_14 rfl ?_
      refine G_iconst (v := 0) hΓ dX2_put_15 (by decide) ?_
      obtain ⟨⟨u31, u32, u33⟩, hc34, hf⟩ := bd_some hf
      try dsimp only at hf
      refine G_callV hΓ (n := 1) (As := [.int 0]) (t := 3) (i := i) (ci := 5) (T := TX2) (N := 10) (FS := fs2 (gl Γ) i) (σ' := (qNd σ i u31 u32 u33 h f o a b c tf tt tk)) (c_X2_startSending (gL Γ) (gl Γ) hF σ i (some j29) r2 nf h f o a b c tf tt tk 0 hii hc34) rfl rfl kw_664 kw_666 kp_12 kw_2 kw_667 ⟨rfl, by decide, by decide, by decide +kernel⟩ (FLi hF (t := 3) hii) (fun _ _ _ => rfl) rfl rfl rfl ⟨Nat.le_of_ble_eq_true rfl, Nat.le_of_ble_eq_true rfl⟩ rfl (Nat.le_of_ble_eq_true rfl) dX2_put_16 ⟨_, rfl⟩ rfl ?_
      exact K5 _ _ _ hf
theorem dX2_turnToListening_0 : decode cX2_turnToListening 0 = .ok (.aload_n 0, 1) := by decide +kernel
theorem dX2_turnToListening_1 : decode cX2_turnToListening 1 = .ok (.getfield 52, 3) := by decide +kernel
theorem dX2_turnToListening_4 : decode cX2_turnToListening 4 = .ok (.ifCond .eq 27, 3) := by decide +kernel
theorem dX2_turnToListening_7 : decode cX2_turnToListening 7 = .ok (.aload_n 0, 1) := by decide +kernel
theorem dX2_turnToListening_8 : decode cX2_turnToListening 8 = .ok (.getfield 52, 3) := by decide +kernel
theorem dX2_turnToListening_11 : decode cX2_turnToListening 11 = .ok (.bipush 6, 2) := by decide +kernel
theorem dX2_turnToListening_13 : decode cX2_turnToListening 13 = .ok (.if_icmp .ne 22, 3) := by decide +kernel
theorem dX2_turnToListening_16 : decode cX2_turnToListening 16 = .ok (.aload_n 0, 1) := by decide +kernel
theorem dX2_turnToListening_17 : decode cX2_turnToListening 17 = .ok (.getfield 90, 3) := by decide +kernel
theorem dX2_turnToListening_20 : decode cX2_turnToListening 20 = .ok (.iconst 2, 1) := by decide +kernel
theorem dX2_turnToListening_21 : decode cX2_turnToListening 21 = .ok (.if_icmp .ne 14, 3) := by decide +kernel
theorem dX2_turnToListening_24 : decode cX2_turnToListening 24 = .ok (.aload_n 0, 1) := by decide +kernel
theorem dX2_turnToListening_25 : decode cX2_turnToListening 25 = .ok (.getfield 42, 3) := by decide +kernel
theorem dX2_turnToListening_28 : decode cX2_turnToListening 28 = .ok (.ifnonnull 7, 3) := by decide +kernel
theorem dX2_turnToListening_31 : decode cX2_turnToListening 31 = .ok (.iconst 1, 1) := by decide +kernel
theorem dX2_turnToListening_32 : decode cX2_turnToListening 32 = .ok (.goto 4, 3) := by decide +kernel
theorem dX2_turnToListening_35 : decode cX2_turnToListening 35 = .ok (.iconst 0, 1) := by decide +kernel
theorem dX2_turnToListening_36 : decode cX2_turnToListening 36 = .ok (.istore_n 1, 1) := by decide +kernel
theorem dX2_turnToListening_37 : decode cX2_turnToListening 37 = .ok (.aload_n 0, 1) := by decide +kernel
theorem dX2_turnToListening_38 : decode cX2_turnToListening 38 = .ok (.getfield 52, 3) := by decide +kernel
theorem dX2_turnToListening_41 : decode cX2_turnToListening 41 = .ok (.iconst 1, 1) := by decide +kernel
theorem dX2_turnToListening_42 : decode cX2_turnToListening 42 = .ok (.if_icmp .ne 28, 3) := by decide +kernel
theorem dX2_turnToListening_45 : decode cX2_turnToListening 45 = .ok (.aload_n 0, 1) := by decide +kernel
theorem dX2_turnToListening_46 : decode cX2_turnToListening 46 = .ok (.getfield 46, 3) := by decide +kernel
theorem dX2_turnToListening_49 : decode cX2_turnToListening 49 = .ok (.ifnull 21, 3) := by decide +kernel
theorem dX2_turnToListening_52 : decode cX2_turnToListening 52 = .ok (.aload_n 0, 1) := by decide +kernel
theorem dX2_turnToListening_53 : decode cX2_turnToListening 53 = .ok (.getfield 46, 3) := by decide +kernel
theorem dX2_turnToListening_56 : decode cX2_turnToListening 56 = .ok (.aload_n 0, 1) := by decide +kernel
theorem dX2_turnToListening_57 : decode cX2_turnToListening 57 = .ok (.getfield 49, 3) := by decide +kernel
theorem dX2_turnToListening_60 : decode cX2_turnToListening 60 = .ok (.invokevirtual 93, 3) := by decide +kernel
theorem dX2_turnToListening_63 : decode cX2_turnToListening 63 = .ok (.ifCond .eq 7, 3) := by decide +kernel
theorem dX2_turnToListening_66 : decode cX2_turnToListening 66 = .ok (.iconst 1, 1) := by decide +kernel
theorem dX2_turnToListening_67 : decode cX2_turnToListening 67 = .ok (.goto 4, 3) := by decide +kernel
theorem dX2_turnToListening_70 : decode cX2_turnToListening 70 = .ok (.iconst 0, 1) := by decide +kernel
theorem dX2_turnToListening_71 : decode cX2_turnToListening 71 = .ok (.istore_n 2, 1) := by decide +kernel
theorem dX2_turnToListening_72 : decode cX2_turnToListening 72 = .ok (.iload_n 1, 1) := by decide +kernel
theorem dX2_turnToListening_73 : decode cX2_turnToListening 73 = .ok (.ifCond .ne 8, 3) := by decide +kernel
theorem dX2_turnToListening_76 : decode cX2_turnToListening 76 = .ok (.iload_n 2, 1) := by decide +kernel
theorem dX2_turnToListening_77 : decode cX2_turnToListening 77 = .ok (.ifCond .ne 4, 3) := by decide +kernel
theorem dX2_turnToListening_80 : decode cX2_turnToListening 80 = .ok (.return_, 1) := by decide +kernel
theorem dX2_turnToListening_81 : decode cX2_turnToListening 81 = .ok (.aload_n 0, 1) := by decide +kernel
theorem dX2_turnToListening_82 : decode cX2_turnToListening 82 = .ok (.iconst 2, 1) := by decide +kernel
theorem dX2_turnToListening_83 : decode cX2_turnToListening 83 = .ok (.invokevirtual 28, 3) := by decide +kernel
theorem dX2_turnToListening_86 : decode cX2_turnToListening 86 = .ok (.aload_n 0, 1) := by decide +kernel
theorem dX2_turnToListening_87 : decode cX2_turnToListening 87 = .ok (.getfield 12, 3) := by decide +kernel
theorem dX2_turnToListening_90 : decode cX2_turnToListening 90 = .ok (.invokevirtual 97, 3) := by decide +kernel
theorem dX2_turnToListening_93 : decode cX2_turnToListening 93 = .ok (.iload_n 2, 1) := by decide +kernel
theorem dX2_turnToListening_94 : decode cX2_turnToListening 94 = .ok (.ifCond .eq 35, 3) := by decide +kernel
theorem dX2_turnToListening_97 : decode cX2_turnToListening 97 = .ok (.iconst 0, 1) := by decide +kernel
theorem dX2_turnToListening_98 : decode cX2_turnToListening 98 = .ok (.istore_n 3, 1) := by decide +kernel
theorem dX2_turnToListening_99 : decode cX2_turnToListening 99 = .ok (.iload_n 3, 1) := by decide +kernel
theorem dX2_turnToListening_100 : decode cX2_turnToListening 100 = .ok (.aload_n 0, 1) := by decide +kernel
theorem dX2_turnToListening_101 : decode cX2_turnToListening 101 = .ok (.getfield 49, 3) := by decide +kernel
theorem dX2_turnToListening_104 : decode cX2_turnToListening 104 = .ok (.if_icmp .ge 25, 3) := by decide +kernel
theorem dX2_turnToListening_107 : decode cX2_turnToListening 107 = .ok (.aload_n 0, 1) := by decide +kernel
theorem dX2_turnToListening_108 : decode cX2_turnToListening 108 = .ok (.getfield 12, 3) := by decide +kernel
theorem dX2_turnToListening_111 : decode cX2_turnToListening 111 = .ok (.aload_n 0, 1) := by decide +kernel
theorem dX2_turnToListening_112 : decode cX2_turnToListening 112 = .ok (.getfield 46, 3) := by decide +kernel
theorem dX2_turnToListening_115 : decode cX2_turnToListening 115 = .ok (.iload_n 3, 1) := by decide +kernel
theorem dX2_turnToListening_116 : decode cX2_turnToListening 116 = .ok (.invokevirtual 58, 3) := by decide +kernel
theorem dX2_turnToListening_119 : decode cX2_turnToListening 119 = .ok (.invokevirtual 74, 3) := by decide +kernel
theorem dX2_turnToListening_122 : decode cX2_turnToListening 122 = .ok (.pop, 1) := by decide +kernel
theorem dX2_turnToListening_123 : decode cX2_turnToListening 123 = .ok (.iinc 3 1, 3) := by decide +kernel
theorem dX2_turnToListening_126 : decode cX2_turnToListening 126 = .ok (.goto (-27), 3) := by decide +kernel
theorem dX2_turnToListening_129 : decode cX2_turnToListening 129 = .ok (.return_, 1) := by decide +kernel
noncomputable def L_X2_turnToListening_99 (u9 : Nat → Int32) (r2 : Option Nat) (φ : Nat → Nat → Int32) (φb : Nat → Nat → Int32) (k32 : Int64 × (Nat → Int32) × (Nat → Int32) × (Nat → Int32) × (Nat → Int32) × (Nat → Int32) × Int32 → Option ((Nat → Int32) × Int64 × (Nat → Int32) × (Nat → Int32) × (Nat → Int32) × (Nat → Int32) × (Nat → Int32))) : Nat → Int64 → (Nat → Int32) → (Nat → Int32) → (Nat → Int32) → (Nat → Int32) → (Nat → Int32) → Int32 → Option ((Nat → Int32) × Int64 × (Nat → Int32) × (Nat → Int32) × (Nat → Int32) × (Nat → Int32) × (Nat → Int32))
  | 0, _, _, _, _, _, _, _ => none
  | nn + 1, v25, v26, v27, v28, v29, v30, v31 => if (u9 9) ≤ v31 then k32 (v25, v26, v27, v28, v29, v30, v31) else oc r2 none (fun j34 => gd (j34 < 200) (bd (f_X0_rowBit (φ j34) (φb j34) v31) (fun u35 => bd (f_X1_hear v25 v26 v27 v28 v29 v30 u35) (fun ⟨u37, u38, u39, u40, u41, u42, u43⟩ => L_X2_turnToListening_99 u9 r2 φ φb k32 nn u37 u38 u39 u40 u41 u42 (v31 + 1)))))
noncomputable def L_X2_turnToListening_99_2 (u48 : Nat → Int32) (r2 : Option Nat) (φ : Nat → Nat → Int32) (φb : Nat → Nat → Int32) (k71 : Int64 × (Nat → Int32) × (Nat → Int32) × (Nat → Int32) × (Nat → Int32) × (Nat → Int32) × Int32 → Option ((Nat → Int32) × Int64 × (Nat → Int32) × (Nat → Int32) × (Nat → Int32) × (Nat → Int32) × (Nat → Int32))) : Nat → Int64 → (Nat → Int32) → (Nat → Int32) → (Nat → Int32) → (Nat → Int32) → (Nat → Int32) → Int32 → Option ((Nat → Int32) × Int64 × (Nat → Int32) × (Nat → Int32) × (Nat → Int32) × (Nat → Int32) × (Nat → Int32))
  | 0, _, _, _, _, _, _, _ => none
  | nn + 1, v64, v65, v66, v67, v68, v69, v70 => if (u48 9) ≤ v70 then k71 (v64, v65, v66, v67, v68, v69, v70) else oc r2 none (fun j73 => gd (j73 < 200) (bd (f_X0_rowBit (φ j73) (φb j73) v70) (fun u74 => bd (f_X1_hear v64 v65 v66 v67 v68 v69 u74) (fun ⟨u76, u77, u78, u79, u80, u81, u82⟩ => L_X2_turnToListening_99_2 u48 r2 φ φb k71 nn u76 u77 u78 u79 u80 u81 (v70 + 1)))))
noncomputable def f_X2_turnToListening  (r1 : Option Nat) (r2 : Option Nat) (nf : Nat → Int32) (h : Int64) (f : Nat → Int32) (o : Nat → Int32) (a : Nat → Int32) (b : Nat → Int32) (c : Nat → Int32) (φ : Nat → Nat → Int32) (φb : Nat → Nat → Int32)  : Option ((Nat → Int32) × Int64 × (Nat → Int32) × (Nat → Int32) × (Nat → Int32) × (Nat → Int32) × (Nat → Int32)) := jn (α := Int32) (fun x1 => jn (α := Int32) (fun x5 => if x1 = 0 then if x5 = 0 then some (nf, h, f, o, a, b, c) else bd (f_X2_enter nf 2) (fun u48 => bd (f_X1_begin h f a b c) (fun ⟨u50, u51, u52, u53, u54⟩ => jn (α := Int64 × (Nat → Int32) × (Nat → Int32) × (Nat → Int32) × (Nat → Int32) × (Nat → Int32)) (fun ⟨x56, x57, x58, x59, x60, x61⟩ => some (u48, x56, x57, x58, x59, x60, x61)) (fun k62 => if x5 = 0 then k62 (u50, u51, o, u52, u53, u54) else jn (α := Int64 × (Nat → Int32) × (Nat → Int32) × (Nat → Int32) × (Nat → Int32) × (Nat → Int32) × Int32) (fun ⟨v64, v65, v66, v67, v68, v69, v70⟩ => k62 (v64, v65, v66, v67, v68, v69)) (fun k71 => L_X2_turnToListening_99_2 u48 r2 φ φb k71 fu u50 u51 o u52 u53 u54 0)))) else bd (f_X2_enter nf 2) (fun u9 => bd (f_X1_begin h f a b c) (fun ⟨u11, u12, u13, u14, u15⟩ => jn (α := Int64 × (Nat → Int32) × (Nat → Int32) × (Nat → Int32) × (Nat → Int32) × (Nat → Int32)) (fun ⟨x17, x18, x19, x20, x21, x22⟩ => some (u9, x17, x18, x19, x20, x21, x22)) (fun k23 => if x5 = 0 then k23 (u11, u12, o, u13, u14, u15) else jn (α := Int64 × (Nat → Int32) × (Nat → Int32) × (Nat → Int32) × (Nat → Int32) × (Nat → Int32) × Int32) (fun ⟨v25, v26, v27, v28, v29, v30, v31⟩ => k23 (v25, v26, v27, v28, v29, v30)) (fun k32 => L_X2_turnToListening_99 u9 r2 φ φb k32 fu u11 u12 o u13 u14 u15 0))))) (fun k7 => if (nf 2) = 1 then oc r2 (k7 0) (fun j89 => gd (j89 < 200) (bd (f_X0_canLoseAt (φ j89) (φb j89) (nf 9)) (fun u91 => if u91 = 0 then k7 0 else k7 1))) else k7 0)) (fun k3 => if (nf 2) = 0 then k3 1 else if (nf 2) = 6 then if (nf 3) = 2 then oc r1 (k3 1) (fun j95 => gd (j95 < 200) (k3 0)) else k3 0 else k3 0)
set_option maxHeartbeats 4000000 in
set_option maxRecDepth 100000 in
theorem c_X2_turnToListening (l : Launch) (Λ : LY) (hF : FL Λ) (σ : CS) (i : Nat) (r1 : Option Nat) (r2 : Option Nat) (nf : Nat → Int32) (h : Int64) (f : Nat → Int32) (o : Nat → Int32) (a : Nat → Int32) (b : Nat → Int32) (c : Nat → Int32) (tf : Nat → Int32) (tt : Nat → Int32) (tk : Nat → Int32) (φ : Nat → Nat → Int32) (φb : Nat → Nat → Int32)  (hii : i < 32) (hr_φ : σ.1 13  = φ) (hr_φb : σ.1 15  = φb) {nf' : Nat → Int32} {h' : Int64} {f' : Nat → Int32} {o' : Nat → Int32} {a' : Nat → Int32} {b' : Nat → Int32} {c' : Nat → Int32} (hf : f_X2_turnToListening r1 r2 nf h f o a b c φ φb = some (nf', h', f', o', a', b', c')) : CM l yX2_turnToListening (.code yX2_turnToListening cX2_turnToListening 4 none :: TT) ({ frames := 5, cells := 0, slots := 0, locals := 108 }) Λ [.ref (ya Λ 3 i)] (qNd σ i r1 r2 nf h f o a b c tf tt tk) (qNd σ i r1 r2 nf' h' f' o' a' b' c' tf tt tk) (none) := by
  refine CM_intro (own := RX2) (by decide) rfl (Nat.le_of_ble_eq_true rfl) ?_
  intro Γ hg hl hΓ hE
  subst hg; subst hl
  show GG Γ (0, 0) (qNd σ i r1 r2 nf h f o a b c tf tt tk) 0 [(0, .ref (ya (gl Γ) 3 i))] []
  unfold f_X2_turnToListening at hf
  refine G_aload_n hΓ 0 dX2_turnToListening_0 rfl ?_
  refine F_get hΓ (t := 3) (i := i) (ci := 5) (C := RX2) (T := TX2) (N := 10) (fs2 (gl Γ) i) (v := .int (nf 2)) (FLi hF (t := 3) hii) (fun _ _ _ => rfl) qNd_g3 rfl rfl rfl inW2 2 (by decide) (TT_cons kw_168) rfl dX2_turnToListening_1 ?_
  obtain ⟨k3, hk_k3, hf⟩ := jn_eq hf
  try dsimp only at hf
  have K4 : ∀ x1, (x1 = 0 ∨ x1 = 1) → k3 x1 = some (nf', h', f', o', a', b', c') → GG Γ (0, 0) (qNd σ i r1 r2 nf h f o a b c tf tt tk) 36 [(0, .ref (ya (gl Γ) 3 i))] [.int x1] := by
    intro x1 hb_x1 hf
    subst hk_k3
    try dsimp only at hf
    refine G_istore_n hΓ [(1, .int x1), (0, .ref (ya (gl Γ) 3 i))] dX2_turnToListening_36 (by decide) rfl ?_
    refine G_aload_n hΓ 1 dX2_turnToListening_37 rfl ?_
    refine F_get hΓ (t := 3) (i := i) (ci := 5) (C := RX2) (T := TX2) (N := 10) (fs2 (gl Γ) i) (v := .int (nf 2)) (FLi hF (t := 3) hii) (fun _ _ _ => rfl) qNd_g3 rfl rfl rfl inW2 2 (by decide) (TT_cons kw_168) rfl dX2_turnToListening_38 ?_
    refine G_iconst (v := 1) hΓ dX2_turnToListening_41 (by decide) ?_
    obtain ⟨k7, hk_k7, hf⟩ := jn_eq hf
    try dsimp only at hf
    have K8 : ∀ x5, (x5 = 0 ∨ x5 = 1) → k7 x5 = some (nf', h', f', o', a', b', c') → GG Γ (0, 0) (qNd σ i r1 r2 nf h f o a b c tf tt tk) 71 [(1, .int x1), (0, .ref (ya (gl Γ) 3 i))] [.int x5] := by
      intro x5 hb_x5 hf
      subst hk_k7
      try dsimp only at hf
      refine G_istore_n hΓ [(2, .int x5), (1, .int x1), (0, .ref (ya (gl Γ) 3 i))] dX2_turnToListening_71 (by decide) rfl ?_
      refine G_iload_n hΓ 1 dX2_turnToListening_72 rfl ?_
      refine G_if_ne hΓ (tgt := 81) dX2_turnToListening_73 (by decide) (fun hc88 => ?_) (fun hc88 => ?_)
      · rw [if_neg hc88] at hf
        refine G_aload_n hΓ 2 dX2_turnToListening_81 rfl ?_
        refine G_iconst (v := 2) hΓ dX2_turnToListening_82 (by decide) ?_
        obtain ⟨u9, hc10, hf⟩ := bd_some hf
        refine G_callV hΓ (n := 1) (As := [.int 2]) (t := 3) (i := i) (ci := 5) (T := TX2) (N := 10) (FS := fs2 (gl Γ) i) (σ' := (qNd σ i r1 r2 u9 h f o a b c tf tt tk)) (c_X2_enter (gL Γ) (gl Γ) hF σ i r1 r2 nf h f o a b c tf tt tk 2 hii hc10) rfl rfl kw_287 kw_289 kp_1 kw_2 kw_290 ⟨rfl, by decide, by decide, by decide +kernel⟩ (FLi hF (t := 3) hii) (fun _ _ _ => rfl) rfl rfl rfl ⟨Nat.le_of_ble_eq_true rfl, Nat.le_of_ble_eq_true rfl⟩ rfl (Nat.le_of_ble_eq_true rfl) dX2_turnToListening_83 ⟨_, rfl⟩ rfl ?_
        refine G_aload_n hΓ 2 dX2_turnToListening_86 rfl ?_
        refine F_get hΓ (t := 3) (i := i) (ci := 5) (C := RX2) (T := TX2) (N := 10) (fs2 (gl Γ) i) (v := .ref (ya (gl Γ) 4 i)) (FLi hF (t := 3) hii) (fun _ _ _ => rfl) rfl rfl rfl rfl inW2 0 (by decide) (TT_cons kw_165) rfl dX2_turnToListening_87 ?_
        obtain ⟨⟨u11, u12, u13, u14, u15⟩, hc16, hf⟩ := bd_some hf
        try dsimp only at hf
        refine G_callV hΓ (n := 0) (As := []) (t := 4) (i := i) (ci := 4) (T := TX1) (N := 17) (FS := fs1 (gl Γ) i) (σ' := (qNd σ i r1 r2 u9 u11 u12 o u13 u14 u15 tf tt tk)) (c_X1_begin (gL Γ) (gl Γ) hF (qNd σ i r1 r2 u9 h f o a b c tf tt tk) i h f o a b c  hii hc16) qLis_qNd qLis_qNd kw_688 kw_689 kw_690 kw_3 kw_691 ⟨rfl, by decide, by decide, by decide +kernel⟩ (FLi hF (t := 4) hii) (fun _ _ _ => rfl) rfl rfl rfl ⟨Nat.le_of_ble_eq_true rfl, Nat.le_of_ble_eq_true rfl⟩ rfl (Nat.le_of_ble_eq_true rfl) dX2_turnToListening_90 ⟨_, rfl⟩ rfl ?_
        refine G_iload_n hΓ 0 dX2_turnToListening_93 rfl ?_
        obtain ⟨k23, hk_k23, hf⟩ := jn_eq hf
        try dsimp only at hf
        have K24 : ∀ x17 x18 x19 x20 x21 x22, k23 (x17, x18, x19, x20, x21, x22) = some (nf', h', f', o', a', b', c') → GG Γ (0, 0) (qNd σ i r1 r2 u9 x17 x18 x19 x20 x21 x22 tf tt tk) 129 [(2, .int x5), (1, .int x1), (0, .ref (ya (gl Γ) 3 i))] [] := by
          intro x17 x18 x19 x20 x21 x22 hf
          subst hk_k23
          try dsimp only at hf
          cases hf
          exact G_vret hΓ hE dX2_turnToListening_129
        clear hk_k23
        refine G_if_eq hΓ (tgt := 129) dX2_turnToListening_94 (by decide) (fun hc47 => ?_) (fun hc47 => ?_)
        · rw [if_pos hc47] at hf
          exact K24 _ _ _ _ _ _ hf
        · rw [if_neg hc47] at hf
          refine G_iconst (v := 0) hΓ dX2_turnToListening_97 (by decide) ?_
          refine G_istore_n hΓ [(3, .int 0), (2, .int x5), (1, .int x1), (0, .ref (ya (gl Γ) 3 i))] dX2_turnToListening_98 (by decide) rfl ?_
          obtain ⟨k32, hk_k32, hf⟩ := jn_eq hf
          try dsimp only at hf
          have K33 : ∀ v25 v26 v27 v28 v29 v30 v31, k32 (v25, v26, v27, v28, v29, v30, v31) = some (nf', h', f', o', a', b', c') → GG Γ (0, 0) (qNd σ i r1 r2 u9 v25 v26 v27 v28 v29 v30 tf tt tk) 129 [(3, .int v31), (2, .int x5), (1, .int x1), (0, .ref (ya (gl Γ) 3 i))] [] := by
            intro v25 v26 v27 v28 v29 v30 v31 hf
            subst hk_k32
            try dsimp only at hf
            exact G_loc [1, 2, 3] rfl (K24 _ _ _ _ _ _ hf)
          clear hk_k32
          have loop46 : ∀ (nn : Nat) v25 v26 v27 v28 v29 v30 v31, L_X2_turnToListening_99 u9 r2 φ φb k32 nn v25 v26 v27 v28 v29 v30 v31 = some (nf', h', f', o', a', b', c') → GG Γ (0, 0) (qNd σ i r1 r2 u9 v25 v26 v27 v28 v29 v30 tf tt tk) 99 [(3, .int v31), (2, .int x5), (1, .int x1), (0, .ref (ya (gl Γ) 3 i))] [] := by
            intro nn
            induction nn with
            | zero => intro v25 v26 v27 v28 v29 v30 v31 hf; cases hf
            | succ nn ih =>
              intro v25 v26 v27 v28 v29 v30 v31 hf
              rw [L_X2_turnToListening_99] at hf
              refine G_iload_n hΓ 0 dX2_turnToListening_99 rfl ?_
              refine G_aload_n hΓ 3 dX2_turnToListening_100 rfl ?_
              refine F_get hΓ (t := 3) (i := i) (ci := 5) (C := RX2) (T := TX2) (N := 10) (fs2 (gl Γ) i) (v := .int (u9 9)) (FLi hF (t := 3) hii) (fun _ _ _ => rfl) qNd_g3 rfl rfl rfl inW2 9 (by decide) (TT_cons kw_181) rfl dX2_turnToListening_101 ?_
              refine G_icmp_ge hΓ (tgt := 129) dX2_turnToListening_104 (by decide) (fun hc45 => ?_) (fun hc45 => ?_)
              · rw [if_pos hc45] at hf
                exact (K33 _ _ _ _ _ _ _ hf)
              · rw [if_neg hc45] at hf
                refine G_aload_n hΓ 3 dX2_turnToListening_107 rfl ?_
                refine F_get hΓ (t := 3) (i := i) (ci := 5) (C := RX2) (T := TX2) (N := 10) (fs2 (gl Γ) i) (v := .ref (ya (gl Γ) 4 i)) (FLi hF (t := 3) hii) (fun _ _ _ => rfl) rfl rfl rfl rfl inW2 0 (by decide) (TT_cons kw_165) rfl dX2_turnToListening_108 ?_
                refine G_aload_n hΓ 3 dX2_turnToListening_111 rfl ?_
                refine F_get hΓ (t := 3) (i := i) (ci := 5) (C := RX2) (T := TX2) (N := 10) (fs2 (gl Γ) i) (v := va_rf (r2.map (ya (gl Γ) 13))) (FLi hF (t := 3) hii) (fun _ _ _ => rfl) rfl rfl qNd_r rfl inW2 8 (by decide) (TT_cons kw_179) rfl dX2_turnToListening_112 ?_
                refine G_iload_n hΓ 0 dX2_turnToListening_115 rfl ?_
                rcases r2 with _ | j34
                · cases hf
                replace hf := oc_s hf
                obtain ⟨hij34, hf⟩ := gd_some hf
                obtain ⟨u35, hc36, hf⟩ := bd_some hf
                refine G_callV hΓ (n := 1) (As := [.int v31]) (t := 13) (i := j34) (ci := 3) (T := TX0) (N := 9) (FS := fs0 (gl Γ) j34) (σ' := (qNd σ i r1 (some j34) u9 v25 v26 v27 v28 v29 v30 tf tt tk)) (c_X0_rowBit (gL Γ) (gl Γ) hF (qNd σ i r1 (some j34) u9 v25 v26 v27 v28 v29 v30 tf tt tk) j34 _ (φ j34) _ (φb j34) v31 hij34 rfl (congrFun hr_φ j34) rfl (congrFun hr_φb j34) hc36) rfl rfl kw_668 kw_669 kw_670 kw_7 kw_671 ⟨rfl, by decide, by decide, by decide +kernel⟩ (FLi hF (t := 13) hij34) (fun _ _ _ => rfl) rfl rfl rfl ⟨Nat.le_of_ble_eq_true rfl, Nat.le_of_ble_eq_true rfl⟩ rfl (Nat.le_of_ble_eq_true rfl) dX2_turnToListening_116 ⟨_, rfl⟩ rfl ?_
                obtain ⟨⟨u37, u38, u39, u40, u41, u42, u43⟩, hc44, hf⟩ := bd_some hf
                try dsimp only at hf
                refine G_callV hΓ (n := 1) (As := [.int u35]) (t := 4) (i := i) (ci := 4) (T := TX1) (N := 17) (FS := fs1 (gl Γ) i) (σ' := (qNd σ i r1 (some j34) u9 u37 u38 u39 u40 u41 u42 tf tt tk)) (c_X1_hear (gL Γ) (gl Γ) hF (qNd σ i r1 (some j34) u9 v25 v26 v27 v28 v29 v30 tf tt tk) i v25 v26 v27 v28 v29 v30 u35 hii hc44) qLis_qNd qLis_qNd kw_694 kw_695 kw_696 kw_3 kw_697 ⟨rfl, by decide, by decide, by decide +kernel⟩ (FLi hF (t := 4) hii) (fun _ _ _ => rfl) rfl rfl rfl ⟨Nat.le_of_ble_eq_true rfl, Nat.le_of_ble_eq_true rfl⟩ rfl (Nat.le_of_ble_eq_true rfl) dX2_turnToListening_119 ⟨_, rfl⟩ rfl ?_
                refine G_pop hΓ dX2_turnToListening_122 rfl ?_
                refine G_iinc hΓ 0 [(3, .int (v31 + 1)), (2, .int x5), (1, .int x1), (0, .ref (ya (gl Γ) 3 i))] dX2_turnToListening_123 rfl rfl (by decide) rfl ?_
                refine G_goto hΓ (tgt := 99) dX2_turnToListening_126 (by decide) ?_
                exact (ih _ _ _ _ _ _ _ hf)
          exact loop46 _ _ _ _ _ _ _ _ hf
      · rw [if_pos hc88] at hf
        refine G_iload_n hΓ 0 dX2_turnToListening_76 rfl ?_
        refine G_if_ne hΓ (tgt := 81) dX2_turnToListening_77 (by decide) (fun hc87 => ?_) (fun hc87 => ?_)
        · rw [if_neg hc87] at hf
          refine G_aload_n hΓ 2 dX2_turnToListening_81 rfl ?_
          refine G_iconst (v := 2) hΓ dX2_turnToListening_82 (by decide) ?_
          obtain ⟨u48, hc49, hf⟩ := bd_some hf
          refine G_callV hΓ (n := 1) (As := [.int 2]) (t := 3) (i := i) (ci := 5) (T := TX2) (N := 10) (FS := fs2 (gl Γ) i) (σ' := (qNd σ i r1 r2 u48 h f o a b c tf tt tk)) (c_X2_enter (gL Γ) (gl Γ) hF σ i r1 r2 nf h f o a b c tf tt tk 2 hii hc49) rfl rfl kw_287 kw_289 kp_1 kw_2 kw_290 ⟨rfl, by decide, by decide, by decide +kernel⟩ (FLi hF (t := 3) hii) (fun _ _ _ => rfl) rfl rfl rfl ⟨Nat.le_of_ble_eq_true rfl, Nat.le_of_ble_eq_true rfl⟩ rfl (Nat.le_of_ble_eq_true rfl) dX2_turnToListening_83 ⟨_, rfl⟩ rfl ?_
          refine G_aload_n hΓ 2 dX2_turnToListening_86 rfl ?_
          refine F_get hΓ (t := 3) (i := i) (ci := 5) (C := RX2) (T := TX2) (N := 10) (fs2 (gl Γ) i) (v := .ref (ya (gl Γ) 4 i)) (FLi hF (t := 3) hii) (fun _ _ _ => rfl) rfl rfl rfl rfl inW2 0 (by decide) (TT_cons kw_165) rfl dX2_turnToListening_87 ?_
          obtain ⟨⟨u50, u51, u52, u53, u54⟩, hc55, hf⟩ := bd_some hf
          try dsimp only at hf
          refine G_callV hΓ (n := 0) (As := []) (t := 4) (i := i) (ci := 4) (T := TX1) (N := 17) (FS := fs1 (gl Γ) i) (σ' := (qNd σ i r1 r2 u48 u50 u51 o u52 u53 u54 tf tt tk)) (c_X1_begin (gL Γ) (gl Γ) hF (qNd σ i r1 r2 u48 h f o a b c tf tt tk) i h f o a b c  hii hc55) qLis_qNd qLis_qNd kw_688 kw_689 kw_690 kw_3 kw_691 ⟨rfl, by decide, by decide, by decide +kernel⟩ (FLi hF (t := 4) hii) (fun _ _ _ => rfl) rfl rfl rfl ⟨Nat.le_of_ble_eq_true rfl, Nat.le_of_ble_eq_true rfl⟩ rfl (Nat.le_of_ble_eq_true rfl) dX2_turnToListening_90 ⟨_, rfl⟩ rfl ?_
          refine G_iload_n hΓ 0 dX2_turnToListening_93 rfl ?_
          obtain ⟨k62, hk_k62, hf⟩ := jn_eq hf
          try dsimp only at hf
          have K63 : ∀ x56 x57 x58 x59 x60 x61, k62 (x56, x57, x58, x59, x60, x61) = some (nf', h', f', o', a', b', c') → GG Γ (0, 0) (qNd σ i r1 r2 u48 x56 x57 x58 x59 x60 x61 tf tt tk) 129 [(2, .int x5), (1, .int x1), (0, .ref (ya (gl Γ) 3 i))] [] := by
            intro x56 x57 x58 x59 x60 x61 hf
            subst hk_k62
            try dsimp only at hf
            cases hf
            exact G_vret hΓ hE dX2_turnToListening_129
          clear hk_k62
          refine G_if_eq hΓ (tgt := 129) dX2_turnToListening_94 (by decide) (fun hc86 => ?_) (fun hc86 => ?_)
          · rw [if_pos hc86] at hf
            exact K63 _ _ _ _ _ _ hf
          · rw [if_neg hc86] at hf
            refine G_iconst (v := 0) hΓ dX2_turnToListening_97 (by decide) ?_
            refine G_istore_n hΓ [(3, .int 0), (2, .int x5), (1, .int x1), (0, .ref (ya (gl Γ) 3 i))] dX2_turnToListening_98 (by decide) rfl ?_
            obtain ⟨k71, hk_k71, hf⟩ := jn_eq hf
            try dsimp only at hf
            have K72 : ∀ v64 v65 v66 v67 v68 v69 v70, k71 (v64, v65, v66, v67, v68, v69, v70) = some (nf', h', f', o', a', b', c') → GG Γ (0, 0) (qNd σ i r1 r2 u48 v64 v65 v66 v67 v68 v69 tf tt tk) 129 [(3, .int v70), (2, .int x5), (1, .int x1), (0, .ref (ya (gl Γ) 3 i))] [] := by
              intro v64 v65 v66 v67 v68 v69 v70 hf
              subst hk_k71
              try dsimp only at hf
              exact G_loc [1, 2, 3] rfl (K63 _ _ _ _ _ _ hf)
            clear hk_k71
            have loop85 : ∀ (nn : Nat) v64 v65 v66 v67 v68 v69 v70, L_X2_turnToListening_99_2 u48 r2 φ φb k71 nn v64 v65 v66 v67 v68 v69 v70 = some (nf', h', f', o', a', b', c') → GG Γ (0, 0) (qNd σ i r1 r2 u48 v64 v65 v66 v67 v68 v69 tf tt tk) 99 [(3, .int v70), (2, .int x5), (1, .int x1), (0, .ref (ya (gl Γ) 3 i))] [] := by
              intro nn
              induction nn with
              | zero => intro v64 v65 v66 v67 v68 v69 v70 hf; cases hf
              | succ nn ih =>
                intro v64 v65 v66 v67 v68 v69 v70 hf
                rw [L_X2_turnToListening_99_2] at hf
                refine G_iload_n hΓ 0 dX2_turnToListening_99 rfl ?_
                refine G_aload_n hΓ 3 dX2_turnToListening_100 rfl ?_
                refine F_get hΓ (t := 3) (i := i) (ci := 5) (C := RX2) (T := TX2) (N := 10) (fs2 (gl Γ) i) (v := .int (u48 9)) (FLi hF (t := 3) hii) (fun _ _ _ => rfl) qNd_g3 rfl rfl rfl inW2 9 (by decide) (TT_cons kw_181) rfl dX2_turnToListening_101 ?_
                refine G_icmp_ge hΓ (tgt := 129) dX2_turnToListening_104 (by decide) (fun hc84 => ?_) (fun hc84 => ?_)
                · rw [if_pos hc84] at hf
                  exact (K72 _ _ _ _ _ _ _ hf)
                · rw [if_neg hc84] at hf
                  refine G_aload_n hΓ 3 dX2_turnToListening_107 rfl ?_
                  refine F_get hΓ (t := 3) (i := i) (ci := 5) (C := RX2) (T := TX2) (N := 10) (fs2 (gl Γ) i) (v := .ref (ya (gl Γ) 4 i)) (FLi hF (t := 3) hii) (fun _ _ _ => rfl) rfl rfl rfl rfl inW2 0 (by decide) (TT_cons kw_165) rfl dX2_turnToListening_108 ?_
                  refine G_aload_n hΓ 3 dX2_turnToListening_111 rfl ?_
                  refine F_get hΓ (t := 3) (i := i) (ci := 5) (C := RX2) (T := TX2) (N := 10) (fs2 (gl Γ) i) (v := va_rf (r2.map (ya (gl Γ) 13))) (FLi hF (t := 3) hii) (fun _ _ _ => rfl) rfl rfl qNd_r rfl inW2 8 (by decide) (TT_cons kw_179) rfl dX2_turnToListening_112 ?_
                  refine G_iload_n hΓ 0 dX2_turnToListening_115 rfl ?_
                  rcases r2 with _ | j73
                  · cases hf
                  replace hf := oc_s hf
                  obtain ⟨hij73, hf⟩ := gd_some hf
                  obtain ⟨u74, hc75, hf⟩ := bd_some hf
                  refine G_callV hΓ (n := 1) (As := [.int v70]) (t := 13) (i := j73) (ci := 3) (T := TX0) (N := 9) (FS := fs0 (gl Γ) j73) (σ' := (qNd σ i r1 (some j73) u48 v64 v65 v66 v67 v68 v69 tf tt tk)) (c_X0_rowBit (gL Γ) (gl Γ) hF (qNd σ i r1 (some j73) u48 v64 v65 v66 v67 v68 v69 tf tt tk) j73 _ (φ j73) _ (φb j73) v70 hij73 rfl (congrFun hr_φ j73) rfl (congrFun hr_φb j73) hc75) rfl rfl kw_668 kw_669 kw_670 kw_7 kw_671 ⟨rfl, by decide, by decide, by decide +kernel⟩ (FLi hF (t := 13) hij73) (fun _ _ _ => rfl) rfl rfl rfl ⟨Nat.le_of_ble_eq_true rfl, Nat.le_of_ble_eq_true rfl⟩ rfl (Nat.le_of_ble_eq_true rfl) dX2_turnToListening_116 ⟨_, rfl⟩ rfl ?_
                  obtain ⟨⟨u76, u77, u78, u79, u80, u81, u82⟩, hc83, hf⟩ := bd_some hf
                  try dsimp only at hf
                  refine G_callV hΓ (n := 1) (As := [.int u74]) (t := 4) (i := i) (ci := 4) (T := TX1) (N := 17) (FS := fs1 (gl Γ) i) (σ' := (qNd σ i r1 (some j73) u48 u76 u77 u78 u79 u80 u81 tf tt tk)) (c_X1_hear (gL Γ) (gl Γ) hF (qNd σ i r1 (some j73) u48 v64 v65 v66 v67 v68 v69 tf tt tk) i v64 v65 v66 v67 v68 v69 u74 hii hc83) qLis_qNd qLis_qNd kw_694 kw_695 kw_696 kw_3 kw_697 ⟨rfl, by decide, by decide, by decide +kernel⟩ (FLi hF (t := 4) hii) (fun _ _ _ => rfl) rfl rfl rfl ⟨Nat.le_of_ble_eq_true rfl, Nat.le_of_ble_eq_true rfl⟩ rfl (Nat.le_of_ble_eq_true rfl) dX2_turnToListening_119 ⟨_, rfl⟩ rfl ?_
                  refine G_pop hΓ dX2_turnToListening_122 rfl ?_
                  refine G_iinc hΓ 0 [(3, .int (v70 + 1)), (2, .int x5), (1, .int x1), (0, .ref (ya (gl Γ) 3 i))] dX2_turnToListening_123 rfl rfl (by decide) rfl ?_
                  refine G_goto hΓ (tgt := 99) dX2_turnToListening_126 (by decide) ?_
                  exact (ih _ _ _ _ _ _ _ hf)
            exact loop85 _ _ _ _ _ _ _ _ hf
        · rw [if_pos hc87] at hf
          cases hf
          exact G_vret hΓ hE dX2_turnToListening_80
    clear hk_k7
    refine G_icmp_ne hΓ (tgt := 70) dX2_turnToListening_42 (by decide) (fun hc94 => ?_) (fun hc94 => ?_)
    · rw [if_neg hc94] at hf
      refine G_iconst (v := 0) hΓ dX2_turnToListening_70 (by decide) ?_
      exact K8 _ (Or.inl rfl) hf
    · rw [if_pos hc94] at hf
      refine G_aload_n hΓ 1 dX2_turnToListening_45 rfl ?_
      refine F_get hΓ (t := 3) (i := i) (ci := 5) (C := RX2) (T := TX2) (N := 10) (fs2 (gl Γ) i) (v := va_rf (r2.map (ya (gl Γ) 13))) (FLi hF (t := 3) hii) (fun _ _ _ => rfl) rfl rfl qNd_r rfl inW2 8 (by decide) (TT_cons kw_179) rfl dX2_turnToListening_46 ?_
      rcases r2 with _ | j89
      · replace hf := oc_n hf
        refine G_ifnullN hΓ (tgt := 70) dX2_turnToListening_49 (by decide) ?_
        refine G_iconst (v := 0) hΓ dX2_turnToListening_70 (by decide) ?_
        exact K8 _ (Or.inl rfl) hf
      · replace hf := oc_s hf
        obtain ⟨hij89, hf⟩ := gd_some hf
        refine G_ifnull hΓ dX2_turnToListening_49 ?_
        refine G_aload_n hΓ 1 dX2_turnToListening_52 rfl ?_
        refine F_get hΓ (t := 3) (i := i) (ci := 5) (C := RX2) (T := TX2) (N := 10) (fs2 (gl Γ) i) (v := .ref (ya (gl Γ) 13 j89)) (FLi hF (t := 3) hii) (fun _ _ _ => rfl) rfl rfl qNd_r rfl inW2 8 (by decide) (TT_cons kw_179) rfl dX2_turnToListening_53 ?_
        refine G_aload_n hΓ 1 dX2_turnToListening_56 rfl ?_
        refine F_get hΓ (t := 3) (i := i) (ci := 5) (C := RX2) (T := TX2) (N := 10) (fs2 (gl Γ) i) (v := .int (nf 9)) (FLi hF (t := 3) hii) (fun _ _ _ => rfl) qNd_g3 rfl rfl rfl inW2 9 (by decide) (TT_cons kw_181) rfl dX2_turnToListening_57 ?_
        obtain ⟨u91, hc92, hf⟩ := bd_some hf
        refine G_callV hΓ (n := 1) (As := [.int (nf 9)]) (t := 13) (i := j89) (ci := 3) (T := TX0) (N := 9) (FS := fs0 (gl Γ) j89) (σ' := (qNd σ i r1 (some j89) nf h f o a b c tf tt tk)) (c_X0_canLoseAt (gL Γ) (gl Γ) hF (qNd σ i r1 (some j89) nf h f o a b c tf tt tk) j89 _ (φ j89) _ (φb j89) (nf 9) hij89 rfl (congrFun hr_φ j89) rfl (congrFun hr_φb j89) hc92) rfl rfl kw_684 kw_685 kw_686 kw_7 kw_687 ⟨rfl, by decide, by decide, by decide +kernel⟩ (FLi hF (t := 13) hij89) (fun _ _ _ => rfl) rfl rfl rfl ⟨Nat.le_of_ble_eq_true rfl, Nat.le_of_ble_eq_true rfl⟩ rfl (Nat.le_of_ble_eq_true rfl) dX2_turnToListening_60 ⟨_, rfl⟩ rfl ?_
        refine G_if_eq hΓ (tgt := 70) dX2_turnToListening_63 (by decide) (fun hc93 => ?_) (fun hc93 => ?_)
        · rw [if_pos hc93] at hf
          refine G_iconst (v := 0) hΓ dX2_turnToListening_70 (by decide) ?_
          exact K8 _ (Or.inl rfl) hf
        · rw [if_neg hc93] at hf
          refine G_iconst (v := 1) hΓ dX2_turnToListening_66 (by decide) ?_
          refine G_goto hΓ (tgt := 71) dX2_turnToListening_67 (by decide) ?_
          exact K8 _ (Or.inr rfl) hf
  clear hk_k3
  refine G_if_eq hΓ (tgt := 31) dX2_turnToListening_4 (by decide) (fun hc99 => ?_) (fun hc99 => ?_)
  · rw [if_pos hc99] at hf
    refine G_iconst (v := 1) hΓ dX2_turnToListening_31 (by decide) ?_
    refine G_goto hΓ (tgt := 36) dX2_turnToListening_32 (by decide) ?_
    exact K4 _ (Or.inr rfl) hf
  · rw [if_neg hc99] at hf
    refine G_aload_n hΓ 0 dX2_turnToListening_7 rfl ?_
    refine F_get hΓ (t := 3) (i := i) (ci := 5) (C := RX2) (T := TX2) (N := 10) (fs2 (gl Γ) i) (v := .int (nf 2)) (FLi hF (t := 3) hii) (fun _ _ _ => rfl) qNd_g3 rfl rfl rfl inW2 2 (by decide) (TT_cons kw_168) rfl dX2_turnToListening_8 ?_
    refine G_bipush (v := 6) hΓ dX2_turnToListening_11 (by decide) ?_
    refine G_icmp_ne hΓ (tgt := 35) dX2_turnToListening_13 (by decide) (fun hc98 => ?_) (fun hc98 => ?_)
    · rw [if_neg hc98] at hf
      refine G_iconst (v := 0) hΓ dX2_turnToListening_35 (by decide) ?_
      exact K4 _ (Or.inl rfl) hf
    · rw [if_pos hc98] at hf
      refine G_aload_n hΓ 0 dX2_turnToListening_16 rfl ?_
      refine F_get hΓ (t := 3) (i := i) (ci := 5) (C := RX2) (T := TX2) (N := 10) (fs2 (gl Γ) i) (v := .int (nf 3)) (FLi hF (t := 3) hii) (fun _ _ _ => rfl) qNd_g3 rfl rfl rfl inW2 3 (by decide) (TT_cons kw_170) rfl dX2_turnToListening_17 ?_
      refine G_iconst (v := 2) hΓ dX2_turnToListening_20 (by decide) ?_
      refine G_icmp_ne hΓ (tgt := 35) dX2_turnToListening_21 (by decide) (fun hc97 => ?_) (fun hc97 => ?_)
      · rw [if_neg hc97] at hf
        refine G_iconst (v := 0) hΓ dX2_turnToListening_35 (by decide) ?_
        exact K4 _ (Or.inl rfl) hf
      · rw [if_pos hc97] at hf
        refine G_aload_n hΓ 0 dX2_turnToListening_24 rfl ?_
        refine F_get hΓ (t := 3) (i := i) (ci := 5) (C := RX2) (T := TX2) (N := 10) (fs2 (gl Γ) i) (v := va_rf (r1.map (ya (gl Γ) 13))) (FLi hF (t := 3) hii) (fun _ _ _ => rfl) rfl rfl qNd_r rfl inW2 7 (by decide) (TT_cons kw_177) rfl dX2_turnToListening_25 ?_
        rcases r1 with _ | j95
        · replace hf := oc_n hf
          refine G_ifnonnullN hΓ dX2_turnToListening_28 ?_
          refine G_iconst (v := 1) hΓ dX2_turnToListening_31 (by decide) ?_
          refine G_goto hΓ (tgt := 36) dX2_turnToListening_32 (by decide) ?_
          exact K4 _ (Or.inr rfl) hf
        · replace hf := oc_s hf
          obtain ⟨hij95, hf⟩ := gd_some hf
          refine G_ifnonnull hΓ (tgt := 35) dX2_turnToListening_28 (by decide) ?_
          refine G_iconst (v := 0) hΓ dX2_turnToListening_35 (by decide) ?_
          exact K4 _ (Or.inl rfl) hf
theorem dX2_seeSending_0 : decode cX2_seeSending 0 = .ok (.aload_n 0, 1) := by decide +kernel
theorem dX2_seeSending_1 : decode cX2_seeSending 1 = .ok (.getfield 46, 3) := by decide +kernel
theorem dX2_seeSending_4 : decode cX2_seeSending 4 = .ok (.ifnonnull 5, 3) := by decide +kernel
theorem dX2_seeSending_7 : decode cX2_seeSending 7 = .ok (.iconst (-1), 1) := by decide +kernel
theorem dX2_seeSending_8 : decode cX2_seeSending 8 = .ok (.ireturn, 1) := by decide +kernel
theorem dX2_seeSending_9 : decode cX2_seeSending 9 = .ok (.aload_n 0, 1) := by decide +kernel
theorem dX2_seeSending_10 : decode cX2_seeSending 10 = .ok (.getfield 46, 3) := by decide +kernel
theorem dX2_seeSending_13 : decode cX2_seeSending 13 = .ok (.aload_n 0, 1) := by decide +kernel
theorem dX2_seeSending_14 : decode cX2_seeSending 14 = .ok (.getfield 49, 3) := by decide +kernel
theorem dX2_seeSending_17 : decode cX2_seeSending 17 = .ok (.invokevirtual 98, 3) := by decide +kernel
theorem dX2_seeSending_20 : decode cX2_seeSending 20 = .ok (.ifCond .eq 10, 3) := by decide +kernel
theorem dX2_seeSending_23 : decode cX2_seeSending 23 = .ok (.iload_n 1, 1) := by decide +kernel
theorem dX2_seeSending_24 : decode cX2_seeSending 24 = .ok (.iconst 1, 1) := by decide +kernel
theorem dX2_seeSending_25 : decode cX2_seeSending 25 = .ok (.if_icmp .ne 22, 3) := by decide +kernel
theorem dX2_seeSending_28 : decode cX2_seeSending 28 = .ok (.iconst 4, 1) := by decide +kernel
theorem dX2_seeSending_29 : decode cX2_seeSending 29 = .ok (.ireturn, 1) := by decide +kernel
theorem dX2_seeSending_30 : decode cX2_seeSending 30 = .ok (.iload_n 1, 1) := by decide +kernel
theorem dX2_seeSending_31 : decode cX2_seeSending 31 = .ok (.aload_n 0, 1) := by decide +kernel
theorem dX2_seeSending_32 : decode cX2_seeSending 32 = .ok (.getfield 46, 3) := by decide +kernel
theorem dX2_seeSending_35 : decode cX2_seeSending 35 = .ok (.aload_n 0, 1) := by decide +kernel
theorem dX2_seeSending_36 : decode cX2_seeSending 36 = .ok (.getfield 49, 3) := by decide +kernel
theorem dX2_seeSending_39 : decode cX2_seeSending 39 = .ok (.invokevirtual 58, 3) := by decide +kernel
theorem dX2_seeSending_42 : decode cX2_seeSending 42 = .ok (.if_icmp .eq 5, 3) := by decide +kernel
theorem dX2_seeSending_45 : decode cX2_seeSending 45 = .ok (.iconst 0, 1) := by decide +kernel
theorem dX2_seeSending_46 : decode cX2_seeSending 46 = .ok (.ireturn, 1) := by decide +kernel
theorem dX2_seeSending_47 : decode cX2_seeSending 47 = .ok (.aload_n 0, 1) := by decide +kernel
theorem dX2_seeSending_48 : decode cX2_seeSending 48 = .ok (.dup, 1) := by decide +kernel
theorem dX2_seeSending_49 : decode cX2_seeSending 49 = .ok (.getfield 49, 3) := by decide +kernel
theorem dX2_seeSending_52 : decode cX2_seeSending 52 = .ok (.iconst 1, 1) := by decide +kernel
theorem dX2_seeSending_53 : decode cX2_seeSending 53 = .ok (.iadd, 1) := by decide +kernel
theorem dX2_seeSending_54 : decode cX2_seeSending 54 = .ok (.putfield 49, 3) := by decide +kernel
theorem dX2_seeSending_57 : decode cX2_seeSending 57 = .ok (.aload_n 0, 1) := by decide +kernel
theorem dX2_seeSending_58 : decode cX2_seeSending 58 = .ok (.getfield 49, 3) := by decide +kernel
theorem dX2_seeSending_61 : decode cX2_seeSending 61 = .ok (.aload_n 0, 1) := by decide +kernel
theorem dX2_seeSending_62 : decode cX2_seeSending 62 = .ok (.getfield 46, 3) := by decide +kernel
theorem dX2_seeSending_65 : decode cX2_seeSending 65 = .ok (.getfield 101, 3) := by decide +kernel
theorem dX2_seeSending_68 : decode cX2_seeSending 68 = .ok (.if_icmp .lt 8, 3) := by decide +kernel
theorem dX2_seeSending_71 : decode cX2_seeSending 71 = .ok (.bipush 6, 2) := by decide +kernel
theorem dX2_seeSending_73 : decode cX2_seeSending 73 = .ok (.goto 4, 3) := by decide +kernel
theorem dX2_seeSending_76 : decode cX2_seeSending 76 = .ok (.iconst (-1), 1) := by decide +kernel
theorem dX2_seeSending_77 : decode cX2_seeSending 77 = .ok (.ireturn, 1) := by decide +kernel
noncomputable def f_X2_seeSending  (r2 : Option Nat) (nf : Nat → Int32) (φ : Nat → Nat → Int32) (φb : Nat → Nat → Int32) (p1 : Int32) : Option ((Nat → Int32) × Int32) := oc r2 (some (nf, (-1))) (fun j1 => gd (j1 < 200) (bd (f_X0_acknowledgedAt (φ j1) (nf 9)) (fun u3 => if u3 = 0 then bd (f_X0_rowBit (φ j1) (φb j1) (nf 9)) (fun u5 => if p1 = u5 then lt (α := Int32) (if ((nf 9) + 1) < ((φ j1) 2) then (-1) else 6) (fun x7 => some ((upd nf 9 ((nf 9) + 1)), x7)) else some (nf, 0)) else if p1 = 1 then some (nf, 4) else lt (α := Int32) (if ((nf 9) + 1) < ((φ j1) 2) then (-1) else 6) (fun x12 => some ((upd nf 9 ((nf 9) + 1)), x12)))))
set_option maxHeartbeats 4000000 in
set_option maxRecDepth 100000 in
theorem c_X2_seeSending (l : Launch) (Λ : LY) (hF : FL Λ) (σ : CS) (i : Nat) (r1 : Option Nat) (r2 : Option Nat) (nf : Nat → Int32) (h : Int64) (f : Nat → Int32) (o : Nat → Int32) (a : Nat → Int32) (b : Nat → Int32) (c : Nat → Int32) (tf : Nat → Int32) (tt : Nat → Int32) (tk : Nat → Int32) (φ : Nat → Nat → Int32) (φb : Nat → Nat → Int32) (p1 : Int32) (hii : i < 32) (hr_φ : σ.1 13  = φ) (hr_φb : σ.1 15  = φb) {nf' : Nat → Int32} {r9 : Int32} (hf : f_X2_seeSending r2 nf φ φb p1 = some (nf', r9)) : CM l yX2_seeSending (.code yX2_seeSending cX2_seeSending 2 (some .int) :: TT) ({ frames := 1, cells := 0, slots := 0, locals := 21 }) Λ [.ref (ya Λ 3 i), .int p1] (qNd σ i r1 r2 nf h f o a b c tf tt tk) (qNd σ i r1 r2 nf' h f o a b c tf tt tk) (some (.int r9)) := by
  refine CM_intro (own := RX2) (by decide) rfl (Nat.le_of_ble_eq_true rfl) ?_
  intro Γ hg hl hΓ hE
  subst hg; subst hl
  show GG Γ (0, 0) (qNd σ i r1 r2 nf h f o a b c tf tt tk) 0 [(0, .ref (ya (gl Γ) 3 i)), (1, .int p1)] []
  unfold f_X2_seeSending at hf
  refine G_aload_n hΓ 0 dX2_seeSending_0 rfl ?_
  refine F_get hΓ (t := 3) (i := i) (ci := 5) (C := RX2) (T := TX2) (N := 10) (fs2 (gl Γ) i) (v := va_rf (r2.map (ya (gl Γ) 13))) (FLi hF (t := 3) hii) (fun _ _ _ => rfl) rfl rfl qNd_r rfl inW2 8 (by decide) (TT_cons kw_179) rfl dX2_seeSending_1 ?_
  rcases r2 with _ | j1
  · replace hf := oc_n hf
    refine G_ifnonnullN hΓ dX2_seeSending_4 ?_
    refine G_iconst (v := (-1)) hΓ dX2_seeSending_7 (by decide) ?_
    cases hf
    exact G_iret hΓ hE dX2_seeSending_8
  · replace hf := oc_s hf
    obtain ⟨hij1, hf⟩ := gd_some hf
    refine G_ifnonnull hΓ (tgt := 9) dX2_seeSending_4 (by decide) ?_
    refine G_aload_n hΓ 0 dX2_seeSending_9 rfl ?_
    refine F_get hΓ (t := 3) (i := i) (ci := 5) (C := RX2) (T := TX2) (N := 10) (fs2 (gl Γ) i) (v := .ref (ya (gl Γ) 13 j1)) (FLi hF (t := 3) hii) (fun _ _ _ => rfl) rfl rfl qNd_r rfl inW2 8 (by decide) (TT_cons kw_179) rfl dX2_seeSending_10 ?_
    refine G_aload_n hΓ 0 dX2_seeSending_13 rfl ?_
    refine F_get hΓ (t := 3) (i := i) (ci := 5) (C := RX2) (T := TX2) (N := 10) (fs2 (gl Γ) i) (v := .int (nf 9)) (FLi hF (t := 3) hii) (fun _ _ _ => rfl) qNd_g3 rfl rfl rfl inW2 9 (by decide) (TT_cons kw_181) rfl dX2_seeSending_14 ?_
    obtain ⟨u3, hc4, hf⟩ := bd_some hf
    refine G_callV hΓ (n := 1) (As := [.int (nf 9)]) (t := 13) (i := j1) (ci := 3) (T := TX0) (N := 9) (FS := fs0 (gl Γ) j1) (σ' := (qNd σ i r1 (some j1) nf h f o a b c tf tt tk)) (c_X0_acknowledgedAt (gL Γ) (gl Γ) hF (qNd σ i r1 (some j1) nf h f o a b c tf tt tk) j1 _ (φ j1) _ (φb j1) (nf 9) hij1 rfl (congrFun hr_φ j1) rfl (congrFun hr_φb j1) hc4) rfl rfl kw_749 kw_750 kw_751 kw_7 kw_752 ⟨rfl, by decide, by decide, by decide +kernel⟩ (FLi hF (t := 13) hij1) (fun _ _ _ => rfl) rfl rfl rfl ⟨Nat.le_of_ble_eq_true rfl, Nat.le_of_ble_eq_true rfl⟩ rfl (Nat.le_of_ble_eq_true rfl) dX2_seeSending_17 ⟨_, rfl⟩ rfl ?_
    refine G_if_eq hΓ (tgt := 30) dX2_seeSending_20 (by decide) (fun hc17 => ?_) (fun hc17 => ?_)
    · rw [if_pos hc17] at hf
      refine G_iload_n hΓ 1 dX2_seeSending_30 rfl ?_
      refine G_aload_n hΓ 0 dX2_seeSending_31 rfl ?_
      refine F_get hΓ (t := 3) (i := i) (ci := 5) (C := RX2) (T := TX2) (N := 10) (fs2 (gl Γ) i) (v := .ref (ya (gl Γ) 13 j1)) (FLi hF (t := 3) hii) (fun _ _ _ => rfl) rfl rfl qNd_r rfl inW2 8 (by decide) (TT_cons kw_179) rfl dX2_seeSending_32 ?_
      refine G_aload_n hΓ 0 dX2_seeSending_35 rfl ?_
      refine F_get hΓ (t := 3) (i := i) (ci := 5) (C := RX2) (T := TX2) (N := 10) (fs2 (gl Γ) i) (v := .int (nf 9)) (FLi hF (t := 3) hii) (fun _ _ _ => rfl) qNd_g3 rfl rfl rfl inW2 9 (by decide) (TT_cons kw_181) rfl dX2_seeSending_36 ?_
      obtain ⟨u5, hc6, hf⟩ := bd_some hf
      refine G_callV hΓ (n := 1) (As := [.int (nf 9)]) (t := 13) (i := j1) (ci := 3) (T := TX0) (N := 9) (FS := fs0 (gl Γ) j1) (σ' := (qNd σ i r1 (some j1) nf h f o a b c tf tt tk)) (c_X0_rowBit (gL Γ) (gl Γ) hF (qNd σ i r1 (some j1) nf h f o a b c tf tt tk) j1 _ (φ j1) _ (φb j1) (nf 9) hij1 rfl (congrFun hr_φ j1) rfl (congrFun hr_φb j1) hc6) rfl rfl kw_668 kw_669 kw_670 kw_7 kw_671 ⟨rfl, by decide, by decide, by decide +kernel⟩ (FLi hF (t := 13) hij1) (fun _ _ _ => rfl) rfl rfl rfl ⟨Nat.le_of_ble_eq_true rfl, Nat.le_of_ble_eq_true rfl⟩ rfl (Nat.le_of_ble_eq_true rfl) dX2_seeSending_39 ⟨_, rfl⟩ rfl ?_
      refine G_icmp_eq hΓ (tgt := 47) dX2_seeSending_42 (by decide) (fun hc11 => ?_) (fun hc11 => ?_)
      · rw [if_pos hc11] at hf
        refine G_aload_n hΓ 0 dX2_seeSending_47 rfl ?_
        refine G_dup hΓ dX2_seeSending_48 rfl ?_
        refine F_get hΓ (t := 3) (i := i) (ci := 5) (C := RX2) (T := TX2) (N := 10) (fs2 (gl Γ) i) (v := .int (nf 9)) (FLi hF (t := 3) hii) (fun _ _ _ => rfl) qNd_g3 rfl rfl rfl inW2 9 (by decide) (TT_cons kw_181) rfl dX2_seeSending_49 ?_
        refine G_iconst (v := 1) hΓ dX2_seeSending_52 (by decide) ?_
        refine G_iadd hΓ dX2_seeSending_53 ?_
        refine F_put hΓ (t := 3) (i := i) (ci := 5) (C := RX2) (T := TX2) (N := 10) (fs2 (gl Γ) i) (f := nf) (f' := (upd nf 9 ((nf 9) + 1))) (σ' := (qNd σ i r1 (some j1) (upd nf 9 ((nf 9) + 1)) h f o a b c tf tt tk)) (ty := .int) (v := .int ((nf 9) + 1)) tyX2 tyX2_ok nmX2 (FLi hF (t := 3) hii) (fun _ _ _ => rfl) qNd_g3 qNd_s3 rfl inW2 9 (by decide) (TT_cons kw_181) rfl (by decide +kernel) rfl rfl (fun _ _ => Nat.le_of_ble_eq_true rfl) (fun _ _ => rfl) dX2_seeSending_54 ?_
        refine G_aload_n hΓ 0 dX2_seeSending_57 rfl ?_
        refine F_get hΓ (t := 3) (i := i) (ci := 5) (C := RX2) (T := TX2) (N := 10) (fs2 (gl Γ) i) (v := .int ((nf 9) + 1)) (FLi hF (t := 3) hii) (fun _ _ _ => rfl) qNd_g3 rfl rfl rfl inW2 9 (by decide) (TT_cons kw_181) rfl dX2_seeSending_58 ?_
        refine G_aload_n hΓ 0 dX2_seeSending_61 rfl ?_
        refine F_get hΓ (t := 3) (i := i) (ci := 5) (C := RX2) (T := TX2) (N := 10) (fs2 (gl Γ) i) (v := .ref (ya (gl Γ) 13 j1)) (FLi hF (t := 3) hii) (fun _ _ _ => rfl) rfl rfl qNd_r rfl inW2 8 (by decide) (TT_cons kw_179) rfl dX2_seeSending_62 ?_
        refine F_getN hΓ (t := 13) (i := j1) (ci := 3) (C := RX0) (T := TX0) (N := 9) (fs0 (gl Γ) j1) (v := .int ((φ j1) 2)) (FLi hF (t := 13) hij1) (fun _ _ _ => rfl) (congrFun hr_φ j1) rfl rfl rfl inW0 2 (by decide) 23 (host := "CanBits") rfl rfl dX2_seeSending_65 ?_
        obtain ⟨x7, he10, hf⟩ := lt_eq hf
        have K8 : GG Γ (0, 0) (qNd σ i r1 (some j1) (upd nf 9 ((nf 9) + 1)) h f o a b c tf tt tk) 77 [(0, .ref (ya (gl Γ) 3 i)), (1, .int p1)] [.int x7] := by
          cases hf
          exact G_iret hΓ hE dX2_seeSending_77
        have he := he10
        refine G_icmp_lt hΓ (tgt := 76) dX2_seeSending_68 (by decide) (fun hc9 => ?_) (fun hc9 => ?_)
        · rw [if_pos hc9] at he
          refine G_iconst (v := (-1)) hΓ dX2_seeSending_76 (by decide) ?_
          subst he
          exact K8
        · rw [if_neg hc9] at he
          refine G_bipush (v := 6) hΓ dX2_seeSending_71 (by decide) ?_
          refine G_goto hΓ (tgt := 77) dX2_seeSending_73 (by decide) ?_
          subst he
          exact K8
      · rw [if_neg hc11] at hf
        refine G_iconst (v := 0) hΓ dX2_seeSending_45 (by decide) ?_
        cases hf
        exact G_iret hΓ hE dX2_seeSending_46
    · rw [if_neg hc17] at hf
      refine G_iload_n hΓ 1 dX2_seeSending_23 rfl ?_
      refine G_iconst (v := 1) hΓ dX2_seeSending_24 (by decide) ?_
      refine G_icmp_ne hΓ (tgt := 47) dX2_seeSending_25 (by decide) (fun hc16 => ?_) (fun hc16 => ?_)
      · rw [if_neg hc16] at hf
        refine G_aload_n hΓ 0 dX2_seeSending_47 rfl ?_
        refine G_dup hΓ dX2_seeSending_48 rfl ?_
        refine F_get hΓ (t := 3) (i := i) (ci := 5) (C := RX2) (T := TX2) (N := 10) (fs2 (gl Γ) i) (v := .int (nf 9)) (FLi hF (t := 3) hii) (fun _ _ _ => rfl) qNd_g3 rfl rfl rfl inW2 9 (by decide) (TT_cons kw_181) rfl dX2_seeSending_49 ?_
        refine G_iconst (v := 1) hΓ dX2_seeSending_52 (by decide) ?_
        refine G_iadd hΓ dX2_seeSending_53 ?_
        refine F_put hΓ (t := 3) (i := i) (ci := 5) (C := RX2) (T := TX2) (N := 10) (fs2 (gl Γ) i) (f := nf) (f' := (upd nf 9 ((nf 9) + 1))) (σ' := (qNd σ i r1 (some j1) (upd nf 9 ((nf 9) + 1)) h f o a b c tf tt tk)) (ty := .int) (v := .int ((nf 9) + 1)) tyX2 tyX2_ok nmX2 (FLi hF (t := 3) hii) (fun _ _ _ => rfl) qNd_g3 qNd_s3 rfl inW2 9 (by decide) (TT_cons kw_181) rfl (by decide +kernel) rfl rfl (fun _ _ => Nat.le_of_ble_eq_true rfl) (fun _ _ => rfl) dX2_seeSending_54 ?_
        refine G_aload_n hΓ 0 dX2_seeSending_57 rfl ?_
        refine F_get hΓ (t := 3) (i := i) (ci := 5) (C := RX2) (T := TX2) (N := 10) (fs2 (gl Γ) i) (v := .int ((nf 9) + 1)) (FLi hF (t := 3) hii) (fun _ _ _ => rfl) qNd_g3 rfl rfl rfl inW2 9 (by decide) (TT_cons kw_181) rfl dX2_seeSending_58 ?_
        refine G_aload_n hΓ 0 dX2_seeSending_61 rfl ?_
        refine F_get hΓ (t := 3) (i := i) (ci := 5) (C := RX2) (T := TX2) (N := 10) (fs2 (gl Γ) i) (v := .ref (ya (gl Γ) 13 j1)) (FLi hF (t := 3) hii) (fun _ _ _ => rfl) rfl rfl qNd_r rfl inW2 8 (by decide) (TT_cons kw_179) rfl dX2_seeSending_62 ?_
        refine F_getN hΓ (t := 13) (i := j1) (ci := 3) (C := RX0) (T := TX0) (N := 9) (fs0 (gl Γ) j1) (v := .int ((φ j1) 2)) (FLi hF (t := 13) hij1) (fun _ _ _ => rfl) (congrFun hr_φ j1) rfl rfl rfl inW0 2 (by decide) 23 (host := "CanBits") rfl rfl dX2_seeSending_65 ?_
        obtain ⟨x12, he15, hf⟩ := lt_eq hf
        have K13 : GG Γ (0, 0) (qNd σ i r1 (some j1) (upd nf 9 ((nf 9) + 1)) h f o a b c tf tt tk) 77 [(0, .ref (ya (gl Γ) 3 i)), (1, .int p1)] [.int x12] := by
          cases hf
          exact G_iret hΓ hE dX2_seeSending_77
        have he := he15
        refine G_icmp_lt hΓ (tgt := 76) dX2_seeSending_68 (by decide) (fun hc14 => ?_) (fun hc14 => ?_)
        · rw [if_pos hc14] at he
          refine G_iconst (v := (-1)) hΓ dX2_seeSending_76 (by decide) ?_
          subst he
          exact K13
        · rw [if_neg hc14] at he
          refine G_bipush (v := 6) hΓ dX2_seeSending_71 (by decide) ?_
          refine G_goto hΓ (tgt := 77) dX2_seeSending_73 (by decide) ?_
          subst he
          exact K13
      · rw [if_pos hc16] at hf
        refine G_iconst (v := 4) hΓ dX2_seeSending_28 (by decide) ?_
        cases hf
        exact G_iret hΓ hE dX2_seeSending_29
theorem dX2_seeFlagging_0 : decode cX2_seeFlagging 0 = .ok (.aload_n 0, 1) := by decide +kernel
theorem dX2_seeFlagging_1 : decode cX2_seeFlagging 1 = .ok (.dup, 1) := by decide +kernel
theorem dX2_seeFlagging_2 : decode cX2_seeFlagging 2 = .ok (.getfield 90, 3) := by decide +kernel
theorem dX2_seeFlagging_5 : decode cX2_seeFlagging 5 = .ok (.iconst 1, 1) := by decide +kernel
theorem dX2_seeFlagging_6 : decode cX2_seeFlagging 6 = .ok (.iadd, 1) := by decide +kernel
theorem dX2_seeFlagging_7 : decode cX2_seeFlagging 7 = .ok (.putfield 90, 3) := by decide +kernel
theorem dX2_seeFlagging_10 : decode cX2_seeFlagging 10 = .ok (.aload_n 0, 1) := by decide +kernel
theorem dX2_seeFlagging_11 : decode cX2_seeFlagging 11 = .ok (.getfield 90, 3) := by decide +kernel
theorem dX2_seeFlagging_14 : decode cX2_seeFlagging 14 = .ok (.bipush 6, 2) := by decide +kernel
theorem dX2_seeFlagging_16 : decode cX2_seeFlagging 16 = .ok (.if_icmp .ne 8, 3) := by decide +kernel
theorem dX2_seeFlagging_19 : decode cX2_seeFlagging 19 = .ok (.aload_n 0, 1) := by decide +kernel
theorem dX2_seeFlagging_20 : decode cX2_seeFlagging 20 = .ok (.iconst 4, 1) := by decide +kernel
theorem dX2_seeFlagging_21 : decode cX2_seeFlagging 21 = .ok (.invokevirtual 28, 3) := by decide +kernel
theorem dX2_seeFlagging_24 : decode cX2_seeFlagging 24 = .ok (.return_, 1) := by decide +kernel
noncomputable def f_X2_seeFlagging  (nf : Nat → Int32)  : Option ((Nat → Int32)) := jn (α := Nat → Int32) (fun x1 => some (x1)) (fun k2 => if ((nf 3) + 1) = 6 then bd (f_X2_enter (upd nf 3 ((nf 3) + 1)) 4) (fun u4 => k2 u4) else k2 (upd nf 3 ((nf 3) + 1)))
set_option maxHeartbeats 4000000 in
set_option maxRecDepth 100000 in
theorem c_X2_seeFlagging (l : Launch) (Λ : LY) (hF : FL Λ) (σ : CS) (i : Nat) (r1 : Option Nat) (r2 : Option Nat) (nf : Nat → Int32) (h : Int64) (f : Nat → Int32) (o : Nat → Int32) (a : Nat → Int32) (b : Nat → Int32) (c : Nat → Int32) (tf : Nat → Int32) (tt : Nat → Int32) (tk : Nat → Int32)  (hii : i < 32)  {nf' : Nat → Int32} (hf : f_X2_seeFlagging nf = some nf') : CM l yX2_seeFlagging (.code yX2_seeFlagging cX2_seeFlagging 1 none :: TT) ({ frames := 1, cells := 0, slots := 0, locals := 21 }) Λ [.ref (ya Λ 3 i)] (qNd σ i r1 r2 nf h f o a b c tf tt tk) (qNd σ i r1 r2 nf' h f o a b c tf tt tk) (none) := by
  refine CM_intro (own := RX2) (by decide) rfl (Nat.le_of_ble_eq_true rfl) ?_
  intro Γ hg hl hΓ hE
  subst hg; subst hl
  show GG Γ (0, 0) (qNd σ i r1 r2 nf h f o a b c tf tt tk) 0 [(0, .ref (ya (gl Γ) 3 i))] []
  unfold f_X2_seeFlagging at hf
  refine G_aload_n hΓ 0 dX2_seeFlagging_0 rfl ?_
  refine G_dup hΓ dX2_seeFlagging_1 rfl ?_
  refine F_get hΓ (t := 3) (i := i) (ci := 5) (C := RX2) (T := TX2) (N := 10) (fs2 (gl Γ) i) (v := .int (nf 3)) (FLi hF (t := 3) hii) (fun _ _ _ => rfl) qNd_g3 rfl rfl rfl inW2 3 (by decide) (TT_cons kw_170) rfl dX2_seeFlagging_2 ?_
  refine G_iconst (v := 1) hΓ dX2_seeFlagging_5 (by decide) ?_
  refine G_iadd hΓ dX2_seeFlagging_6 ?_
  refine F_put hΓ (t := 3) (i := i) (ci := 5) (C := RX2) (T := TX2) (N := 10) (fs2 (gl Γ) i) (f := nf) (f' := (upd nf 3 ((nf 3) + 1))) (σ' := (qNd σ i r1 r2 (upd nf 3 ((nf 3) + 1)) h f o a b c tf tt tk)) (ty := .int) (v := .int ((nf 3) + 1)) tyX2 tyX2_ok nmX2 (FLi hF (t := 3) hii) (fun _ _ _ => rfl) qNd_g3 qNd_s3 rfl inW2 3 (by decide) (TT_cons kw_170) rfl (by decide +kernel) rfl rfl (fun _ _ => Nat.le_of_ble_eq_true rfl) (fun _ _ => rfl) dX2_seeFlagging_7 ?_
  refine G_aload_n hΓ 0 dX2_seeFlagging_10 rfl ?_
  refine F_get hΓ (t := 3) (i := i) (ci := 5) (C := RX2) (T := TX2) (N := 10) (fs2 (gl Γ) i) (v := .int ((nf 3) + 1)) (FLi hF (t := 3) hii) (fun _ _ _ => rfl) qNd_g3 rfl rfl rfl inW2 3 (by decide) (TT_cons kw_170) rfl dX2_seeFlagging_11 ?_
  refine G_bipush (v := 6) hΓ dX2_seeFlagging_14 (by decide) ?_
  obtain ⟨k2, hk_k2, hf⟩ := jn_eq hf
  try dsimp only at hf
  have K3 : ∀ x1, k2 x1 = some nf' → GG Γ (0, 0) (qNd σ i r1 r2 x1 h f o a b c tf tt tk) 24 [(0, .ref (ya (gl Γ) 3 i))] [] := by
    intro x1 hf
    subst hk_k2
    try dsimp only at hf
    cases hf
    exact G_vret hΓ hE dX2_seeFlagging_24
  clear hk_k2
  refine G_icmp_ne hΓ (tgt := 24) dX2_seeFlagging_16 (by decide) (fun hc6 => ?_) (fun hc6 => ?_)
  · rw [if_neg hc6] at hf
    exact K3 _ hf
  · rw [if_pos hc6] at hf
    refine G_aload_n hΓ 0 dX2_seeFlagging_19 rfl ?_
    refine G_iconst (v := 4) hΓ dX2_seeFlagging_20 (by decide) ?_
    obtain ⟨u4, hc5, hf⟩ := bd_some hf
    refine G_callV hΓ (n := 1) (As := [.int 4]) (t := 3) (i := i) (ci := 5) (T := TX2) (N := 10) (FS := fs2 (gl Γ) i) (σ' := (qNd σ i r1 r2 u4 h f o a b c tf tt tk)) (c_X2_enter (gL Γ) (gl Γ) hF σ i r1 r2 (upd nf 3 ((nf 3) + 1)) h f o a b c tf tt tk 4 hii hc5) rfl rfl kw_287 kw_289 kp_1 kw_2 kw_290 ⟨rfl, by decide, by decide, by decide +kernel⟩ (FLi hF (t := 3) hii) (fun _ _ _ => rfl) rfl rfl rfl ⟨Nat.le_of_ble_eq_true rfl, Nat.le_of_ble_eq_true rfl⟩ rfl (Nat.le_of_ble_eq_true rfl) dX2_seeFlagging_21 ⟨_, rfl⟩ rfl ?_
    exact K3 _ hf
theorem dX2_seeClearing_0 : decode cX2_seeClearing 0 = .ok (.aload_n 0, 1) := by decide +kernel
theorem dX2_seeClearing_1 : decode cX2_seeClearing 1 = .ok (.dup, 1) := by decide +kernel
theorem dX2_seeClearing_2 : decode cX2_seeClearing 2 = .ok (.getfield 90, 3) := by decide +kernel
theorem dX2_seeClearing_5 : decode cX2_seeClearing 5 = .ok (.iconst 1, 1) := by decide +kernel
theorem dX2_seeClearing_6 : decode cX2_seeClearing 6 = .ok (.iadd, 1) := by decide +kernel
theorem dX2_seeClearing_7 : decode cX2_seeClearing 7 = .ok (.putfield 90, 3) := by decide +kernel
theorem dX2_seeClearing_10 : decode cX2_seeClearing 10 = .ok (.iload_n 1, 1) := by decide +kernel
theorem dX2_seeClearing_11 : decode cX2_seeClearing 11 = .ok (.ifCond .ne 18, 3) := by decide +kernel
theorem dX2_seeClearing_14 : decode cX2_seeClearing 14 = .ok (.aload_n 0, 1) := by decide +kernel
theorem dX2_seeClearing_15 : decode cX2_seeClearing 15 = .ok (.getfield 90, 3) := by decide +kernel
theorem dX2_seeClearing_18 : decode cX2_seeClearing 18 = .ok (.bipush 7, 2) := by decide +kernel
theorem dX2_seeClearing_20 : decode cX2_seeClearing 20 = .ok (.if_icmp .ne 7, 3) := by decide +kernel
theorem dX2_seeClearing_23 : decode cX2_seeClearing 23 = .ok (.iconst 5, 1) := by decide +kernel
theorem dX2_seeClearing_24 : decode cX2_seeClearing 24 = .ok (.goto 4, 3) := by decide +kernel
theorem dX2_seeClearing_27 : decode cX2_seeClearing 27 = .ok (.iconst 2, 1) := by decide +kernel
theorem dX2_seeClearing_28 : decode cX2_seeClearing 28 = .ok (.ireturn, 1) := by decide +kernel
theorem dX2_seeClearing_29 : decode cX2_seeClearing 29 = .ok (.aload_n 0, 1) := by decide +kernel
theorem dX2_seeClearing_30 : decode cX2_seeClearing 30 = .ok (.getfield 90, 3) := by decide +kernel
theorem dX2_seeClearing_33 : decode cX2_seeClearing 33 = .ok (.bipush 7, 2) := by decide +kernel
theorem dX2_seeClearing_35 : decode cX2_seeClearing 35 = .ok (.if_icmp .ne 8, 3) := by decide +kernel
theorem dX2_seeClearing_38 : decode cX2_seeClearing 38 = .ok (.bipush 8, 2) := by decide +kernel
theorem dX2_seeClearing_40 : decode cX2_seeClearing 40 = .ok (.goto 4, 3) := by decide +kernel
theorem dX2_seeClearing_43 : decode cX2_seeClearing 43 = .ok (.iconst (-1), 1) := by decide +kernel
theorem dX2_seeClearing_44 : decode cX2_seeClearing 44 = .ok (.ireturn, 1) := by decide +kernel
noncomputable def f_X2_seeClearing  (nf : Nat → Int32) (p1 : Int32) : Option ((Nat → Int32) × Int32) := if p1 = 0 then lt (α := Int32) (if ((nf 3) + 1) = 7 then 5 else 2) (fun x5 => some ((upd nf 3 ((nf 3) + 1)), x5)) else lt (α := Int32) (if ((nf 3) + 1) = 7 then 8 else (-1)) (fun x1 => some ((upd nf 3 ((nf 3) + 1)), x1))
set_option maxHeartbeats 4000000 in
set_option maxRecDepth 100000 in
theorem c_X2_seeClearing (l : Launch) (Λ : LY) (hF : FL Λ) (σ : CS) (i : Nat) (r1 : Option Nat) (r2 : Option Nat) (nf : Nat → Int32) (h : Int64) (f : Nat → Int32) (o : Nat → Int32) (a : Nat → Int32) (b : Nat → Int32) (c : Nat → Int32) (tf : Nat → Int32) (tt : Nat → Int32) (tk : Nat → Int32) (p1 : Int32) (hii : i < 32)  {nf' : Nat → Int32} {r9 : Int32} (hf : f_X2_seeClearing nf p1 = some (nf', r9)) : CM l yX2_seeClearing (.code yX2_seeClearing cX2_seeClearing 2 (some .int) :: TT) ({ frames := 0, cells := 0, slots := 0, locals := 0 }) Λ [.ref (ya Λ 3 i), .int p1] (qNd σ i r1 r2 nf h f o a b c tf tt tk) (qNd σ i r1 r2 nf' h f o a b c tf tt tk) (some (.int r9)) := by
  refine CM_intro (own := RX2) (by decide) rfl (Nat.le_of_ble_eq_true rfl) ?_
  intro Γ hg hl hΓ hE
  subst hg; subst hl
  show GG Γ (0, 0) (qNd σ i r1 r2 nf h f o a b c tf tt tk) 0 [(0, .ref (ya (gl Γ) 3 i)), (1, .int p1)] []
  unfold f_X2_seeClearing at hf
  refine G_aload_n hΓ 0 dX2_seeClearing_0 rfl ?_
  refine G_dup hΓ dX2_seeClearing_1 rfl ?_
  refine F_get hΓ (t := 3) (i := i) (ci := 5) (C := RX2) (T := TX2) (N := 10) (fs2 (gl Γ) i) (v := .int (nf 3)) (FLi hF (t := 3) hii) (fun _ _ _ => rfl) qNd_g3 rfl rfl rfl inW2 3 (by decide) (TT_cons kw_170) rfl dX2_seeClearing_2 ?_
  refine G_iconst (v := 1) hΓ dX2_seeClearing_5 (by decide) ?_
  refine G_iadd hΓ dX2_seeClearing_6 ?_
  refine F_put hΓ (t := 3) (i := i) (ci := 5) (C := RX2) (T := TX2) (N := 10) (fs2 (gl Γ) i) (f := nf) (f' := (upd nf 3 ((nf 3) + 1))) (σ' := (qNd σ i r1 r2 (upd nf 3 ((nf 3) + 1)) h f o a b c tf tt tk)) (ty := .int) (v := .int ((nf 3) + 1)) tyX2 tyX2_ok nmX2 (FLi hF (t := 3) hii) (fun _ _ _ => rfl) qNd_g3 qNd_s3 rfl inW2 3 (by decide) (TT_cons kw_170) rfl (by decide +kernel) rfl rfl (fun _ _ => Nat.le_of_ble_eq_true rfl) (fun _ _ => rfl) dX2_seeClearing_7 ?_
  refine G_iload_n hΓ 1 dX2_seeClearing_10 rfl ?_
  refine G_if_ne hΓ (tgt := 29) dX2_seeClearing_11 (by decide) (fun hc9 => ?_) (fun hc9 => ?_)
  · rw [if_neg hc9] at hf
    refine G_aload_n hΓ 0 dX2_seeClearing_29 rfl ?_
    refine F_get hΓ (t := 3) (i := i) (ci := 5) (C := RX2) (T := TX2) (N := 10) (fs2 (gl Γ) i) (v := .int ((nf 3) + 1)) (FLi hF (t := 3) hii) (fun _ _ _ => rfl) qNd_g3 rfl rfl rfl inW2 3 (by decide) (TT_cons kw_170) rfl dX2_seeClearing_30 ?_
    refine G_bipush (v := 7) hΓ dX2_seeClearing_33 (by decide) ?_
    obtain ⟨x1, he4, hf⟩ := lt_eq hf
    have K2 : GG Γ (0, 0) (qNd σ i r1 r2 (upd nf 3 ((nf 3) + 1)) h f o a b c tf tt tk) 44 [(0, .ref (ya (gl Γ) 3 i)), (1, .int p1)] [.int x1] := by
      cases hf
      exact G_iret hΓ hE dX2_seeClearing_44
    have he := he4
    refine G_icmp_ne hΓ (tgt := 43) dX2_seeClearing_35 (by decide) (fun hc3 => ?_) (fun hc3 => ?_)
    · rw [if_neg hc3] at he
      refine G_iconst (v := (-1)) hΓ dX2_seeClearing_43 (by decide) ?_
      subst he
      exact K2
    · rw [if_pos hc3] at he
      refine G_bipush (v := 8) hΓ dX2_seeClearing_38 (by decide) ?_
      refine G_goto hΓ (tgt := 44) dX2_seeClearing_40 (by decide) ?_
      subst he
      exact K2
  · rw [if_pos hc9] at hf
    refine G_aload_n hΓ 0 dX2_seeClearing_14 rfl ?_
    refine F_get hΓ (t := 3) (i := i) (ci := 5) (C := RX2) (T := TX2) (N := 10) (fs2 (gl Γ) i) (v := .int ((nf 3) + 1)) (FLi hF (t := 3) hii) (fun _ _ _ => rfl) qNd_g3 rfl rfl rfl inW2 3 (by decide) (TT_cons kw_170) rfl dX2_seeClearing_15 ?_
    refine G_bipush (v := 7) hΓ dX2_seeClearing_18 (by decide) ?_
    obtain ⟨x5, he8, hf⟩ := lt_eq hf
    have K6 : GG Γ (0, 0) (qNd σ i r1 r2 (upd nf 3 ((nf 3) + 1)) h f o a b c tf tt tk) 28 [(0, .ref (ya (gl Γ) 3 i)), (1, .int p1)] [.int x5] := by
      cases hf
      exact G_iret hΓ hE dX2_seeClearing_28
    have he := he8
    refine G_icmp_ne hΓ (tgt := 27) dX2_seeClearing_20 (by decide) (fun hc7 => ?_) (fun hc7 => ?_)
    · rw [if_neg hc7] at he
      refine G_iconst (v := 2) hΓ dX2_seeClearing_27 (by decide) ?_
      subst he
      exact K6
    · rw [if_pos hc7] at he
      refine G_iconst (v := 5) hΓ dX2_seeClearing_23 (by decide) ?_
      refine G_goto hΓ (tgt := 28) dX2_seeClearing_24 (by decide) ?_
      subst he
      exact K6
theorem dX2_seePausing_0 : decode cX2_seePausing 0 = .ok (.aload_n 0, 1) := by decide +kernel
theorem dX2_seePausing_1 : decode cX2_seePausing 1 = .ok (.dup, 1) := by decide +kernel
theorem dX2_seePausing_2 : decode cX2_seePausing 2 = .ok (.getfield 90, 3) := by decide +kernel
theorem dX2_seePausing_5 : decode cX2_seePausing 5 = .ok (.iconst 1, 1) := by decide +kernel
theorem dX2_seePausing_6 : decode cX2_seePausing 6 = .ok (.iadd, 1) := by decide +kernel
theorem dX2_seePausing_7 : decode cX2_seePausing 7 = .ok (.putfield 90, 3) := by decide +kernel
theorem dX2_seePausing_10 : decode cX2_seePausing 10 = .ok (.aload_n 0, 1) := by decide +kernel
theorem dX2_seePausing_11 : decode cX2_seePausing 11 = .ok (.getfield 90, 3) := by decide +kernel
theorem dX2_seePausing_14 : decode cX2_seePausing 14 = .ok (.iconst 3, 1) := by decide +kernel
theorem dX2_seePausing_15 : decode cX2_seePausing 15 = .ok (.if_icmp .ge 13, 3) := by decide +kernel
theorem dX2_seePausing_18 : decode cX2_seePausing 18 = .ok (.iload_n 1, 1) := by decide +kernel
theorem dX2_seePausing_19 : decode cX2_seePausing 19 = .ok (.ifCond .ne 7, 3) := by decide +kernel
theorem dX2_seePausing_22 : decode cX2_seePausing 22 = .ok (.iconst 5, 1) := by decide +kernel
theorem dX2_seePausing_23 : decode cX2_seePausing 23 = .ok (.goto 4, 3) := by decide +kernel
theorem dX2_seePausing_26 : decode cX2_seePausing 26 = .ok (.iconst (-1), 1) := by decide +kernel
theorem dX2_seePausing_27 : decode cX2_seePausing 27 = .ok (.ireturn, 1) := by decide +kernel
theorem dX2_seePausing_28 : decode cX2_seePausing 28 = .ok (.iload_n 1, 1) := by decide +kernel
theorem dX2_seePausing_29 : decode cX2_seePausing 29 = .ok (.iconst 1, 1) := by decide +kernel
theorem dX2_seePausing_30 : decode cX2_seePausing 30 = .ok (.if_icmp .ne 11, 3) := by decide +kernel
theorem dX2_seePausing_33 : decode cX2_seePausing 33 = .ok (.aload_n 0, 1) := by decide +kernel
theorem dX2_seePausing_34 : decode cX2_seePausing 34 = .ok (.iconst 0, 1) := by decide +kernel
theorem dX2_seePausing_35 : decode cX2_seePausing 35 = .ok (.invokevirtual 28, 3) := by decide +kernel
theorem dX2_seePausing_38 : decode cX2_seePausing 38 = .ok (.goto 8, 3) := by decide +kernel
theorem dX2_seePausing_41 : decode cX2_seePausing 41 = .ok (.aload_n 0, 1) := by decide +kernel
theorem dX2_seePausing_42 : decode cX2_seePausing 42 = .ok (.iconst 1, 1) := by decide +kernel
theorem dX2_seePausing_43 : decode cX2_seePausing 43 = .ok (.invokevirtual 55, 3) := by decide +kernel
theorem dX2_seePausing_46 : decode cX2_seePausing 46 = .ok (.iconst (-1), 1) := by decide +kernel
theorem dX2_seePausing_47 : decode cX2_seePausing 47 = .ok (.ireturn, 1) := by decide +kernel
noncomputable def f_X2_seePausing  (r1 : Option Nat) (r2 : Option Nat) (nf : Nat → Int32) (p1 : Int32) : Option (Option Nat × Option Nat × (Nat → Int32) × Int32) := if 3 ≤ ((nf 3) + 1) then jn (α := Option Nat × Option Nat × (Nat → Int32)) (fun ⟨x1, x2, x3⟩ => some (x1, x2, x3, (-1))) (fun k4 => if p1 = 1 then bd (f_X2_enter (upd nf 3 ((nf 3) + 1)) 0) (fun u10 => k4 (r1, r2, u10)) else bd (f_X2_startSending r1 r2 (upd nf 3 ((nf 3) + 1)) 1) (fun ⟨u6, u7, u8⟩ => k4 (u6, u7, u8))) else lt (α := Int32) (if p1 = 0 then 5 else (-1)) (fun x13 => some (r1, r2, (upd nf 3 ((nf 3) + 1)), x13))
set_option maxHeartbeats 4000000 in
set_option maxRecDepth 100000 in
theorem c_X2_seePausing (l : Launch) (Λ : LY) (hF : FL Λ) (σ : CS) (i : Nat) (r1 : Option Nat) (r2 : Option Nat) (nf : Nat → Int32) (h : Int64) (f : Nat → Int32) (o : Nat → Int32) (a : Nat → Int32) (b : Nat → Int32) (c : Nat → Int32) (tf : Nat → Int32) (tt : Nat → Int32) (tk : Nat → Int32) (p1 : Int32) (hii : i < 32)  {r1' : Option Nat} {r2' : Option Nat} {nf' : Nat → Int32} {r9 : Int32} (hf : f_X2_seePausing r1 r2 nf p1 = some (r1', r2', nf', r9)) : CM l yX2_seePausing (.code yX2_seePausing cX2_seePausing 2 (some .int) :: TT) ({ frames := 2, cells := 0, slots := 0, locals := 42 }) Λ [.ref (ya Λ 3 i), .int p1] (qNd σ i r1 r2 nf h f o a b c tf tt tk) (qNd σ i r1' r2' nf' h f o a b c tf tt tk) (some (.int r9)) := by
  refine CM_intro (own := RX2) (by decide) rfl (Nat.le_of_ble_eq_true rfl) ?_
  intro Γ hg hl hΓ hE
  subst hg; subst hl
  show GG Γ (0, 0) (qNd σ i r1 r2 nf h f o a b c tf tt tk) 0 [(0, .ref (ya (gl Γ) 3 i)), (1, .int p1)] []
  unfold f_X2_seePausing at hf
  refine G_aload_n hΓ 0 dX2_seePausing_0 rfl ?_
  refine G_dup hΓ dX2_seePausing_1 rfl ?_
  refine F_get hΓ (t := 3) (i := i) (ci := 5) (C := RX2) (T := TX2) (N := 10) (fs2 (gl Γ) i) (v := .int (nf 3)) (FLi hF (t := 3) hii) (fun _ _ _ => rfl) qNd_g3 rfl rfl rfl inW2 3 (by decide) (TT_cons kw_170) rfl dX2_seePausing_2 ?_
  refine G_iconst (v := 1) hΓ dX2_seePausing_5 (by decide) ?_
  refine G_iadd hΓ dX2_seePausing_6 ?_
  refine F_put hΓ (t := 3) (i := i) (ci := 5) (C := RX2) (T := TX2) (N := 10) (fs2 (gl Γ) i) (f := nf) (f' := (upd nf 3 ((nf 3) + 1))) (σ' := (qNd σ i r1 r2 (upd nf 3 ((nf 3) + 1)) h f o a b c tf tt tk)) (ty := .int) (v := .int ((nf 3) + 1)) tyX2 tyX2_ok nmX2 (FLi hF (t := 3) hii) (fun _ _ _ => rfl) qNd_g3 qNd_s3 rfl inW2 3 (by decide) (TT_cons kw_170) rfl (by decide +kernel) rfl rfl (fun _ _ => Nat.le_of_ble_eq_true rfl) (fun _ _ => rfl) dX2_seePausing_7 ?_
  refine G_aload_n hΓ 0 dX2_seePausing_10 rfl ?_
  refine F_get hΓ (t := 3) (i := i) (ci := 5) (C := RX2) (T := TX2) (N := 10) (fs2 (gl Γ) i) (v := .int ((nf 3) + 1)) (FLi hF (t := 3) hii) (fun _ _ _ => rfl) qNd_g3 rfl rfl rfl inW2 3 (by decide) (TT_cons kw_170) rfl dX2_seePausing_11 ?_
  refine G_iconst (v := 3) hΓ dX2_seePausing_14 (by decide) ?_
  refine G_icmp_ge hΓ (tgt := 28) dX2_seePausing_15 (by decide) (fun hc17 => ?_) (fun hc17 => ?_)
  · rw [if_pos hc17] at hf
    refine G_iload_n hΓ 1 dX2_seePausing_28 rfl ?_
    refine G_iconst (v := 1) hΓ dX2_seePausing_29 (by decide) ?_
    obtain ⟨k4, hk_k4, hf⟩ := jn_eq hf
    try dsimp only at hf
    have K5 : ∀ x1 x2 x3, k4 (x1, x2, x3) = some (r1', r2', nf', r9) → GG Γ (0, 0) (qNd σ i x1 x2 x3 h f o a b c tf tt tk) 46 [(0, .ref (ya (gl Γ) 3 i)), (1, .int p1)] [] := by
      intro x1 x2 x3 hf
      subst hk_k4
      try dsimp only at hf
      refine G_iconst (v := (-1)) hΓ dX2_seePausing_46 (by decide) ?_
      cases hf
      exact G_iret hΓ hE dX2_seePausing_47
    clear hk_k4
    refine G_icmp_ne hΓ (tgt := 41) dX2_seePausing_30 (by decide) (fun hc12 => ?_) (fun hc12 => ?_)
    · rw [if_neg hc12] at hf
      refine G_aload_n hΓ 0 dX2_seePausing_41 rfl ?_
      refine G_iconst (v := 1) hΓ dX2_seePausing_42 (by decide) ?_
      obtain ⟨⟨u6, u7, u8⟩, hc9, hf⟩ := bd_some hf
      try dsimp only at hf
      refine G_callV hΓ (n := 1) (As := [.int 1]) (t := 3) (i := i) (ci := 5) (T := TX2) (N := 10) (FS := fs2 (gl Γ) i) (σ' := (qNd σ i u6 u7 u8 h f o a b c tf tt tk)) (c_X2_startSending (gL Γ) (gl Γ) hF σ i r1 r2 (upd nf 3 ((nf 3) + 1)) h f o a b c tf tt tk 1 hii hc9) rfl rfl kw_664 kw_666 kp_12 kw_2 kw_667 ⟨rfl, by decide, by decide, by decide +kernel⟩ (FLi hF (t := 3) hii) (fun _ _ _ => rfl) rfl rfl rfl ⟨Nat.le_of_ble_eq_true rfl, Nat.le_of_ble_eq_true rfl⟩ rfl (Nat.le_of_ble_eq_true rfl) dX2_seePausing_43 ⟨_, rfl⟩ rfl ?_
      exact K5 _ _ _ hf
    · rw [if_pos hc12] at hf
      refine G_aload_n hΓ 0 dX2_seePausing_33 rfl ?_
      refine G_iconst (v := 0) hΓ dX2_seePausing_34 (by decide) ?_
      obtain ⟨u10, hc11, hf⟩ := bd_some hf
      refine G_callV hΓ (n := 1) (As := [.int 0]) (t := 3) (i := i) (ci := 5) (T := TX2) (N := 10) (FS := fs2 (gl Γ) i) (σ' := (qNd σ i r1 r2 u10 h f o a b c tf tt tk)) (c_X2_enter (gL Γ) (gl Γ) hF σ i r1 r2 (upd nf 3 ((nf 3) + 1)) h f o a b c tf tt tk 0 hii hc11) rfl rfl kw_287 kw_289 kp_1 kw_2 kw_290 ⟨rfl, by decide, by decide, by decide +kernel⟩ (FLi hF (t := 3) hii) (fun _ _ _ => rfl) rfl rfl rfl ⟨Nat.le_of_ble_eq_true rfl, Nat.le_of_ble_eq_true rfl⟩ rfl (Nat.le_of_ble_eq_true rfl) dX2_seePausing_35 ⟨_, rfl⟩ rfl ?_
      refine G_goto hΓ (tgt := 46) dX2_seePausing_38 (by decide) ?_
      exact K5 _ _ _ hf
  · rw [if_neg hc17] at hf
    refine G_iload_n hΓ 1 dX2_seePausing_18 rfl ?_
    obtain ⟨x13, he16, hf⟩ := lt_eq hf
    have K14 : GG Γ (0, 0) (qNd σ i r1 r2 (upd nf 3 ((nf 3) + 1)) h f o a b c tf tt tk) 27 [(0, .ref (ya (gl Γ) 3 i)), (1, .int p1)] [.int x13] := by
      cases hf
      exact G_iret hΓ hE dX2_seePausing_27
    have he := he16
    refine G_if_ne hΓ (tgt := 26) dX2_seePausing_19 (by decide) (fun hc15 => ?_) (fun hc15 => ?_)
    · rw [if_neg hc15] at he
      refine G_iconst (v := (-1)) hΓ dX2_seePausing_26 (by decide) ?_
      subst he
      exact K14
    · rw [if_pos hc15] at he
      refine G_iconst (v := 5) hΓ dX2_seePausing_22 (by decide) ?_
      refine G_goto hΓ (tgt := 27) dX2_seePausing_23 (by decide) ?_
      subst he
      exact K14
theorem dX2_settle_0 : decode cX2_settle 0 = .ok (.iload_n 1, 1) := by decide +kernel
theorem dX2_settle_1 : decode cX2_settle 1 = .ok (.bipush 7, 2) := by decide +kernel
theorem dX2_settle_3 : decode cX2_settle 3 = .ok (.if_icmp .ne 36, 3) := by decide +kernel
theorem dX2_settle_6 : decode cX2_settle 6 = .ok (.aload_n 0, 1) := by decide +kernel
theorem dX2_settle_7 : decode cX2_settle 7 = .ok (.getfield 12, 3) := by decide +kernel
theorem dX2_settle_10 : decode cX2_settle 10 = .ok (.invokevirtual 104, 3) := by decide +kernel
theorem dX2_settle_13 : decode cX2_settle 13 = .ok (.aload_n 0, 1) := by decide +kernel
theorem dX2_settle_14 : decode cX2_settle 14 = .ok (.getfield 32, 3) := by decide +kernel
theorem dX2_settle_17 : decode cX2_settle 17 = .ok (.iand, 1) := by decide +kernel
theorem dX2_settle_18 : decode cX2_settle 18 = .ok (.aload_n 0, 1) := by decide +kernel
theorem dX2_settle_19 : decode cX2_settle 19 = .ok (.getfield 36, 3) := by decide +kernel
theorem dX2_settle_22 : decode cX2_settle 22 = .ok (.if_icmp .ne 15, 3) := by decide +kernel
theorem dX2_settle_25 : decode cX2_settle 25 = .ok (.aload_n 0, 1) := by decide +kernel
theorem dX2_settle_26 : decode cX2_settle 26 = .ok (.getfield 21, 3) := by decide +kernel
theorem dX2_settle_29 : decode cX2_settle 29 = .ok (.aload_n 0, 1) := by decide +kernel
theorem dX2_settle_30 : decode cX2_settle 30 = .ok (.getfield 12, 3) := by decide +kernel
theorem dX2_settle_33 : decode cX2_settle 33 = .ok (.iload_n 2, 1) := by decide +kernel
theorem dX2_settle_34 : decode cX2_settle 34 = .ok (.invokevirtual 108, 3) := by decide +kernel
theorem dX2_settle_37 : decode cX2_settle 37 = .ok (.iconst (-1), 1) := by decide +kernel
theorem dX2_settle_38 : decode cX2_settle 38 = .ok (.ireturn, 1) := by decide +kernel
theorem dX2_settle_39 : decode cX2_settle 39 = .ok (.iload_n 1, 1) := by decide +kernel
theorem dX2_settle_40 : decode cX2_settle 40 = .ok (.bipush 8, 2) := by decide +kernel
theorem dX2_settle_42 : decode cX2_settle 42 = .ok (.if_icmp .eq 9, 3) := by decide +kernel
theorem dX2_settle_45 : decode cX2_settle 45 = .ok (.iload_n 1, 1) := by decide +kernel
theorem dX2_settle_46 : decode cX2_settle 46 = .ok (.bipush 6, 2) := by decide +kernel
theorem dX2_settle_48 : decode cX2_settle 48 = .ok (.if_icmp .ne 22, 3) := by decide +kernel
theorem dX2_settle_51 : decode cX2_settle 51 = .ok (.aload_n 0, 1) := by decide +kernel
theorem dX2_settle_52 : decode cX2_settle 52 = .ok (.bipush 6, 2) := by decide +kernel
theorem dX2_settle_54 : decode cX2_settle 54 = .ok (.invokevirtual 28, 3) := by decide +kernel
theorem dX2_settle_57 : decode cX2_settle 57 = .ok (.iload_n 1, 1) := by decide +kernel
theorem dX2_settle_58 : decode cX2_settle 58 = .ok (.bipush 6, 2) := by decide +kernel
theorem dX2_settle_60 : decode cX2_settle 60 = .ok (.if_icmp .ne 8, 3) := by decide +kernel
theorem dX2_settle_63 : decode cX2_settle 63 = .ok (.bipush 6, 2) := by decide +kernel
theorem dX2_settle_65 : decode cX2_settle 65 = .ok (.goto 4, 3) := by decide +kernel
theorem dX2_settle_68 : decode cX2_settle 68 = .ok (.iconst (-1), 1) := by decide +kernel
theorem dX2_settle_69 : decode cX2_settle 69 = .ok (.ireturn, 1) := by decide +kernel
theorem dX2_settle_70 : decode cX2_settle 70 = .ok (.iload_n 1, 1) := by decide +kernel
theorem dX2_settle_71 : decode cX2_settle 71 = .ok (.iconst (-1), 1) := by decide +kernel
theorem dX2_settle_72 : decode cX2_settle 72 = .ok (.if_icmp .eq 8, 3) := by decide +kernel
theorem dX2_settle_75 : decode cX2_settle 75 = .ok (.aload_n 0, 1) := by decide +kernel
theorem dX2_settle_76 : decode cX2_settle 76 = .ok (.iconst 3, 1) := by decide +kernel
theorem dX2_settle_77 : decode cX2_settle 77 = .ok (.invokevirtual 28, 3) := by decide +kernel
theorem dX2_settle_80 : decode cX2_settle 80 = .ok (.iload_n 1, 1) := by decide +kernel
theorem dX2_settle_81 : decode cX2_settle 81 = .ok (.ireturn, 1) := by decide +kernel
noncomputable def f_X2_settle  (nf : Nat → Int32) (h : Int64) (f : Nat → Int32) (o : Nat → Int32) (tf : Nat → Int32) (tt : Nat → Int32) (tk : Nat → Int32) (p1 : Int32) (p2 : Int32) : Option ((Nat → Int32) × (Nat → Int32) × (Nat → Int32) × (Nat → Int32) × Int32) := if p1 = 7 then bd (f_X1_identifier h f) (fun u21 => jn (α := (Nat → Int32) × (Nat → Int32) × (Nat → Int32)) (fun ⟨x23, x24, x25⟩ => some (nf, x23, x24, x25, (-1))) (fun k26 => if (u21 &&& (nf 4)) = (nf 5) then bd (f_X5_add tf tt tk h f o p2) (fun ⟨u28, u29, u30⟩ => k26 (u28, u29, u30)) else k26 (tf, tt, tk))) else if p1 = 8 then bd (f_X2_enter nf 6) (fun u1 => lt (α := Int32) (if p1 = 6 then 6 else (-1)) (fun x3 => some (u1, tf, tt, tk, x3))) else if p1 = 6 then bd (f_X2_enter nf 6) (fun u13 => lt (α := Int32) (if p1 = 6 then 6 else (-1)) (fun x15 => some (u13, tf, tt, tk, x15))) else jn (α := Nat → Int32) (fun x7 => some (x7, tf, tt, tk, p1)) (fun k8 => if p1 = (-1) then k8 nf else bd (f_X2_enter nf 3) (fun u10 => k8 u10))
set_option maxHeartbeats 4000000 in
set_option maxRecDepth 100000 in
theorem c_X2_settle (l : Launch) (Λ : LY) (hF : FL Λ) (σ : CS) (i : Nat) (r1 : Option Nat) (r2 : Option Nat) (nf : Nat → Int32) (h : Int64) (f : Nat → Int32) (o : Nat → Int32) (a : Nat → Int32) (b : Nat → Int32) (c : Nat → Int32) (tf : Nat → Int32) (tt : Nat → Int32) (tk : Nat → Int32) (p1 : Int32) (p2 : Int32) (hii : i < 32)  {nf' : Nat → Int32} {tf' : Nat → Int32} {tt' : Nat → Int32} {tk' : Nat → Int32} {r9 : Int32} (hf : f_X2_settle nf h f o tf tt tk p1 p2 = some (nf', tf', tt', tk', r9)) : CM l yX2_settle (.code yX2_settle cX2_settle 3 (some .int) :: TT) ({ frames := 2, cells := 0, slots := 0, locals := 46 }) Λ [.ref (ya Λ 3 i), .int p1, .int p2] (qNd σ i r1 r2 nf h f o a b c tf tt tk) (qNd σ i r1 r2 nf' h f o a b c tf' tt' tk') (some (.int r9)) := by
  refine CM_intro (own := RX2) (by decide) rfl (Nat.le_of_ble_eq_true rfl) ?_
  intro Γ hg hl hΓ hE
  subst hg; subst hl
  show GG Γ (0, 0) (qNd σ i r1 r2 nf h f o a b c tf tt tk) 0 [(0, .ref (ya (gl Γ) 3 i)), (1, .int p1), (2, .int p2)] []
  unfold f_X2_settle at hf
  refine G_iload_n hΓ 1 dX2_settle_0 rfl ?_
  refine G_bipush (v := 7) hΓ dX2_settle_1 (by decide) ?_
  refine G_icmp_ne hΓ (tgt := 39) dX2_settle_3 (by decide) (fun hc33 => ?_) (fun hc33 => ?_)
  · rw [if_neg hc33] at hf
    refine G_iload_n hΓ 1 dX2_settle_39 rfl ?_
    refine G_bipush (v := 8) hΓ dX2_settle_40 (by decide) ?_
    refine G_icmp_eq hΓ (tgt := 51) dX2_settle_42 (by decide) (fun hc20 => ?_) (fun hc20 => ?_)
    · rw [if_pos hc20] at hf
      refine G_aload_n hΓ 0 dX2_settle_51 rfl ?_
      refine G_bipush (v := 6) hΓ dX2_settle_52 (by decide) ?_
      obtain ⟨u1, hc2, hf⟩ := bd_some hf
      refine G_callV hΓ (n := 1) (As := [.int 6]) (t := 3) (i := i) (ci := 5) (T := TX2) (N := 10) (FS := fs2 (gl Γ) i) (σ' := (qNd σ i r1 r2 u1 h f o a b c tf tt tk)) (c_X2_enter (gL Γ) (gl Γ) hF σ i r1 r2 nf h f o a b c tf tt tk 6 hii hc2) rfl rfl kw_287 kw_289 kp_1 kw_2 kw_290 ⟨rfl, by decide, by decide, by decide +kernel⟩ (FLi hF (t := 3) hii) (fun _ _ _ => rfl) rfl rfl rfl ⟨Nat.le_of_ble_eq_true rfl, Nat.le_of_ble_eq_true rfl⟩ rfl (Nat.le_of_ble_eq_true rfl) dX2_settle_54 ⟨_, rfl⟩ rfl ?_
      refine G_iload_n hΓ 1 dX2_settle_57 rfl ?_
      refine G_bipush (v := 6) hΓ dX2_settle_58 (by decide) ?_
      obtain ⟨x3, he6, hf⟩ := lt_eq hf
      have K4 : GG Γ (0, 0) (qNd σ i r1 r2 u1 h f o a b c tf tt tk) 69 [(0, .ref (ya (gl Γ) 3 i)), (1, .int p1), (2, .int p2)] [.int x3] := by
        cases hf
        exact G_iret hΓ hE dX2_settle_69
      have he := he6
      refine G_icmp_ne hΓ (tgt := 68) dX2_settle_60 (by decide) (fun hc5 => ?_) (fun hc5 => ?_)
      · rw [if_neg hc5] at he
        refine G_iconst (v := (-1)) hΓ dX2_settle_68 (by decide) ?_
        subst he
        exact K4
      · rw [if_pos hc5] at he
        refine G_bipush (v := 6) hΓ dX2_settle_63 (by decide) ?_
        refine G_goto hΓ (tgt := 69) dX2_settle_65 (by decide) ?_
        subst he
        exact K4
    · rw [if_neg hc20] at hf
      refine G_iload_n hΓ 1 dX2_settle_45 rfl ?_
      refine G_bipush (v := 6) hΓ dX2_settle_46 (by decide) ?_
      refine G_icmp_ne hΓ (tgt := 70) dX2_settle_48 (by decide) (fun hc19 => ?_) (fun hc19 => ?_)
      · rw [if_neg hc19] at hf
        refine G_iload_n hΓ 1 dX2_settle_70 rfl ?_
        refine G_iconst (v := (-1)) hΓ dX2_settle_71 (by decide) ?_
        obtain ⟨k8, hk_k8, hf⟩ := jn_eq hf
        try dsimp only at hf
        have K9 : ∀ x7, k8 x7 = some (nf', tf', tt', tk', r9) → GG Γ (0, 0) (qNd σ i r1 r2 x7 h f o a b c tf tt tk) 80 [(0, .ref (ya (gl Γ) 3 i)), (1, .int p1), (2, .int p2)] [] := by
          intro x7 hf
          subst hk_k8
          try dsimp only at hf
          refine G_iload_n hΓ 1 dX2_settle_80 rfl ?_
          cases hf
          exact G_iret hΓ hE dX2_settle_81
        clear hk_k8
        refine G_icmp_eq hΓ (tgt := 80) dX2_settle_72 (by decide) (fun hc12 => ?_) (fun hc12 => ?_)
        · rw [if_pos hc12] at hf
          exact K9 _ hf
        · rw [if_neg hc12] at hf
          refine G_aload_n hΓ 0 dX2_settle_75 rfl ?_
          refine G_iconst (v := 3) hΓ dX2_settle_76 (by decide) ?_
          obtain ⟨u10, hc11, hf⟩ := bd_some hf
          refine G_callV hΓ (n := 1) (As := [.int 3]) (t := 3) (i := i) (ci := 5) (T := TX2) (N := 10) (FS := fs2 (gl Γ) i) (σ' := (qNd σ i r1 r2 u10 h f o a b c tf tt tk)) (c_X2_enter (gL Γ) (gl Γ) hF σ i r1 r2 nf h f o a b c tf tt tk 3 hii hc11) rfl rfl kw_287 kw_289 kp_1 kw_2 kw_290 ⟨rfl, by decide, by decide, by decide +kernel⟩ (FLi hF (t := 3) hii) (fun _ _ _ => rfl) rfl rfl rfl ⟨Nat.le_of_ble_eq_true rfl, Nat.le_of_ble_eq_true rfl⟩ rfl (Nat.le_of_ble_eq_true rfl) dX2_settle_77 ⟨_, rfl⟩ rfl ?_
          exact K9 _ hf
      · rw [if_pos hc19] at hf
        refine G_aload_n hΓ 0 dX2_settle_51 rfl ?_
        refine G_bipush (v := 6) hΓ dX2_settle_52 (by decide) ?_
        obtain ⟨u13, hc14, hf⟩ := bd_some hf
        refine G_callV hΓ (n := 1) (As := [.int 6]) (t := 3) (i := i) (ci := 5) (T := TX2) (N := 10) (FS := fs2 (gl Γ) i) (σ' := (qNd σ i r1 r2 u13 h f o a b c tf tt tk)) (c_X2_enter (gL Γ) (gl Γ) hF σ i r1 r2 nf h f o a b c tf tt tk 6 hii hc14) rfl rfl kw_287 kw_289 kp_1 kw_2 kw_290 ⟨rfl, by decide, by decide, by decide +kernel⟩ (FLi hF (t := 3) hii) (fun _ _ _ => rfl) rfl rfl rfl ⟨Nat.le_of_ble_eq_true rfl, Nat.le_of_ble_eq_true rfl⟩ rfl (Nat.le_of_ble_eq_true rfl) dX2_settle_54 ⟨_, rfl⟩ rfl ?_
        refine G_iload_n hΓ 1 dX2_settle_57 rfl ?_
        refine G_bipush (v := 6) hΓ dX2_settle_58 (by decide) ?_
        obtain ⟨x15, he18, hf⟩ := lt_eq hf
        have K16 : GG Γ (0, 0) (qNd σ i r1 r2 u13 h f o a b c tf tt tk) 69 [(0, .ref (ya (gl Γ) 3 i)), (1, .int p1), (2, .int p2)] [.int x15] := by
          cases hf
          exact G_iret hΓ hE dX2_settle_69
        have he := he18
        refine G_icmp_ne hΓ (tgt := 68) dX2_settle_60 (by decide) (fun hc17 => ?_) (fun hc17 => ?_)
        · rw [if_neg hc17] at he
          refine G_iconst (v := (-1)) hΓ dX2_settle_68 (by decide) ?_
          subst he
          exact K16
        · rw [if_pos hc17] at he
          refine G_bipush (v := 6) hΓ dX2_settle_63 (by decide) ?_
          refine G_goto hΓ (tgt := 69) dX2_settle_65 (by decide) ?_
          subst he
          exact K16
  · rw [if_pos hc33] at hf
    refine G_aload_n hΓ 0 dX2_settle_6 rfl ?_
    refine F_get hΓ (t := 3) (i := i) (ci := 5) (C := RX2) (T := TX2) (N := 10) (fs2 (gl Γ) i) (v := .ref (ya (gl Γ) 4 i)) (FLi hF (t := 3) hii) (fun _ _ _ => rfl) rfl rfl rfl rfl inW2 0 (by decide) (TT_cons kw_165) rfl dX2_settle_7 ?_
    obtain ⟨u21, hc22, hf⟩ := bd_some hf
    refine G_callV hΓ (n := 0) (As := []) (t := 4) (i := i) (ci := 4) (T := TX1) (N := 17) (FS := fs1 (gl Γ) i) (σ' := (qNd σ i r1 r2 nf h f o a b c tf tt tk)) (c_X1_identifier (gL Γ) (gl Γ) hF (qNd σ i r1 r2 nf h f o a b c tf tt tk) i h f  hii qNd_h qNd_g4 hc22) rfl rfl kw_769 kw_770 kw_771 kw_3 kw_772 ⟨rfl, by decide, by decide, by decide +kernel⟩ (FLi hF (t := 4) hii) (fun _ _ _ => rfl) rfl rfl rfl ⟨Nat.le_of_ble_eq_true rfl, Nat.le_of_ble_eq_true rfl⟩ rfl (Nat.le_of_ble_eq_true rfl) dX2_settle_10 ⟨_, rfl⟩ rfl ?_
    refine G_aload_n hΓ 0 dX2_settle_13 rfl ?_
    refine F_get hΓ (t := 3) (i := i) (ci := 5) (C := RX2) (T := TX2) (N := 10) (fs2 (gl Γ) i) (v := .int (nf 4)) (FLi hF (t := 3) hii) (fun _ _ _ => rfl) qNd_g3 rfl rfl rfl inW2 4 (by decide) (TT_cons kw_171) rfl dX2_settle_14 ?_
    refine G_iand hΓ dX2_settle_17 ?_
    refine G_aload_n hΓ 0 dX2_settle_18 rfl ?_
    refine F_get hΓ (t := 3) (i := i) (ci := 5) (C := RX2) (T := TX2) (N := 10) (fs2 (gl Γ) i) (v := .int (nf 5)) (FLi hF (t := 3) hii) (fun _ _ _ => rfl) qNd_g3 rfl rfl rfl inW2 5 (by decide) (TT_cons kw_173) rfl dX2_settle_19 ?_
    obtain ⟨k26, hk_k26, hf⟩ := jn_eq hf
    try dsimp only at hf
    have K27 : ∀ x23 x24 x25, k26 (x23, x24, x25) = some (nf', tf', tt', tk', r9) → GG Γ (0, 0) (qNd σ i r1 r2 nf h f o a b c x23 x24 x25) 37 [(0, .ref (ya (gl Γ) 3 i)), (1, .int p1), (2, .int p2)] [] := by
      intro x23 x24 x25 hf
      subst hk_k26
      try dsimp only at hf
      refine G_iconst (v := (-1)) hΓ dX2_settle_37 (by decide) ?_
      cases hf
      exact G_iret hΓ hE dX2_settle_38
    clear hk_k26
    refine G_icmp_ne hΓ (tgt := 37) dX2_settle_22 (by decide) (fun hc32 => ?_) (fun hc32 => ?_)
    · rw [if_neg hc32] at hf
      exact K27 _ _ _ hf
    · rw [if_pos hc32] at hf
      refine G_aload_n hΓ 0 dX2_settle_25 rfl ?_
      refine F_get hΓ (t := 3) (i := i) (ci := 5) (C := RX2) (T := TX2) (N := 10) (fs2 (gl Γ) i) (v := .ref (ya (gl Γ) 10 i)) (FLi hF (t := 3) hii) (fun _ _ _ => rfl) rfl rfl rfl rfl inW2 1 (by decide) (TT_cons kw_166) rfl dX2_settle_26 ?_
      refine G_aload_n hΓ 0 dX2_settle_29 rfl ?_
      refine F_get hΓ (t := 3) (i := i) (ci := 5) (C := RX2) (T := TX2) (N := 10) (fs2 (gl Γ) i) (v := .ref (ya (gl Γ) 4 i)) (FLi hF (t := 3) hii) (fun _ _ _ => rfl) rfl rfl rfl rfl inW2 0 (by decide) (TT_cons kw_165) rfl dX2_settle_30 ?_
      refine G_iload_n hΓ 2 dX2_settle_33 rfl ?_
      obtain ⟨⟨u28, u29, u30⟩, hc31, hf⟩ := bd_some hf
      try dsimp only at hf
      refine G_callV hΓ (n := 2) (As := [.ref (ya (gl Γ) 4 i), .int p2]) (t := 10) (i := i) (ci := 8) (T := TX5) (N := 4) (FS := fs5 (gl Γ) i) (σ' := (qNd σ i r1 r2 nf h f o a b c u28 u29 u30)) (c_X5_add (gL Γ) (gl Γ) hF (qNd σ i r1 r2 nf h f o a b c tf tt tk) i tf tt tk h f o p2 hii qNd_h qNd_g4 qNd_g5 hc31) qTak_qNd qTak_qNd kw_774 kw_775 kw_776 kw_6 kw_777 ⟨rfl, by decide, by decide, by decide +kernel⟩ (FLi hF (t := 10) hii) (fun _ _ _ => rfl) rfl rfl rfl ⟨Nat.le_of_ble_eq_true rfl, Nat.le_of_ble_eq_true rfl⟩ rfl (Nat.le_of_ble_eq_true rfl) dX2_settle_34 ⟨_, rfl⟩ rfl ?_
      exact K27 _ _ _ hf
theorem dX2_see_0 : decode cX2_see 0 = .ok (.iload_n 1, 1) := by decide +kernel
theorem dX2_see_1 : decode cX2_see 1 = .ok (.ifCond .ne 7, 3) := by decide +kernel
theorem dX2_see_4 : decode cX2_see 4 = .ok (.aload_n 0, 1) := by decide +kernel
theorem dX2_see_5 : decode cX2_see 5 = .ok (.invokevirtual 68, 3) := by decide +kernel
theorem dX2_see_8 : decode cX2_see 8 = .ok (.iconst (-1), 1) := by decide +kernel
theorem dX2_see_9 : decode cX2_see 9 = .ok (.istore_n 3, 1) := by decide +kernel
theorem dX2_see_10 : decode cX2_see 10 = .ok (.aload_n 0, 1) := by decide +kernel
theorem dX2_see_11 : decode cX2_see 11 = .ok (.getfield 52, 3) := by decide +kernel
theorem dX2_see_14 : decode cX2_see 14 = .ok (.tableswitch 97 1 6 #[38, 47, 59, 66, 79, 88], 38) := by decide +kernel
theorem dX2_see_52 : decode cX2_see 52 = .ok (.aload_n 0, 1) := by decide +kernel
theorem dX2_see_53 : decode cX2_see 53 = .ok (.iload_n 1, 1) := by decide +kernel
theorem dX2_see_54 : decode cX2_see 54 = .ok (.invokevirtual 71, 3) := by decide +kernel
theorem dX2_see_57 : decode cX2_see 57 = .ok (.istore_n 3, 1) := by decide +kernel
theorem dX2_see_58 : decode cX2_see 58 = .ok (.goto 53, 3) := by decide +kernel
theorem dX2_see_61 : decode cX2_see 61 = .ok (.aload_n 0, 1) := by decide +kernel
theorem dX2_see_62 : decode cX2_see 62 = .ok (.getfield 12, 3) := by decide +kernel
theorem dX2_see_65 : decode cX2_see 65 = .ok (.iload_n 1, 1) := by decide +kernel
theorem dX2_see_66 : decode cX2_see 66 = .ok (.invokevirtual 74, 3) := by decide +kernel
theorem dX2_see_69 : decode cX2_see 69 = .ok (.istore_n 3, 1) := by decide +kernel
theorem dX2_see_70 : decode cX2_see 70 = .ok (.goto 41, 3) := by decide +kernel
theorem dX2_see_73 : decode cX2_see 73 = .ok (.aload_n 0, 1) := by decide +kernel
theorem dX2_see_74 : decode cX2_see 74 = .ok (.invokevirtual 77, 3) := by decide +kernel
theorem dX2_see_77 : decode cX2_see 77 = .ok (.goto 34, 3) := by decide +kernel
theorem dX2_see_80 : decode cX2_see 80 = .ok (.iload_n 1, 1) := by decide +kernel
theorem dX2_see_81 : decode cX2_see 81 = .ok (.iconst 1, 1) := by decide +kernel
theorem dX2_see_82 : decode cX2_see 82 = .ok (.if_icmp .ne 29, 3) := by decide +kernel
theorem dX2_see_85 : decode cX2_see 85 = .ok (.aload_n 0, 1) := by decide +kernel
theorem dX2_see_86 : decode cX2_see 86 = .ok (.iconst 5, 1) := by decide +kernel
theorem dX2_see_87 : decode cX2_see 87 = .ok (.invokevirtual 28, 3) := by decide +kernel
theorem dX2_see_90 : decode cX2_see 90 = .ok (.goto 21, 3) := by decide +kernel
theorem dX2_see_93 : decode cX2_see 93 = .ok (.aload_n 0, 1) := by decide +kernel
theorem dX2_see_94 : decode cX2_see 94 = .ok (.iload_n 1, 1) := by decide +kernel
theorem dX2_see_95 : decode cX2_see 95 = .ok (.invokevirtual 80, 3) := by decide +kernel
theorem dX2_see_98 : decode cX2_see 98 = .ok (.istore_n 3, 1) := by decide +kernel
theorem dX2_see_99 : decode cX2_see 99 = .ok (.goto 12, 3) := by decide +kernel
theorem dX2_see_102 : decode cX2_see 102 = .ok (.aload_n 0, 1) := by decide +kernel
theorem dX2_see_103 : decode cX2_see 103 = .ok (.iload_n 1, 1) := by decide +kernel
theorem dX2_see_104 : decode cX2_see 104 = .ok (.invokevirtual 83, 3) := by decide +kernel
theorem dX2_see_107 : decode cX2_see 107 = .ok (.istore_n 3, 1) := by decide +kernel
theorem dX2_see_108 : decode cX2_see 108 = .ok (.goto 3, 3) := by decide +kernel
theorem dX2_see_111 : decode cX2_see 111 = .ok (.aload_n 0, 1) := by decide +kernel
theorem dX2_see_112 : decode cX2_see 112 = .ok (.iload_n 3, 1) := by decide +kernel
theorem dX2_see_113 : decode cX2_see 113 = .ok (.iload_n 2, 1) := by decide +kernel
theorem dX2_see_114 : decode cX2_see 114 = .ok (.invokevirtual 86, 3) := by decide +kernel
theorem dX2_see_117 : decode cX2_see 117 = .ok (.ireturn, 1) := by decide +kernel
noncomputable def f_X2_see  (r1 : Option Nat) (r2 : Option Nat) (nf : Nat → Int32) (h : Int64) (f : Nat → Int32) (o : Nat → Int32) (a : Nat → Int32) (b : Nat → Int32) (c : Nat → Int32) (tf : Nat → Int32) (tt : Nat → Int32) (tk : Nat → Int32) (φ : Nat → Nat → Int32) (φb : Nat → Nat → Int32) (p1 : Int32) (p2 : Int32) : Option (Option Nat × Option Nat × (Nat → Int32) × Int64 × (Nat → Int32) × (Nat → Int32) × (Nat → Int32) × (Nat → Int32) × (Nat → Int32) × (Nat → Int32) × (Nat → Int32) × (Nat → Int32) × Int32) := jn (α := (Nat → Int32) × Int64 × (Nat → Int32) × (Nat → Int32) × (Nat → Int32) × (Nat → Int32) × (Nat → Int32)) (fun ⟨x1, x2, x3, x4, x5, x6, x7⟩ => jn (α := Int32 × (Nat → Int32) × Int64 × (Nat → Int32) × (Nat → Int32) × (Nat → Int32) × (Nat → Int32) × (Nat → Int32) × Option Nat × Option Nat) (fun ⟨x10, x11, x12, x13, x14, x15, x16, x17, x18, x19⟩ => bd (f_X2_settle x11 x12 x13 x14 tf tt tk x10 p2) (fun ⟨u22, u23, u24, u25, u26⟩ => some (x18, x19, u22, x12, x13, x14, x15, x16, x17, u23, u24, u25, u26))) (fun k20 => if (x1 2) = 1 then bd (f_X2_seeSending r2 x1 φ φb p1) (fun ⟨u29, u30⟩ => k20 (u30, u29, x2, x3, x4, x5, x6, x7, r1, r2)) else if (x1 2) = 2 then bd (f_X1_hear x2 x3 x4 x5 x6 x7 p1) (fun ⟨u33, u34, u35, u36, u37, u38, u39⟩ => k20 (u39, x1, u33, u34, u35, u36, u37, u38, r1, r2)) else if (x1 2) = 3 then bd (f_X2_seeFlagging x1) (fun u42 => k20 ((-1), u42, x2, x3, x4, x5, x6, x7, r1, r2)) else if (x1 2) = 4 then if p1 = 1 then bd (f_X2_enter x1 5) (fun u45 => k20 ((-1), u45, x2, x3, x4, x5, x6, x7, r1, r2)) else k20 ((-1), x1, x2, x3, x4, x5, x6, x7, r1, r2) else if (x1 2) = 5 then bd (f_X2_seeClearing x1 p1) (fun ⟨u49, u50⟩ => k20 (u50, u49, x2, x3, x4, x5, x6, x7, r1, r2)) else if (x1 2) = 6 then bd (f_X2_seePausing r1 r2 x1 p1) (fun ⟨u53, u54, u55, u56⟩ => k20 (u56, u55, x2, x3, x4, x5, x6, x7, u53, u54)) else k20 ((-1), x1, x2, x3, x4, x5, x6, x7, r1, r2))) (fun k8 => if p1 = 0 then bd (f_X2_turnToListening r1 r2 nf h f o a b c φ φb) (fun ⟨u58, u59, u60, u61, u62, u63, u64⟩ => k8 (u58, u59, u60, u61, u62, u63, u64)) else k8 (nf, h, f, o, a, b, c))
set_option maxHeartbeats 4000000 in
set_option maxRecDepth 100000 in
theorem c_X2_see (l : Launch) (Λ : LY) (hF : FL Λ) (σ : CS) (i : Nat) (r1 : Option Nat) (r2 : Option Nat) (nf : Nat → Int32) (h : Int64) (f : Nat → Int32) (o : Nat → Int32) (a : Nat → Int32) (b : Nat → Int32) (c : Nat → Int32) (tf : Nat → Int32) (tt : Nat → Int32) (tk : Nat → Int32) (φ : Nat → Nat → Int32) (φb : Nat → Nat → Int32) (p1 : Int32) (p2 : Int32) (hii : i < 32) (hr_φ : σ.1 13  = φ) (hr_φb : σ.1 15  = φb) {r1' : Option Nat} {r2' : Option Nat} {nf' : Nat → Int32} {h' : Int64} {f' : Nat → Int32} {o' : Nat → Int32} {a' : Nat → Int32} {b' : Nat → Int32} {c' : Nat → Int32} {tf' : Nat → Int32} {tt' : Nat → Int32} {tk' : Nat → Int32} {r9 : Int32} (hf : f_X2_see r1 r2 nf h f o a b c tf tt tk φ φb p1 p2 = some (r1', r2', nf', h', f', o', a', b', c', tf', tt', tk', r9)) : CM l yX2_see (.code yX2_see cX2_see 4 (some .int) :: TT) ({ frames := 6, cells := 0, slots := 0, locals := 131 }) Λ [.ref (ya Λ 3 i), .int p1, .int p2] (qNd σ i r1 r2 nf h f o a b c tf tt tk) (qNd σ i r1' r2' nf' h' f' o' a' b' c' tf' tt' tk') (some (.int r9)) := by
  refine CM_intro (own := RX2) (by decide) rfl (Nat.le_of_ble_eq_true rfl) ?_
  intro Γ hg hl hΓ hE
  subst hg; subst hl
  show GG Γ (0, 0) (qNd σ i r1 r2 nf h f o a b c tf tt tk) 0 [(0, .ref (ya (gl Γ) 3 i)), (1, .int p1), (2, .int p2)] []
  unfold f_X2_see at hf
  refine G_iload_n hΓ 1 dX2_see_0 rfl ?_
  obtain ⟨k8, hk_k8, hf⟩ := jn_eq hf
  try dsimp only at hf
  have K9 : ∀ x1 x2 x3 x4 x5 x6 x7, k8 (x1, x2, x3, x4, x5, x6, x7) = some (r1', r2', nf', h', f', o', a', b', c', tf', tt', tk', r9) → GG Γ (0, 0) (qNd σ i r1 r2 x1 x2 x3 x4 x5 x6 x7 tf tt tk) 8 [(0, .ref (ya (gl Γ) 3 i)), (1, .int p1), (2, .int p2)] [] := by
    intro x1 x2 x3 x4 x5 x6 x7 hf
    subst hk_k8
    try dsimp only at hf
    refine G_iconst (v := (-1)) hΓ dX2_see_8 (by decide) ?_
    refine G_istore_n hΓ [(3, .int (-1)), (0, .ref (ya (gl Γ) 3 i)), (1, .int p1), (2, .int p2)] dX2_see_9 (by decide) rfl ?_
    refine G_aload_n hΓ 1 dX2_see_10 rfl ?_
    refine F_get hΓ (t := 3) (i := i) (ci := 5) (C := RX2) (T := TX2) (N := 10) (fs2 (gl Γ) i) (v := .int (x1 2)) (FLi hF (t := 3) hii) (fun _ _ _ => rfl) qNd_g3 rfl rfl rfl inW2 2 (by decide) (TT_cons kw_168) rfl dX2_see_11 ?_
    obtain ⟨k20, hk_k20, hf⟩ := jn_eq hf
    try dsimp only at hf
    have K21 : ∀ x10 x11 x12 x13 x14 x15 x16 x17 x18 x19, k20 (x10, x11, x12, x13, x14, x15, x16, x17, x18, x19) = some (r1', r2', nf', h', f', o', a', b', c', tf', tt', tk', r9) → GG Γ (0, 0) (qNd σ i x18 x19 x11 x12 x13 x14 x15 x16 x17 tf tt tk) 111 [(3, .int x10), (0, .ref (ya (gl Γ) 3 i)), (1, .int p1), (2, .int p2)] [] := by
      intro x10 x11 x12 x13 x14 x15 x16 x17 x18 x19 hf
      subst hk_k20
      try dsimp only at hf
      refine G_aload_n hΓ 1 dX2_see_111 rfl ?_
      refine G_iload_n hΓ 0 dX2_see_112 rfl ?_
      refine G_iload_n hΓ 3 dX2_see_113 rfl ?_
      obtain ⟨⟨u22, u23, u24, u25, u26⟩, hc27, hf⟩ := bd_some hf
      try dsimp only at hf
      refine G_callV hΓ (n := 2) (As := [.int x10, .int p2]) (t := 3) (i := i) (ci := 5) (T := TX2) (N := 10) (FS := fs2 (gl Γ) i) (σ' := (qNd σ i x18 x19 u22 x12 x13 x14 x15 x16 x17 u23 u24 u25)) (c_X2_settle (gL Γ) (gl Γ) hF σ i x18 x19 x11 x12 x13 x14 x15 x16 x17 tf tt tk x10 p2 hii hc27) rfl rfl kw_765 kw_767 kp_26 kw_2 kw_768 ⟨rfl, by decide, by decide, by decide +kernel⟩ (FLi hF (t := 3) hii) (fun _ _ _ => rfl) rfl rfl rfl ⟨Nat.le_of_ble_eq_true rfl, Nat.le_of_ble_eq_true rfl⟩ rfl (Nat.le_of_ble_eq_true rfl) dX2_see_114 ⟨_, rfl⟩ rfl ?_
      cases hf
      exact G_iret hΓ hE dX2_see_117
    clear hk_k20
    by_cases hs28 : (x1 2) = 1
    · rw [if_pos hs28] at hf
      refine G_tabV hΓ (tgt := 52) 1 hs28 dX2_see_14 (by decide) (by decide) rfl (by decide) ?_
      refine G_aload_n hΓ 1 dX2_see_52 rfl ?_
      refine G_iload_n hΓ 2 dX2_see_53 rfl ?_
      obtain ⟨⟨u29, u30⟩, hc31, hf⟩ := bd_some hf
      try dsimp only at hf
      refine G_callV hΓ (n := 1) (As := [.int p1]) (t := 3) (i := i) (ci := 5) (T := TX2) (N := 10) (FS := fs2 (gl Γ) i) (σ' := (qNd σ i r1 r2 u29 x2 x3 x4 x5 x6 x7 tf tt tk)) (c_X2_seeSending (gL Γ) (gl Γ) hF σ i r1 r2 x1 x2 x3 x4 x5 x6 x7 tf tt tk φ φb p1 hii hr_φ hr_φb hc31) rfl rfl kw_745 kw_747 kp_22 kw_2 kw_748 ⟨rfl, by decide, by decide, by decide +kernel⟩ (FLi hF (t := 3) hii) (fun _ _ _ => rfl) rfl rfl rfl ⟨Nat.le_of_ble_eq_true rfl, Nat.le_of_ble_eq_true rfl⟩ rfl (Nat.le_of_ble_eq_true rfl) dX2_see_54 ⟨_, rfl⟩ rfl ?_
      refine G_istore_n hΓ [(3, .int u30), (0, .ref (ya (gl Γ) 3 i)), (1, .int p1), (2, .int p2)] dX2_see_57 (by decide) rfl ?_
      refine G_goto hΓ (tgt := 111) dX2_see_58 (by decide) ?_
      exact K21 _ _ _ _ _ _ _ _ _ _ hf
    rw [if_neg hs28] at hf
    by_cases hs32 : (x1 2) = 2
    · rw [if_pos hs32] at hf
      refine G_tabV hΓ (tgt := 61) 2 hs32 dX2_see_14 (by decide) (by decide) rfl (by decide) ?_
      refine G_aload_n hΓ 1 dX2_see_61 rfl ?_
      refine F_get hΓ (t := 3) (i := i) (ci := 5) (C := RX2) (T := TX2) (N := 10) (fs2 (gl Γ) i) (v := .ref (ya (gl Γ) 4 i)) (FLi hF (t := 3) hii) (fun _ _ _ => rfl) rfl rfl rfl rfl inW2 0 (by decide) (TT_cons kw_165) rfl dX2_see_62 ?_
      refine G_iload_n hΓ 2 dX2_see_65 rfl ?_
      obtain ⟨⟨u33, u34, u35, u36, u37, u38, u39⟩, hc40, hf⟩ := bd_some hf
      try dsimp only at hf
      refine G_callV hΓ (n := 1) (As := [.int p1]) (t := 4) (i := i) (ci := 4) (T := TX1) (N := 17) (FS := fs1 (gl Γ) i) (σ' := (qNd σ i r1 r2 x1 u33 u34 u35 u36 u37 u38 tf tt tk)) (c_X1_hear (gL Γ) (gl Γ) hF (qNd σ i r1 r2 x1 x2 x3 x4 x5 x6 x7 tf tt tk) i x2 x3 x4 x5 x6 x7 p1 hii hc40) qLis_qNd qLis_qNd kw_694 kw_695 kw_696 kw_3 kw_697 ⟨rfl, by decide, by decide, by decide +kernel⟩ (FLi hF (t := 4) hii) (fun _ _ _ => rfl) rfl rfl rfl ⟨Nat.le_of_ble_eq_true rfl, Nat.le_of_ble_eq_true rfl⟩ rfl (Nat.le_of_ble_eq_true rfl) dX2_see_66 ⟨_, rfl⟩ rfl ?_
      refine G_istore_n hΓ [(3, .int u39), (0, .ref (ya (gl Γ) 3 i)), (1, .int p1), (2, .int p2)] dX2_see_69 (by decide) rfl ?_
      refine G_goto hΓ (tgt := 111) dX2_see_70 (by decide) ?_
      exact K21 _ _ _ _ _ _ _ _ _ _ hf
    rw [if_neg hs32] at hf
    by_cases hs41 : (x1 2) = 3
    · rw [if_pos hs41] at hf
      refine G_tabV hΓ (tgt := 73) 3 hs41 dX2_see_14 (by decide) (by decide) rfl (by decide) ?_
      refine G_aload_n hΓ 1 dX2_see_73 rfl ?_
      obtain ⟨u42, hc43, hf⟩ := bd_some hf
      refine G_callV hΓ (n := 0) (As := []) (t := 3) (i := i) (ci := 5) (T := TX2) (N := 10) (FS := fs2 (gl Γ) i) (σ' := (qNd σ i r1 r2 u42 x2 x3 x4 x5 x6 x7 tf tt tk)) (c_X2_seeFlagging (gL Γ) (gl Γ) hF σ i r1 r2 x1 x2 x3 x4 x5 x6 x7 tf tt tk  hii hc43) rfl rfl kw_753 kw_755 kp_23 kw_2 kw_756 ⟨rfl, by decide, by decide, by decide +kernel⟩ (FLi hF (t := 3) hii) (fun _ _ _ => rfl) rfl rfl rfl ⟨Nat.le_of_ble_eq_true rfl, Nat.le_of_ble_eq_true rfl⟩ rfl (Nat.le_of_ble_eq_true rfl) dX2_see_74 ⟨_, rfl⟩ rfl ?_
      refine G_goto hΓ (tgt := 111) dX2_see_77 (by decide) ?_
      exact K21 _ _ _ _ _ _ _ _ _ _ hf
    rw [if_neg hs41] at hf
    by_cases hs44 : (x1 2) = 4
    · rw [if_pos hs44] at hf
      refine G_tabV hΓ (tgt := 80) 4 hs44 dX2_see_14 (by decide) (by decide) rfl (by decide) ?_
      refine G_iload_n hΓ 2 dX2_see_80 rfl ?_
      refine G_iconst (v := 1) hΓ dX2_see_81 (by decide) ?_
      refine G_icmp_ne hΓ (tgt := 111) dX2_see_82 (by decide) (fun hc47 => ?_) (fun hc47 => ?_)
      · rw [if_neg hc47] at hf
        exact K21 _ _ _ _ _ _ _ _ _ _ hf
      · rw [if_pos hc47] at hf
        refine G_aload_n hΓ 1 dX2_see_85 rfl ?_
        refine G_iconst (v := 5) hΓ dX2_see_86 (by decide) ?_
        obtain ⟨u45, hc46, hf⟩ := bd_some hf
        refine G_callV hΓ (n := 1) (As := [.int 5]) (t := 3) (i := i) (ci := 5) (T := TX2) (N := 10) (FS := fs2 (gl Γ) i) (σ' := (qNd σ i r1 r2 u45 x2 x3 x4 x5 x6 x7 tf tt tk)) (c_X2_enter (gL Γ) (gl Γ) hF σ i r1 r2 x1 x2 x3 x4 x5 x6 x7 tf tt tk 5 hii hc46) rfl rfl kw_287 kw_289 kp_1 kw_2 kw_290 ⟨rfl, by decide, by decide, by decide +kernel⟩ (FLi hF (t := 3) hii) (fun _ _ _ => rfl) rfl rfl rfl ⟨Nat.le_of_ble_eq_true rfl, Nat.le_of_ble_eq_true rfl⟩ rfl (Nat.le_of_ble_eq_true rfl) dX2_see_87 ⟨_, rfl⟩ rfl ?_
        refine G_goto hΓ (tgt := 111) dX2_see_90 (by decide) ?_
        exact K21 _ _ _ _ _ _ _ _ _ _ hf
    rw [if_neg hs44] at hf
    by_cases hs48 : (x1 2) = 5
    · rw [if_pos hs48] at hf
      refine G_tabV hΓ (tgt := 93) 5 hs48 dX2_see_14 (by decide) (by decide) rfl (by decide) ?_
      refine G_aload_n hΓ 1 dX2_see_93 rfl ?_
      refine G_iload_n hΓ 2 dX2_see_94 rfl ?_
      obtain ⟨⟨u49, u50⟩, hc51, hf⟩ := bd_some hf
      try dsimp only at hf
      refine G_callV hΓ (n := 1) (As := [.int p1]) (t := 3) (i := i) (ci := 5) (T := TX2) (N := 10) (FS := fs2 (gl Γ) i) (σ' := (qNd σ i r1 r2 u49 x2 x3 x4 x5 x6 x7 tf tt tk)) (c_X2_seeClearing (gL Γ) (gl Γ) hF σ i r1 r2 x1 x2 x3 x4 x5 x6 x7 tf tt tk p1 hii hc51) rfl rfl kw_757 kw_759 kp_24 kw_2 kw_760 ⟨rfl, by decide, by decide, by decide +kernel⟩ (FLi hF (t := 3) hii) (fun _ _ _ => rfl) rfl rfl rfl ⟨Nat.le_of_ble_eq_true rfl, Nat.le_of_ble_eq_true rfl⟩ rfl (Nat.le_of_ble_eq_true rfl) dX2_see_95 ⟨_, rfl⟩ rfl ?_
      refine G_istore_n hΓ [(3, .int u50), (0, .ref (ya (gl Γ) 3 i)), (1, .int p1), (2, .int p2)] dX2_see_98 (by decide) rfl ?_
      refine G_goto hΓ (tgt := 111) dX2_see_99 (by decide) ?_
      exact K21 _ _ _ _ _ _ _ _ _ _ hf
    rw [if_neg hs48] at hf
    by_cases hs52 : (x1 2) = 6
    · rw [if_pos hs52] at hf
      refine G_tabV hΓ (tgt := 102) 6 hs52 dX2_see_14 (by decide) (by decide) rfl (by decide) ?_
      refine G_aload_n hΓ 1 dX2_see_102 rfl ?_
      refine G_iload_n hΓ 2 dX2_see_103 rfl ?_
      obtain ⟨⟨u53, u54, u55, u56⟩, hc57, hf⟩ := bd_some hf
      try dsimp only at hf
      refine G_callV hΓ (n := 1) (As := [.int p1]) (t := 3) (i := i) (ci := 5) (T := TX2) (N := 10) (FS := fs2 (gl Γ) i) (σ' := (qNd σ i u53 u54 u55 x2 x3 x4 x5 x6 x7 tf tt tk)) (c_X2_seePausing (gL Γ) (gl Γ) hF σ i r1 r2 x1 x2 x3 x4 x5 x6 x7 tf tt tk p1 hii hc57) rfl rfl kw_761 kw_763 kp_25 kw_2 kw_764 ⟨rfl, by decide, by decide, by decide +kernel⟩ (FLi hF (t := 3) hii) (fun _ _ _ => rfl) rfl rfl rfl ⟨Nat.le_of_ble_eq_true rfl, Nat.le_of_ble_eq_true rfl⟩ rfl (Nat.le_of_ble_eq_true rfl) dX2_see_104 ⟨_, rfl⟩ rfl ?_
      refine G_istore_n hΓ [(3, .int u56), (0, .ref (ya (gl Γ) 3 i)), (1, .int p1), (2, .int p2)] dX2_see_107 (by decide) rfl ?_
      refine G_goto hΓ (tgt := 111) dX2_see_108 (by decide) ?_
      exact K21 _ _ _ _ _ _ _ _ _ _ hf
    rw [if_neg hs52] at hf
    refine G_tabD hΓ (tgt := 111) dX2_see_14 (by have z0 := lv_neT hs28 (show (1 : Int32).toInt = 1 by decide); have z1 := lv_neT hs32 (show (2 : Int32).toInt = 2 by decide); have z2 := lv_neT hs41 (show (3 : Int32).toInt = 3 by decide); have z3 := lv_neT hs44 (show (4 : Int32).toInt = 4 by decide); have z4 := lv_neT hs48 (show (5 : Int32).toInt = 5 by decide); have z5 := lv_neT hs52 (show (6 : Int32).toInt = 6 by decide); omega) (by decide) ?_
    exact K21 _ _ _ _ _ _ _ _ _ _ hf
  clear hk_k8
  refine G_if_ne hΓ (tgt := 8) dX2_see_1 (by decide) (fun hc66 => ?_) (fun hc66 => ?_)
  · rw [if_neg hc66] at hf
    exact K9 _ _ _ _ _ _ _ hf
  · rw [if_pos hc66] at hf
    refine G_aload_n hΓ 0 dX2_see_4 rfl ?_
    obtain ⟨⟨u58, u59, u60, u61, u62, u63, u64⟩, hc65, hf⟩ := bd_some hf
    try dsimp only at hf
    refine G_callV hΓ (n := 0) (As := []) (t := 3) (i := i) (ci := 5) (T := TX2) (N := 10) (FS := fs2 (gl Γ) i) (σ' := (qNd σ i r1 r2 u58 u59 u60 u61 u62 u63 u64 tf tt tk)) (c_X2_turnToListening (gL Γ) (gl Γ) hF σ i r1 r2 nf h f o a b c tf tt tk φ φb  hii hr_φ hr_φb hc65) rfl rfl kw_680 kw_682 kp_13 kw_2 kw_683 ⟨rfl, by decide, by decide, by decide +kernel⟩ (FLi hF (t := 3) hii) (fun _ _ _ => rfl) rfl rfl rfl ⟨Nat.le_of_ble_eq_true rfl, Nat.le_of_ble_eq_true rfl⟩ rfl (Nat.le_of_ble_eq_true rfl) dX2_see_5 ⟨_, rfl⟩ rfl ?_
    exact K9 _ _ _ _ _ _ _ hf
