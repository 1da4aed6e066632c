theorem dL_nodes_0 : decode cL_nodes 0 = .ok (.aload_n 0, 1) := by decide +kernel
theorem dL_nodes_1 : decode cL_nodes 1 = .ok (.iload_n 1, 1) := by decide +kernel
theorem dL_nodes_2 : decode cL_nodes 2 = .ok (.invokevirtual 7, 3) := by decide +kernel
theorem dL_nodes_5 : decode cL_nodes 5 = .ok (.goto 9, 3) := by decide +kernel
theorem dL_nodes_8 : decode cL_nodes 8 = .ok (.astore_n 2, 1) := by decide +kernel
theorem dL_nodes_9 : decode cL_nodes 9 = .ok (.iconst 1, 1) := by decide +kernel
theorem dL_nodes_10 : decode cL_nodes 10 = .ok (.ireturn, 1) := by decide +kernel
theorem dL_nodes_11 : decode cL_nodes 11 = .ok (.astore_n 2, 1) := by decide +kernel
theorem dL_nodes_12 : decode cL_nodes 12 = .ok (.iconst 2, 1) := by decide +kernel
theorem dL_nodes_13 : decode cL_nodes 13 = .ok (.ireturn, 1) := by decide +kernel
theorem dL_nodes_14 : decode cL_nodes 14 = .ok (.iconst 0, 1) := by decide +kernel
theorem dL_nodes_15 : decode cL_nodes 15 = .ok (.ireturn, 1) := by decide +kernel
set_option maxHeartbeats 4000000 in
set_option maxRecDepth 100000 in
theorem h_L_nodes (l : Launch) (hst : l.stackTraces = false) (Λ : LY) (hF : FL Λ) (hO : 0 < yn Λ 20) (σ s : CS) (h : Int64) (p1 : Int32) {s' : CS} (hf : f_X7_nodes s p1 = some (.inr s')) : CH l yL_nodes (.codeWith yL_nodes cL_nodes 3 (some .int) [(0, 5, 8, 13), (0, 5, 11, 15)] :: TT) ({ frames := 8, cells := 1, slots := 6, locals := 141 }) Λ [.ref (ya Λ 0 0), .int p1] (qC (sH σ 20 0 h) s) (qC (sH σ 20 0 h) s') (some (.int 0)) := by
  refine CH_intro hst (own := RL) (by decide) rfl (Nat.le_of_ble_eq_true rfl) rfl rfl ?_
  intro Γ hg hl hΓ hH
  subst hg; subst hl
  show GG Γ (0, 0) (qC (sH σ 20 0 h) s) 0 [(0, .ref (ya (gl Γ) 0 0)), (1, .int p1)] []
  refine G_aload_n hΓ 0 dL_nodes_0 rfl ?_
  refine G_iload_n hΓ 1 dL_nodes_1 rfl ?_
  refine G_callV hΓ (n := 1) (As := [.int p1]) (t := 0) (i := 0) (ci := 10) (T := TX7) (N := 14) (FS := fs7 (gl Γ) 0) (σ' := (qC (sH σ 20 0 h) s')) (c_X7_nodes (gL Γ) (gl Γ) hF (sH σ 20 0 h) s p1 hf) rfl rfl kw_414 kw_415 kw_416 kw_1 kw_417 ⟨rfl, by decide, by decide, by decide +kernel⟩ (FLi hF (t := 0) (by decide)) (fun _ _ _ => rfl) rfl rfl rfl ⟨Nat.le_of_ble_eq_true rfl, Nat.le_of_ble_eq_true rfl⟩ rfl (Nat.le_of_ble_eq_true rfl) dL_nodes_2 ⟨_, rfl⟩ rfl ?_
  refine G_goto hΓ (tgt := 14) dL_nodes_5 (by decide) ?_
  refine G_iconst (v := 0) hΓ dL_nodes_14 (by decide) ?_
  exact G_iretH hΓ ⟨by decide, by decide⟩ hH dL_nodes_15
set_option maxHeartbeats 4000000 in
set_option maxRecDepth 100000 in
theorem x_L_nodes_2 (l : Launch) (hst : l.stackTraces = false) (Λ : LY) (hF : FL Λ) (hO : 0 < yn Λ 20) (σ s : CS) (h : Int64) (p1 : Int32)  (hf : f_X7_nodes s p1 = some (.inl 2)) : CH l yL_nodes (.codeWith yL_nodes cL_nodes 3 (some .int) [(0, 5, 8, 13), (0, 5, 11, 15)] :: TT) ({ frames := 8, cells := 1, slots := 6, locals := 141 }) Λ [.ref (ya Λ 0 0), .int p1] (qC (sH σ 20 0 h) s) (qC (sH σ 20 0 h) s) (some (.int 1)) := by
  refine CH_intro hst (own := RL) (by decide) rfl (Nat.le_of_ble_eq_true rfl) rfl rfl ?_
  intro Γ hg hl hΓ hH
  subst hg; subst hl
  show GG Γ (0, 0) (qC (sH σ 20 0 h) s) 0 [(0, .ref (ya (gl Γ) 0 0)), (1, .int p1)] []
  refine G_aload_n hΓ 0 dL_nodes_0 rfl ?_
  refine G_iload_n hΓ 1 dL_nodes_1 rfl ?_
  refine G_callVC hΓ hH (n := 1) (As := [.int p1]) (t := 0) (i := 0) (ci := 10) (T := TX7) (N := 14) (FS := fs7 (gl Γ) 0) (t_X7_nodes (gL Γ) hst (gl Γ) hF (sH σ 20 0 h) s p1 hf) kw_414 kw_415 kw_416 kw_1 kw_417 ⟨rfl, by decide, by decide, by decide +kernel⟩ (FLi hF (t := 0) (by decide)) (fun _ _ _ => rfl) rfl rfl rfl ⟨Nat.le_of_ble_eq_true rfl, Nat.le_of_ble_eq_true rfl⟩ rfl (Nat.le_of_ble_eq_true rfl) dL_nodes_2 [] (0, 5, 8, 13) [(0, 5, 11, 15)] rfl (by intro z hz; cases hz) ⟨by decide, by decide⟩ (by decide) kw_341 (by decide +kernel) (fun q => ?_)
  refine G_astore_n hΓ [(2, .ref q), (0, .ref (ya (gl Γ) 0 0)), (1, .int p1)] dL_nodes_8 (by decide) rfl ?_
  refine G_iconst (v := 1) hΓ dL_nodes_9 (by decide) ?_
  exact G_iretH hΓ ⟨by decide, by decide⟩ hH dL_nodes_10
set_option maxHeartbeats 4000000 in
set_option maxRecDepth 100000 in
theorem x_L_nodes_4 (l : Launch) (hst : l.stackTraces = false) (Λ : LY) (hF : FL Λ) (hO : 0 < yn Λ 20) (σ s : CS) (h : Int64) (p1 : Int32)  (hf : f_X7_nodes s p1 = some (.inl 4)) : CH l yL_nodes (.codeWith yL_nodes cL_nodes 3 (some .int) [(0, 5, 8, 13), (0, 5, 11, 15)] :: TT) ({ frames := 8, cells := 1, slots := 6, locals := 141 }) Λ [.ref (ya Λ 0 0), .int p1] (qC (sH σ 20 0 h) s) (qC (sH σ 20 0 h) s) (some (.int 2)) := by
  refine CH_intro hst (own := RL) (by decide) rfl (Nat.le_of_ble_eq_true rfl) rfl rfl ?_
  intro Γ hg hl hΓ hH
  subst hg; subst hl
  show GG Γ (0, 0) (qC (sH σ 20 0 h) s) 0 [(0, .ref (ya (gl Γ) 0 0)), (1, .int p1)] []
  refine G_aload_n hΓ 0 dL_nodes_0 rfl ?_
  refine G_iload_n hΓ 1 dL_nodes_1 rfl ?_
  refine G_callVC hΓ hH (n := 1) (As := [.int p1]) (t := 0) (i := 0) (ci := 10) (T := TX7) (N := 14) (FS := fs7 (gl Γ) 0) (t_X7_nodes (gL Γ) hst (gl Γ) hF (sH σ 20 0 h) s p1 hf) kw_414 kw_415 kw_416 kw_1 kw_417 ⟨rfl, by decide, by decide, by decide +kernel⟩ (FLi hF (t := 0) (by decide)) (fun _ _ _ => rfl) rfl rfl rfl ⟨Nat.le_of_ble_eq_true rfl, Nat.le_of_ble_eq_true rfl⟩ rfl (Nat.le_of_ble_eq_true rfl) dL_nodes_2 [(0, 5, 8, 13)] (0, 5, 11, 15) [] rfl (by intro z hz; rcases List.mem_cons.mp hz with rfl | hz; exact ⟨by decide, _, kw_341, by decide +kernel⟩; cases hz) ⟨by decide, by decide⟩ (by decide) kw_342 (by decide +kernel) (fun q => ?_)
  refine G_astore_n hΓ [(2, .ref q), (0, .ref (ya (gl Γ) 0 0)), (1, .int p1)] dL_nodes_11 (by decide) rfl ?_
  refine G_iconst (v := 2) hΓ dL_nodes_12 (by decide) ?_
  exact G_iretH hΓ ⟨by decide, by decide⟩ hH dL_nodes_13
theorem dL_send_0 : decode cL_send 0 = .ok (.aload 5, 2) := by decide +kernel
theorem dL_send_2 : decode cL_send 2 = .ok (.iconst 0, 1) := by decide +kernel
theorem dL_send_3 : decode cL_send 3 = .ok (.aload_n 0, 1) := by decide +kernel
theorem dL_send_4 : decode cL_send 4 = .ok (.iload_n 1, 1) := by decide +kernel
theorem dL_send_5 : decode cL_send 5 = .ok (.iload_n 2, 1) := by decide +kernel
theorem dL_send_6 : decode cL_send 6 = .ok (.iload_n 3, 1) := by decide +kernel
theorem dL_send_7 : decode cL_send 7 = .ok (.iload 4, 2) := by decide +kernel
theorem dL_send_9 : decode cL_send 9 = .ok (.invokevirtual 17, 3) := by decide +kernel
theorem dL_send_12 : decode cL_send 12 = .ok (.i2l, 1) := by decide +kernel
theorem dL_send_13 : decode cL_send 13 = .ok (.lastore, 1) := by decide +kernel
theorem dL_send_14 : decode cL_send 14 = .ok (.goto 15, 3) := by decide +kernel
theorem dL_send_17 : decode cL_send 17 = .ok (.astore 6, 2) := by decide +kernel
theorem dL_send_19 : decode cL_send 19 = .ok (.iconst 1, 1) := by decide +kernel
theorem dL_send_20 : decode cL_send 20 = .ok (.ireturn, 1) := by decide +kernel
theorem dL_send_21 : decode cL_send 21 = .ok (.astore 6, 2) := by decide +kernel
theorem dL_send_23 : decode cL_send 23 = .ok (.iconst 2, 1) := by decide +kernel
theorem dL_send_24 : decode cL_send 24 = .ok (.ireturn, 1) := by decide +kernel
theorem dL_send_25 : decode cL_send 25 = .ok (.astore 6, 2) := by decide +kernel
theorem dL_send_27 : decode cL_send 27 = .ok (.iconst 3, 1) := by decide +kernel
theorem dL_send_28 : decode cL_send 28 = .ok (.ireturn, 1) := by decide +kernel
theorem dL_send_29 : decode cL_send 29 = .ok (.iconst 0, 1) := by decide +kernel
theorem dL_send_30 : decode cL_send 30 = .ok (.ireturn, 1) := by decide +kernel
set_option maxHeartbeats 4000000 in
set_option maxRecDepth 100000 in
theorem h_L_send (l : Launch) (hst : l.stackTraces = false) (Λ : LY) (hF : FL Λ) (hO : 0 < yn Λ 20) (σ s : CS) (h : Int64) (p1 : Int32) (p2 : Int32) (p3 : Int32) (p4 : Int32) {s' : CS} {r9 : Int32} (hf : f_X7_send s p1 p2 p3 p4 = some (.inr (s', r9))) : CH l yL_send (.codeWith yL_send cL_send 7 (some .int) [(0, 14, 17, 21), (0, 14, 21, 13), (0, 14, 25, 23)] :: TT) ({ frames := 9, cells := 1, slots := 6, locals := 167 }) Λ [.ref (ya Λ 0 0), .int p1, .int p2, .int p3, .int p4, .ref (ya Λ 20 0)] (qC (sH σ 20 0 h) s) (qC (sH σ 20 0 r9.toInt64) s') (some (.int 0)) := by
  refine CH_intro hst (own := RL) (by decide) rfl (Nat.le_of_ble_eq_true rfl) rfl rfl ?_
  intro Γ hg hl hΓ hH
  subst hg; subst hl
  show GG Γ (0, 0) (qC (sH σ 20 0 h) s) 0 [(0, .ref (ya (gl Γ) 0 0)), (1, .int p1), (2, .int p2), (3, .int p3), (4, .int p4), (5, .ref (ya (gl Γ) 20 0))] []
  refine G_aload hΓ 5 dL_send_0 rfl ?_
  refine G_iconst (v := 0) hΓ dL_send_2 (by decide) ?_
  refine G_aload_n hΓ 0 dL_send_3 rfl ?_
  refine G_iload_n hΓ 1 dL_send_4 rfl ?_
  refine G_iload_n hΓ 2 dL_send_5 rfl ?_
  refine G_iload_n hΓ 3 dL_send_6 rfl ?_
  refine G_iload hΓ 4 dL_send_7 rfl ?_
  refine G_callV hΓ (n := 4) (As := [.int p1, .int p2, .int p3, .int p4]) (t := 0) (i := 0) (ci := 10) (T := TX7) (N := 14) (FS := fs7 (gl Γ) 0) (σ' := (qC (sH σ 20 0 h) s')) (c_X7_send (gL Γ) (gl Γ) hF (sH σ 20 0 h) s p1 p2 p3 p4 hf) rfl rfl kw_460 kw_461 kw_462 kw_1 kw_463 ⟨rfl, by decide, by decide, by decide +kernel⟩ (FLi hF (t := 0) (by decide)) (fun _ _ _ => rfl) rfl rfl rfl ⟨Nat.le_of_ble_eq_true rfl, Nat.le_of_ble_eq_true rfl⟩ rfl (Nat.le_of_ble_eq_true rfl) dL_send_9 ⟨_, rfl⟩ rfl ?_
  refine G_i2l hΓ dL_send_12 ?_
  refine F_out hΓ (h := h) (σ' := (qC (sH σ 20 0 r9.toInt64) s')) hO rfl (qC_out.trans (by rw [sH_same])) dL_send_13 ?_
  refine G_goto hΓ (tgt := 29) dL_send_14 (by decide) ?_
  refine G_iconst (v := 0) hΓ dL_send_29 (by decide) ?_
  exact G_iretH hΓ ⟨by decide, by decide⟩ hH dL_send_30
set_option maxHeartbeats 4000000 in
set_option maxRecDepth 100000 in
theorem x_L_send_1 (l : Launch) (hst : l.stackTraces = false) (Λ : LY) (hF : FL Λ) (hO : 0 < yn Λ 20) (σ s : CS) (h : Int64) (p1 : Int32) (p2 : Int32) (p3 : Int32) (p4 : Int32)  (hf : f_X7_send s p1 p2 p3 p4 = some (.inl 1)) : CH l yL_send (.codeWith yL_send cL_send 7 (some .int) [(0, 14, 17, 21), (0, 14, 21, 13), (0, 14, 25, 23)] :: TT) ({ frames := 9, cells := 1, slots := 6, locals := 167 }) Λ [.ref (ya Λ 0 0), .int p1, .int p2, .int p3, .int p4, .ref (ya Λ 20 0)] (qC (sH σ 20 0 h) s) (qC (sH σ 20 0 h) s) (some (.int 1)) := by
  refine CH_intro hst (own := RL) (by decide) rfl (Nat.le_of_ble_eq_true rfl) rfl rfl ?_
  intro Γ hg hl hΓ hH
  subst hg; subst hl
  show GG Γ (0, 0) (qC (sH σ 20 0 h) s) 0 [(0, .ref (ya (gl Γ) 0 0)), (1, .int p1), (2, .int p2), (3, .int p3), (4, .int p4), (5, .ref (ya (gl Γ) 20 0))] []
  refine G_aload hΓ 5 dL_send_0 rfl ?_
  refine G_iconst (v := 0) hΓ dL_send_2 (by decide) ?_
  refine G_aload_n hΓ 0 dL_send_3 rfl ?_
  refine G_iload_n hΓ 1 dL_send_4 rfl ?_
  refine G_iload_n hΓ 2 dL_send_5 rfl ?_
  refine G_iload_n hΓ 3 dL_send_6 rfl ?_
  refine G_iload hΓ 4 dL_send_7 rfl ?_
  refine G_callVC hΓ hH (n := 4) (As := [.int p1, .int p2, .int p3, .int p4]) (t := 0) (i := 0) (ci := 10) (T := TX7) (N := 14) (FS := fs7 (gl Γ) 0) (t_X7_send (gL Γ) hst (gl Γ) hF (sH σ 20 0 h) s p1 p2 p3 p4 hf) kw_460 kw_461 kw_462 kw_1 kw_463 ⟨rfl, by decide, by decide, by decide +kernel⟩ (FLi hF (t := 0) (by decide)) (fun _ _ _ => rfl) rfl rfl rfl ⟨Nat.le_of_ble_eq_true rfl, Nat.le_of_ble_eq_true rfl⟩ rfl (Nat.le_of_ble_eq_true rfl) dL_send_9 [] (0, 14, 17, 21) [(0, 14, 21, 13), (0, 14, 25, 23)] rfl (by intro z hz; cases hz) ⟨by decide, by decide⟩ (by decide) kw_440 (by decide +kernel) (fun q => ?_)
  refine G_astore hΓ [(6, .ref q), (0, .ref (ya (gl Γ) 0 0)), (1, .int p1), (2, .int p2), (3, .int p3), (4, .int p4), (5, .ref (ya (gl Γ) 20 0))] dL_send_17 (by decide) rfl ?_
  refine G_iconst (v := 1) hΓ dL_send_19 (by decide) ?_
  exact G_iretH hΓ ⟨by decide, by decide⟩ hH dL_send_20
set_option maxHeartbeats 4000000 in
set_option maxRecDepth 100000 in
theorem x_L_send_2 (l : Launch) (hst : l.stackTraces = false) (Λ : LY) (hF : FL Λ) (hO : 0 < yn Λ 20) (σ s : CS) (h : Int64) (p1 : Int32) (p2 : Int32) (p3 : Int32) (p4 : Int32)  (hf : f_X7_send s p1 p2 p3 p4 = some (.inl 2)) : CH l yL_send (.codeWith yL_send cL_send 7 (some .int) [(0, 14, 17, 21), (0, 14, 21, 13), (0, 14, 25, 23)] :: TT) ({ frames := 9, cells := 1, slots := 6, locals := 167 }) Λ [.ref (ya Λ 0 0), .int p1, .int p2, .int p3, .int p4, .ref (ya Λ 20 0)] (qC (sH σ 20 0 h) s) (qC (sH σ 20 0 h) s) (some (.int 2)) := by
  refine CH_intro hst (own := RL) (by decide) rfl (Nat.le_of_ble_eq_true rfl) rfl rfl ?_
  intro Γ hg hl hΓ hH
  subst hg; subst hl
  show GG Γ (0, 0) (qC (sH σ 20 0 h) s) 0 [(0, .ref (ya (gl Γ) 0 0)), (1, .int p1), (2, .int p2), (3, .int p3), (4, .int p4), (5, .ref (ya (gl Γ) 20 0))] []
  refine G_aload hΓ 5 dL_send_0 rfl ?_
  refine G_iconst (v := 0) hΓ dL_send_2 (by decide) ?_
  refine G_aload_n hΓ 0 dL_send_3 rfl ?_
  refine G_iload_n hΓ 1 dL_send_4 rfl ?_
  refine G_iload_n hΓ 2 dL_send_5 rfl ?_
  refine G_iload_n hΓ 3 dL_send_6 rfl ?_
  refine G_iload hΓ 4 dL_send_7 rfl ?_
  refine G_callVC hΓ hH (n := 4) (As := [.int p1, .int p2, .int p3, .int p4]) (t := 0) (i := 0) (ci := 10) (T := TX7) (N := 14) (FS := fs7 (gl Γ) 0) (t_X7_send (gL Γ) hst (gl Γ) hF (sH σ 20 0 h) s p1 p2 p3 p4 hf) kw_460 kw_461 kw_462 kw_1 kw_463 ⟨rfl, by decide, by decide, by decide +kernel⟩ (FLi hF (t := 0) (by decide)) (fun _ _ _ => rfl) rfl rfl rfl ⟨Nat.le_of_ble_eq_true rfl, Nat.le_of_ble_eq_true rfl⟩ rfl (Nat.le_of_ble_eq_true rfl) dL_send_9 [(0, 14, 17, 21)] (0, 14, 21, 13) [(0, 14, 25, 23)] rfl (by intro z hz; rcases List.mem_cons.mp hz with rfl | hz; exact ⟨by decide, _, kw_440, by decide +kernel⟩; cases hz) ⟨by decide, by decide⟩ (by decide) kw_341 (by decide +kernel) (fun q => ?_)
  refine G_astore hΓ [(6, .ref q), (0, .ref (ya (gl Γ) 0 0)), (1, .int p1), (2, .int p2), (3, .int p3), (4, .int p4), (5, .ref (ya (gl Γ) 20 0))] dL_send_21 (by decide) rfl ?_
  refine G_iconst (v := 2) hΓ dL_send_23 (by decide) ?_
  exact G_iretH hΓ ⟨by decide, by decide⟩ hH dL_send_24
set_option maxHeartbeats 4000000 in
set_option maxRecDepth 100000 in
theorem x_L_send_3 (l : Launch) (hst : l.stackTraces = false) (Λ : LY) (hF : FL Λ) (hO : 0 < yn Λ 20) (σ s : CS) (h : Int64) (p1 : Int32) (p2 : Int32) (p3 : Int32) (p4 : Int32)  (hf : f_X7_send s p1 p2 p3 p4 = some (.inl 3)) : CH l yL_send (.codeWith yL_send cL_send 7 (some .int) [(0, 14, 17, 21), (0, 14, 21, 13), (0, 14, 25, 23)] :: TT) ({ frames := 9, cells := 1, slots := 6, locals := 167 }) Λ [.ref (ya Λ 0 0), .int p1, .int p2, .int p3, .int p4, .ref (ya Λ 20 0)] (qC (sH σ 20 0 h) s) (qC (sH σ 20 0 h) s) (some (.int 3)) := by
  refine CH_intro hst (own := RL) (by decide) rfl (Nat.le_of_ble_eq_true rfl) rfl rfl ?_
  intro Γ hg hl hΓ hH
  subst hg; subst hl
  show GG Γ (0, 0) (qC (sH σ 20 0 h) s) 0 [(0, .ref (ya (gl Γ) 0 0)), (1, .int p1), (2, .int p2), (3, .int p3), (4, .int p4), (5, .ref (ya (gl Γ) 20 0))] []
  refine G_aload hΓ 5 dL_send_0 rfl ?_
  refine G_iconst (v := 0) hΓ dL_send_2 (by decide) ?_
  refine G_aload_n hΓ 0 dL_send_3 rfl ?_
  refine G_iload_n hΓ 1 dL_send_4 rfl ?_
  refine G_iload_n hΓ 2 dL_send_5 rfl ?_
  refine G_iload_n hΓ 3 dL_send_6 rfl ?_
  refine G_iload hΓ 4 dL_send_7 rfl ?_
  refine G_callVC hΓ hH (n := 4) (As := [.int p1, .int p2, .int p3, .int p4]) (t := 0) (i := 0) (ci := 10) (T := TX7) (N := 14) (FS := fs7 (gl Γ) 0) (t_X7_send (gL Γ) hst (gl Γ) hF (sH σ 20 0 h) s p1 p2 p3 p4 hf) kw_460 kw_461 kw_462 kw_1 kw_463 ⟨rfl, by decide, by decide, by decide +kernel⟩ (FLi hF (t := 0) (by decide)) (fun _ _ _ => rfl) rfl rfl rfl ⟨Nat.le_of_ble_eq_true rfl, Nat.le_of_ble_eq_true rfl⟩ rfl (Nat.le_of_ble_eq_true rfl) dL_send_9 [(0, 14, 17, 21), (0, 14, 21, 13)] (0, 14, 25, 23) [] rfl (by intro z hz; rcases List.mem_cons.mp hz with rfl | hz; exact ⟨by decide, _, kw_440, by decide +kernel⟩; rcases List.mem_cons.mp hz with rfl | hz; exact ⟨by decide, _, kw_341, by decide +kernel⟩; cases hz) ⟨by decide, by decide⟩ (by decide) kw_459 (by decide +kernel) (fun q => ?_)
  refine G_astore hΓ [(6, .ref q), (0, .ref (ya (gl Γ) 0 0)), (1, .int p1), (2, .int p2), (3, .int p3), (4, .int p4), (5, .ref (ya (gl Γ) 20 0))] dL_send_25 (by decide) rfl ?_
  refine G_iconst (v := 3) hΓ dL_send_27 (by decide) ?_
  exact G_iretH hΓ ⟨by decide, by decide⟩ hH dL_send_28
theorem dL_octet_0 : decode cL_octet 0 = .ok (.aload_n 0, 1) := by decide +kernel
theorem dL_octet_1 : decode cL_octet 1 = .ok (.iload_n 1, 1) := by decide +kernel
theorem dL_octet_2 : decode cL_octet 2 = .ok (.iload_n 2, 1) := by decide +kernel
theorem dL_octet_3 : decode cL_octet 3 = .ok (.iload_n 3, 1) := by decide +kernel
theorem dL_octet_4 : decode cL_octet 4 = .ok (.invokevirtual 25, 3) := by decide +kernel
theorem dL_octet_7 : decode cL_octet 7 = .ok (.goto 15, 3) := by decide +kernel
theorem dL_octet_10 : decode cL_octet 10 = .ok (.astore 4, 2) := by decide +kernel
theorem dL_octet_12 : decode cL_octet 12 = .ok (.iconst 1, 1) := by decide +kernel
theorem dL_octet_13 : decode cL_octet 13 = .ok (.ireturn, 1) := by decide +kernel
theorem dL_octet_14 : decode cL_octet 14 = .ok (.astore 4, 2) := by decide +kernel
theorem dL_octet_16 : decode cL_octet 16 = .ok (.iconst 2, 1) := by decide +kernel
theorem dL_octet_17 : decode cL_octet 17 = .ok (.ireturn, 1) := by decide +kernel
theorem dL_octet_18 : decode cL_octet 18 = .ok (.astore 4, 2) := by decide +kernel
theorem dL_octet_20 : decode cL_octet 20 = .ok (.iconst 3, 1) := by decide +kernel
theorem dL_octet_21 : decode cL_octet 21 = .ok (.ireturn, 1) := by decide +kernel
theorem dL_octet_22 : decode cL_octet 22 = .ok (.iconst 0, 1) := by decide +kernel
theorem dL_octet_23 : decode cL_octet 23 = .ok (.ireturn, 1) := by decide +kernel
set_option maxHeartbeats 4000000 in
set_option maxRecDepth 100000 in
theorem h_L_octet (l : Launch) (hst : l.stackTraces = false) (Λ : LY) (hF : FL Λ) (hO : 0 < yn Λ 20) (σ s : CS) (h : Int64) (p1 : Int32) (p2 : Int32) (p3 : Int32) {s' : CS} (hf : f_X7_octet s p1 p2 p3 = some (.inr s')) : CH l yL_octet (.codeWith yL_octet cL_octet 5 (some .int) [(0, 7, 10, 21), (0, 7, 14, 13), (0, 7, 18, 23)] :: TT) ({ frames := 9, cells := 1, slots := 6, locals := 166 }) Λ [.ref (ya Λ 0 0), .int p1, .int p2, .int p3] (qC (sH σ 20 0 h) s) (qC (sH σ 20 0 h) s') (some (.int 0)) := by
  refine CH_intro hst (own := RL) (by decide) rfl (Nat.le_of_ble_eq_true rfl) rfl rfl ?_
  intro Γ hg hl hΓ hH
  subst hg; subst hl
  show GG Γ (0, 0) (qC (sH σ 20 0 h) s) 0 [(0, .ref (ya (gl Γ) 0 0)), (1, .int p1), (2, .int p2), (3, .int p3)] []
  refine G_aload_n hΓ 0 dL_octet_0 rfl ?_
  refine G_iload_n hΓ 1 dL_octet_1 rfl ?_
  refine G_iload_n hΓ 2 dL_octet_2 rfl ?_
  refine G_iload_n hΓ 3 dL_octet_3 rfl ?_
  refine G_callV hΓ (n := 3) (As := [.int p1, .int p2, .int p3]) (t := 0) (i := 0) (ci := 10) (T := TX7) (N := 14) (FS := fs7 (gl Γ) 0) (σ' := (qC (sH σ 20 0 h) s')) (c_X7_octet (gL Γ) (gl Γ) hF (sH σ 20 0 h) s p1 p2 p3 hf) rfl rfl kw_606 kw_607 kw_608 kw_1 kw_609 ⟨rfl, by decide, by decide, by decide +kernel⟩ (FLi hF (t := 0) (by decide)) (fun _ _ _ => rfl) rfl rfl rfl ⟨Nat.le_of_ble_eq_true rfl, Nat.le_of_ble_eq_true rfl⟩ rfl (Nat.le_of_ble_eq_true rfl) dL_octet_4 ⟨_, rfl⟩ rfl ?_
  refine G_goto hΓ (tgt := 22) dL_octet_7 (by decide) ?_
  refine G_iconst (v := 0) hΓ dL_octet_22 (by decide) ?_
  exact G_iretH hΓ ⟨by decide, by decide⟩ hH dL_octet_23
set_option maxHeartbeats 4000000 in
set_option maxRecDepth 100000 in
theorem x_L_octet_1 (l : Launch) (hst : l.stackTraces = false) (Λ : LY) (hF : FL Λ) (hO : 0 < yn Λ 20) (σ s : CS) (h : Int64) (p1 : Int32) (p2 : Int32) (p3 : Int32)  (hf : f_X7_octet s p1 p2 p3 = some (.inl 1)) : CH l yL_octet (.codeWith yL_octet cL_octet 5 (some .int) [(0, 7, 10, 21), (0, 7, 14, 13), (0, 7, 18, 23)] :: TT) ({ frames := 9, cells := 1, slots := 6, locals := 166 }) Λ [.ref (ya Λ 0 0), .int p1, .int p2, .int p3] (qC (sH σ 20 0 h) s) (qC (sH σ 20 0 h) s) (some (.int 1)) := by
  refine CH_intro hst (own := RL) (by decide) rfl (Nat.le_of_ble_eq_true rfl) rfl rfl ?_
  intro Γ hg hl hΓ hH
  subst hg; subst hl
  show GG Γ (0, 0) (qC (sH σ 20 0 h) s) 0 [(0, .ref (ya (gl Γ) 0 0)), (1, .int p1), (2, .int p2), (3, .int p3)] []
  refine G_aload_n hΓ 0 dL_octet_0 rfl ?_
  refine G_iload_n hΓ 1 dL_octet_1 rfl ?_
  refine G_iload_n hΓ 2 dL_octet_2 rfl ?_
  refine G_iload_n hΓ 3 dL_octet_3 rfl ?_
  refine G_callVC hΓ hH (n := 3) (As := [.int p1, .int p2, .int p3]) (t := 0) (i := 0) (ci := 10) (T := TX7) (N := 14) (FS := fs7 (gl Γ) 0) (t_X7_octet (gL Γ) hst (gl Γ) hF (sH σ 20 0 h) s p1 p2 p3 hf) kw_606 kw_607 kw_608 kw_1 kw_609 ⟨rfl, by decide, by decide, by decide +kernel⟩ (FLi hF (t := 0) (by decide)) (fun _ _ _ => rfl) rfl rfl rfl ⟨Nat.le_of_ble_eq_true rfl, Nat.le_of_ble_eq_true rfl⟩ rfl (Nat.le_of_ble_eq_true rfl) dL_octet_4 [] (0, 7, 10, 21) [(0, 7, 14, 13), (0, 7, 18, 23)] rfl (by intro z hz; cases hz) ⟨by decide, by decide⟩ (by decide) kw_440 (by decide +kernel) (fun q => ?_)
  refine G_astore hΓ [(4, .ref q), (0, .ref (ya (gl Γ) 0 0)), (1, .int p1), (2, .int p2), (3, .int p3)] dL_octet_10 (by decide) rfl ?_
  refine G_iconst (v := 1) hΓ dL_octet_12 (by decide) ?_
  exact G_iretH hΓ ⟨by decide, by decide⟩ hH dL_octet_13
set_option maxHeartbeats 4000000 in
set_option maxRecDepth 100000 in
theorem x_L_octet_2 (l : Launch) (hst : l.stackTraces = false) (Λ : LY) (hF : FL Λ) (hO : 0 < yn Λ 20) (σ s : CS) (h : Int64) (p1 : Int32) (p2 : Int32) (p3 : Int32)  (hf : f_X7_octet s p1 p2 p3 = some (.inl 2)) : CH l yL_octet (.codeWith yL_octet cL_octet 5 (some .int) [(0, 7, 10, 21), (0, 7, 14, 13), (0, 7, 18, 23)] :: TT) ({ frames := 9, cells := 1, slots := 6, locals := 166 }) Λ [.ref (ya Λ 0 0), .int p1, .int p2, .int p3] (qC (sH σ 20 0 h) s) (qC (sH σ 20 0 h) s) (some (.int 2)) := by
  refine CH_intro hst (own := RL) (by decide) rfl (Nat.le_of_ble_eq_true rfl) rfl rfl ?_
  intro Γ hg hl hΓ hH
  subst hg; subst hl
  show GG Γ (0, 0) (qC (sH σ 20 0 h) s) 0 [(0, .ref (ya (gl Γ) 0 0)), (1, .int p1), (2, .int p2), (3, .int p3)] []
  refine G_aload_n hΓ 0 dL_octet_0 rfl ?_
  refine G_iload_n hΓ 1 dL_octet_1 rfl ?_
  refine G_iload_n hΓ 2 dL_octet_2 rfl ?_
  refine G_iload_n hΓ 3 dL_octet_3 rfl ?_
  refine G_callVC hΓ hH (n := 3) (As := [.int p1, .int p2, .int p3]) (t := 0) (i := 0) (ci := 10) (T := TX7) (N := 14) (FS := fs7 (gl Γ) 0) (t_X7_octet (gL Γ) hst (gl Γ) hF (sH σ 20 0 h) s p1 p2 p3 hf) kw_606 kw_607 kw_608 kw_1 kw_609 ⟨rfl, by decide, by decide, by decide +kernel⟩ (FLi hF (t := 0) (by decide)) (fun _ _ _ => rfl) rfl rfl rfl ⟨Nat.le_of_ble_eq_true rfl, Nat.le_of_ble_eq_true rfl⟩ rfl (Nat.le_of_ble_eq_true rfl) dL_octet_4 [(0, 7, 10, 21)] (0, 7, 14, 13) [(0, 7, 18, 23)] rfl (by intro z hz; rcases List.mem_cons.mp hz with rfl | hz; exact ⟨by decide, _, kw_440, by decide +kernel⟩; cases hz) ⟨by decide, by decide⟩ (by decide) kw_341 (by decide +kernel) (fun q => ?_)
  refine G_astore hΓ [(4, .ref q), (0, .ref (ya (gl Γ) 0 0)), (1, .int p1), (2, .int p2), (3, .int p3)] dL_octet_14 (by decide) rfl ?_
  refine G_iconst (v := 2) hΓ dL_octet_16 (by decide) ?_
  exact G_iretH hΓ ⟨by decide, by decide⟩ hH dL_octet_17
set_option maxHeartbeats 4000000 in
set_option maxRecDepth 100000 in
theorem x_L_octet_3 (l : Launch) (hst : l.stackTraces = false) (Λ : LY) (hF : FL Λ) (hO : 0 < yn Λ 20) (σ s : CS) (h : Int64) (p1 : Int32) (p2 : Int32) (p3 : Int32)  (hf : f_X7_octet s p1 p2 p3 = some (.inl 3)) : CH l yL_octet (.codeWith yL_octet cL_octet 5 (some .int) [(0, 7, 10, 21), (0, 7, 14, 13), (0, 7, 18, 23)] :: TT) ({ frames := 9, cells := 1, slots := 6, locals := 166 }) Λ [.ref (ya Λ 0 0), .int p1, .int p2, .int p3] (qC (sH σ 20 0 h) s) (qC (sH σ 20 0 h) s) (some (.int 3)) := by
  refine CH_intro hst (own := RL) (by decide) rfl (Nat.le_of_ble_eq_true rfl) rfl rfl ?_
  intro Γ hg hl hΓ hH
  subst hg; subst hl
  show GG Γ (0, 0) (qC (sH σ 20 0 h) s) 0 [(0, .ref (ya (gl Γ) 0 0)), (1, .int p1), (2, .int p2), (3, .int p3)] []
  refine G_aload_n hΓ 0 dL_octet_0 rfl ?_
  refine G_iload_n hΓ 1 dL_octet_1 rfl ?_
  refine G_iload_n hΓ 2 dL_octet_2 rfl ?_
  refine G_iload_n hΓ 3 dL_octet_3 rfl ?_
  refine G_callVC hΓ hH (n := 3) (As := [.int p1, .int p2, .int p3]) (t := 0) (i := 0) (ci := 10) (T := TX7) (N := 14) (FS := fs7 (gl Γ) 0) (t_X7_octet (gL Γ) hst (gl Γ) hF (sH σ 20 0 h) s p1 p2 p3 hf) kw_606 kw_607 kw_608 kw_1 kw_609 ⟨rfl, by decide, by decide, by decide +kernel⟩ (FLi hF (t := 0) (by decide)) (fun _ _ _ => rfl) rfl rfl rfl ⟨Nat.le_of_ble_eq_true rfl, Nat.le_of_ble_eq_true rfl⟩ rfl (Nat.le_of_ble_eq_true rfl) dL_octet_4 [(0, 7, 10, 21), (0, 7, 14, 13)] (0, 7, 18, 23) [] rfl (by intro z hz; rcases List.mem_cons.mp hz with rfl | hz; exact ⟨by decide, _, kw_440, by decide +kernel⟩; rcases List.mem_cons.mp hz with rfl | hz; exact ⟨by decide, _, kw_341, by decide +kernel⟩; cases hz) ⟨by decide, by decide⟩ (by decide) kw_459 (by decide +kernel) (fun q => ?_)
  refine G_astore hΓ [(4, .ref q), (0, .ref (ya (gl Γ) 0 0)), (1, .int p1), (2, .int p2), (3, .int p3)] dL_octet_18 (by decide) rfl ?_
  refine G_iconst (v := 3) hΓ dL_octet_20 (by decide) ?_
  exact G_iretH hΓ ⟨by decide, by decide⟩ hH dL_octet_21
theorem dL_stuffed_0 : decode cL_stuffed 0 = .ok (.aload_n 2, 1) := by decide +kernel
theorem dL_stuffed_1 : decode cL_stuffed 1 = .ok (.iconst 0, 1) := by decide +kernel
theorem dL_stuffed_2 : decode cL_stuffed 2 = .ok (.aload_n 0, 1) := by decide +kernel
theorem dL_stuffed_3 : decode cL_stuffed 3 = .ok (.iload_n 1, 1) := by decide +kernel
theorem dL_stuffed_4 : decode cL_stuffed 4 = .ok (.invokevirtual 29, 3) := by decide +kernel
theorem dL_stuffed_7 : decode cL_stuffed 7 = .ok (.i2l, 1) := by decide +kernel
theorem dL_stuffed_8 : decode cL_stuffed 8 = .ok (.lastore, 1) := by decide +kernel
theorem dL_stuffed_9 : decode cL_stuffed 9 = .ok (.goto 6, 3) := by decide +kernel
theorem dL_stuffed_12 : decode cL_stuffed 12 = .ok (.astore_n 3, 1) := by decide +kernel
theorem dL_stuffed_13 : decode cL_stuffed 13 = .ok (.iconst 1, 1) := by decide +kernel
theorem dL_stuffed_14 : decode cL_stuffed 14 = .ok (.ireturn, 1) := by decide +kernel
theorem dL_stuffed_15 : decode cL_stuffed 15 = .ok (.iconst 0, 1) := by decide +kernel
theorem dL_stuffed_16 : decode cL_stuffed 16 = .ok (.ireturn, 1) := by decide +kernel
set_option maxHeartbeats 4000000 in
set_option maxRecDepth 100000 in
theorem h_L_stuffed (l : Launch) (hst : l.stackTraces = false) (Λ : LY) (hF : FL Λ) (hO : 0 < yn Λ 20) (σ s : CS) (h : Int64) (p1 : Int32) {r9 : Int32} (hf : f_X7_stuffed s p1 = some (.inr r9)) : CH l yL_stuffed (.codeWith yL_stuffed cL_stuffed 4 (some .int) [(0, 9, 12, 21)] :: TT) ({ frames := 9, cells := 1, slots := 6, locals := 162 }) Λ [.ref (ya Λ 0 0), .int p1, .ref (ya Λ 20 0)] (qC (sH σ 20 0 h) s) (qC (sH σ 20 0 r9.toInt64) s) (some (.int 0)) := by
  refine CH_intro hst (own := RL) (by decide) rfl (Nat.le_of_ble_eq_true rfl) rfl rfl ?_
  intro Γ hg hl hΓ hH
  subst hg; subst hl
  show GG Γ (0, 0) (qC (sH σ 20 0 h) s) 0 [(0, .ref (ya (gl Γ) 0 0)), (1, .int p1), (2, .ref (ya (gl Γ) 20 0))] []
  refine G_aload_n hΓ 2 dL_stuffed_0 rfl ?_
  refine G_iconst (v := 0) hΓ dL_stuffed_1 (by decide) ?_
  refine G_aload_n hΓ 0 dL_stuffed_2 rfl ?_
  refine G_iload_n hΓ 1 dL_stuffed_3 rfl ?_
  refine G_callV hΓ (n := 1) (As := [.int p1]) (t := 0) (i := 0) (ci := 10) (T := TX7) (N := 14) (FS := fs7 (gl Γ) 0) (σ' := (qC (sH σ 20 0 h) s)) (c_X7_stuffed (gL Γ) (gl Γ) hF (sH σ 20 0 h) s p1 hf) rfl rfl kw_625 kw_626 kw_627 kw_1 kw_628 ⟨rfl, by decide, by decide, by decide +kernel⟩ (FLi hF (t := 0) (by decide)) (fun _ _ _ => rfl) rfl rfl rfl ⟨Nat.le_of_ble_eq_true rfl, Nat.le_of_ble_eq_true rfl⟩ rfl (Nat.le_of_ble_eq_true rfl) dL_stuffed_4 ⟨_, rfl⟩ rfl ?_
  refine G_i2l hΓ dL_stuffed_7 ?_
  refine F_out hΓ (h := h) (σ' := (qC (sH σ 20 0 r9.toInt64) s)) hO rfl (qC_out.trans (by rw [sH_same])) dL_stuffed_8 ?_
  refine G_goto hΓ (tgt := 15) dL_stuffed_9 (by decide) ?_
  refine G_iconst (v := 0) hΓ dL_stuffed_15 (by decide) ?_
  exact G_iretH hΓ ⟨by decide, by decide⟩ hH dL_stuffed_16
set_option maxHeartbeats 4000000 in
set_option maxRecDepth 100000 in
theorem x_L_stuffed_1 (l : Launch) (hst : l.stackTraces = false) (Λ : LY) (hF : FL Λ) (hO : 0 < yn Λ 20) (σ s : CS) (h : Int64) (p1 : Int32)  (hf : f_X7_stuffed s p1 = some (.inl 1)) : CH l yL_stuffed (.codeWith yL_stuffed cL_stuffed 4 (some .int) [(0, 9, 12, 21)] :: TT) ({ frames := 9, cells := 1, slots := 6, locals := 162 }) Λ [.ref (ya Λ 0 0), .int p1, .ref (ya Λ 20 0)] (qC (sH σ 20 0 h) s) (qC (sH σ 20 0 h) s) (some (.int 1)) := by
  refine CH_intro hst (own := RL) (by decide) rfl (Nat.le_of_ble_eq_true rfl) rfl rfl ?_
  intro Γ hg hl hΓ hH
  subst hg; subst hl
  show GG Γ (0, 0) (qC (sH σ 20 0 h) s) 0 [(0, .ref (ya (gl Γ) 0 0)), (1, .int p1), (2, .ref (ya (gl Γ) 20 0))] []
  refine G_aload_n hΓ 2 dL_stuffed_0 rfl ?_
  refine G_iconst (v := 0) hΓ dL_stuffed_1 (by decide) ?_
  refine G_aload_n hΓ 0 dL_stuffed_2 rfl ?_
  refine G_iload_n hΓ 1 dL_stuffed_3 rfl ?_
  refine G_callVC hΓ hH (n := 1) (As := [.int p1]) (t := 0) (i := 0) (ci := 10) (T := TX7) (N := 14) (FS := fs7 (gl Γ) 0) (t_X7_stuffed (gL Γ) hst (gl Γ) hF (sH σ 20 0 h) s p1 hf) kw_625 kw_626 kw_627 kw_1 kw_628 ⟨rfl, by decide, by decide, by decide +kernel⟩ (FLi hF (t := 0) (by decide)) (fun _ _ _ => rfl) rfl rfl rfl ⟨Nat.le_of_ble_eq_true rfl, Nat.le_of_ble_eq_true rfl⟩ rfl (Nat.le_of_ble_eq_true rfl) dL_stuffed_4 [] (0, 9, 12, 21) [] rfl (by intro z hz; cases hz) ⟨by decide, by decide⟩ (by decide) kw_440 (by decide +kernel) (fun q => ?_)
  refine G_astore_n hΓ [(3, .ref q), (0, .ref (ya (gl Γ) 0 0)), (1, .int p1), (2, .ref (ya (gl Γ) 20 0))] dL_stuffed_12 (by decide) rfl ?_
  refine G_iconst (v := 1) hΓ dL_stuffed_13 (by decide) ?_
  exact G_iretH hΓ ⟨by decide, by decide⟩ hH dL_stuffed_14
theorem dL_filter_0 : decode cL_filter 0 = .ok (.aload_n 0, 1) := by decide +kernel
theorem dL_filter_1 : decode cL_filter 1 = .ok (.iload_n 1, 1) := by decide +kernel
theorem dL_filter_2 : decode cL_filter 2 = .ok (.iload_n 2, 1) := by decide +kernel
theorem dL_filter_3 : decode cL_filter 3 = .ok (.iload_n 3, 1) := by decide +kernel
theorem dL_filter_4 : decode cL_filter 4 = .ok (.invokevirtual 33, 3) := by decide +kernel
theorem dL_filter_7 : decode cL_filter 7 = .ok (.goto 7, 3) := by decide +kernel
theorem dL_filter_10 : decode cL_filter 10 = .ok (.astore 4, 2) := by decide +kernel
theorem dL_filter_12 : decode cL_filter 12 = .ok (.iconst 1, 1) := by decide +kernel
theorem dL_filter_13 : decode cL_filter 13 = .ok (.ireturn, 1) := by decide +kernel
theorem dL_filter_14 : decode cL_filter 14 = .ok (.iconst 0, 1) := by decide +kernel
theorem dL_filter_15 : decode cL_filter 15 = .ok (.ireturn, 1) := by decide +kernel
set_option maxHeartbeats 4000000 in
set_option maxRecDepth 100000 in
theorem h_L_filter (l : Launch) (hst : l.stackTraces = false) (Λ : LY) (hF : FL Λ) (hO : 0 < yn Λ 20) (σ s : CS) (h : Int64) (p1 : Int32) (p2 : Int32) (p3 : Int32) {s' : CS} (hf : f_X7_filter s p1 p2 p3 = some (.inr s')) : CH l yL_filter (.codeWith yL_filter cL_filter 5 (some .int) [(0, 7, 10, 21)] :: TT) ({ frames := 9, cells := 1, slots := 6, locals := 164 }) Λ [.ref (ya Λ 0 0), .int p1, .int p2, .int p3] (qC (sH σ 20 0 h) s) (qC (sH σ 20 0 h) s') (some (.int 0)) := by
  refine CH_intro hst (own := RL) (by decide) rfl (Nat.le_of_ble_eq_true rfl) rfl rfl ?_
  intro Γ hg hl hΓ hH
  subst hg; subst hl
  show GG Γ (0, 0) (qC (sH σ 20 0 h) s) 0 [(0, .ref (ya (gl Γ) 0 0)), (1, .int p1), (2, .int p2), (3, .int p3)] []
  refine G_aload_n hΓ 0 dL_filter_0 rfl ?_
  refine G_iload_n hΓ 1 dL_filter_1 rfl ?_
  refine G_iload_n hΓ 2 dL_filter_2 rfl ?_
  refine G_iload_n hΓ 3 dL_filter_3 rfl ?_
  refine G_callV hΓ (n := 3) (As := [.int p1, .int p2, .int p3]) (t := 0) (i := 0) (ci := 10) (T := TX7) (N := 14) (FS := fs7 (gl Γ) 0) (σ' := (qC (sH σ 20 0 h) s')) (c_X7_filter (gL Γ) (gl Γ) hF (sH σ 20 0 h) s p1 p2 p3 hf) rfl rfl kw_632 kw_633 kw_634 kw_1 kw_635 ⟨rfl, by decide, by decide, by decide +kernel⟩ (FLi hF (t := 0) (by decide)) (fun _ _ _ => rfl) rfl rfl rfl ⟨Nat.le_of_ble_eq_true rfl, Nat.le_of_ble_eq_true rfl⟩ rfl (Nat.le_of_ble_eq_true rfl) dL_filter_4 ⟨_, rfl⟩ rfl ?_
  refine G_goto hΓ (tgt := 14) dL_filter_7 (by decide) ?_
  refine G_iconst (v := 0) hΓ dL_filter_14 (by decide) ?_
  exact G_iretH hΓ ⟨by decide, by decide⟩ hH dL_filter_15
set_option maxHeartbeats 4000000 in
set_option maxRecDepth 100000 in
theorem x_L_filter_1 (l : Launch) (hst : l.stackTraces = false) (Λ : LY) (hF : FL Λ) (hO : 0 < yn Λ 20) (σ s : CS) (h : Int64) (p1 : Int32) (p2 : Int32) (p3 : Int32)  (hf : f_X7_filter s p1 p2 p3 = some (.inl 1)) : CH l yL_filter (.codeWith yL_filter cL_filter 5 (some .int) [(0, 7, 10, 21)] :: TT) ({ frames := 9, cells := 1, slots := 6, locals := 164 }) Λ [.ref (ya Λ 0 0), .int p1, .int p2, .int p3] (qC (sH σ 20 0 h) s) (qC (sH σ 20 0 h) s) (some (.int 1)) := by
  refine CH_intro hst (own := RL) (by decide) rfl (Nat.le_of_ble_eq_true rfl) rfl rfl ?_
  intro Γ hg hl hΓ hH
  subst hg; subst hl
  show GG Γ (0, 0) (qC (sH σ 20 0 h) s) 0 [(0, .ref (ya (gl Γ) 0 0)), (1, .int p1), (2, .int p2), (3, .int p3)] []
  refine G_aload_n hΓ 0 dL_filter_0 rfl ?_
  refine G_iload_n hΓ 1 dL_filter_1 rfl ?_
  refine G_iload_n hΓ 2 dL_filter_2 rfl ?_
  refine G_iload_n hΓ 3 dL_filter_3 rfl ?_
  refine G_callVC hΓ hH (n := 3) (As := [.int p1, .int p2, .int p3]) (t := 0) (i := 0) (ci := 10) (T := TX7) (N := 14) (FS := fs7 (gl Γ) 0) (t_X7_filter (gL Γ) hst (gl Γ) hF (sH σ 20 0 h) s p1 p2 p3 hf) kw_632 kw_633 kw_634 kw_1 kw_635 ⟨rfl, by decide, by decide, by decide +kernel⟩ (FLi hF (t := 0) (by decide)) (fun _ _ _ => rfl) rfl rfl rfl ⟨Nat.le_of_ble_eq_true rfl, Nat.le_of_ble_eq_true rfl⟩ rfl (Nat.le_of_ble_eq_true rfl) dL_filter_4 [] (0, 7, 10, 21) [] rfl (by intro z hz; cases hz) ⟨by decide, by decide⟩ (by decide) kw_440 (by decide +kernel) (fun q => ?_)
  refine G_astore hΓ [(4, .ref q), (0, .ref (ya (gl Γ) 0 0)), (1, .int p1), (2, .int p2), (3, .int p3)] dL_filter_10 (by decide) rfl ?_
  refine G_iconst (v := 1) hΓ dL_filter_12 (by decide) ?_
  exact G_iretH hΓ ⟨by decide, by decide⟩ hH dL_filter_13
theorem dL_flip_0 : decode cL_flip 0 = .ok (.aload_n 0, 1) := by decide +kernel
theorem dL_flip_1 : decode cL_flip 1 = .ok (.iload_n 1, 1) := by decide +kernel
theorem dL_flip_2 : decode cL_flip 2 = .ok (.iload_n 2, 1) := by decide +kernel
theorem dL_flip_3 : decode cL_flip 3 = .ok (.invokevirtual 36, 3) := by decide +kernel
theorem dL_flip_6 : decode cL_flip 6 = .ok (.goto 9, 3) := by decide +kernel
theorem dL_flip_9 : decode cL_flip 9 = .ok (.astore_n 3, 1) := by decide +kernel
theorem dL_flip_10 : decode cL_flip 10 = .ok (.iconst 1, 1) := by decide +kernel
theorem dL_flip_11 : decode cL_flip 11 = .ok (.ireturn, 1) := by decide +kernel
theorem dL_flip_12 : decode cL_flip 12 = .ok (.astore_n 3, 1) := by decide +kernel
theorem dL_flip_13 : decode cL_flip 13 = .ok (.iconst 2, 1) := by decide +kernel
theorem dL_flip_14 : decode cL_flip 14 = .ok (.ireturn, 1) := by decide +kernel
theorem dL_flip_15 : decode cL_flip 15 = .ok (.iconst 0, 1) := by decide +kernel
theorem dL_flip_16 : decode cL_flip 16 = .ok (.ireturn, 1) := by decide +kernel
set_option maxHeartbeats 4000000 in
set_option maxRecDepth 100000 in
theorem h_L_flip (l : Launch) (hst : l.stackTraces = false) (Λ : LY) (hF : FL Λ) (hO : 0 < yn Λ 20) (σ s : CS) (h : Int64) (p1 : Int32) (p2 : Int32) {s' : CS} (hf : f_X7_flip s p1 p2 = some (.inr s')) : CH l yL_flip (.codeWith yL_flip cL_flip 4 (some .int) [(0, 6, 9, 21), (0, 6, 12, 13)] :: TT) ({ frames := 9, cells := 1, slots := 6, locals := 163 }) Λ [.ref (ya Λ 0 0), .int p1, .int p2] (qC (sH σ 20 0 h) s) (qC (sH σ 20 0 h) s') (some (.int 0)) := by
  refine CH_intro hst (own := RL) (by decide) rfl (Nat.le_of_ble_eq_true rfl) rfl rfl ?_
  intro Γ hg hl hΓ hH
  subst hg; subst hl
  show GG Γ (0, 0) (qC (sH σ 20 0 h) s) 0 [(0, .ref (ya (gl Γ) 0 0)), (1, .int p1), (2, .int p2)] []
  refine G_aload_n hΓ 0 dL_flip_0 rfl ?_
  refine G_iload_n hΓ 1 dL_flip_1 rfl ?_
  refine G_iload_n hΓ 2 dL_flip_2 rfl ?_
  refine G_callV hΓ (n := 2) (As := [.int p1, .int p2]) (t := 0) (i := 0) (ci := 10) (T := TX7) (N := 14) (FS := fs7 (gl Γ) 0) (σ' := (qC (sH σ 20 0 h) s')) (c_X7_flip (gL Γ) (gl Γ) hF (sH σ 20 0 h) s p1 p2 hf) rfl rfl kw_639 kw_640 kw_641 kw_1 kw_642 ⟨rfl, by decide, by decide, by decide +kernel⟩ (FLi hF (t := 0) (by decide)) (fun _ _ _ => rfl) rfl rfl rfl ⟨Nat.le_of_ble_eq_true rfl, Nat.le_of_ble_eq_true rfl⟩ rfl (Nat.le_of_ble_eq_true rfl) dL_flip_3 ⟨_, rfl⟩ rfl ?_
  refine G_goto hΓ (tgt := 15) dL_flip_6 (by decide) ?_
  refine G_iconst (v := 0) hΓ dL_flip_15 (by decide) ?_
  exact G_iretH hΓ ⟨by decide, by decide⟩ hH dL_flip_16
set_option maxHeartbeats 4000000 in
set_option maxRecDepth 100000 in
theorem x_L_flip_1 (l : Launch) (hst : l.stackTraces = false) (Λ : LY) (hF : FL Λ) (hO : 0 < yn Λ 20) (σ s : CS) (h : Int64) (p1 : Int32) (p2 : Int32)  (hf : f_X7_flip s p1 p2 = some (.inl 1)) : CH l yL_flip (.codeWith yL_flip cL_flip 4 (some .int) [(0, 6, 9, 21), (0, 6, 12, 13)] :: TT) ({ frames := 9, cells := 1, slots := 6, locals := 163 }) Λ [.ref (ya Λ 0 0), .int p1, .int p2] (qC (sH σ 20 0 h) s) (qC (sH σ 20 0 h) s) (some (.int 1)) := by
  refine CH_intro hst (own := RL) (by decide) rfl (Nat.le_of_ble_eq_true rfl) rfl rfl ?_
  intro Γ hg hl hΓ hH
  subst hg; subst hl
  show GG Γ (0, 0) (qC (sH σ 20 0 h) s) 0 [(0, .ref (ya (gl Γ) 0 0)), (1, .int p1), (2, .int p2)] []
  refine G_aload_n hΓ 0 dL_flip_0 rfl ?_
  refine G_iload_n hΓ 1 dL_flip_1 rfl ?_
  refine G_iload_n hΓ 2 dL_flip_2 rfl ?_
  refine G_callVC hΓ hH (n := 2) (As := [.int p1, .int p2]) (t := 0) (i := 0) (ci := 10) (T := TX7) (N := 14) (FS := fs7 (gl Γ) 0) (t_X7_flip (gL Γ) hst (gl Γ) hF (sH σ 20 0 h) s p1 p2 hf) kw_639 kw_640 kw_641 kw_1 kw_642 ⟨rfl, by decide, by decide, by decide +kernel⟩ (FLi hF (t := 0) (by decide)) (fun _ _ _ => rfl) rfl rfl rfl ⟨Nat.le_of_ble_eq_true rfl, Nat.le_of_ble_eq_true rfl⟩ rfl (Nat.le_of_ble_eq_true rfl) dL_flip_3 [] (0, 6, 9, 21) [(0, 6, 12, 13)] rfl (by intro z hz; cases hz) ⟨by decide, by decide⟩ (by decide) kw_440 (by decide +kernel) (fun q => ?_)
  refine G_astore_n hΓ [(3, .ref q), (0, .ref (ya (gl Γ) 0 0)), (1, .int p1), (2, .int p2)] dL_flip_9 (by decide) rfl ?_
  refine G_iconst (v := 1) hΓ dL_flip_10 (by decide) ?_
  exact G_iretH hΓ ⟨by decide, by decide⟩ hH dL_flip_11
set_option maxHeartbeats 4000000 in
set_option maxRecDepth 100000 in
theorem x_L_flip_2 (l : Launch) (hst : l.stackTraces = false) (Λ : LY) (hF : FL Λ) (hO : 0 < yn Λ 20) (σ s : CS) (h : Int64) (p1 : Int32) (p2 : Int32)  (hf : f_X7_flip s p1 p2 = some (.inl 2)) : CH l yL_flip (.codeWith yL_flip cL_flip 4 (some .int) [(0, 6, 9, 21), (0, 6, 12, 13)] :: TT) ({ frames := 9, cells := 1, slots := 6, locals := 163 }) Λ [.ref (ya Λ 0 0), .int p1, .int p2] (qC (sH σ 20 0 h) s) (qC (sH σ 20 0 h) s) (some (.int 2)) := by
  refine CH_intro hst (own := RL) (by decide) rfl (Nat.le_of_ble_eq_true rfl) rfl rfl ?_
  intro Γ hg hl hΓ hH
  subst hg; subst hl
  show GG Γ (0, 0) (qC (sH σ 20 0 h) s) 0 [(0, .ref (ya (gl Γ) 0 0)), (1, .int p1), (2, .int p2)] []
  refine G_aload_n hΓ 0 dL_flip_0 rfl ?_
  refine G_iload_n hΓ 1 dL_flip_1 rfl ?_
  refine G_iload_n hΓ 2 dL_flip_2 rfl ?_
  refine G_callVC hΓ hH (n := 2) (As := [.int p1, .int p2]) (t := 0) (i := 0) (ci := 10) (T := TX7) (N := 14) (FS := fs7 (gl Γ) 0) (t_X7_flip (gL Γ) hst (gl Γ) hF (sH σ 20 0 h) s p1 p2 hf) kw_639 kw_640 kw_641 kw_1 kw_642 ⟨rfl, by decide, by decide, by decide +kernel⟩ (FLi hF (t := 0) (by decide)) (fun _ _ _ => rfl) rfl rfl rfl ⟨Nat.le_of_ble_eq_true rfl, Nat.le_of_ble_eq_true rfl⟩ rfl (Nat.le_of_ble_eq_true rfl) dL_flip_3 [(0, 6, 9, 21)] (0, 6, 12, 13) [] rfl (by intro z hz; rcases List.mem_cons.mp hz with rfl | hz; exact ⟨by decide, _, kw_440, by decide +kernel⟩; cases hz) ⟨by decide, by decide⟩ (by decide) kw_341 (by decide +kernel) (fun q => ?_)
  refine G_astore_n hΓ [(3, .ref q), (0, .ref (ya (gl Γ) 0 0)), (1, .int p1), (2, .int p2)] dL_flip_12 (by decide) rfl ?_
  refine G_iconst (v := 2) hΓ dL_flip_13 (by decide) ?_
  exact G_iretH hΓ ⟨by decide, by decide⟩ hH dL_flip_14
theorem dL_run_0 : decode cL_run 0 = .ok (.aload_n 2, 1) := by decide +kernel
theorem dL_run_1 : decode cL_run 1 = .ok (.iconst 0, 1) := by decide +kernel
theorem dL_run_2 : decode cL_run 2 = .ok (.aload_n 0, 1) := by decide +kernel
theorem dL_run_3 : decode cL_run 3 = .ok (.iload_n 1, 1) := by decide +kernel
theorem dL_run_4 : decode cL_run 4 = .ok (.invokevirtual 40, 3) := by decide +kernel
theorem dL_run_7 : decode cL_run 7 = .ok (.i2l, 1) := by decide +kernel
theorem dL_run_8 : decode cL_run 8 = .ok (.lastore, 1) := by decide +kernel
theorem dL_run_9 : decode cL_run 9 = .ok (.goto 9, 3) := by decide +kernel
theorem dL_run_12 : decode cL_run 12 = .ok (.astore_n 3, 1) := by decide +kernel
theorem dL_run_13 : decode cL_run 13 = .ok (.iconst 1, 1) := by decide +kernel
theorem dL_run_14 : decode cL_run 14 = .ok (.ireturn, 1) := by decide +kernel
theorem dL_run_15 : decode cL_run 15 = .ok (.astore_n 3, 1) := by decide +kernel
theorem dL_run_16 : decode cL_run 16 = .ok (.iconst 2, 1) := by decide +kernel
theorem dL_run_17 : decode cL_run 17 = .ok (.ireturn, 1) := by decide +kernel
theorem dL_run_18 : decode cL_run 18 = .ok (.iconst 0, 1) := by decide +kernel
theorem dL_run_19 : decode cL_run 19 = .ok (.ireturn, 1) := by decide +kernel
set_option maxHeartbeats 4000000 in
set_option maxRecDepth 100000 in
theorem h_L_run (l : Launch) (hst : l.stackTraces = false) (Λ : LY) (hF : FL Λ) (hO : 0 < yn Λ 20) (σ s : CS) (h : Int64) (p1 : Int32) {s' : CS} {r9 : Int32} (hf : f_X7_run s p1 = some (.inr (s', r9))) : CH l yL_run (.codeWith yL_run cL_run 4 (some .int) [(0, 9, 12, 13), (0, 9, 15, 23)] :: TT) ({ frames := 8, cells := 1, slots := 6, locals := 180 }) Λ [.ref (ya Λ 0 0), .int p1, .ref (ya Λ 20 0)] (qC (sH σ 20 0 h) s) (qC (sH σ 20 0 r9.toInt64) s') (some (.int 0)) := by
  refine CH_intro hst (own := RL) (by decide) rfl (Nat.le_of_ble_eq_true rfl) rfl rfl ?_
  intro Γ hg hl hΓ hH
  subst hg; subst hl
  show GG Γ (0, 0) (qC (sH σ 20 0 h) s) 0 [(0, .ref (ya (gl Γ) 0 0)), (1, .int p1), (2, .ref (ya (gl Γ) 20 0))] []
  refine G_aload_n hΓ 2 dL_run_0 rfl ?_
  refine G_iconst (v := 0) hΓ dL_run_1 (by decide) ?_
  refine G_aload_n hΓ 0 dL_run_2 rfl ?_
  refine G_iload_n hΓ 1 dL_run_3 rfl ?_
  refine G_callV hΓ (n := 1) (As := [.int p1]) (t := 0) (i := 0) (ci := 10) (T := TX7) (N := 14) (FS := fs7 (gl Γ) 0) (σ' := (qC (sH σ 20 0 h) s')) (c_X7_run (gL Γ) (gl Γ) hF (sH σ 20 0 h) s p1 hf) rfl rfl kw_650 kw_651 kw_652 kw_1 kw_653 ⟨rfl, by decide, by decide, by decide +kernel⟩ (FLi hF (t := 0) (by decide)) (fun _ _ _ => rfl) rfl rfl rfl ⟨Nat.le_of_ble_eq_true rfl, Nat.le_of_ble_eq_true rfl⟩ rfl (Nat.le_of_ble_eq_true rfl) dL_run_4 ⟨_, rfl⟩ rfl ?_
  refine G_i2l hΓ dL_run_7 ?_
  refine F_out hΓ (h := h) (σ' := (qC (sH σ 20 0 r9.toInt64) s')) hO rfl (qC_out.trans (by rw [sH_same])) dL_run_8 ?_
  refine G_goto hΓ (tgt := 18) dL_run_9 (by decide) ?_
  refine G_iconst (v := 0) hΓ dL_run_18 (by decide) ?_
  exact G_iretH hΓ ⟨by decide, by decide⟩ hH dL_run_19
set_option maxHeartbeats 4000000 in
set_option maxRecDepth 100000 in
theorem x_L_run_2 (l : Launch) (hst : l.stackTraces = false) (Λ : LY) (hF : FL Λ) (hO : 0 < yn Λ 20) (σ s : CS) (h : Int64) (p1 : Int32)  (hf : f_X7_run s p1 = some (.inl 2)) : CH l yL_run (.codeWith yL_run cL_run 4 (some .int) [(0, 9, 12, 13), (0, 9, 15, 23)] :: TT) ({ frames := 8, cells := 1, slots := 6, locals := 180 }) Λ [.ref (ya Λ 0 0), .int p1, .ref (ya Λ 20 0)] (qC (sH σ 20 0 h) s) (qC (sH σ 20 0 h) s) (some (.int 1)) := by
  refine CH_intro hst (own := RL) (by decide) rfl (Nat.le_of_ble_eq_true rfl) rfl rfl ?_
  intro Γ hg hl hΓ hH
  subst hg; subst hl
  show GG Γ (0, 0) (qC (sH σ 20 0 h) s) 0 [(0, .ref (ya (gl Γ) 0 0)), (1, .int p1), (2, .ref (ya (gl Γ) 20 0))] []
  refine G_aload_n hΓ 2 dL_run_0 rfl ?_
  refine G_iconst (v := 0) hΓ dL_run_1 (by decide) ?_
  refine G_aload_n hΓ 0 dL_run_2 rfl ?_
  refine G_iload_n hΓ 1 dL_run_3 rfl ?_
  refine G_callVC hΓ hH (n := 1) (As := [.int p1]) (t := 0) (i := 0) (ci := 10) (T := TX7) (N := 14) (FS := fs7 (gl Γ) 0) (t_X7_run (gL Γ) hst (gl Γ) hF (sH σ 20 0 h) s p1 hf) kw_650 kw_651 kw_652 kw_1 kw_653 ⟨rfl, by decide, by decide, by decide +kernel⟩ (FLi hF (t := 0) (by decide)) (fun _ _ _ => rfl) rfl rfl rfl ⟨Nat.le_of_ble_eq_true rfl, Nat.le_of_ble_eq_true rfl⟩ rfl (Nat.le_of_ble_eq_true rfl) dL_run_4 [] (0, 9, 12, 13) [(0, 9, 15, 23)] rfl (by intro z hz; cases hz) ⟨by decide, by decide⟩ (by decide) kw_341 (by decide +kernel) (fun q => ?_)
  refine G_astore_n hΓ [(3, .ref q), (0, .ref (ya (gl Γ) 0 0)), (1, .int p1), (2, .ref (ya (gl Γ) 20 0))] dL_run_12 (by decide) rfl ?_
  refine G_iconst (v := 1) hΓ dL_run_13 (by decide) ?_
  exact G_iretH hΓ ⟨by decide, by decide⟩ hH dL_run_14
set_option maxHeartbeats 4000000 in
set_option maxRecDepth 100000 in
theorem x_L_run_3 (l : Launch) (hst : l.stackTraces = false) (Λ : LY) (hF : FL Λ) (hO : 0 < yn Λ 20) (σ s : CS) (h : Int64) (p1 : Int32)  (hf : f_X7_run s p1 = some (.inl 3)) : CH l yL_run (.codeWith yL_run cL_run 4 (some .int) [(0, 9, 12, 13), (0, 9, 15, 23)] :: TT) ({ frames := 8, cells := 1, slots := 6, locals := 180 }) Λ [.ref (ya Λ 0 0), .int p1, .ref (ya Λ 20 0)] (qC (sH σ 20 0 h) s) (qC (sH σ 20 0 h) s) (some (.int 2)) := by
  refine CH_intro hst (own := RL) (by decide) rfl (Nat.le_of_ble_eq_true rfl) rfl rfl ?_
  intro Γ hg hl hΓ hH
  subst hg; subst hl
  show GG Γ (0, 0) (qC (sH σ 20 0 h) s) 0 [(0, .ref (ya (gl Γ) 0 0)), (1, .int p1), (2, .ref (ya (gl Γ) 20 0))] []
  refine G_aload_n hΓ 2 dL_run_0 rfl ?_
  refine G_iconst (v := 0) hΓ dL_run_1 (by decide) ?_
  refine G_aload_n hΓ 0 dL_run_2 rfl ?_
  refine G_iload_n hΓ 1 dL_run_3 rfl ?_
  refine G_callVC hΓ hH (n := 1) (As := [.int p1]) (t := 0) (i := 0) (ci := 10) (T := TX7) (N := 14) (FS := fs7 (gl Γ) 0) (t_X7_run (gL Γ) hst (gl Γ) hF (sH σ 20 0 h) s p1 hf) kw_650 kw_651 kw_652 kw_1 kw_653 ⟨rfl, by decide, by decide, by decide +kernel⟩ (FLi hF (t := 0) (by decide)) (fun _ _ _ => rfl) rfl rfl rfl ⟨Nat.le_of_ble_eq_true rfl, Nat.le_of_ble_eq_true rfl⟩ rfl (Nat.le_of_ble_eq_true rfl) dL_run_4 [(0, 9, 12, 13)] (0, 9, 15, 23) [] rfl (by intro z hz; rcases List.mem_cons.mp hz with rfl | hz; exact ⟨by decide, _, kw_341, by decide +kernel⟩; cases hz) ⟨by decide, by decide⟩ (by decide) kw_459 (by decide +kernel) (fun q => ?_)
  refine G_astore_n hΓ [(3, .ref q), (0, .ref (ya (gl Γ) 0 0)), (1, .int p1), (2, .ref (ya (gl Γ) 20 0))] dL_run_15 (by decide) rfl ?_
  refine G_iconst (v := 2) hΓ dL_run_16 (by decide) ?_
  exact G_iretH hΓ ⟨by decide, by decide⟩ hH dL_run_17
theorem dL_bit_0 : decode cL_bit 0 = .ok (.aload_n 2, 1) := by decide +kernel
theorem dL_bit_1 : decode cL_bit 1 = .ok (.iconst 0, 1) := by decide +kernel
theorem dL_bit_2 : decode cL_bit 2 = .ok (.aload_n 0, 1) := by decide +kernel
theorem dL_bit_3 : decode cL_bit 3 = .ok (.iload_n 1, 1) := by decide +kernel
theorem dL_bit_4 : decode cL_bit 4 = .ok (.invokevirtual 43, 3) := by decide +kernel
theorem dL_bit_7 : decode cL_bit 7 = .ok (.i2l, 1) := by decide +kernel
theorem dL_bit_8 : decode cL_bit 8 = .ok (.lastore, 1) := by decide +kernel
theorem dL_bit_9 : decode cL_bit 9 = .ok (.goto 6, 3) := by decide +kernel
theorem dL_bit_12 : decode cL_bit 12 = .ok (.astore_n 3, 1) := by decide +kernel
theorem dL_bit_13 : decode cL_bit 13 = .ok (.iconst 1, 1) := by decide +kernel
theorem dL_bit_14 : decode cL_bit 14 = .ok (.ireturn, 1) := by decide +kernel
theorem dL_bit_15 : decode cL_bit 15 = .ok (.iconst 0, 1) := by decide +kernel
theorem dL_bit_16 : decode cL_bit 16 = .ok (.ireturn, 1) := by decide +kernel
set_option maxHeartbeats 4000000 in
set_option maxRecDepth 100000 in
theorem h_L_bit (l : Launch) (hst : l.stackTraces = false) (Λ : LY) (hF : FL Λ) (hO : 0 < yn Λ 20) (σ s : CS) (h : Int64) (p1 : Int32) {r9 : Int32} (hf : f_X7_bit s p1 = some (.inr r9)) : CH l yL_bit (.codeWith yL_bit cL_bit 4 (some .int) [(0, 9, 12, 46)] :: TT) ({ frames := 9, cells := 1, slots := 6, locals := 141 }) Λ [.ref (ya Λ 0 0), .int p1, .ref (ya Λ 20 0)] (qC (sH σ 20 0 h) s) (qC (sH σ 20 0 r9.toInt64) s) (some (.int 0)) := by
  refine CH_intro hst (own := RL) (by decide) rfl (Nat.le_of_ble_eq_true rfl) rfl rfl ?_
  intro Γ hg hl hΓ hH
  subst hg; subst hl
  show GG Γ (0, 0) (qC (sH σ 20 0 h) s) 0 [(0, .ref (ya (gl Γ) 0 0)), (1, .int p1), (2, .ref (ya (gl Γ) 20 0))] []
  refine G_aload_n hΓ 2 dL_bit_0 rfl ?_
  refine G_iconst (v := 0) hΓ dL_bit_1 (by decide) ?_
  refine G_aload_n hΓ 0 dL_bit_2 rfl ?_
  refine G_iload_n hΓ 1 dL_bit_3 rfl ?_
  refine G_callV hΓ (n := 1) (As := [.int p1]) (t := 0) (i := 0) (ci := 10) (T := TX7) (N := 14) (FS := fs7 (gl Γ) 0) (σ' := (qC (sH σ 20 0 h) s)) (c_X7_bit (gL Γ) (gl Γ) hF (sH σ 20 0 h) s p1 hf) rfl rfl kw_793 kw_794 kw_795 kw_1 kw_796 ⟨rfl, by decide, by decide, by decide +kernel⟩ (FLi hF (t := 0) (by decide)) (fun _ _ _ => rfl) rfl rfl rfl ⟨Nat.le_of_ble_eq_true rfl, Nat.le_of_ble_eq_true rfl⟩ rfl (Nat.le_of_ble_eq_true rfl) dL_bit_4 ⟨_, rfl⟩ rfl ?_
  refine G_i2l hΓ dL_bit_7 ?_
  refine F_out hΓ (h := h) (σ' := (qC (sH σ 20 0 r9.toInt64) s)) hO rfl (qC_out.trans (by rw [sH_same])) dL_bit_8 ?_
  refine G_goto hΓ (tgt := 15) dL_bit_9 (by decide) ?_
  refine G_iconst (v := 0) hΓ dL_bit_15 (by decide) ?_
  exact G_iretH hΓ ⟨by decide, by decide⟩ hH dL_bit_16
set_option maxHeartbeats 4000000 in
set_option maxRecDepth 100000 in
theorem x_L_bit_5 (l : Launch) (hst : l.stackTraces = false) (Λ : LY) (hF : FL Λ) (hO : 0 < yn Λ 20) (σ s : CS) (h : Int64) (p1 : Int32)  (hf : f_X7_bit s p1 = some (.inl 5)) : CH l yL_bit (.codeWith yL_bit cL_bit 4 (some .int) [(0, 9, 12, 46)] :: TT) ({ frames := 9, cells := 1, slots := 6, locals := 141 }) Λ [.ref (ya Λ 0 0), .int p1, .ref (ya Λ 20 0)] (qC (sH σ 20 0 h) s) (qC (sH σ 20 0 h) s) (some (.int 1)) := by
  refine CH_intro hst (own := RL) (by decide) rfl (Nat.le_of_ble_eq_true rfl) rfl rfl ?_
  intro Γ hg hl hΓ hH
  subst hg; subst hl
  show GG Γ (0, 0) (qC (sH σ 20 0 h) s) 0 [(0, .ref (ya (gl Γ) 0 0)), (1, .int p1), (2, .ref (ya (gl Γ) 20 0))] []
  refine G_aload_n hΓ 2 dL_bit_0 rfl ?_
  refine G_iconst (v := 0) hΓ dL_bit_1 (by decide) ?_
  refine G_aload_n hΓ 0 dL_bit_2 rfl ?_
  refine G_iload_n hΓ 1 dL_bit_3 rfl ?_
  refine G_callVC hΓ hH (n := 1) (As := [.int p1]) (t := 0) (i := 0) (ci := 10) (T := TX7) (N := 14) (FS := fs7 (gl Γ) 0) (t_X7_bit (gL Γ) hst (gl Γ) hF (sH σ 20 0 h) s p1 hf) kw_793 kw_794 kw_795 kw_1 kw_796 ⟨rfl, by decide, by decide, by decide +kernel⟩ (FLi hF (t := 0) (by decide)) (fun _ _ _ => rfl) rfl rfl rfl ⟨Nat.le_of_ble_eq_true rfl, Nat.le_of_ble_eq_true rfl⟩ rfl (Nat.le_of_ble_eq_true rfl) dL_bit_4 [] (0, 9, 12, 46) [] rfl (by intro z hz; cases hz) ⟨by decide, by decide⟩ (by decide) kw_792 (by decide +kernel) (fun q => ?_)
  refine G_astore_n hΓ [(3, .ref q), (0, .ref (ya (gl Γ) 0 0)), (1, .int p1), (2, .ref (ya (gl Γ) 20 0))] dL_bit_12 (by decide) rfl ?_
  refine G_iconst (v := 1) hΓ dL_bit_13 (by decide) ?_
  exact G_iretH hΓ ⟨by decide, by decide⟩ hH dL_bit_14
theorem dL_check_0 : decode cL_check 0 = .ok (.aload 4, 2) := by decide +kernel
theorem dL_check_2 : decode cL_check 2 = .ok (.iconst 0, 1) := by decide +kernel
theorem dL_check_3 : decode cL_check 3 = .ok (.aload_n 0, 1) := by decide +kernel
theorem dL_check_4 : decode cL_check 4 = .ok (.iload_n 1, 1) := by decide +kernel
theorem dL_check_5 : decode cL_check 5 = .ok (.iload_n 2, 1) := by decide +kernel
theorem dL_check_6 : decode cL_check 6 = .ok (.iload_n 3, 1) := by decide +kernel
theorem dL_check_7 : decode cL_check 7 = .ok (.invokevirtual 48, 3) := by decide +kernel
theorem dL_check_10 : decode cL_check 10 = .ok (.i2l, 1) := by decide +kernel
theorem dL_check_11 : decode cL_check 11 = .ok (.lastore, 1) := by decide +kernel
theorem dL_check_12 : decode cL_check 12 = .ok (.goto 11, 3) := by decide +kernel
theorem dL_check_15 : decode cL_check 15 = .ok (.astore 5, 2) := by decide +kernel
theorem dL_check_17 : decode cL_check 17 = .ok (.iconst 1, 1) := by decide +kernel
theorem dL_check_18 : decode cL_check 18 = .ok (.ireturn, 1) := by decide +kernel
theorem dL_check_19 : decode cL_check 19 = .ok (.astore 5, 2) := by decide +kernel
theorem dL_check_21 : decode cL_check 21 = .ok (.iconst 2, 1) := by decide +kernel
theorem dL_check_22 : decode cL_check 22 = .ok (.ireturn, 1) := by decide +kernel
theorem dL_check_23 : decode cL_check 23 = .ok (.iconst 0, 1) := by decide +kernel
theorem dL_check_24 : decode cL_check 24 = .ok (.ireturn, 1) := by decide +kernel
set_option maxHeartbeats 4000000 in
set_option maxRecDepth 100000 in
theorem h_L_check (l : Launch) (hst : l.stackTraces = false) (Λ : LY) (hF : FL Λ) (hO : 0 < yn Λ 20) (σ s : CS) (h : Int64) (p1 : Int32) (p2 : Int32) (p3 : Int32) {s' : CS} {r9 : Int32} (hf : f_X7_check s p1 p2 p3 = some (.inr (s', r9))) : CH l yL_check (.codeWith yL_check cL_check 6 (some .int) [(0, 12, 15, 13), (0, 12, 19, 21)] :: TT) ({ frames := 8, cells := 1, slots := 6, locals := 146 }) Λ [.ref (ya Λ 0 0), .int p1, .int p2, .int p3, .ref (ya Λ 20 0)] (qC (sH σ 20 0 h) s) (qC (sH σ 20 0 r9.toInt64) s') (some (.int 0)) := by
  refine CH_intro hst (own := RL) (by decide) rfl (Nat.le_of_ble_eq_true rfl) rfl rfl ?_
  intro Γ hg hl hΓ hH
  subst hg; subst hl
  show GG Γ (0, 0) (qC (sH σ 20 0 h) s) 0 [(0, .ref (ya (gl Γ) 0 0)), (1, .int p1), (2, .int p2), (3, .int p3), (4, .ref (ya (gl Γ) 20 0))] []
  refine G_aload hΓ 4 dL_check_0 rfl ?_
  refine G_iconst (v := 0) hΓ dL_check_2 (by decide) ?_
  refine G_aload_n hΓ 0 dL_check_3 rfl ?_
  refine G_iload_n hΓ 1 dL_check_4 rfl ?_
  refine G_iload_n hΓ 2 dL_check_5 rfl ?_
  refine G_iload_n hΓ 3 dL_check_6 rfl ?_
  refine G_callV hΓ (n := 3) (As := [.int p1, .int p2, .int p3]) (t := 0) (i := 0) (ci := 10) (T := TX7) (N := 14) (FS := fs7 (gl Γ) 0) (σ' := (qC (sH σ 20 0 h) s')) (c_X7_check (gL Γ) (gl Γ) hF (sH σ 20 0 h) s p1 p2 p3 hf) rfl rfl kw_803 kw_804 kw_805 kw_1 kw_806 ⟨rfl, by decide, by decide, by decide +kernel⟩ (FLi hF (t := 0) (by decide)) (fun _ _ _ => rfl) rfl rfl rfl ⟨Nat.le_of_ble_eq_true rfl, Nat.le_of_ble_eq_true rfl⟩ rfl (Nat.le_of_ble_eq_true rfl) dL_check_7 ⟨_, rfl⟩ rfl ?_
  refine G_i2l hΓ dL_check_10 ?_
  refine F_out hΓ (h := h) (σ' := (qC (sH σ 20 0 r9.toInt64) s')) hO rfl (qC_out.trans (by rw [sH_same])) dL_check_11 ?_
  refine G_goto hΓ (tgt := 23) dL_check_12 (by decide) ?_
  refine G_iconst (v := 0) hΓ dL_check_23 (by decide) ?_
  exact G_iretH hΓ ⟨by decide, by decide⟩ hH dL_check_24
set_option maxHeartbeats 4000000 in
set_option maxRecDepth 100000 in
theorem x_L_check_2 (l : Launch) (hst : l.stackTraces = false) (Λ : LY) (hF : FL Λ) (hO : 0 < yn Λ 20) (σ s : CS) (h : Int64) (p1 : Int32) (p2 : Int32) (p3 : Int32)  (hf : f_X7_check s p1 p2 p3 = some (.inl 2)) : CH l yL_check (.codeWith yL_check cL_check 6 (some .int) [(0, 12, 15, 13), (0, 12, 19, 21)] :: TT) ({ frames := 8, cells := 1, slots := 6, locals := 146 }) Λ [.ref (ya Λ 0 0), .int p1, .int p2, .int p3, .ref (ya Λ 20 0)] (qC (sH σ 20 0 h) s) (qC (sH σ 20 0 h) s) (some (.int 1)) := by
  refine CH_intro hst (own := RL) (by decide) rfl (Nat.le_of_ble_eq_true rfl) rfl rfl ?_
  intro Γ hg hl hΓ hH
  subst hg; subst hl
  show GG Γ (0, 0) (qC (sH σ 20 0 h) s) 0 [(0, .ref (ya (gl Γ) 0 0)), (1, .int p1), (2, .int p2), (3, .int p3), (4, .ref (ya (gl Γ) 20 0))] []
  refine G_aload hΓ 4 dL_check_0 rfl ?_
  refine G_iconst (v := 0) hΓ dL_check_2 (by decide) ?_
  refine G_aload_n hΓ 0 dL_check_3 rfl ?_
  refine G_iload_n hΓ 1 dL_check_4 rfl ?_
  refine G_iload_n hΓ 2 dL_check_5 rfl ?_
  refine G_iload_n hΓ 3 dL_check_6 rfl ?_
  refine G_callVC hΓ hH (n := 3) (As := [.int p1, .int p2, .int p3]) (t := 0) (i := 0) (ci := 10) (T := TX7) (N := 14) (FS := fs7 (gl Γ) 0) (t_X7_check (gL Γ) hst (gl Γ) hF (sH σ 20 0 h) s p1 p2 p3 hf) kw_803 kw_804 kw_805 kw_1 kw_806 ⟨rfl, by decide, by decide, by decide +kernel⟩ (FLi hF (t := 0) (by decide)) (fun _ _ _ => rfl) rfl rfl rfl ⟨Nat.le_of_ble_eq_true rfl, Nat.le_of_ble_eq_true rfl⟩ rfl (Nat.le_of_ble_eq_true rfl) dL_check_7 [] (0, 12, 15, 13) [(0, 12, 19, 21)] rfl (by intro z hz; cases hz) ⟨by decide, by decide⟩ (by decide) kw_341 (by decide +kernel) (fun q => ?_)
  refine G_astore hΓ [(5, .ref q), (0, .ref (ya (gl Γ) 0 0)), (1, .int p1), (2, .int p2), (3, .int p3), (4, .ref (ya (gl Γ) 20 0))] dL_check_15 (by decide) rfl ?_
  refine G_iconst (v := 1) hΓ dL_check_17 (by decide) ?_
  exact G_iretH hΓ ⟨by decide, by decide⟩ hH dL_check_18
set_option maxHeartbeats 4000000 in
set_option maxRecDepth 100000 in
theorem x_L_check_1 (l : Launch) (hst : l.stackTraces = false) (Λ : LY) (hF : FL Λ) (hO : 0 < yn Λ 20) (σ s : CS) (h : Int64) (p1 : Int32) (p2 : Int32) (p3 : Int32)  (hf : f_X7_check s p1 p2 p3 = some (.inl 1)) : CH l yL_check (.codeWith yL_check cL_check 6 (some .int) [(0, 12, 15, 13), (0, 12, 19, 21)] :: TT) ({ frames := 8, cells := 1, slots := 6, locals := 146 }) Λ [.ref (ya Λ 0 0), .int p1, .int p2, .int p3, .ref (ya Λ 20 0)] (qC (sH σ 20 0 h) s) (qC (sH σ 20 0 h) s) (some (.int 2)) := by
  refine CH_intro hst (own := RL) (by decide) rfl (Nat.le_of_ble_eq_true rfl) rfl rfl ?_
  intro Γ hg hl hΓ hH
  subst hg; subst hl
  show GG Γ (0, 0) (qC (sH σ 20 0 h) s) 0 [(0, .ref (ya (gl Γ) 0 0)), (1, .int p1), (2, .int p2), (3, .int p3), (4, .ref (ya (gl Γ) 20 0))] []
  refine G_aload hΓ 4 dL_check_0 rfl ?_
  refine G_iconst (v := 0) hΓ dL_check_2 (by decide) ?_
  refine G_aload_n hΓ 0 dL_check_3 rfl ?_
  refine G_iload_n hΓ 1 dL_check_4 rfl ?_
  refine G_iload_n hΓ 2 dL_check_5 rfl ?_
  refine G_iload_n hΓ 3 dL_check_6 rfl ?_
  refine G_callVC hΓ hH (n := 3) (As := [.int p1, .int p2, .int p3]) (t := 0) (i := 0) (ci := 10) (T := TX7) (N := 14) (FS := fs7 (gl Γ) 0) (t_X7_check (gL Γ) hst (gl Γ) hF (sH σ 20 0 h) s p1 p2 p3 hf) kw_803 kw_804 kw_805 kw_1 kw_806 ⟨rfl, by decide, by decide, by decide +kernel⟩ (FLi hF (t := 0) (by decide)) (fun _ _ _ => rfl) rfl rfl rfl ⟨Nat.le_of_ble_eq_true rfl, Nat.le_of_ble_eq_true rfl⟩ rfl (Nat.le_of_ble_eq_true rfl) dL_check_7 [(0, 12, 15, 13)] (0, 12, 19, 21) [] rfl (by intro z hz; rcases List.mem_cons.mp hz with rfl | hz; exact ⟨by decide, _, kw_341, by decide +kernel⟩; cases hz) ⟨by decide, by decide⟩ (by decide) kw_440 (by decide +kernel) (fun q => ?_)
  refine G_astore hΓ [(5, .ref q), (0, .ref (ya (gl Γ) 0 0)), (1, .int p1), (2, .int p2), (3, .int p3), (4, .ref (ya (gl Γ) 20 0))] dL_check_19 (by decide) rfl ?_
  refine G_iconst (v := 2) hΓ dL_check_21 (by decide) ?_
  exact G_iretH hΓ ⟨by decide, by decide⟩ hH dL_check_22
theorem dL_state_0 : decode cL_state 0 = .ok (.aload_n 2, 1) := by decide +kernel
theorem dL_state_1 : decode cL_state 1 = .ok (.iconst 0, 1) := by decide +kernel
theorem dL_state_2 : decode cL_state 2 = .ok (.aload_n 0, 1) := by decide +kernel
theorem dL_state_3 : decode cL_state 3 = .ok (.iload_n 1, 1) := by decide +kernel
theorem dL_state_4 : decode cL_state 4 = .ok (.invokevirtual 52, 3) := by decide +kernel
theorem dL_state_7 : decode cL_state 7 = .ok (.i2l, 1) := by decide +kernel
theorem dL_state_8 : decode cL_state 8 = .ok (.lastore, 1) := by decide +kernel
theorem dL_state_9 : decode cL_state 9 = .ok (.goto 6, 3) := by decide +kernel
theorem dL_state_12 : decode cL_state 12 = .ok (.astore_n 3, 1) := by decide +kernel
theorem dL_state_13 : decode cL_state 13 = .ok (.iconst 1, 1) := by decide +kernel
theorem dL_state_14 : decode cL_state 14 = .ok (.ireturn, 1) := by decide +kernel
theorem dL_state_15 : decode cL_state 15 = .ok (.iconst 0, 1) := by decide +kernel
theorem dL_state_16 : decode cL_state 16 = .ok (.ireturn, 1) := by decide +kernel
set_option maxHeartbeats 4000000 in
set_option maxRecDepth 100000 in
theorem h_L_state (l : Launch) (hst : l.stackTraces = false) (Λ : LY) (hF : FL Λ) (hO : 0 < yn Λ 20) (σ s : CS) (h : Int64) (p1 : Int32) {r9 : Int32} (hf : f_X7_state s p1 = some (.inr r9)) : CH l yL_state (.codeWith yL_state cL_state 4 (some .int) [(0, 9, 12, 21)] :: TT) ({ frames := 9, cells := 1, slots := 6, locals := 162 }) Λ [.ref (ya Λ 0 0), .int p1, .ref (ya Λ 20 0)] (qC (sH σ 20 0 h) s) (qC (sH σ 20 0 r9.toInt64) s) (some (.int 0)) := by
  refine CH_intro hst (own := RL) (by decide) rfl (Nat.le_of_ble_eq_true rfl) rfl rfl ?_
  intro Γ hg hl hΓ hH
  subst hg; subst hl
  show GG Γ (0, 0) (qC (sH σ 20 0 h) s) 0 [(0, .ref (ya (gl Γ) 0 0)), (1, .int p1), (2, .ref (ya (gl Γ) 20 0))] []
  refine G_aload_n hΓ 2 dL_state_0 rfl ?_
  refine G_iconst (v := 0) hΓ dL_state_1 (by decide) ?_
  refine G_aload_n hΓ 0 dL_state_2 rfl ?_
  refine G_iload_n hΓ 1 dL_state_3 rfl ?_
  refine G_callV hΓ (n := 1) (As := [.int p1]) (t := 0) (i := 0) (ci := 10) (T := TX7) (N := 14) (FS := fs7 (gl Γ) 0) (σ' := (qC (sH σ 20 0 h) s)) (c_X7_state (gL Γ) (gl Γ) hF (sH σ 20 0 h) s p1 hf) rfl rfl kw_814 kw_815 kw_816 kw_1 kw_817 ⟨rfl, by decide, by decide, by decide +kernel⟩ (FLi hF (t := 0) (by decide)) (fun _ _ _ => rfl) rfl rfl rfl ⟨Nat.le_of_ble_eq_true rfl, Nat.le_of_ble_eq_true rfl⟩ rfl (Nat.le_of_ble_eq_true rfl) dL_state_4 ⟨_, rfl⟩ rfl ?_
  refine G_i2l hΓ dL_state_7 ?_
  refine F_out hΓ (h := h) (σ' := (qC (sH σ 20 0 r9.toInt64) s)) hO rfl (qC_out.trans (by rw [sH_same])) dL_state_8 ?_
  refine G_goto hΓ (tgt := 15) dL_state_9 (by decide) ?_
  refine G_iconst (v := 0) hΓ dL_state_15 (by decide) ?_
  exact G_iretH hΓ ⟨by decide, by decide⟩ hH dL_state_16
set_option maxHeartbeats 4000000 in
set_option maxRecDepth 100000 in
theorem x_L_state_1 (l : Launch) (hst : l.stackTraces = false) (Λ : LY) (hF : FL Λ) (hO : 0 < yn Λ 20) (σ s : CS) (h : Int64) (p1 : Int32)  (hf : f_X7_state s p1 = some (.inl 1)) : CH l yL_state (.codeWith yL_state cL_state 4 (some .int) [(0, 9, 12, 21)] :: TT) ({ frames := 9, cells := 1, slots := 6, locals := 162 }) Λ [.ref (ya Λ 0 0), .int p1, .ref (ya Λ 20 0)] (qC (sH σ 20 0 h) s) (qC (sH σ 20 0 h) s) (some (.int 1)) := by
  refine CH_intro hst (own := RL) (by decide) rfl (Nat.le_of_ble_eq_true rfl) rfl rfl ?_
  intro Γ hg hl hΓ hH
  subst hg; subst hl
  show GG Γ (0, 0) (qC (sH σ 20 0 h) s) 0 [(0, .ref (ya (gl Γ) 0 0)), (1, .int p1), (2, .ref (ya (gl Γ) 20 0))] []
  refine G_aload_n hΓ 2 dL_state_0 rfl ?_
  refine G_iconst (v := 0) hΓ dL_state_1 (by decide) ?_
  refine G_aload_n hΓ 0 dL_state_2 rfl ?_
  refine G_iload_n hΓ 1 dL_state_3 rfl ?_
  refine G_callVC hΓ hH (n := 1) (As := [.int p1]) (t := 0) (i := 0) (ci := 10) (T := TX7) (N := 14) (FS := fs7 (gl Γ) 0) (t_X7_state (gL Γ) hst (gl Γ) hF (sH σ 20 0 h) s p1 hf) kw_814 kw_815 kw_816 kw_1 kw_817 ⟨rfl, by decide, by decide, by decide +kernel⟩ (FLi hF (t := 0) (by decide)) (fun _ _ _ => rfl) rfl rfl rfl ⟨Nat.le_of_ble_eq_true rfl, Nat.le_of_ble_eq_true rfl⟩ rfl (Nat.le_of_ble_eq_true rfl) dL_state_4 [] (0, 9, 12, 21) [] rfl (by intro z hz; cases hz) ⟨by decide, by decide⟩ (by decide) kw_440 (by decide +kernel) (fun q => ?_)
  refine G_astore_n hΓ [(3, .ref q), (0, .ref (ya (gl Γ) 0 0)), (1, .int p1), (2, .ref (ya (gl Γ) 20 0))] dL_state_12 (by decide) rfl ?_
  refine G_iconst (v := 1) hΓ dL_state_13 (by decide) ?_
  exact G_iretH hΓ ⟨by decide, by decide⟩ hH dL_state_14
theorem dL_waiting_0 : decode cL_waiting 0 = .ok (.aload_n 2, 1) := by decide +kernel
theorem dL_waiting_1 : decode cL_waiting 1 = .ok (.iconst 0, 1) := by decide +kernel
theorem dL_waiting_2 : decode cL_waiting 2 = .ok (.aload_n 0, 1) := by decide +kernel
theorem dL_waiting_3 : decode cL_waiting 3 = .ok (.iload_n 1, 1) := by decide +kernel
theorem dL_waiting_4 : decode cL_waiting 4 = .ok (.invokevirtual 55, 3) := by decide +kernel
theorem dL_waiting_7 : decode cL_waiting 7 = .ok (.i2l, 1) := by decide +kernel
theorem dL_waiting_8 : decode cL_waiting 8 = .ok (.lastore, 1) := by decide +kernel
theorem dL_waiting_9 : decode cL_waiting 9 = .ok (.goto 6, 3) := by decide +kernel
theorem dL_waiting_12 : decode cL_waiting 12 = .ok (.astore_n 3, 1) := by decide +kernel
theorem dL_waiting_13 : decode cL_waiting 13 = .ok (.iconst 1, 1) := by decide +kernel
theorem dL_waiting_14 : decode cL_waiting 14 = .ok (.ireturn, 1) := by decide +kernel
theorem dL_waiting_15 : decode cL_waiting 15 = .ok (.iconst 0, 1) := by decide +kernel
theorem dL_waiting_16 : decode cL_waiting 16 = .ok (.ireturn, 1) := by decide +kernel
set_option maxHeartbeats 4000000 in
set_option maxRecDepth 100000 in
theorem h_L_waiting (l : Launch) (hst : l.stackTraces = false) (Λ : LY) (hF : FL Λ) (hO : 0 < yn Λ 20) (σ s : CS) (h : Int64) (p1 : Int32) {r9 : Int32} (hf : f_X7_waiting s p1 = some (.inr r9)) : CH l yL_waiting (.codeWith yL_waiting cL_waiting 4 (some .int) [(0, 9, 12, 21)] :: TT) ({ frames := 9, cells := 1, slots := 6, locals := 162 }) Λ [.ref (ya Λ 0 0), .int p1, .ref (ya Λ 20 0)] (qC (sH σ 20 0 h) s) (qC (sH σ 20 0 r9.toInt64) s) (some (.int 0)) := by
  refine CH_intro hst (own := RL) (by decide) rfl (Nat.le_of_ble_eq_true rfl) rfl rfl ?_
  intro Γ hg hl hΓ hH
  subst hg; subst hl
  show GG Γ (0, 0) (qC (sH σ 20 0 h) s) 0 [(0, .ref (ya (gl Γ) 0 0)), (1, .int p1), (2, .ref (ya (gl Γ) 20 0))] []
  refine G_aload_n hΓ 2 dL_waiting_0 rfl ?_
  refine G_iconst (v := 0) hΓ dL_waiting_1 (by decide) ?_
  refine G_aload_n hΓ 0 dL_waiting_2 rfl ?_
  refine G_iload_n hΓ 1 dL_waiting_3 rfl ?_
  refine G_callV hΓ (n := 1) (As := [.int p1]) (t := 0) (i := 0) (ci := 10) (T := TX7) (N := 14) (FS := fs7 (gl Γ) 0) (σ' := (qC (sH σ 20 0 h) s)) (c_X7_waiting (gL Γ) (gl Γ) hF (sH σ 20 0 h) s p1 hf) rfl rfl kw_821 kw_822 kw_823 kw_1 kw_824 ⟨rfl, by decide, by decide, by decide +kernel⟩ (FLi hF (t := 0) (by decide)) (fun _ _ _ => rfl) rfl rfl rfl ⟨Nat.le_of_ble_eq_true rfl, Nat.le_of_ble_eq_true rfl⟩ rfl (Nat.le_of_ble_eq_true rfl) dL_waiting_4 ⟨_, rfl⟩ rfl ?_
  refine G_i2l hΓ dL_waiting_7 ?_
  refine F_out hΓ (h := h) (σ' := (qC (sH σ 20 0 r9.toInt64) s)) hO rfl (qC_out.trans (by rw [sH_same])) dL_waiting_8 ?_
  refine G_goto hΓ (tgt := 15) dL_waiting_9 (by decide) ?_
  refine G_iconst (v := 0) hΓ dL_waiting_15 (by decide) ?_
  exact G_iretH hΓ ⟨by decide, by decide⟩ hH dL_waiting_16
set_option maxHeartbeats 4000000 in
set_option maxRecDepth 100000 in
theorem x_L_waiting_1 (l : Launch) (hst : l.stackTraces = false) (Λ : LY) (hF : FL Λ) (hO : 0 < yn Λ 20) (σ s : CS) (h : Int64) (p1 : Int32)  (hf : f_X7_waiting s p1 = some (.inl 1)) : CH l yL_waiting (.codeWith yL_waiting cL_waiting 4 (some .int) [(0, 9, 12, 21)] :: TT) ({ frames := 9, cells := 1, slots := 6, locals := 162 }) Λ [.ref (ya Λ 0 0), .int p1, .ref (ya Λ 20 0)] (qC (sH σ 20 0 h) s) (qC (sH σ 20 0 h) s) (some (.int 1)) := by
  refine CH_intro hst (own := RL) (by decide) rfl (Nat.le_of_ble_eq_true rfl) rfl rfl ?_
  intro Γ hg hl hΓ hH
  subst hg; subst hl
  show GG Γ (0, 0) (qC (sH σ 20 0 h) s) 0 [(0, .ref (ya (gl Γ) 0 0)), (1, .int p1), (2, .ref (ya (gl Γ) 20 0))] []
  refine G_aload_n hΓ 2 dL_waiting_0 rfl ?_
  refine G_iconst (v := 0) hΓ dL_waiting_1 (by decide) ?_
  refine G_aload_n hΓ 0 dL_waiting_2 rfl ?_
  refine G_iload_n hΓ 1 dL_waiting_3 rfl ?_
  refine G_callVC hΓ hH (n := 1) (As := [.int p1]) (t := 0) (i := 0) (ci := 10) (T := TX7) (N := 14) (FS := fs7 (gl Γ) 0) (t_X7_waiting (gL Γ) hst (gl Γ) hF (sH σ 20 0 h) s p1 hf) kw_821 kw_822 kw_823 kw_1 kw_824 ⟨rfl, by decide, by decide, by decide +kernel⟩ (FLi hF (t := 0) (by decide)) (fun _ _ _ => rfl) rfl rfl rfl ⟨Nat.le_of_ble_eq_true rfl, Nat.le_of_ble_eq_true rfl⟩ rfl (Nat.le_of_ble_eq_true rfl) dL_waiting_4 [] (0, 9, 12, 21) [] rfl (by intro z hz; cases hz) ⟨by decide, by decide⟩ (by decide) kw_440 (by decide +kernel) (fun q => ?_)
  refine G_astore_n hΓ [(3, .ref q), (0, .ref (ya (gl Γ) 0 0)), (1, .int p1), (2, .ref (ya (gl Γ) 20 0))] dL_waiting_12 (by decide) rfl ?_
  refine G_iconst (v := 1) hΓ dL_waiting_13 (by decide) ?_
  exact G_iretH hΓ ⟨by decide, by decide⟩ hH dL_waiting_14
theorem dL_done_0 : decode cL_done 0 = .ok (.aload_n 3, 1) := by decide +kernel
theorem dL_done_1 : decode cL_done 1 = .ok (.iconst 0, 1) := by decide +kernel
theorem dL_done_2 : decode cL_done 2 = .ok (.aload_n 0, 1) := by decide +kernel
theorem dL_done_3 : decode cL_done 3 = .ok (.iload_n 1, 1) := by decide +kernel
theorem dL_done_4 : decode cL_done 4 = .ok (.iload_n 2, 1) := by decide +kernel
theorem dL_done_5 : decode cL_done 5 = .ok (.invokevirtual 58, 3) := by decide +kernel
theorem dL_done_8 : decode cL_done 8 = .ok (.i2l, 1) := by decide +kernel
theorem dL_done_9 : decode cL_done 9 = .ok (.lastore, 1) := by decide +kernel
theorem dL_done_10 : decode cL_done 10 = .ok (.goto 11, 3) := by decide +kernel
theorem dL_done_13 : decode cL_done 13 = .ok (.astore 4, 2) := by decide +kernel
theorem dL_done_15 : decode cL_done 15 = .ok (.iconst 1, 1) := by decide +kernel
theorem dL_done_16 : decode cL_done 16 = .ok (.ireturn, 1) := by decide +kernel
theorem dL_done_17 : decode cL_done 17 = .ok (.astore 4, 2) := by decide +kernel
theorem dL_done_19 : decode cL_done 19 = .ok (.iconst 2, 1) := by decide +kernel
theorem dL_done_20 : decode cL_done 20 = .ok (.ireturn, 1) := by decide +kernel
theorem dL_done_21 : decode cL_done 21 = .ok (.iconst 0, 1) := by decide +kernel
theorem dL_done_22 : decode cL_done 22 = .ok (.ireturn, 1) := by decide +kernel
set_option maxHeartbeats 4000000 in
set_option maxRecDepth 100000 in
theorem h_L_done (l : Launch) (hst : l.stackTraces = false) (Λ : LY) (hF : FL Λ) (hO : 0 < yn Λ 20) (σ s : CS) (h : Int64) (p1 : Int32) (p2 : Int32) {r9 : Int32} (hf : f_X7_done s p1 p2 = some (.inr r9)) : CH l yL_done (.codeWith yL_done cL_done 5 (some .int) [(0, 10, 13, 21), (0, 10, 17, 13)] :: TT) ({ frames := 9, cells := 1, slots := 6, locals := 163 }) Λ [.ref (ya Λ 0 0), .int p1, .int p2, .ref (ya Λ 20 0)] (qC (sH σ 20 0 h) s) (qC (sH σ 20 0 r9.toInt64) s) (some (.int 0)) := by
  refine CH_intro hst (own := RL) (by decide) rfl (Nat.le_of_ble_eq_true rfl) rfl rfl ?_
  intro Γ hg hl hΓ hH
  subst hg; subst hl
  show GG Γ (0, 0) (qC (sH σ 20 0 h) s) 0 [(0, .ref (ya (gl Γ) 0 0)), (1, .int p1), (2, .int p2), (3, .ref (ya (gl Γ) 20 0))] []
  refine G_aload_n hΓ 3 dL_done_0 rfl ?_
  refine G_iconst (v := 0) hΓ dL_done_1 (by decide) ?_
  refine G_aload_n hΓ 0 dL_done_2 rfl ?_
  refine G_iload_n hΓ 1 dL_done_3 rfl ?_
  refine G_iload_n hΓ 2 dL_done_4 rfl ?_
  refine G_callV hΓ (n := 2) (As := [.int p1, .int p2]) (t := 0) (i := 0) (ci := 10) (T := TX7) (N := 14) (FS := fs7 (gl Γ) 0) (σ' := (qC (sH σ 20 0 h) s)) (c_X7_done (gL Γ) (gl Γ) hF (sH σ 20 0 h) s p1 p2 hf) rfl rfl kw_828 kw_829 kw_830 kw_1 kw_831 ⟨rfl, by decide, by decide, by decide +kernel⟩ (FLi hF (t := 0) (by decide)) (fun _ _ _ => rfl) rfl rfl rfl ⟨Nat.le_of_ble_eq_true rfl, Nat.le_of_ble_eq_true rfl⟩ rfl (Nat.le_of_ble_eq_true rfl) dL_done_5 ⟨_, rfl⟩ rfl ?_
  refine G_i2l hΓ dL_done_8 ?_
  refine F_out hΓ (h := h) (σ' := (qC (sH σ 20 0 r9.toInt64) s)) hO rfl (qC_out.trans (by rw [sH_same])) dL_done_9 ?_
  refine G_goto hΓ (tgt := 21) dL_done_10 (by decide) ?_
  refine G_iconst (v := 0) hΓ dL_done_21 (by decide) ?_
  exact G_iretH hΓ ⟨by decide, by decide⟩ hH dL_done_22
set_option maxHeartbeats 4000000 in
set_option maxRecDepth 100000 in
theorem x_L_done_1 (l : Launch) (hst : l.stackTraces = false) (Λ : LY) (hF : FL Λ) (hO : 0 < yn Λ 20) (σ s : CS) (h : Int64) (p1 : Int32) (p2 : Int32)  (hf : f_X7_done s p1 p2 = some (.inl 1)) : CH l yL_done (.codeWith yL_done cL_done 5 (some .int) [(0, 10, 13, 21), (0, 10, 17, 13)] :: TT) ({ frames := 9, cells := 1, slots := 6, locals := 163 }) Λ [.ref (ya Λ 0 0), .int p1, .int p2, .ref (ya Λ 20 0)] (qC (sH σ 20 0 h) s) (qC (sH σ 20 0 h) s) (some (.int 1)) := by
  refine CH_intro hst (own := RL) (by decide) rfl (Nat.le_of_ble_eq_true rfl) rfl rfl ?_
  intro Γ hg hl hΓ hH
  subst hg; subst hl
  show GG Γ (0, 0) (qC (sH σ 20 0 h) s) 0 [(0, .ref (ya (gl Γ) 0 0)), (1, .int p1), (2, .int p2), (3, .ref (ya (gl Γ) 20 0))] []
  refine G_aload_n hΓ 3 dL_done_0 rfl ?_
  refine G_iconst (v := 0) hΓ dL_done_1 (by decide) ?_
  refine G_aload_n hΓ 0 dL_done_2 rfl ?_
  refine G_iload_n hΓ 1 dL_done_3 rfl ?_
  refine G_iload_n hΓ 2 dL_done_4 rfl ?_
  refine G_callVC hΓ hH (n := 2) (As := [.int p1, .int p2]) (t := 0) (i := 0) (ci := 10) (T := TX7) (N := 14) (FS := fs7 (gl Γ) 0) (t_X7_done (gL Γ) hst (gl Γ) hF (sH σ 20 0 h) s p1 p2 hf) kw_828 kw_829 kw_830 kw_1 kw_831 ⟨rfl, by decide, by decide, by decide +kernel⟩ (FLi hF (t := 0) (by decide)) (fun _ _ _ => rfl) rfl rfl rfl ⟨Nat.le_of_ble_eq_true rfl, Nat.le_of_ble_eq_true rfl⟩ rfl (Nat.le_of_ble_eq_true rfl) dL_done_5 [] (0, 10, 13, 21) [(0, 10, 17, 13)] rfl (by intro z hz; cases hz) ⟨by decide, by decide⟩ (by decide) kw_440 (by decide +kernel) (fun q => ?_)
  refine G_astore hΓ [(4, .ref q), (0, .ref (ya (gl Γ) 0 0)), (1, .int p1), (2, .int p2), (3, .ref (ya (gl Γ) 20 0))] dL_done_13 (by decide) rfl ?_
  refine G_iconst (v := 1) hΓ dL_done_15 (by decide) ?_
  exact G_iretH hΓ ⟨by decide, by decide⟩ hH dL_done_16
set_option maxHeartbeats 4000000 in
set_option maxRecDepth 100000 in
theorem x_L_done_2 (l : Launch) (hst : l.stackTraces = false) (Λ : LY) (hF : FL Λ) (hO : 0 < yn Λ 20) (σ s : CS) (h : Int64) (p1 : Int32) (p2 : Int32)  (hf : f_X7_done s p1 p2 = some (.inl 2)) : CH l yL_done (.codeWith yL_done cL_done 5 (some .int) [(0, 10, 13, 21), (0, 10, 17, 13)] :: TT) ({ frames := 9, cells := 1, slots := 6, locals := 163 }) Λ [.ref (ya Λ 0 0), .int p1, .int p2, .ref (ya Λ 20 0)] (qC (sH σ 20 0 h) s) (qC (sH σ 20 0 h) s) (some (.int 2)) := by
  refine CH_intro hst (own := RL) (by decide) rfl (Nat.le_of_ble_eq_true rfl) rfl rfl ?_
  intro Γ hg hl hΓ hH
  subst hg; subst hl
  show GG Γ (0, 0) (qC (sH σ 20 0 h) s) 0 [(0, .ref (ya (gl Γ) 0 0)), (1, .int p1), (2, .int p2), (3, .ref (ya (gl Γ) 20 0))] []
  refine G_aload_n hΓ 3 dL_done_0 rfl ?_
  refine G_iconst (v := 0) hΓ dL_done_1 (by decide) ?_
  refine G_aload_n hΓ 0 dL_done_2 rfl ?_
  refine G_iload_n hΓ 1 dL_done_3 rfl ?_
  refine G_iload_n hΓ 2 dL_done_4 rfl ?_
  refine G_callVC hΓ hH (n := 2) (As := [.int p1, .int p2]) (t := 0) (i := 0) (ci := 10) (T := TX7) (N := 14) (FS := fs7 (gl Γ) 0) (t_X7_done (gL Γ) hst (gl Γ) hF (sH σ 20 0 h) s p1 p2 hf) kw_828 kw_829 kw_830 kw_1 kw_831 ⟨rfl, by decide, by decide, by decide +kernel⟩ (FLi hF (t := 0) (by decide)) (fun _ _ _ => rfl) rfl rfl rfl ⟨Nat.le_of_ble_eq_true rfl, Nat.le_of_ble_eq_true rfl⟩ rfl (Nat.le_of_ble_eq_true rfl) dL_done_5 [(0, 10, 13, 21)] (0, 10, 17, 13) [] rfl (by intro z hz; rcases List.mem_cons.mp hz with rfl | hz; exact ⟨by decide, _, kw_440, by decide +kernel⟩; cases hz) ⟨by decide, by decide⟩ (by decide) kw_341 (by decide +kernel) (fun q => ?_)
  refine G_astore hΓ [(4, .ref q), (0, .ref (ya (gl Γ) 0 0)), (1, .int p1), (2, .int p2), (3, .ref (ya (gl Γ) 20 0))] dL_done_17 (by decide) rfl ?_
  refine G_iconst (v := 2) hΓ dL_done_19 (by decide) ?_
  exact G_iretH hΓ ⟨by decide, by decide⟩ hH dL_done_20
theorem dL_taken_0 : decode cL_taken 0 = .ok (.aload 4, 2) := by decide +kernel
theorem dL_taken_2 : decode cL_taken 2 = .ok (.iconst 0, 1) := by decide +kernel
theorem dL_taken_3 : decode cL_taken 3 = .ok (.aload_n 0, 1) := by decide +kernel
theorem dL_taken_4 : decode cL_taken 4 = .ok (.iload_n 1, 1) := by decide +kernel
theorem dL_taken_5 : decode cL_taken 5 = .ok (.iload_n 2, 1) := by decide +kernel
theorem dL_taken_6 : decode cL_taken 6 = .ok (.iload_n 3, 1) := by decide +kernel
theorem dL_taken_7 : decode cL_taken 7 = .ok (.invokevirtual 62, 3) := by decide +kernel
theorem dL_taken_10 : decode cL_taken 10 = .ok (.i2l, 1) := by decide +kernel
theorem dL_taken_11 : decode cL_taken 11 = .ok (.lastore, 1) := by decide +kernel
theorem dL_taken_12 : decode cL_taken 12 = .ok (.goto 11, 3) := by decide +kernel
theorem dL_taken_15 : decode cL_taken 15 = .ok (.astore 5, 2) := by decide +kernel
theorem dL_taken_17 : decode cL_taken 17 = .ok (.iconst 1, 1) := by decide +kernel
theorem dL_taken_18 : decode cL_taken 18 = .ok (.ireturn, 1) := by decide +kernel
theorem dL_taken_19 : decode cL_taken 19 = .ok (.astore 5, 2) := by decide +kernel
theorem dL_taken_21 : decode cL_taken 21 = .ok (.iconst 2, 1) := by decide +kernel
theorem dL_taken_22 : decode cL_taken 22 = .ok (.ireturn, 1) := by decide +kernel
theorem dL_taken_23 : decode cL_taken 23 = .ok (.iconst 0, 1) := by decide +kernel
theorem dL_taken_24 : decode cL_taken 24 = .ok (.ireturn, 1) := by decide +kernel
set_option maxHeartbeats 4000000 in
set_option maxRecDepth 100000 in
theorem h_L_taken (l : Launch) (hst : l.stackTraces = false) (Λ : LY) (hF : FL Λ) (hO : 0 < yn Λ 20) (σ s : CS) (h : Int64) (p1 : Int32) (p2 : Int32) (p3 : Int32) {r9 : Int32} (hf : f_X7_taken s p1 p2 p3 = some (.inr r9)) : CH l yL_taken (.codeWith yL_taken cL_taken 6 (some .int) [(0, 12, 15, 21), (0, 12, 19, 13)] :: TT) ({ frames := 9, cells := 1, slots := 6, locals := 165 }) Λ [.ref (ya Λ 0 0), .int p1, .int p2, .int p3, .ref (ya Λ 20 0)] (qC (sH σ 20 0 h) s) (qC (sH σ 20 0 r9.toInt64) s) (some (.int 0)) := by
  refine CH_intro hst (own := RL) (by decide) rfl (Nat.le_of_ble_eq_true rfl) rfl rfl ?_
  intro Γ hg hl hΓ hH
  subst hg; subst hl
  show GG Γ (0, 0) (qC (sH σ 20 0 h) s) 0 [(0, .ref (ya (gl Γ) 0 0)), (1, .int p1), (2, .int p2), (3, .int p3), (4, .ref (ya (gl Γ) 20 0))] []
  refine G_aload hΓ 4 dL_taken_0 rfl ?_
  refine G_iconst (v := 0) hΓ dL_taken_2 (by decide) ?_
  refine G_aload_n hΓ 0 dL_taken_3 rfl ?_
  refine G_iload_n hΓ 1 dL_taken_4 rfl ?_
  refine G_iload_n hΓ 2 dL_taken_5 rfl ?_
  refine G_iload_n hΓ 3 dL_taken_6 rfl ?_
  refine G_callV hΓ (n := 3) (As := [.int p1, .int p2, .int p3]) (t := 0) (i := 0) (ci := 10) (T := TX7) (N := 14) (FS := fs7 (gl Γ) 0) (σ' := (qC (sH σ 20 0 h) s)) (c_X7_taken (gL Γ) (gl Γ) hF (sH σ 20 0 h) s p1 p2 p3 hf) rfl rfl kw_843 kw_844 kw_845 kw_1 kw_846 ⟨rfl, by decide, by decide, by decide +kernel⟩ (FLi hF (t := 0) (by decide)) (fun _ _ _ => rfl) rfl rfl rfl ⟨Nat.le_of_ble_eq_true rfl, Nat.le_of_ble_eq_true rfl⟩ rfl (Nat.le_of_ble_eq_true rfl) dL_taken_7 ⟨_, rfl⟩ rfl ?_
  refine G_i2l hΓ dL_taken_10 ?_
  refine F_out hΓ (h := h) (σ' := (qC (sH σ 20 0 r9.toInt64) s)) hO rfl (qC_out.trans (by rw [sH_same])) dL_taken_11 ?_
  refine G_goto hΓ (tgt := 23) dL_taken_12 (by decide) ?_
  refine G_iconst (v := 0) hΓ dL_taken_23 (by decide) ?_
  exact G_iretH hΓ ⟨by decide, by decide⟩ hH dL_taken_24
set_option maxHeartbeats 4000000 in
set_option maxRecDepth 100000 in
theorem x_L_taken_1 (l : Launch) (hst : l.stackTraces = false) (Λ : LY) (hF : FL Λ) (hO : 0 < yn Λ 20) (σ s : CS) (h : Int64) (p1 : Int32) (p2 : Int32) (p3 : Int32)  (hf : f_X7_taken s p1 p2 p3 = some (.inl 1)) : CH l yL_taken (.codeWith yL_taken cL_taken 6 (some .int) [(0, 12, 15, 21), (0, 12, 19, 13)] :: TT) ({ frames := 9, cells := 1, slots := 6, locals := 165 }) Λ [.ref (ya Λ 0 0), .int p1, .int p2, .int p3, .ref (ya Λ 20 0)] (qC (sH σ 20 0 h) s) (qC (sH σ 20 0 h) s) (some (.int 1)) := by
  refine CH_intro hst (own := RL) (by decide) rfl (Nat.le_of_ble_eq_true rfl) rfl rfl ?_
  intro Γ hg hl hΓ hH
  subst hg; subst hl
  show GG Γ (0, 0) (qC (sH σ 20 0 h) s) 0 [(0, .ref (ya (gl Γ) 0 0)), (1, .int p1), (2, .int p2), (3, .int p3), (4, .ref (ya (gl Γ) 20 0))] []
  refine G_aload hΓ 4 dL_taken_0 rfl ?_
  refine G_iconst (v := 0) hΓ dL_taken_2 (by decide) ?_
  refine G_aload_n hΓ 0 dL_taken_3 rfl ?_
  refine G_iload_n hΓ 1 dL_taken_4 rfl ?_
  refine G_iload_n hΓ 2 dL_taken_5 rfl ?_
  refine G_iload_n hΓ 3 dL_taken_6 rfl ?_
  refine G_callVC hΓ hH (n := 3) (As := [.int p1, .int p2, .int p3]) (t := 0) (i := 0) (ci := 10) (T := TX7) (N := 14) (FS := fs7 (gl Γ) 0) (t_X7_taken (gL Γ) hst (gl Γ) hF (sH σ 20 0 h) s p1 p2 p3 hf) kw_843 kw_844 kw_845 kw_1 kw_846 ⟨rfl, by decide, by decide, by decide +kernel⟩ (FLi hF (t := 0) (by decide)) (fun _ _ _ => rfl) rfl rfl rfl ⟨Nat.le_of_ble_eq_true rfl, Nat.le_of_ble_eq_true rfl⟩ rfl (Nat.le_of_ble_eq_true rfl) dL_taken_7 [] (0, 12, 15, 21) [(0, 12, 19, 13)] rfl (by intro z hz; cases hz) ⟨by decide, by decide⟩ (by decide) kw_440 (by decide +kernel) (fun q => ?_)
  refine G_astore hΓ [(5, .ref q), (0, .ref (ya (gl Γ) 0 0)), (1, .int p1), (2, .int p2), (3, .int p3), (4, .ref (ya (gl Γ) 20 0))] dL_taken_15 (by decide) rfl ?_
  refine G_iconst (v := 1) hΓ dL_taken_17 (by decide) ?_
  exact G_iretH hΓ ⟨by decide, by decide⟩ hH dL_taken_18
set_option maxHeartbeats 4000000 in
set_option maxRecDepth 100000 in
theorem x_L_taken_2 (l : Launch) (hst : l.stackTraces = false) (Λ : LY) (hF : FL Λ) (hO : 0 < yn Λ 20) (σ s : CS) (h : Int64) (p1 : Int32) (p2 : Int32) (p3 : Int32)  (hf : f_X7_taken s p1 p2 p3 = some (.inl 2)) : CH l yL_taken (.codeWith yL_taken cL_taken 6 (some .int) [(0, 12, 15, 21), (0, 12, 19, 13)] :: TT) ({ frames := 9, cells := 1, slots := 6, locals := 165 }) Λ [.ref (ya Λ 0 0), .int p1, .int p2, .int p3, .ref (ya Λ 20 0)] (qC (sH σ 20 0 h) s) (qC (sH σ 20 0 h) s) (some (.int 2)) := by
  refine CH_intro hst (own := RL) (by decide) rfl (Nat.le_of_ble_eq_true rfl) rfl rfl ?_
  intro Γ hg hl hΓ hH
  subst hg; subst hl
  show GG Γ (0, 0) (qC (sH σ 20 0 h) s) 0 [(0, .ref (ya (gl Γ) 0 0)), (1, .int p1), (2, .int p2), (3, .int p3), (4, .ref (ya (gl Γ) 20 0))] []
  refine G_aload hΓ 4 dL_taken_0 rfl ?_
  refine G_iconst (v := 0) hΓ dL_taken_2 (by decide) ?_
  refine G_aload_n hΓ 0 dL_taken_3 rfl ?_
  refine G_iload_n hΓ 1 dL_taken_4 rfl ?_
  refine G_iload_n hΓ 2 dL_taken_5 rfl ?_
  refine G_iload_n hΓ 3 dL_taken_6 rfl ?_
  refine G_callVC hΓ hH (n := 3) (As := [.int p1, .int p2, .int p3]) (t := 0) (i := 0) (ci := 10) (T := TX7) (N := 14) (FS := fs7 (gl Γ) 0) (t_X7_taken (gL Γ) hst (gl Γ) hF (sH σ 20 0 h) s p1 p2 p3 hf) kw_843 kw_844 kw_845 kw_1 kw_846 ⟨rfl, by decide, by decide, by decide +kernel⟩ (FLi hF (t := 0) (by decide)) (fun _ _ _ => rfl) rfl rfl rfl ⟨Nat.le_of_ble_eq_true rfl, Nat.le_of_ble_eq_true rfl⟩ rfl (Nat.le_of_ble_eq_true rfl) dL_taken_7 [(0, 12, 15, 21)] (0, 12, 19, 13) [] rfl (by intro z hz; rcases List.mem_cons.mp hz with rfl | hz; exact ⟨by decide, _, kw_440, by decide +kernel⟩; cases hz) ⟨by decide, by decide⟩ (by decide) kw_341 (by decide +kernel) (fun q => ?_)
  refine G_astore hΓ [(5, .ref q), (0, .ref (ya (gl Γ) 0 0)), (1, .int p1), (2, .int p2), (3, .int p3), (4, .ref (ya (gl Γ) 20 0))] dL_taken_19 (by decide) rfl ?_
  refine G_iconst (v := 2) hΓ dL_taken_21 (by decide) ?_
  exact G_iretH hΓ ⟨by decide, by decide⟩ hH dL_taken_22
theorem dL_takenOctet_0 : decode cL_takenOctet 0 = .ok (.aload 4, 2) := by decide +kernel
theorem dL_takenOctet_2 : decode cL_takenOctet 2 = .ok (.iconst 0, 1) := by decide +kernel
theorem dL_takenOctet_3 : decode cL_takenOctet 3 = .ok (.aload_n 0, 1) := by decide +kernel
theorem dL_takenOctet_4 : decode cL_takenOctet 4 = .ok (.iload_n 1, 1) := by decide +kernel
theorem dL_takenOctet_5 : decode cL_takenOctet 5 = .ok (.iload_n 2, 1) := by decide +kernel
theorem dL_takenOctet_6 : decode cL_takenOctet 6 = .ok (.iload_n 3, 1) := by decide +kernel
theorem dL_takenOctet_7 : decode cL_takenOctet 7 = .ok (.invokevirtual 65, 3) := by decide +kernel
theorem dL_takenOctet_10 : decode cL_takenOctet 10 = .ok (.i2l, 1) := by decide +kernel
theorem dL_takenOctet_11 : decode cL_takenOctet 11 = .ok (.lastore, 1) := by decide +kernel
theorem dL_takenOctet_12 : decode cL_takenOctet 12 = .ok (.goto 7, 3) := by decide +kernel
theorem dL_takenOctet_15 : decode cL_takenOctet 15 = .ok (.astore 5, 2) := by decide +kernel
theorem dL_takenOctet_17 : decode cL_takenOctet 17 = .ok (.iconst 1, 1) := by decide +kernel
theorem dL_takenOctet_18 : decode cL_takenOctet 18 = .ok (.ireturn, 1) := by decide +kernel
theorem dL_takenOctet_19 : decode cL_takenOctet 19 = .ok (.iconst 0, 1) := by decide +kernel
theorem dL_takenOctet_20 : decode cL_takenOctet 20 = .ok (.ireturn, 1) := by decide +kernel
set_option maxHeartbeats 4000000 in
set_option maxRecDepth 100000 in
theorem h_L_takenOctet (l : Launch) (hst : l.stackTraces = false) (Λ : LY) (hF : FL Λ) (hO : 0 < yn Λ 20) (σ s : CS) (h : Int64) (p1 : Int32) (p2 : Int32) (p3 : Int32) {r9 : Int32} (hf : f_X7_takenOctet s p1 p2 p3 = some (.inr r9)) : CH l yL_takenOctet (.codeWith yL_takenOctet cL_takenOctet 6 (some .int) [(0, 12, 15, 21)] :: TT) ({ frames := 9, cells := 1, slots := 6, locals := 165 }) Λ [.ref (ya Λ 0 0), .int p1, .int p2, .int p3, .ref (ya Λ 20 0)] (qC (sH σ 20 0 h) s) (qC (sH σ 20 0 r9.toInt64) s) (some (.int 0)) := by
  refine CH_intro hst (own := RL) (by decide) rfl (Nat.le_of_ble_eq_true rfl) rfl rfl ?_
  intro Γ hg hl hΓ hH
  subst hg; subst hl
  show GG Γ (0, 0) (qC (sH σ 20 0 h) s) 0 [(0, .ref (ya (gl Γ) 0 0)), (1, .int p1), (2, .int p2), (3, .int p3), (4, .ref (ya (gl Γ) 20 0))] []
  refine G_aload hΓ 4 dL_takenOctet_0 rfl ?_
  refine G_iconst (v := 0) hΓ dL_takenOctet_2 (by decide) ?_
  refine G_aload_n hΓ 0 dL_takenOctet_3 rfl ?_
  refine G_iload_n hΓ 1 dL_takenOctet_4 rfl ?_
  refine G_iload_n hΓ 2 dL_takenOctet_5 rfl ?_
  refine G_iload_n hΓ 3 dL_takenOctet_6 rfl ?_
  refine G_callV hΓ (n := 3) (As := [.int p1, .int p2, .int p3]) (t := 0) (i := 0) (ci := 10) (T := TX7) (N := 14) (FS := fs7 (gl Γ) 0) (σ' := (qC (sH σ 20 0 h) s)) (c_X7_takenOctet (gL Γ) (gl Γ) hF (sH σ 20 0 h) s p1 p2 p3 hf) rfl rfl kw_854 kw_855 kw_856 kw_1 kw_857 ⟨rfl, by decide, by decide, by decide +kernel⟩ (FLi hF (t := 0) (by decide)) (fun _ _ _ => rfl) rfl rfl rfl ⟨Nat.le_of_ble_eq_true rfl, Nat.le_of_ble_eq_true rfl⟩ rfl (Nat.le_of_ble_eq_true rfl) dL_takenOctet_7 ⟨_, rfl⟩ rfl ?_
  refine G_i2l hΓ dL_takenOctet_10 ?_
  refine F_out hΓ (h := h) (σ' := (qC (sH σ 20 0 r9.toInt64) s)) hO rfl (qC_out.trans (by rw [sH_same])) dL_takenOctet_11 ?_
  refine G_goto hΓ (tgt := 19) dL_takenOctet_12 (by decide) ?_
  refine G_iconst (v := 0) hΓ dL_takenOctet_19 (by decide) ?_
  exact G_iretH hΓ ⟨by decide, by decide⟩ hH dL_takenOctet_20
set_option maxHeartbeats 4000000 in
set_option maxRecDepth 100000 in
theorem x_L_takenOctet_1 (l : Launch) (hst : l.stackTraces = false) (Λ : LY) (hF : FL Λ) (hO : 0 < yn Λ 20) (σ s : CS) (h : Int64) (p1 : Int32) (p2 : Int32) (p3 : Int32)  (hf : f_X7_takenOctet s p1 p2 p3 = some (.inl 1)) : CH l yL_takenOctet (.codeWith yL_takenOctet cL_takenOctet 6 (some .int) [(0, 12, 15, 21)] :: TT) ({ frames := 9, cells := 1, slots := 6, locals := 165 }) Λ [.ref (ya Λ 0 0), .int p1, .int p2, .int p3, .ref (ya Λ 20 0)] (qC (sH σ 20 0 h) s) (qC (sH σ 20 0 h) s) (some (.int 1)) := by
  refine CH_intro hst (own := RL) (by decide) rfl (Nat.le_of_ble_eq_true rfl) rfl rfl ?_
  intro Γ hg hl hΓ hH
  subst hg; subst hl
  show GG Γ (0, 0) (qC (sH σ 20 0 h) s) 0 [(0, .ref (ya (gl Γ) 0 0)), (1, .int p1), (2, .int p2), (3, .int p3), (4, .ref (ya (gl Γ) 20 0))] []
  refine G_aload hΓ 4 dL_takenOctet_0 rfl ?_
  refine G_iconst (v := 0) hΓ dL_takenOctet_2 (by decide) ?_
  refine G_aload_n hΓ 0 dL_takenOctet_3 rfl ?_
  refine G_iload_n hΓ 1 dL_takenOctet_4 rfl ?_
  refine G_iload_n hΓ 2 dL_takenOctet_5 rfl ?_
  refine G_iload_n hΓ 3 dL_takenOctet_6 rfl ?_
  refine G_callVC hΓ hH (n := 3) (As := [.int p1, .int p2, .int p3]) (t := 0) (i := 0) (ci := 10) (T := TX7) (N := 14) (FS := fs7 (gl Γ) 0) (t_X7_takenOctet (gL Γ) hst (gl Γ) hF (sH σ 20 0 h) s p1 p2 p3 hf) kw_854 kw_855 kw_856 kw_1 kw_857 ⟨rfl, by decide, by decide, by decide +kernel⟩ (FLi hF (t := 0) (by decide)) (fun _ _ _ => rfl) rfl rfl rfl ⟨Nat.le_of_ble_eq_true rfl, Nat.le_of_ble_eq_true rfl⟩ rfl (Nat.le_of_ble_eq_true rfl) dL_takenOctet_7 [] (0, 12, 15, 21) [] rfl (by intro z hz; cases hz) ⟨by decide, by decide⟩ (by decide) kw_440 (by decide +kernel) (fun q => ?_)
  refine G_astore hΓ [(5, .ref q), (0, .ref (ya (gl Γ) 0 0)), (1, .int p1), (2, .int p2), (3, .int p3), (4, .ref (ya (gl Γ) 20 0))] dL_takenOctet_15 (by decide) rfl ?_
  refine G_iconst (v := 1) hΓ dL_takenOctet_17 (by decide) ?_
  exact G_iretH hΓ ⟨by decide, by decide⟩ hH dL_takenOctet_18
theorem dL_error_0 : decode cL_error 0 = .ok (.aload_n 3, 1) := by decide +kernel
theorem dL_error_1 : decode cL_error 1 = .ok (.iconst 0, 1) := by decide +kernel
theorem dL_error_2 : decode cL_error 2 = .ok (.aload_n 0, 1) := by decide +kernel
theorem dL_error_3 : decode cL_error 3 = .ok (.iload_n 1, 1) := by decide +kernel
theorem dL_error_4 : decode cL_error 4 = .ok (.iload_n 2, 1) := by decide +kernel
theorem dL_error_5 : decode cL_error 5 = .ok (.invokevirtual 68, 3) := by decide +kernel
theorem dL_error_8 : decode cL_error 8 = .ok (.i2l, 1) := by decide +kernel
theorem dL_error_9 : decode cL_error 9 = .ok (.lastore, 1) := by decide +kernel
theorem dL_error_10 : decode cL_error 10 = .ok (.goto 11, 3) := by decide +kernel
theorem dL_error_13 : decode cL_error 13 = .ok (.astore 4, 2) := by decide +kernel
theorem dL_error_15 : decode cL_error 15 = .ok (.iconst 1, 1) := by decide +kernel
theorem dL_error_16 : decode cL_error 16 = .ok (.ireturn, 1) := by decide +kernel
theorem dL_error_17 : decode cL_error 17 = .ok (.astore 4, 2) := by decide +kernel
theorem dL_error_19 : decode cL_error 19 = .ok (.iconst 2, 1) := by decide +kernel
theorem dL_error_20 : decode cL_error 20 = .ok (.ireturn, 1) := by decide +kernel
theorem dL_error_21 : decode cL_error 21 = .ok (.iconst 0, 1) := by decide +kernel
theorem dL_error_22 : decode cL_error 22 = .ok (.ireturn, 1) := by decide +kernel
set_option maxHeartbeats 4000000 in
set_option maxRecDepth 100000 in
theorem h_L_error (l : Launch) (hst : l.stackTraces = false) (Λ : LY) (hF : FL Λ) (hO : 0 < yn Λ 20) (σ s : CS) (h : Int64) (p1 : Int32) (p2 : Int32) {r9 : Int32} (hf : f_X7_error s p1 p2 = some (.inr r9)) : CH l yL_error (.codeWith yL_error cL_error 5 (some .int) [(0, 10, 13, 21), (0, 10, 17, 13)] :: TT) ({ frames := 9, cells := 1, slots := 6, locals := 164 }) Λ [.ref (ya Λ 0 0), .int p1, .int p2, .ref (ya Λ 20 0)] (qC (sH σ 20 0 h) s) (qC (sH σ 20 0 r9.toInt64) s) (some (.int 0)) := by
  refine CH_intro hst (own := RL) (by decide) rfl (Nat.le_of_ble_eq_true rfl) rfl rfl ?_
  intro Γ hg hl hΓ hH
  subst hg; subst hl
  show GG Γ (0, 0) (qC (sH σ 20 0 h) s) 0 [(0, .ref (ya (gl Γ) 0 0)), (1, .int p1), (2, .int p2), (3, .ref (ya (gl Γ) 20 0))] []
  refine G_aload_n hΓ 3 dL_error_0 rfl ?_
  refine G_iconst (v := 0) hΓ dL_error_1 (by decide) ?_
  refine G_aload_n hΓ 0 dL_error_2 rfl ?_
  refine G_iload_n hΓ 1 dL_error_3 rfl ?_
  refine G_iload_n hΓ 2 dL_error_4 rfl ?_
  refine G_callV hΓ (n := 2) (As := [.int p1, .int p2]) (t := 0) (i := 0) (ci := 10) (T := TX7) (N := 14) (FS := fs7 (gl Γ) 0) (σ' := (qC (sH σ 20 0 h) s)) (c_X7_error (gL Γ) (gl Γ) hF (sH σ 20 0 h) s p1 p2 hf) rfl rfl kw_866 kw_867 kw_868 kw_1 kw_869 ⟨rfl, by decide, by decide, by decide +kernel⟩ (FLi hF (t := 0) (by decide)) (fun _ _ _ => rfl) rfl rfl rfl ⟨Nat.le_of_ble_eq_true rfl, Nat.le_of_ble_eq_true rfl⟩ rfl (Nat.le_of_ble_eq_true rfl) dL_error_5 ⟨_, rfl⟩ rfl ?_
  refine G_i2l hΓ dL_error_8 ?_
  refine F_out hΓ (h := h) (σ' := (qC (sH σ 20 0 r9.toInt64) s)) hO rfl (qC_out.trans (by rw [sH_same])) dL_error_9 ?_
  refine G_goto hΓ (tgt := 21) dL_error_10 (by decide) ?_
  refine G_iconst (v := 0) hΓ dL_error_21 (by decide) ?_
  exact G_iretH hΓ ⟨by decide, by decide⟩ hH dL_error_22
set_option maxHeartbeats 4000000 in
set_option maxRecDepth 100000 in
theorem x_L_error_1 (l : Launch) (hst : l.stackTraces = false) (Λ : LY) (hF : FL Λ) (hO : 0 < yn Λ 20) (σ s : CS) (h : Int64) (p1 : Int32) (p2 : Int32)  (hf : f_X7_error s p1 p2 = some (.inl 1)) : CH l yL_error (.codeWith yL_error cL_error 5 (some .int) [(0, 10, 13, 21), (0, 10, 17, 13)] :: TT) ({ frames := 9, cells := 1, slots := 6, locals := 164 }) Λ [.ref (ya Λ 0 0), .int p1, .int p2, .ref (ya Λ 20 0)] (qC (sH σ 20 0 h) s) (qC (sH σ 20 0 h) s) (some (.int 1)) := by
  refine CH_intro hst (own := RL) (by decide) rfl (Nat.le_of_ble_eq_true rfl) rfl rfl ?_
  intro Γ hg hl hΓ hH
  subst hg; subst hl
  show GG Γ (0, 0) (qC (sH σ 20 0 h) s) 0 [(0, .ref (ya (gl Γ) 0 0)), (1, .int p1), (2, .int p2), (3, .ref (ya (gl Γ) 20 0))] []
  refine G_aload_n hΓ 3 dL_error_0 rfl ?_
  refine G_iconst (v := 0) hΓ dL_error_1 (by decide) ?_
  refine G_aload_n hΓ 0 dL_error_2 rfl ?_
  refine G_iload_n hΓ 1 dL_error_3 rfl ?_
  refine G_iload_n hΓ 2 dL_error_4 rfl ?_
  refine G_callVC hΓ hH (n := 2) (As := [.int p1, .int p2]) (t := 0) (i := 0) (ci := 10) (T := TX7) (N := 14) (FS := fs7 (gl Γ) 0) (t_X7_error (gL Γ) hst (gl Γ) hF (sH σ 20 0 h) s p1 p2 hf) kw_866 kw_867 kw_868 kw_1 kw_869 ⟨rfl, by decide, by decide, by decide +kernel⟩ (FLi hF (t := 0) (by decide)) (fun _ _ _ => rfl) rfl rfl rfl ⟨Nat.le_of_ble_eq_true rfl, Nat.le_of_ble_eq_true rfl⟩ rfl (Nat.le_of_ble_eq_true rfl) dL_error_5 [] (0, 10, 13, 21) [(0, 10, 17, 13)] rfl (by intro z hz; cases hz) ⟨by decide, by decide⟩ (by decide) kw_440 (by decide +kernel) (fun q => ?_)
  refine G_astore hΓ [(4, .ref q), (0, .ref (ya (gl Γ) 0 0)), (1, .int p1), (2, .int p2), (3, .ref (ya (gl Γ) 20 0))] dL_error_13 (by decide) rfl ?_
  refine G_iconst (v := 1) hΓ dL_error_15 (by decide) ?_
  exact G_iretH hΓ ⟨by decide, by decide⟩ hH dL_error_16
set_option maxHeartbeats 4000000 in
set_option maxRecDepth 100000 in
theorem x_L_error_2 (l : Launch) (hst : l.stackTraces = false) (Λ : LY) (hF : FL Λ) (hO : 0 < yn Λ 20) (σ s : CS) (h : Int64) (p1 : Int32) (p2 : Int32)  (hf : f_X7_error s p1 p2 = some (.inl 2)) : CH l yL_error (.codeWith yL_error cL_error 5 (some .int) [(0, 10, 13, 21), (0, 10, 17, 13)] :: TT) ({ frames := 9, cells := 1, slots := 6, locals := 164 }) Λ [.ref (ya Λ 0 0), .int p1, .int p2, .ref (ya Λ 20 0)] (qC (sH σ 20 0 h) s) (qC (sH σ 20 0 h) s) (some (.int 2)) := by
  refine CH_intro hst (own := RL) (by decide) rfl (Nat.le_of_ble_eq_true rfl) rfl rfl ?_
  intro Γ hg hl hΓ hH
  subst hg; subst hl
  show GG Γ (0, 0) (qC (sH σ 20 0 h) s) 0 [(0, .ref (ya (gl Γ) 0 0)), (1, .int p1), (2, .int p2), (3, .ref (ya (gl Γ) 20 0))] []
  refine G_aload_n hΓ 3 dL_error_0 rfl ?_
  refine G_iconst (v := 0) hΓ dL_error_1 (by decide) ?_
  refine G_aload_n hΓ 0 dL_error_2 rfl ?_
  refine G_iload_n hΓ 1 dL_error_3 rfl ?_
  refine G_iload_n hΓ 2 dL_error_4 rfl ?_
  refine G_callVC hΓ hH (n := 2) (As := [.int p1, .int p2]) (t := 0) (i := 0) (ci := 10) (T := TX7) (N := 14) (FS := fs7 (gl Γ) 0) (t_X7_error (gL Γ) hst (gl Γ) hF (sH σ 20 0 h) s p1 p2 hf) kw_866 kw_867 kw_868 kw_1 kw_869 ⟨rfl, by decide, by decide, by decide +kernel⟩ (FLi hF (t := 0) (by decide)) (fun _ _ _ => rfl) rfl rfl rfl ⟨Nat.le_of_ble_eq_true rfl, Nat.le_of_ble_eq_true rfl⟩ rfl (Nat.le_of_ble_eq_true rfl) dL_error_5 [(0, 10, 13, 21)] (0, 10, 17, 13) [] rfl (by intro z hz; rcases List.mem_cons.mp hz with rfl | hz; exact ⟨by decide, _, kw_440, by decide +kernel⟩; cases hz) ⟨by decide, by decide⟩ (by decide) kw_341 (by decide +kernel) (fun q => ?_)
  refine G_astore hΓ [(4, .ref q), (0, .ref (ya (gl Γ) 0 0)), (1, .int p1), (2, .int p2), (3, .ref (ya (gl Γ) 20 0))] dL_error_17 (by decide) rfl ?_
  refine G_iconst (v := 2) hΓ dL_error_19 (by decide) ?_
  exact G_iretH hΓ ⟨by decide, by decide⟩ hH dL_error_20
