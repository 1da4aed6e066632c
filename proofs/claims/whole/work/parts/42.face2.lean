theorem dX7_send_0 : decode cX7_send 0 = .ok (.aload_n 0, 1) := by decide +kernel
theorem dX7_send_1 : decode cX7_send 1 = .ok (.iload_n 1, 1) := by decide +kernel
theorem dX7_send_2 : decode cX7_send 2 = .ok (.invokevirtual 64, 3) := by decide +kernel
theorem dX7_send_5 : decode cX7_send 5 = .ok (.iload_n 3, 1) := by decide +kernel
theorem dX7_send_6 : decode cX7_send 6 = .ok (.ifCond .lt 8, 3) := by decide +kernel
theorem dX7_send_9 : decode cX7_send 9 = .ok (.iload_n 3, 1) := by decide +kernel
theorem dX7_send_10 : decode cX7_send 10 = .ok (.iconst 5, 1) := by decide +kernel
theorem dX7_send_11 : decode cX7_send 11 = .ok (.if_icmp .le 13, 3) := by decide +kernel
theorem dX7_send_14 : decode cX7_send 14 = .ok (.new 52, 3) := by decide +kernel
theorem dX7_send_17 : decode cX7_send 17 = .ok (.dup, 1) := by decide +kernel
theorem dX7_send_18 : decode cX7_send 18 = .ok (.ldc 67, 2) := by decide +kernel
theorem dX7_send_20 : decode cX7_send 20 = .ok (.invokespecial 56, 3) := by decide +kernel
theorem dX7_send_23 : decode cX7_send 23 = .ok (.athrow, 1) := by decide +kernel
theorem dX7_send_24 : decode cX7_send 24 = .ok (.iload_n 2, 1) := by decide +kernel
theorem dX7_send_25 : decode cX7_send 25 = .ok (.ifCond .lt 22, 3) := by decide +kernel
theorem dX7_send_28 : decode cX7_send 28 = .ok (.iload_n 2, 1) := by decide +kernel
theorem dX7_send_29 : decode cX7_send 29 = .ok (.iload_n 3, 1) := by decide +kernel
theorem dX7_send_30 : decode cX7_send 30 = .ok (.invokestatic 69, 3) := by decide +kernel
theorem dX7_send_33 : decode cX7_send 33 = .ok (.ifCond .eq 8, 3) := by decide +kernel
theorem dX7_send_36 : decode cX7_send 36 = .ok (.ldc 73, 2) := by decide +kernel
theorem dX7_send_38 : decode cX7_send 38 = .ok (.goto 6, 3) := by decide +kernel
theorem dX7_send_41 : decode cX7_send 41 = .ok (.sipush 2048, 3) := by decide +kernel
theorem dX7_send_44 : decode cX7_send 44 = .ok (.if_icmp .lt 13, 3) := by decide +kernel
theorem dX7_send_47 : decode cX7_send 47 = .ok (.new 52, 3) := by decide +kernel
theorem dX7_send_50 : decode cX7_send 50 = .ok (.dup, 1) := by decide +kernel
theorem dX7_send_51 : decode cX7_send 51 = .ok (.ldc 74, 2) := by decide +kernel
theorem dX7_send_53 : decode cX7_send 53 = .ok (.invokespecial 56, 3) := by decide +kernel
theorem dX7_send_56 : decode cX7_send 56 = .ok (.athrow, 1) := by decide +kernel
theorem dX7_send_57 : decode cX7_send 57 = .ok (.iload 4, 2) := by decide +kernel
theorem dX7_send_59 : decode cX7_send 59 = .ok (.ifCond .lt 10, 3) := by decide +kernel
theorem dX7_send_62 : decode cX7_send 62 = .ok (.iload 4, 2) := by decide +kernel
theorem dX7_send_64 : decode cX7_send 64 = .ok (.bipush 15, 2) := by decide +kernel
theorem dX7_send_66 : decode cX7_send 66 = .ok (.if_icmp .le 13, 3) := by decide +kernel
theorem dX7_send_69 : decode cX7_send 69 = .ok (.new 52, 3) := by decide +kernel
theorem dX7_send_72 : decode cX7_send 72 = .ok (.dup, 1) := by decide +kernel
theorem dX7_send_73 : decode cX7_send 73 = .ok (.ldc 76, 2) := by decide +kernel
theorem dX7_send_75 : decode cX7_send 75 = .ok (.invokespecial 56, 3) := by decide +kernel
theorem dX7_send_78 : decode cX7_send 78 = .ok (.athrow, 1) := by decide +kernel
theorem dX7_send_79 : decode cX7_send 79 = .ok (.aload_n 0, 1) := by decide +kernel
theorem dX7_send_80 : decode cX7_send 80 = .ok (.getfield 78, 3) := by decide +kernel
theorem dX7_send_83 : decode cX7_send 83 = .ok (.sipush 200, 3) := by decide +kernel
theorem dX7_send_86 : decode cX7_send 86 = .ok (.if_icmp .lt 13, 3) := by decide +kernel
theorem dX7_send_89 : decode cX7_send 89 = .ok (.new 82, 3) := by decide +kernel
theorem dX7_send_92 : decode cX7_send 92 = .ok (.dup, 1) := by decide +kernel
theorem dX7_send_93 : decode cX7_send 93 = .ok (.ldc 84, 2) := by decide +kernel
theorem dX7_send_95 : decode cX7_send 95 = .ok (.invokespecial 86, 3) := by decide +kernel
theorem dX7_send_98 : decode cX7_send 98 = .ok (.athrow, 1) := by decide +kernel
theorem dX7_send_99 : decode cX7_send 99 = .ok (.aload_n 0, 1) := by decide +kernel
theorem dX7_send_100 : decode cX7_send 100 = .ok (.dup, 1) := by decide +kernel
theorem dX7_send_101 : decode cX7_send 101 = .ok (.getfield 78, 3) := by decide +kernel
theorem dX7_send_104 : decode cX7_send 104 = .ok (.dup_x1, 1) := by decide +kernel
theorem dX7_send_105 : decode cX7_send 105 = .ok (.iconst 1, 1) := by decide +kernel
theorem dX7_send_106 : decode cX7_send 106 = .ok (.iadd, 1) := by decide +kernel
theorem dX7_send_107 : decode cX7_send 107 = .ok (.putfield 78, 3) := by decide +kernel
theorem dX7_send_110 : decode cX7_send 110 = .ok (.istore 5, 2) := by decide +kernel
theorem dX7_send_112 : decode cX7_send 112 = .ok (.aload_n 0, 1) := by decide +kernel
theorem dX7_send_113 : decode cX7_send 113 = .ok (.getfield 18, 3) := by decide +kernel
theorem dX7_send_116 : decode cX7_send 116 = .ok (.iload 5, 2) := by decide +kernel
theorem dX7_send_118 : decode cX7_send 118 = .ok (.aaload, 1) := by decide +kernel
theorem dX7_send_119 : decode cX7_send 119 = .ok (.astore 6, 2) := by decide +kernel
theorem dX7_send_121 : decode cX7_send 121 = .ok (.aload 6, 2) := by decide +kernel
theorem dX7_send_123 : decode cX7_send 123 = .ok (.iload 5, 2) := by decide +kernel
theorem dX7_send_125 : decode cX7_send 125 = .ok (.iload_n 1, 1) := by decide +kernel
theorem dX7_send_126 : decode cX7_send 126 = .ok (.iload_n 3, 1) := by decide +kernel
theorem dX7_send_127 : decode cX7_send 127 = .ok (.iload_n 3, 1) := by decide +kernel
theorem dX7_send_128 : decode cX7_send 128 = .ok (.iload 4, 2) := by decide +kernel
theorem dX7_send_130 : decode cX7_send 130 = .ok (.invokestatic 87, 3) := by decide +kernel
theorem dX7_send_133 : decode cX7_send 133 = .ok (.invokevirtual 91, 3) := by decide +kernel
theorem dX7_send_136 : decode cX7_send 136 = .ok (.aload 6, 2) := by decide +kernel
theorem dX7_send_138 : decode cX7_send 138 = .ok (.iload_n 2, 1) := by decide +kernel
theorem dX7_send_139 : decode cX7_send 139 = .ok (.iload_n 3, 1) := by decide +kernel
theorem dX7_send_140 : decode cX7_send 140 = .ok (.iload 4, 2) := by decide +kernel
theorem dX7_send_142 : decode cX7_send 142 = .ok (.invokestatic 94, 3) := by decide +kernel
theorem dX7_send_145 : decode cX7_send 145 = .ok (.putfield 98, 3) := by decide +kernel
theorem dX7_send_148 : decode cX7_send 148 = .ok (.aload_n 0, 1) := by decide +kernel
theorem dX7_send_149 : decode cX7_send 149 = .ok (.getfield 26, 3) := by decide +kernel
theorem dX7_send_152 : decode cX7_send 152 = .ok (.aload 6, 2) := by decide +kernel
theorem dX7_send_154 : decode cX7_send 154 = .ok (.invokevirtual 102, 3) := by decide +kernel
theorem dX7_send_157 : decode cX7_send 157 = .ok (.aload_n 0, 1) := by decide +kernel
theorem dX7_send_158 : decode cX7_send 158 = .ok (.getfield 11, 3) := by decide +kernel
theorem dX7_send_161 : decode cX7_send 161 = .ok (.iload_n 1, 1) := by decide +kernel
theorem dX7_send_162 : decode cX7_send 162 = .ok (.aaload, 1) := by decide +kernel
theorem dX7_send_163 : decode cX7_send 163 = .ok (.dup, 1) := by decide +kernel
theorem dX7_send_164 : decode cX7_send 164 = .ok (.getfield 106, 3) := by decide +kernel
theorem dX7_send_167 : decode cX7_send 167 = .ok (.iconst 1, 1) := by decide +kernel
theorem dX7_send_168 : decode cX7_send 168 = .ok (.iadd, 1) := by decide +kernel
theorem dX7_send_169 : decode cX7_send 169 = .ok (.putfield 106, 3) := by decide +kernel
theorem dX7_send_172 : decode cX7_send 172 = .ok (.aload_n 0, 1) := by decide +kernel
theorem dX7_send_173 : decode cX7_send 173 = .ok (.getfield 11, 3) := by decide +kernel
theorem dX7_send_176 : decode cX7_send 176 = .ok (.iload_n 1, 1) := by decide +kernel
theorem dX7_send_177 : decode cX7_send 177 = .ok (.aaload, 1) := by decide +kernel
theorem dX7_send_178 : decode cX7_send 178 = .ok (.aload_n 0, 1) := by decide +kernel
theorem dX7_send_179 : decode cX7_send 179 = .ok (.iload_n 1, 1) := by decide +kernel
theorem dX7_send_180 : decode cX7_send 180 = .ok (.invokevirtual 109, 3) := by decide +kernel
theorem dX7_send_183 : decode cX7_send 183 = .ok (.putfield 113, 3) := by decide +kernel
theorem dX7_send_186 : decode cX7_send 186 = .ok (.iload 5, 2) := by decide +kernel
theorem dX7_send_188 : decode cX7_send 188 = .ok (.ireturn, 1) := by decide +kernel
noncomputable def f_X7_send  (s : CS) (p1 : Int32) (p2 : Int32) (p3 : Int32) (p4 : Int32) : Option (Nat ⊕ (CS × Int32)) := bx (f_X7_needNode s p1) (fun _ => if p3 < 0 then some (.inl 2) else if p3 ≤ 5 then if p2 < 0 then some (.inl 2) else bd (f_X7_isLong p3) (fun u3 => lt (α := Int32) (if u3 = 0 then 2048 else 536870912) (fun x5 => if p2 < x5 then if p4 < 0 then some (.inl 2) else if p4 ≤ 15 then if (s.1 0 0 9) < 200 then lt (α := CS) (sZ s 0 0 (upd (s.1 0 0) 9 ((s.1 0 0 9) + 1))) (fun s9 => gd (vp_in (s.1 0 0 9) 200) (bd (f_X7_octetsOf p3 p4) (fun u11 => bd (f_X0_begin (s9.1 13 ((s.1 0 0 9).toNatClampNeg)) (s9.1 14 ((s.1 0 0 9).toNatClampNeg)) (s.1 0 0 9) p1 p3 u11) (fun ⟨u13, u14⟩ => lt (α := CS) (qFr s9 ((s.1 0 0 9).toNatClampNeg) (s9.2.1 13 ((s.1 0 0 9).toNatClampNeg)) u13 u14 (s9.1 15 ((s.1 0 0 9).toNatClampNeg))) (fun s15 => bd (f_X7_headOf p2 p3 p4) (fun u17 => lt (α := CS) (sH s15 13 ((s.1 0 0 9).toNatClampNeg) u17) (fun s19 => bd (f_X6_write (s19.1 16 0) (s19.1 7 32) (s19.1 8 32) (s19.1 9 32) (s19.2.1 13 ((s.1 0 0 9).toNatClampNeg)) (s19.1 13 ((s.1 0 0 9).toNatClampNeg)) (s19.1 14 ((s.1 0 0 9).toNatClampNeg)) (s19.1 15 ((s.1 0 0 9).toNatClampNeg))) (fun ⟨u20, u21, u22, u23, u24, u25⟩ => lt (α := CS) (qWF s19 ((s.1 0 0 9).toNatClampNeg) u20 u21 u22 u23 (s19.2.1 13 ((s.1 0 0 9).toNatClampNeg)) u24 (s19.1 14 ((s.1 0 0 9).toNatClampNeg)) u25) (fun s26 => gd (vp_in p1 32) (lt (α := Int32) ((s26.1 3 p1.toNatClampNeg 6) + 1) (fun v29 => lt (α := CS) (sZ s26 3 p1.toNatClampNeg (upd (s26.1 3 p1.toNatClampNeg) 6 v29)) (fun s30 => gd (vp_in p1 32) (bd (f_X7_firstOf s30 p1) (fun u32 => lt (α := CS) (sR s30 p1.toNatClampNeg (u32, (s30.2.2 p1.toNatClampNeg).2)) (fun s34 => some (.inr (s34, s.1 0 0 9))))))))))))))))) else some (.inl 3) else some (.inl 2) else some (.inl 2))) else some (.inl 2))
set_option maxHeartbeats 4000000 in
set_option maxRecDepth 100000 in
theorem c_X7_send (l : Launch) (Λ : LY) (hF : FL Λ) (σ : CS)  (s : CS) (p1 : Int32) (p2 : Int32) (p3 : Int32) (p4 : Int32)   {s' : CS} {r9 : Int32} (hf : f_X7_send s p1 p2 p3 p4 = some (.inr (s', r9))) : CM l yX7_send (.code yX7_send cX7_send 7 (some .int) :: TT) ({ frames := 6, cells := 0, slots := 0, locals := 135 }) Λ [.ref (ya Λ 0 0), .int p1, .int p2, .int p3, .int p4] (qC σ s) (qC σ s') (some (.int r9)) := by
  refine CM_intro (own := RX7) (by decide) rfl (Nat.le_of_ble_eq_true rfl) ?_
  intro Γ hg hl hΓ hE
  subst hg; subst hl
  show GG Γ (0, 0) (qC σ s) 0 [(0, .ref (ya (gl Γ) 0 0)), (1, .int p1), (2, .int p2), (3, .int p3), (4, .int p4)] []
  unfold f_X7_send at hf
  refine G_aload_n hΓ 0 dX7_send_0 rfl ?_
  refine G_iload_n hΓ 1 dX7_send_1 rfl ?_
  obtain ⟨_, hc1, hf⟩ := bx_r hf
  refine G_callV hΓ (n := 1) (As := [.int p1]) (t := 0) (i := 0) (ci := 10) (T := TX7) (N := 14) (FS := fs7 (gl Γ) 0) (σ' := (qC σ s)) (c_X7_needNode (gL Γ) (gl Γ) hF σ  s p1  hc1) rfl rfl kw_464 kw_466 kp_3 kw_1 kw_467 ⟨rfl, by decide, by decide, by decide +kernel⟩ (FLi hF (t := 0) (by decide)) (fun _ _ _ => rfl) rfl rfl rfl ⟨Nat.le_of_ble_eq_true rfl, Nat.le_of_ble_eq_true rfl⟩ rfl (Nat.le_of_ble_eq_true rfl) dX7_send_2 ⟨_, rfl⟩ rfl ?_
  refine G_iload_n hΓ 3 dX7_send_5 rfl ?_
  refine G_if_lt hΓ (tgt := 14) dX7_send_6 (by decide) (fun hc41 => ?_) (fun hc41 => ?_)
  · rw [if_pos hc41] at hf
    cases hf
  · rw [if_neg hc41] at hf
    refine G_iload_n hΓ 3 dX7_send_9 rfl ?_
    refine G_iconst (v := 5) hΓ dX7_send_10 (by decide) ?_
    refine G_icmp_le hΓ (tgt := 24) dX7_send_11 (by decide) (fun hc40 => ?_) (fun hc40 => ?_)
    · rw [if_pos hc40] at hf
      refine G_iload_n hΓ 2 dX7_send_24 rfl ?_
      refine G_if_lt hΓ (tgt := 47) dX7_send_25 (by decide) (fun hc39 => ?_) (fun hc39 => ?_)
      · rw [if_pos hc39] at hf
        cases hf
      · rw [if_neg hc39] at hf
        refine G_iload_n hΓ 2 dX7_send_28 rfl ?_
        refine G_iload_n hΓ 3 dX7_send_29 rfl ?_
        obtain ⟨u3, hc4, hf⟩ := bd_some hf
        refine G_callS hΓ (n := 1) (As := [.int p3]) (σ' := (qC σ s)) (c_X7_isLong (gL Γ) (gl Γ) hF (qC σ s)   p3  hc4) rfl rfl kw_482 kw_483 kw_1 kw_484 ⟨by decide, by decide, by decide +kernel⟩ rfl rfl ⟨Nat.le_of_ble_eq_true rfl, Nat.le_of_ble_eq_true rfl⟩ rfl (Nat.le_of_ble_eq_true rfl) dX7_send_30 ⟨_, rfl⟩ rfl ?_
        obtain ⟨x5, he8, hf⟩ := lt_eq hf
        have K6 : GG Γ (0, 0) (qC σ s) 44 [(0, .ref (ya (gl Γ) 0 0)), (1, .int p1), (2, .int p2), (3, .int p3), (4, .int p4)] [.int x5, .int p2] := by
          refine G_icmp_lt hΓ (tgt := 57) dX7_send_44 (by decide) (fun hc38 => ?_) (fun hc38 => ?_)
          · rw [if_pos hc38] at hf
            refine G_iload hΓ 4 dX7_send_57 rfl ?_
            refine G_if_lt hΓ (tgt := 69) dX7_send_59 (by decide) (fun hc37 => ?_) (fun hc37 => ?_)
            · rw [if_pos hc37] at hf
              cases hf
            · rw [if_neg hc37] at hf
              refine G_iload hΓ 4 dX7_send_62 rfl ?_
              refine G_bipush (v := 15) hΓ dX7_send_64 (by decide) ?_
              refine G_icmp_le hΓ (tgt := 79) dX7_send_66 (by decide) (fun hc36 => ?_) (fun hc36 => ?_)
              · rw [if_pos hc36] at hf
                refine G_aload_n hΓ 0 dX7_send_79 rfl ?_
                refine F_get hΓ (t := 0) (i := 0) (ci := 10) (C := RX7) (T := TX7) (N := 14) (fs7 (gl Γ) 0) (v := .int (s.1 0 0 9)) (FLi hF (t := 0) (by decide)) (fun _ _ _ => rfl) rfl rfl rfl rfl inW7 9 (by decide) (TT_cons kw_300) rfl dX7_send_80 ?_
                refine G_sipush (v := 200) hΓ dX7_send_83 (by decide) ?_
                refine G_icmp_lt hΓ (tgt := 99) dX7_send_86 (by decide) (fun hc35 => ?_) (fun hc35 => ?_)
                · rw [if_pos hc35] at hf
                  refine G_aload_n hΓ 0 dX7_send_99 rfl ?_
                  refine G_dup hΓ dX7_send_100 rfl ?_
                  refine F_get hΓ (t := 0) (i := 0) (ci := 10) (C := RX7) (T := TX7) (N := 14) (fs7 (gl Γ) 0) (v := .int (s.1 0 0 9)) (FLi hF (t := 0) (by decide)) (fun _ _ _ => rfl) rfl rfl rfl rfl inW7 9 (by decide) (TT_cons kw_300) rfl dX7_send_101 ?_
                  refine G_dup_x1 hΓ dX7_send_104 rfl rfl ?_
                  refine G_iconst (v := 1) hΓ dX7_send_105 (by decide) ?_
                  refine G_iadd hΓ dX7_send_106 ?_
                  obtain ⟨s9, hv_s9, hf⟩ := lt_eq hf
                  refine F_put hΓ (t := 0) (i := 0) (ci := 10) (C := RX7) (T := TX7) (N := 14) (fs7 (gl Γ) 0) (f := (s.1 0 0)) (f' := (upd (s.1 0 0) 9 ((s.1 0 0 9) + 1))) (σ' := (qC σ s9)) (ty := .int) (v := .int ((s.1 0 0 9) + 1)) tyX7 tyX7_ok nmX7 (FLi hF (t := 0) (by decide)) (fun _ _ _ => rfl) rfl ((qC_s (by decide)).trans (congrArg (qC σ) hv_s9.symm)) rfl inW7 9 (by decide) (TT_cons kw_300) rfl (by decide +kernel) rfl rfl (fun _ _ => Nat.le_of_ble_eq_true rfl) (fun _ _ => rfl) dX7_send_107 ?_
                  refine G_istore hΓ [(5, .int (s.1 0 0 9)), (0, .ref (ya (gl Γ) 0 0)), (1, .int p1), (2, .int p2), (3, .int p3), (4, .int p4)] dX7_send_110 (by decide) rfl ?_
                  refine G_aload_n hΓ 1 dX7_send_112 rfl ?_
                  refine F_get hΓ (t := 0) (i := 0) (ci := 10) (C := RX7) (T := TX7) (N := 14) (fs7 (gl Γ) 0) (v := .ref (ya (gl Γ) 2 0)) (FLi hF (t := 0) (by decide)) (fun _ _ _ => rfl) rfl rfl rfl rfl inW7 1 (by decide) (TT_cons kw_292) rfl dX7_send_113 ?_
                  refine G_iload hΓ 0 dX7_send_116 rfl ?_
                  obtain ⟨hg10, hf⟩ := gd_some hf
                  refine F_aaF hΓ (FLi hF (t := 2) (by decide)) hg10 dX7_send_118 ?_
                  refine G_astore hΓ [(6, .ref (ya (gl Γ) 13 ((s.1 0 0 9).toNatClampNeg))), (5, .int (s.1 0 0 9)), (0, .ref (ya (gl Γ) 0 0)), (1, .int p1), (2, .int p2), (3, .int p3), (4, .int p4)] dX7_send_119 (by decide) rfl ?_
                  refine G_aload hΓ 0 dX7_send_121 rfl ?_
                  refine G_iload hΓ 1 dX7_send_123 rfl ?_
                  refine G_iload_n hΓ 3 dX7_send_125 rfl ?_
                  refine G_iload_n hΓ 5 dX7_send_126 rfl ?_
                  refine G_iload_n hΓ 5 dX7_send_127 rfl ?_
                  refine G_iload hΓ 6 dX7_send_128 rfl ?_
                  obtain ⟨u11, hc12, hf⟩ := bd_some hf
                  refine G_callS hΓ (n := 2) (As := [.int p3, .int p4]) (σ' := (qC σ s9)) (c_X7_octetsOf (gL Γ) (gl Γ) hF (qC σ s9)   p3 p4  hc12) rfl rfl kw_504 kw_505 kw_1 kw_506 ⟨by decide, by decide, by decide +kernel⟩ rfl rfl ⟨Nat.le_of_ble_eq_true rfl, Nat.le_of_ble_eq_true rfl⟩ rfl (Nat.le_of_ble_eq_true rfl) dX7_send_130 ⟨_, rfl⟩ rfl ?_
                  obtain ⟨⟨u13, u14⟩, hc16, hf⟩ := bd_some hf
                  try dsimp only at hf
                  obtain ⟨s15, hv_s15, hf⟩ := lt_eq hf
                  refine G_callV hΓ (n := 4) (As := [.int (s.1 0 0 9), .int p1, .int p3, .int u11]) (t := 13) (i := ((s.1 0 0 9).toNatClampNeg)) (ci := 3) (T := TX0) (N := 9) (FS := fs0 (gl Γ) ((s.1 0 0 9).toNatClampNeg)) (σ' := (qC σ s15)) (c_X0_begin (gL Γ) (gl Γ) hF (qC σ s9) ((s.1 0 0 9).toNatClampNeg) (s9.2.1 13 ((s.1 0 0 9).toNatClampNeg)) (s9.1 13 ((s.1 0 0 9).toNatClampNeg)) (s9.1 14 ((s.1 0 0 9).toNatClampNeg)) (s9.1 15 ((s.1 0 0 9).toNatClampNeg)) (s.1 0 0 9) p1 p3 u11 (vp_lt hg10) hc16) (qFr_qC.trans (congrArg (qC σ) qFr_self)) (qFr_qC.trans (congrArg (qC σ) hv_s15.symm)) kw_509 kw_510 kw_511 kw_7 kw_512 ⟨rfl, by decide, by decide, by decide +kernel⟩ (FLi hF (t := 13) (vp_lt hg10)) (fun _ _ _ => rfl) rfl rfl rfl ⟨Nat.le_of_ble_eq_true rfl, Nat.le_of_ble_eq_true rfl⟩ rfl (Nat.le_of_ble_eq_true rfl) dX7_send_133 ⟨_, rfl⟩ rfl ?_
                  refine G_aload hΓ 0 dX7_send_136 rfl ?_
                  refine G_iload_n hΓ 4 dX7_send_138 rfl ?_
                  refine G_iload_n hΓ 5 dX7_send_139 rfl ?_
                  refine G_iload hΓ 6 dX7_send_140 rfl ?_
                  obtain ⟨u17, hc18, hf⟩ := bd_some hf
                  refine G_callS hΓ (n := 3) (As := [.int p2, .int p3, .int p4]) (σ' := (qC σ s15)) (c_X7_headOf (gL Γ) (gl Γ) hF (qC σ s15)   p2 p3 p4  hc18) rfl rfl kw_513 kw_514 kw_1 kw_515 ⟨by decide, by decide, by decide +kernel⟩ rfl rfl ⟨Nat.le_of_ble_eq_true rfl, Nat.le_of_ble_eq_true rfl⟩ rfl (Nat.le_of_ble_eq_true rfl) dX7_send_142 ⟨_, rfl⟩ rfl ?_
                  obtain ⟨s19, hv_s19, hf⟩ := lt_eq hf
                  refine F_putJN hΓ (t := 13) (i := ((s.1 0 0 9).toNatClampNeg)) (ci := 3) (C := RX0) (T := TX0) (N := 9) (fs0 (gl Γ) ((s.1 0 0 9).toNatClampNeg)) (g := s15.2.1 13 ((s.1 0 0 9).toNatClampNeg)) (g' := u17) (σ' := (qC σ s19)) (ty := .long) (v := .long u17) tyX0 tyX0_ok nmX0 (FLi hF (t := 13) (vp_lt hg10)) (fun _ _ _ => rfl) rfl ((qC_sH (by decide)).trans (congrArg (qC σ) hv_s19.symm)) rfl inW0 6 (by decide) 28 (host := "CanBits") rfl rfl (by decide +kernel) rfl rfl (fun _ _ => Nat.le_of_ble_eq_true rfl) (fun _ _ => rfl) dX7_send_145 ?_
                  refine G_aload_n hΓ 2 dX7_send_148 rfl ?_
                  refine F_get hΓ (t := 0) (i := 0) (ci := 10) (C := RX7) (T := TX7) (N := 14) (fs7 (gl Γ) 0) (v := .ref (ya (gl Γ) 16 0)) (FLi hF (t := 0) (by decide)) (fun _ _ _ => rfl) rfl rfl rfl rfl inW7 2 (by decide) (TT_cons kw_293) rfl dX7_send_149 ?_
                  refine G_aload hΓ 0 dX7_send_152 rfl ?_
                  obtain ⟨⟨u20, u21, u22, u23, u24, u25⟩, hc27, hf⟩ := bd_some hf
                  try dsimp only at hf
                  obtain ⟨s26, hv_s26, hf⟩ := lt_eq hf
                  refine G_callV hΓ (n := 1) (As := [.ref (ya (gl Γ) 13 ((s.1 0 0 9).toNatClampNeg))]) (t := 16) (i := 0) (ci := 9) (T := TX6) (N := 4) (FS := fs6 (gl Γ) 0) (σ' := (qC σ s26)) (c_X6_write (gL Γ) (gl Γ) hF (qC σ s19) ((s.1 0 0 9).toNatClampNeg) (s19.1 16 0) (s19.1 7 32) (s19.1 8 32) (s19.1 9 32) (s19.2.1 13 ((s.1 0 0 9).toNatClampNeg)) (s19.1 13 ((s.1 0 0 9).toNatClampNeg)) (s19.1 14 ((s.1 0 0 9).toNatClampNeg)) (s19.1 15 ((s.1 0 0 9).toNatClampNeg))  (vp_lt hg10) hc27) (qWF_qC.trans (congrArg (qC σ) qWF_self)) (qWF_qC.trans (congrArg (qC σ) hv_s26.symm)) kw_528 kw_529 kw_530 kw_8 kw_531 ⟨rfl, by decide, by decide, by decide +kernel⟩ (FLi hF (t := 16) (by decide)) (fun _ _ _ => rfl) rfl rfl rfl ⟨Nat.le_of_ble_eq_true rfl, Nat.le_of_ble_eq_true rfl⟩ rfl (Nat.le_of_ble_eq_true rfl) dX7_send_154 ⟨_, rfl⟩ rfl ?_
                  refine G_aload_n hΓ 2 dX7_send_157 rfl ?_
                  refine F_get hΓ (t := 0) (i := 0) (ci := 10) (C := RX7) (T := TX7) (N := 14) (fs7 (gl Γ) 0) (v := .ref (ya (gl Γ) 1 0)) (FLi hF (t := 0) (by decide)) (fun _ _ _ => rfl) rfl rfl rfl rfl inW7 0 (by decide) (TT_cons kw_291) rfl dX7_send_158 ?_
                  refine G_iload_n hΓ 3 dX7_send_161 rfl ?_
                  obtain ⟨hg28, hf⟩ := gd_some hf
                  refine F_aaN hΓ (FLi hF (t := 1) (by decide)) hg28 dX7_send_162 ?_
                  refine G_dup hΓ dX7_send_163 rfl ?_
                  refine F_getN hΓ (t := 3) (i := p1.toNatClampNeg) (ci := 5) (C := RX2) (T := TX2) (N := 10) (fs2 (gl Γ) p1.toNatClampNeg) (v := .int (s26.1 3 p1.toNatClampNeg 6)) (FLi hF (t := 3) (vp_lt hg28)) (fun _ _ _ => rfl) rfl rfl rfl rfl inW2 6 (by decide) 16 (host := "CanBits") rfl rfl dX7_send_164 ?_
                  refine G_iconst (v := 1) hΓ dX7_send_167 (by decide) ?_
                  refine G_iadd hΓ dX7_send_168 ?_
                  obtain ⟨v29, hv_v29, hf⟩ := lt_eq hf
                  refine G_topi hv_v29 ?_
                  obtain ⟨s30, hv_s30, hf⟩ := lt_eq hf
                  refine F_putN hΓ (t := 3) (i := p1.toNatClampNeg) (ci := 5) (C := RX2) (T := TX2) (N := 10) (fs2 (gl Γ) p1.toNatClampNeg) (f := (s26.1 3 p1.toNatClampNeg)) (f' := (upd (s26.1 3 p1.toNatClampNeg) 6 v29)) (σ' := (qC σ s30)) (ty := .int) (v := .int v29) tyX2 tyX2_ok nmX2 (FLi hF (t := 3) (vp_lt hg28)) (fun _ _ _ => rfl) rfl ((qC_s (by decide)).trans (congrArg (qC σ) hv_s30.symm)) rfl inW2 6 (by decide) 16 (host := "CanBits") rfl rfl (by decide +kernel) rfl rfl (fun _ _ => Nat.le_of_ble_eq_true rfl) (fun _ _ => rfl) dX7_send_169 ?_
                  refine G_aload_n hΓ 2 dX7_send_172 rfl ?_
                  refine F_get hΓ (t := 0) (i := 0) (ci := 10) (C := RX7) (T := TX7) (N := 14) (fs7 (gl Γ) 0) (v := .ref (ya (gl Γ) 1 0)) (FLi hF (t := 0) (by decide)) (fun _ _ _ => rfl) rfl rfl rfl rfl inW7 0 (by decide) (TT_cons kw_291) rfl dX7_send_173 ?_
                  refine G_iload_n hΓ 3 dX7_send_176 rfl ?_
                  obtain ⟨hg31, hf⟩ := gd_some hf
                  refine F_aaN hΓ (FLi hF (t := 1) (by decide)) hg31 dX7_send_177 ?_
                  refine G_aload_n hΓ 2 dX7_send_178 rfl ?_
                  refine G_iload_n hΓ 3 dX7_send_179 rfl ?_
                  obtain ⟨u32, hc33, hf⟩ := bd_some hf
                  refine G_callV hΓ (n := 1) (As := [.int p1]) (t := 0) (i := 0) (ci := 10) (T := TX7) (N := 14) (FS := fs7 (gl Γ) 0) (σ' := (qC σ s30)) (c_X7_firstOf (gL Γ) (gl Γ) hF σ  s30 p1  hc33) rfl rfl kw_595 kw_597 kp_9 kw_1 kw_598 ⟨rfl, by decide, by decide, by decide +kernel⟩ (FLi hF (t := 0) (by decide)) (fun _ _ _ => rfl) rfl rfl rfl ⟨Nat.le_of_ble_eq_true rfl, Nat.le_of_ble_eq_true rfl⟩ rfl (Nat.le_of_ble_eq_true rfl) dX7_send_180 ⟨_, rfl⟩ rfl ?_
                  obtain ⟨s34, hv_s34, hf⟩ := lt_eq hf
                  refine F_putRN hΓ (i := p1.toNatClampNeg) (r' := (u32, (s30.2.2 p1.toNatClampNeg).2)) (σ' := (qC σ s34)) (ty := .object "CanBits$Frame") (v := va_rf (u32.map (ya (gl Γ) 13))) (FLi hF (t := 3) (vp_lt hg31)) rfl (qC_sR.trans (congrArg (qC σ) hv_s34.symm)) inW2 7 (by decide) 17 (host := "CanBits") rfl rfl (by decide +kernel) fits_rf.1 fits_rf.2 (fun _ _ => Nat.le_of_ble_eq_true rfl) (fun _ _ => rfl) dX7_send_183 ?_
                  refine G_iload hΓ 1 dX7_send_186 rfl ?_
                  cases hf
                  exact G_iret hΓ hE dX7_send_188
                · rw [if_neg hc35] at hf
                  cases hf
              · rw [if_neg hc36] at hf
                cases hf
          · rw [if_neg hc38] at hf
            cases hf
        have he := he8
        refine G_if_eq hΓ (tgt := 41) dX7_send_33 (by decide) (fun hc7 => ?_) (fun hc7 => ?_)
        · rw [if_pos hc7] at he
          refine G_sipush (v := 2048) hΓ dX7_send_41 (by decide) ?_
          subst he
          exact K6
        · rw [if_neg hc7] at he
          refine G_ldc hΓ (v := 536870912) (TT_cons kw_485) dX7_send_36 ?_
          refine G_goto hΓ (tgt := 44) dX7_send_38 (by decide) ?_
          subst he
          exact K6
    · rw [if_neg hc40] at hf
      cases hf
set_option maxHeartbeats 4000000 in
set_option maxRecDepth 100000 in
theorem t_X7_send (l : Launch) (hst : l.stackTraces = false) (Λ : LY) (hF : FL Λ) (σ : CS)  (s : CS) (p1 : Int32) (p2 : Int32) (p3 : Int32) (p4 : Int32)   {e9 : Nat} (hf : f_X7_send s p1 p2 p3 p4 = some (.inl e9)) : CT l yX7_send (.code yX7_send cX7_send 7 (some .int) :: TT) ({ frames := 8, cells := 1, slots := 6, locals := 141 }) Λ [.ref (ya Λ 0 0), .int p1, .int p2, .int p3, .int p4] (qC σ s) (xn e9) := by
  refine CT_intro hst (own := RX7) (by decide) rfl (Nat.le_of_ble_eq_true rfl) rfl rfl ?_
  intro Γ hg hl hΓ hT
  subst hg; subst hl
  show GG Γ (0, 0) (qC σ s) 0 [(0, .ref (ya (gl Γ) 0 0)), (1, .int p1), (2, .int p2), (3, .int p3), (4, .int p4)] []
  unfold f_X7_send at hf
  refine G_aload_n hΓ 0 dX7_send_0 rfl ?_
  refine G_iload_n hΓ 1 dX7_send_1 rfl ?_
  rcases bx_l hf with hcx2 | ⟨_, hc1, hf⟩
  · exact G_callVX hΓ hT (n := 1) (As := [.int p1]) (t := 0) (i := 0) (ci := 10) (T := TX7) (N := 14) (FS := fs7 (gl Γ) 0) (t_X7_needNode (gL Γ) hst (gl Γ) hF σ  s p1  hcx2) kw_464 kw_466 kp_3 kw_1 kw_467 ⟨rfl, by decide, by decide, by decide +kernel⟩ (FLi hF (t := 0) (by decide)) (fun _ _ _ => rfl) rfl rfl rfl ⟨Nat.le_of_ble_eq_true rfl, Nat.le_of_ble_eq_true rfl⟩ rfl (Nat.le_of_ble_eq_true rfl) dX7_send_2
  refine G_callV hΓ (n := 1) (As := [.int p1]) (t := 0) (i := 0) (ci := 10) (T := TX7) (N := 14) (FS := fs7 (gl Γ) 0) (σ' := (qC σ s)) (c_X7_needNode (gL Γ) (gl Γ) hF σ  s p1  hc1) rfl rfl kw_464 kw_466 kp_3 kw_1 kw_467 ⟨rfl, by decide, by decide, by decide +kernel⟩ (FLi hF (t := 0) (by decide)) (fun _ _ _ => rfl) rfl rfl rfl ⟨Nat.le_of_ble_eq_true rfl, Nat.le_of_ble_eq_true rfl⟩ rfl (Nat.le_of_ble_eq_true rfl) dX7_send_2 ⟨_, rfl⟩ rfl ?_
  refine G_iload_n hΓ 3 dX7_send_5 rfl ?_
  refine G_if_lt hΓ (tgt := 14) dX7_send_6 (by decide) (fun hc41 => ?_) (fun hc41 => ?_)
  · rw [if_pos hc41] at hf
    cases hf
    exact G_throw hΓ hT (names := ["java/lang/RuntimeException", "java/lang/Exception"]) (by decide) (by decide) kw_418 kw_15 3 rfl at_2 1 rfl ao_2 dX7_send_14 dX7_send_17 dX7_send_18 dX7_send_20 dX7_send_23 (by decide) (Nat.le_of_ble_eq_true rfl)
  · rw [if_neg hc41] at hf
    refine G_iload_n hΓ 3 dX7_send_9 rfl ?_
    refine G_iconst (v := 5) hΓ dX7_send_10 (by decide) ?_
    refine G_icmp_le hΓ (tgt := 24) dX7_send_11 (by decide) (fun hc40 => ?_) (fun hc40 => ?_)
    · rw [if_pos hc40] at hf
      refine G_iload_n hΓ 2 dX7_send_24 rfl ?_
      refine G_if_lt hΓ (tgt := 47) dX7_send_25 (by decide) (fun hc39 => ?_) (fun hc39 => ?_)
      · rw [if_pos hc39] at hf
        cases hf
        exact G_throw hΓ hT (names := ["java/lang/RuntimeException", "java/lang/Exception"]) (by decide) (by decide) kw_418 kw_15 4 rfl at_2 1 rfl ao_2 dX7_send_47 dX7_send_50 dX7_send_51 dX7_send_53 dX7_send_56 (by decide) (Nat.le_of_ble_eq_true rfl)
      · rw [if_neg hc39] at hf
        refine G_iload_n hΓ 2 dX7_send_28 rfl ?_
        refine G_iload_n hΓ 3 dX7_send_29 rfl ?_
        obtain ⟨u3, hc4, hf⟩ := bd_some hf
        refine G_callS hΓ (n := 1) (As := [.int p3]) (σ' := (qC σ s)) (c_X7_isLong (gL Γ) (gl Γ) hF (qC σ s)   p3  hc4) rfl rfl kw_482 kw_483 kw_1 kw_484 ⟨by decide, by decide, by decide +kernel⟩ rfl rfl ⟨Nat.le_of_ble_eq_true rfl, Nat.le_of_ble_eq_true rfl⟩ rfl (Nat.le_of_ble_eq_true rfl) dX7_send_30 ⟨_, rfl⟩ rfl ?_
        obtain ⟨x5, he8, hf⟩ := lt_eq hf
        have K6 : GG Γ (0, 0) (qC σ s) 44 [(0, .ref (ya (gl Γ) 0 0)), (1, .int p1), (2, .int p2), (3, .int p3), (4, .int p4)] [.int x5, .int p2] := by
          refine G_icmp_lt hΓ (tgt := 57) dX7_send_44 (by decide) (fun hc38 => ?_) (fun hc38 => ?_)
          · rw [if_pos hc38] at hf
            refine G_iload hΓ 4 dX7_send_57 rfl ?_
            refine G_if_lt hΓ (tgt := 69) dX7_send_59 (by decide) (fun hc37 => ?_) (fun hc37 => ?_)
            · rw [if_pos hc37] at hf
              cases hf
              exact G_throw hΓ hT (names := ["java/lang/RuntimeException", "java/lang/Exception"]) (by decide) (by decide) kw_418 kw_15 5 rfl at_2 1 rfl ao_2 dX7_send_69 dX7_send_72 dX7_send_73 dX7_send_75 dX7_send_78 (by decide) (Nat.le_of_ble_eq_true rfl)
            · rw [if_neg hc37] at hf
              refine G_iload hΓ 4 dX7_send_62 rfl ?_
              refine G_bipush (v := 15) hΓ dX7_send_64 (by decide) ?_
              refine G_icmp_le hΓ (tgt := 79) dX7_send_66 (by decide) (fun hc36 => ?_) (fun hc36 => ?_)
              · rw [if_pos hc36] at hf
                refine G_aload_n hΓ 0 dX7_send_79 rfl ?_
                refine F_get hΓ (t := 0) (i := 0) (ci := 10) (C := RX7) (T := TX7) (N := 14) (fs7 (gl Γ) 0) (v := .int (s.1 0 0 9)) (FLi hF (t := 0) (by decide)) (fun _ _ _ => rfl) rfl rfl rfl rfl inW7 9 (by decide) (TT_cons kw_300) rfl dX7_send_80 ?_
                refine G_sipush (v := 200) hΓ dX7_send_83 (by decide) ?_
                refine G_icmp_lt hΓ (tgt := 99) dX7_send_86 (by decide) (fun hc35 => ?_) (fun hc35 => ?_)
                · rw [if_pos hc35] at hf
                  refine G_aload_n hΓ 0 dX7_send_99 rfl ?_
                  refine G_dup hΓ dX7_send_100 rfl ?_
                  refine F_get hΓ (t := 0) (i := 0) (ci := 10) (C := RX7) (T := TX7) (N := 14) (fs7 (gl Γ) 0) (v := .int (s.1 0 0 9)) (FLi hF (t := 0) (by decide)) (fun _ _ _ => rfl) rfl rfl rfl rfl inW7 9 (by decide) (TT_cons kw_300) rfl dX7_send_101 ?_
                  refine G_dup_x1 hΓ dX7_send_104 rfl rfl ?_
                  refine G_iconst (v := 1) hΓ dX7_send_105 (by decide) ?_
                  refine G_iadd hΓ dX7_send_106 ?_
                  obtain ⟨s9, hv_s9, hf⟩ := lt_eq hf
                  refine F_put hΓ (t := 0) (i := 0) (ci := 10) (C := RX7) (T := TX7) (N := 14) (fs7 (gl Γ) 0) (f := (s.1 0 0)) (f' := (upd (s.1 0 0) 9 ((s.1 0 0 9) + 1))) (σ' := (qC σ s9)) (ty := .int) (v := .int ((s.1 0 0 9) + 1)) tyX7 tyX7_ok nmX7 (FLi hF (t := 0) (by decide)) (fun _ _ _ => rfl) rfl ((qC_s (by decide)).trans (congrArg (qC σ) hv_s9.symm)) rfl inW7 9 (by decide) (TT_cons kw_300) rfl (by decide +kernel) rfl rfl (fun _ _ => Nat.le_of_ble_eq_true rfl) (fun _ _ => rfl) dX7_send_107 ?_
                  refine G_istore hΓ [(5, .int (s.1 0 0 9)), (0, .ref (ya (gl Γ) 0 0)), (1, .int p1), (2, .int p2), (3, .int p3), (4, .int p4)] dX7_send_110 (by decide) rfl ?_
                  refine G_aload_n hΓ 1 dX7_send_112 rfl ?_
                  refine F_get hΓ (t := 0) (i := 0) (ci := 10) (C := RX7) (T := TX7) (N := 14) (fs7 (gl Γ) 0) (v := .ref (ya (gl Γ) 2 0)) (FLi hF (t := 0) (by decide)) (fun _ _ _ => rfl) rfl rfl rfl rfl inW7 1 (by decide) (TT_cons kw_292) rfl dX7_send_113 ?_
                  refine G_iload hΓ 0 dX7_send_116 rfl ?_
                  obtain ⟨hg10, hf⟩ := gd_some hf
                  refine F_aaF hΓ (FLi hF (t := 2) (by decide)) hg10 dX7_send_118 ?_
                  refine G_astore hΓ [(6, .ref (ya (gl Γ) 13 ((s.1 0 0 9).toNatClampNeg))), (5, .int (s.1 0 0 9)), (0, .ref (ya (gl Γ) 0 0)), (1, .int p1), (2, .int p2), (3, .int p3), (4, .int p4)] dX7_send_119 (by decide) rfl ?_
                  refine G_aload hΓ 0 dX7_send_121 rfl ?_
                  refine G_iload hΓ 1 dX7_send_123 rfl ?_
                  refine G_iload_n hΓ 3 dX7_send_125 rfl ?_
                  refine G_iload_n hΓ 5 dX7_send_126 rfl ?_
                  refine G_iload_n hΓ 5 dX7_send_127 rfl ?_
                  refine G_iload hΓ 6 dX7_send_128 rfl ?_
                  obtain ⟨u11, hc12, hf⟩ := bd_some hf
                  refine G_callS hΓ (n := 2) (As := [.int p3, .int p4]) (σ' := (qC σ s9)) (c_X7_octetsOf (gL Γ) (gl Γ) hF (qC σ s9)   p3 p4  hc12) rfl rfl kw_504 kw_505 kw_1 kw_506 ⟨by decide, by decide, by decide +kernel⟩ rfl rfl ⟨Nat.le_of_ble_eq_true rfl, Nat.le_of_ble_eq_true rfl⟩ rfl (Nat.le_of_ble_eq_true rfl) dX7_send_130 ⟨_, rfl⟩ rfl ?_
                  obtain ⟨⟨u13, u14⟩, hc16, hf⟩ := bd_some hf
                  try dsimp only at hf
                  obtain ⟨s15, hv_s15, hf⟩ := lt_eq hf
                  refine G_callV hΓ (n := 4) (As := [.int (s.1 0 0 9), .int p1, .int p3, .int u11]) (t := 13) (i := ((s.1 0 0 9).toNatClampNeg)) (ci := 3) (T := TX0) (N := 9) (FS := fs0 (gl Γ) ((s.1 0 0 9).toNatClampNeg)) (σ' := (qC σ s15)) (c_X0_begin (gL Γ) (gl Γ) hF (qC σ s9) ((s.1 0 0 9).toNatClampNeg) (s9.2.1 13 ((s.1 0 0 9).toNatClampNeg)) (s9.1 13 ((s.1 0 0 9).toNatClampNeg)) (s9.1 14 ((s.1 0 0 9).toNatClampNeg)) (s9.1 15 ((s.1 0 0 9).toNatClampNeg)) (s.1 0 0 9) p1 p3 u11 (vp_lt hg10) hc16) (qFr_qC.trans (congrArg (qC σ) qFr_self)) (qFr_qC.trans (congrArg (qC σ) hv_s15.symm)) kw_509 kw_510 kw_511 kw_7 kw_512 ⟨rfl, by decide, by decide, by decide +kernel⟩ (FLi hF (t := 13) (vp_lt hg10)) (fun _ _ _ => rfl) rfl rfl rfl ⟨Nat.le_of_ble_eq_true rfl, Nat.le_of_ble_eq_true rfl⟩ rfl (Nat.le_of_ble_eq_true rfl) dX7_send_133 ⟨_, rfl⟩ rfl ?_
                  refine G_aload hΓ 0 dX7_send_136 rfl ?_
                  refine G_iload_n hΓ 4 dX7_send_138 rfl ?_
                  refine G_iload_n hΓ 5 dX7_send_139 rfl ?_
                  refine G_iload hΓ 6 dX7_send_140 rfl ?_
                  obtain ⟨u17, hc18, hf⟩ := bd_some hf
                  refine G_callS hΓ (n := 3) (As := [.int p2, .int p3, .int p4]) (σ' := (qC σ s15)) (c_X7_headOf (gL Γ) (gl Γ) hF (qC σ s15)   p2 p3 p4  hc18) rfl rfl kw_513 kw_514 kw_1 kw_515 ⟨by decide, by decide, by decide +kernel⟩ rfl rfl ⟨Nat.le_of_ble_eq_true rfl, Nat.le_of_ble_eq_true rfl⟩ rfl (Nat.le_of_ble_eq_true rfl) dX7_send_142 ⟨_, rfl⟩ rfl ?_
                  obtain ⟨s19, hv_s19, hf⟩ := lt_eq hf
                  refine F_putJN hΓ (t := 13) (i := ((s.1 0 0 9).toNatClampNeg)) (ci := 3) (C := RX0) (T := TX0) (N := 9) (fs0 (gl Γ) ((s.1 0 0 9).toNatClampNeg)) (g := s15.2.1 13 ((s.1 0 0 9).toNatClampNeg)) (g' := u17) (σ' := (qC σ s19)) (ty := .long) (v := .long u17) tyX0 tyX0_ok nmX0 (FLi hF (t := 13) (vp_lt hg10)) (fun _ _ _ => rfl) rfl ((qC_sH (by decide)).trans (congrArg (qC σ) hv_s19.symm)) rfl inW0 6 (by decide) 28 (host := "CanBits") rfl rfl (by decide +kernel) rfl rfl (fun _ _ => Nat.le_of_ble_eq_true rfl) (fun _ _ => rfl) dX7_send_145 ?_
                  refine G_aload_n hΓ 2 dX7_send_148 rfl ?_
                  refine F_get hΓ (t := 0) (i := 0) (ci := 10) (C := RX7) (T := TX7) (N := 14) (fs7 (gl Γ) 0) (v := .ref (ya (gl Γ) 16 0)) (FLi hF (t := 0) (by decide)) (fun _ _ _ => rfl) rfl rfl rfl rfl inW7 2 (by decide) (TT_cons kw_293) rfl dX7_send_149 ?_
                  refine G_aload hΓ 0 dX7_send_152 rfl ?_
                  obtain ⟨⟨u20, u21, u22, u23, u24, u25⟩, hc27, hf⟩ := bd_some hf
                  try dsimp only at hf
                  obtain ⟨s26, hv_s26, hf⟩ := lt_eq hf
                  refine G_callV hΓ (n := 1) (As := [.ref (ya (gl Γ) 13 ((s.1 0 0 9).toNatClampNeg))]) (t := 16) (i := 0) (ci := 9) (T := TX6) (N := 4) (FS := fs6 (gl Γ) 0) (σ' := (qC σ s26)) (c_X6_write (gL Γ) (gl Γ) hF (qC σ s19) ((s.1 0 0 9).toNatClampNeg) (s19.1 16 0) (s19.1 7 32) (s19.1 8 32) (s19.1 9 32) (s19.2.1 13 ((s.1 0 0 9).toNatClampNeg)) (s19.1 13 ((s.1 0 0 9).toNatClampNeg)) (s19.1 14 ((s.1 0 0 9).toNatClampNeg)) (s19.1 15 ((s.1 0 0 9).toNatClampNeg))  (vp_lt hg10) hc27) (qWF_qC.trans (congrArg (qC σ) qWF_self)) (qWF_qC.trans (congrArg (qC σ) hv_s26.symm)) kw_528 kw_529 kw_530 kw_8 kw_531 ⟨rfl, by decide, by decide, by decide +kernel⟩ (FLi hF (t := 16) (by decide)) (fun _ _ _ => rfl) rfl rfl rfl ⟨Nat.le_of_ble_eq_true rfl, Nat.le_of_ble_eq_true rfl⟩ rfl (Nat.le_of_ble_eq_true rfl) dX7_send_154 ⟨_, rfl⟩ rfl ?_
                  refine G_aload_n hΓ 2 dX7_send_157 rfl ?_
                  refine F_get hΓ (t := 0) (i := 0) (ci := 10) (C := RX7) (T := TX7) (N := 14) (fs7 (gl Γ) 0) (v := .ref (ya (gl Γ) 1 0)) (FLi hF (t := 0) (by decide)) (fun _ _ _ => rfl) rfl rfl rfl rfl inW7 0 (by decide) (TT_cons kw_291) rfl dX7_send_158 ?_
                  refine G_iload_n hΓ 3 dX7_send_161 rfl ?_
                  obtain ⟨hg28, hf⟩ := gd_some hf
                  refine F_aaN hΓ (FLi hF (t := 1) (by decide)) hg28 dX7_send_162 ?_
                  refine G_dup hΓ dX7_send_163 rfl ?_
                  refine F_getN hΓ (t := 3) (i := p1.toNatClampNeg) (ci := 5) (C := RX2) (T := TX2) (N := 10) (fs2 (gl Γ) p1.toNatClampNeg) (v := .int (s26.1 3 p1.toNatClampNeg 6)) (FLi hF (t := 3) (vp_lt hg28)) (fun _ _ _ => rfl) rfl rfl rfl rfl inW2 6 (by decide) 16 (host := "CanBits") rfl rfl dX7_send_164 ?_
                  refine G_iconst (v := 1) hΓ dX7_send_167 (by decide) ?_
                  refine G_iadd hΓ dX7_send_168 ?_
                  obtain ⟨v29, hv_v29, hf⟩ := lt_eq hf
                  refine G_topi hv_v29 ?_
                  obtain ⟨s30, hv_s30, hf⟩ := lt_eq hf
                  refine F_putN hΓ (t := 3) (i := p1.toNatClampNeg) (ci := 5) (C := RX2) (T := TX2) (N := 10) (fs2 (gl Γ) p1.toNatClampNeg) (f := (s26.1 3 p1.toNatClampNeg)) (f' := (upd (s26.1 3 p1.toNatClampNeg) 6 v29)) (σ' := (qC σ s30)) (ty := .int) (v := .int v29) tyX2 tyX2_ok nmX2 (FLi hF (t := 3) (vp_lt hg28)) (fun _ _ _ => rfl) rfl ((qC_s (by decide)).trans (congrArg (qC σ) hv_s30.symm)) rfl inW2 6 (by decide) 16 (host := "CanBits") rfl rfl (by decide +kernel) rfl rfl (fun _ _ => Nat.le_of_ble_eq_true rfl) (fun _ _ => rfl) dX7_send_169 ?_
                  refine G_aload_n hΓ 2 dX7_send_172 rfl ?_
                  refine F_get hΓ (t := 0) (i := 0) (ci := 10) (C := RX7) (T := TX7) (N := 14) (fs7 (gl Γ) 0) (v := .ref (ya (gl Γ) 1 0)) (FLi hF (t := 0) (by decide)) (fun _ _ _ => rfl) rfl rfl rfl rfl inW7 0 (by decide) (TT_cons kw_291) rfl dX7_send_173 ?_
                  refine G_iload_n hΓ 3 dX7_send_176 rfl ?_
                  obtain ⟨hg31, hf⟩ := gd_some hf
                  refine F_aaN hΓ (FLi hF (t := 1) (by decide)) hg31 dX7_send_177 ?_
                  refine G_aload_n hΓ 2 dX7_send_178 rfl ?_
                  refine G_iload_n hΓ 3 dX7_send_179 rfl ?_
                  obtain ⟨u32, hc33, hf⟩ := bd_some hf
                  refine G_callV hΓ (n := 1) (As := [.int p1]) (t := 0) (i := 0) (ci := 10) (T := TX7) (N := 14) (FS := fs7 (gl Γ) 0) (σ' := (qC σ s30)) (c_X7_firstOf (gL Γ) (gl Γ) hF σ  s30 p1  hc33) rfl rfl kw_595 kw_597 kp_9 kw_1 kw_598 ⟨rfl, by decide, by decide, by decide +kernel⟩ (FLi hF (t := 0) (by decide)) (fun _ _ _ => rfl) rfl rfl rfl ⟨Nat.le_of_ble_eq_true rfl, Nat.le_of_ble_eq_true rfl⟩ rfl (Nat.le_of_ble_eq_true rfl) dX7_send_180 ⟨_, rfl⟩ rfl ?_
                  obtain ⟨s34, hv_s34, hf⟩ := lt_eq hf
                  refine F_putRN hΓ (i := p1.toNatClampNeg) (r' := (u32, (s30.2.2 p1.toNatClampNeg).2)) (σ' := (qC σ s34)) (ty := .object "CanBits$Frame") (v := va_rf (u32.map (ya (gl Γ) 13))) (FLi hF (t := 3) (vp_lt hg31)) rfl (qC_sR.trans (congrArg (qC σ) hv_s34.symm)) inW2 7 (by decide) 17 (host := "CanBits") rfl rfl (by decide +kernel) fits_rf.1 fits_rf.2 (fun _ _ => Nat.le_of_ble_eq_true rfl) (fun _ _ => rfl) dX7_send_183 ?_
                  refine G_iload hΓ 1 dX7_send_186 rfl ?_
                  cases hf
                · rw [if_neg hc35] at hf
                  cases hf
                  exact G_throw hΓ hT (names := ["java/lang/RuntimeException", "java/lang/Exception"]) (by decide) (by decide) kw_488 kw_18 6 rfl at_3 4 rfl ao_3 dX7_send_89 dX7_send_92 dX7_send_93 dX7_send_95 dX7_send_98 (by decide) (Nat.le_of_ble_eq_true rfl)
              · rw [if_neg hc36] at hf
                cases hf
                exact G_throw hΓ hT (names := ["java/lang/RuntimeException", "java/lang/Exception"]) (by decide) (by decide) kw_418 kw_15 5 rfl at_2 1 rfl ao_2 dX7_send_69 dX7_send_72 dX7_send_73 dX7_send_75 dX7_send_78 (by decide) (Nat.le_of_ble_eq_true rfl)
          · rw [if_neg hc38] at hf
            cases hf
            exact G_throw hΓ hT (names := ["java/lang/RuntimeException", "java/lang/Exception"]) (by decide) (by decide) kw_418 kw_15 4 rfl at_2 1 rfl ao_2 dX7_send_47 dX7_send_50 dX7_send_51 dX7_send_53 dX7_send_56 (by decide) (Nat.le_of_ble_eq_true rfl)
        have he := he8
        refine G_if_eq hΓ (tgt := 41) dX7_send_33 (by decide) (fun hc7 => ?_) (fun hc7 => ?_)
        · rw [if_pos hc7] at he
          refine G_sipush (v := 2048) hΓ dX7_send_41 (by decide) ?_
          subst he
          exact K6
        · rw [if_neg hc7] at he
          refine G_ldc hΓ (v := 536870912) (TT_cons kw_485) dX7_send_36 ?_
          refine G_goto hΓ (tgt := 44) dX7_send_38 (by decide) ?_
          subst he
          exact K6
    · rw [if_neg hc40] at hf
      cases hf
      exact G_throw hΓ hT (names := ["java/lang/RuntimeException", "java/lang/Exception"]) (by decide) (by decide) kw_418 kw_15 3 rfl at_2 1 rfl ao_2 dX7_send_14 dX7_send_17 dX7_send_18 dX7_send_20 dX7_send_23 (by decide) (Nat.le_of_ble_eq_true rfl)
theorem dX7_octet_0 : decode cX7_octet 0 = .ok (.aload_n 0, 1) := by decide +kernel
theorem dX7_octet_1 : decode cX7_octet 1 = .ok (.iload_n 1, 1) := by decide +kernel
theorem dX7_octet_2 : decode cX7_octet 2 = .ok (.invokevirtual 117, 3) := by decide +kernel
theorem dX7_octet_5 : decode cX7_octet 5 = .ok (.aload_n 0, 1) := by decide +kernel
theorem dX7_octet_6 : decode cX7_octet 6 = .ok (.getfield 18, 3) := by decide +kernel
theorem dX7_octet_9 : decode cX7_octet 9 = .ok (.iload_n 1, 1) := by decide +kernel
theorem dX7_octet_10 : decode cX7_octet 10 = .ok (.aaload, 1) := by decide +kernel
theorem dX7_octet_11 : decode cX7_octet 11 = .ok (.astore 4, 2) := by decide +kernel
theorem dX7_octet_13 : decode cX7_octet 13 = .ok (.iload_n 2, 1) := by decide +kernel
theorem dX7_octet_14 : decode cX7_octet 14 = .ok (.ifCond .lt 12, 3) := by decide +kernel
theorem dX7_octet_17 : decode cX7_octet 17 = .ok (.iload_n 2, 1) := by decide +kernel
theorem dX7_octet_18 : decode cX7_octet 18 = .ok (.aload 4, 2) := by decide +kernel
theorem dX7_octet_20 : decode cX7_octet 20 = .ok (.getfield 120, 3) := by decide +kernel
theorem dX7_octet_23 : decode cX7_octet 23 = .ok (.if_icmp .lt 13, 3) := by decide +kernel
theorem dX7_octet_26 : decode cX7_octet 26 = .ok (.new 123, 3) := by decide +kernel
theorem dX7_octet_29 : decode cX7_octet 29 = .ok (.dup, 1) := by decide +kernel
theorem dX7_octet_30 : decode cX7_octet 30 = .ok (.ldc 125, 2) := by decide +kernel
theorem dX7_octet_32 : decode cX7_octet 32 = .ok (.invokespecial 127, 3) := by decide +kernel
theorem dX7_octet_35 : decode cX7_octet 35 = .ok (.athrow, 1) := by decide +kernel
theorem dX7_octet_36 : decode cX7_octet 36 = .ok (.iload_n 3, 1) := by decide +kernel
theorem dX7_octet_37 : decode cX7_octet 37 = .ok (.ifCond .lt 10, 3) := by decide +kernel
theorem dX7_octet_40 : decode cX7_octet 40 = .ok (.iload_n 3, 1) := by decide +kernel
theorem dX7_octet_41 : decode cX7_octet 41 = .ok (.sipush 255, 3) := by decide +kernel
theorem dX7_octet_44 : decode cX7_octet 44 = .ok (.if_icmp .le 13, 3) := by decide +kernel
theorem dX7_octet_47 : decode cX7_octet 47 = .ok (.new 52, 3) := by decide +kernel
theorem dX7_octet_50 : decode cX7_octet 50 = .ok (.dup, 1) := by decide +kernel
theorem dX7_octet_51 : decode cX7_octet 51 = .ok (.ldc 128, 2) := by decide +kernel
theorem dX7_octet_53 : decode cX7_octet 53 = .ok (.invokespecial 56, 3) := by decide +kernel
theorem dX7_octet_56 : decode cX7_octet 56 = .ok (.athrow, 1) := by decide +kernel
theorem dX7_octet_57 : decode cX7_octet 57 = .ok (.aload_n 0, 1) := by decide +kernel
theorem dX7_octet_58 : decode cX7_octet 58 = .ok (.getfield 11, 3) := by decide +kernel
theorem dX7_octet_61 : decode cX7_octet 61 = .ok (.aload 4, 2) := by decide +kernel
theorem dX7_octet_63 : decode cX7_octet 63 = .ok (.getfield 130, 3) := by decide +kernel
theorem dX7_octet_66 : decode cX7_octet 66 = .ok (.aaload, 1) := by decide +kernel
theorem dX7_octet_67 : decode cX7_octet 67 = .ok (.astore 5, 2) := by decide +kernel
theorem dX7_octet_69 : decode cX7_octet 69 = .ok (.aload 4, 2) := by decide +kernel
theorem dX7_octet_71 : decode cX7_octet 71 = .ok (.getfield 133, 3) := by decide +kernel
theorem dX7_octet_74 : decode cX7_octet 74 = .ok (.ifCond .ne 13, 3) := by decide +kernel
theorem dX7_octet_77 : decode cX7_octet 77 = .ok (.aload 5, 2) := by decide +kernel
theorem dX7_octet_79 : decode cX7_octet 79 = .ok (.aload 4, 2) := by decide +kernel
theorem dX7_octet_81 : decode cX7_octet 81 = .ok (.invokevirtual 137, 3) := by decide +kernel
theorem dX7_octet_84 : decode cX7_octet 84 = .ok (.ifCond .eq 13, 3) := by decide +kernel
theorem dX7_octet_87 : decode cX7_octet 87 = .ok (.new 82, 3) := by decide +kernel
theorem dX7_octet_90 : decode cX7_octet 90 = .ok (.dup, 1) := by decide +kernel
theorem dX7_octet_91 : decode cX7_octet 91 = .ok (.ldc 141, 2) := by decide +kernel
theorem dX7_octet_93 : decode cX7_octet 93 = .ok (.invokespecial 86, 3) := by decide +kernel
theorem dX7_octet_96 : decode cX7_octet 96 = .ok (.athrow, 1) := by decide +kernel
theorem dX7_octet_97 : decode cX7_octet 97 = .ok (.aload 4, 2) := by decide +kernel
theorem dX7_octet_99 : decode cX7_octet 99 = .ok (.getfield 143, 3) := by decide +kernel
theorem dX7_octet_102 : decode cX7_octet 102 = .ok (.iload_n 2, 1) := by decide +kernel
theorem dX7_octet_103 : decode cX7_octet 103 = .ok (.iload_n 3, 1) := by decide +kernel
theorem dX7_octet_104 : decode cX7_octet 104 = .ok (.iastore, 1) := by decide +kernel
theorem dX7_octet_105 : decode cX7_octet 105 = .ok (.aload_n 0, 1) := by decide +kernel
theorem dX7_octet_106 : decode cX7_octet 106 = .ok (.getfield 26, 3) := by decide +kernel
theorem dX7_octet_109 : decode cX7_octet 109 = .ok (.aload 4, 2) := by decide +kernel
theorem dX7_octet_111 : decode cX7_octet 111 = .ok (.invokevirtual 102, 3) := by decide +kernel
theorem dX7_octet_114 : decode cX7_octet 114 = .ok (.aload 5, 2) := by decide +kernel
theorem dX7_octet_116 : decode cX7_octet 116 = .ok (.aload_n 0, 1) := by decide +kernel
theorem dX7_octet_117 : decode cX7_octet 117 = .ok (.aload 4, 2) := by decide +kernel
theorem dX7_octet_119 : decode cX7_octet 119 = .ok (.getfield 130, 3) := by decide +kernel
theorem dX7_octet_122 : decode cX7_octet 122 = .ok (.invokevirtual 109, 3) := by decide +kernel
theorem dX7_octet_125 : decode cX7_octet 125 = .ok (.putfield 113, 3) := by decide +kernel
theorem dX7_octet_128 : decode cX7_octet 128 = .ok (.return_, 1) := by decide +kernel
noncomputable def f_X7_octet  (s : CS) (p1 : Int32) (p2 : Int32) (p3 : Int32) : Option (Nat ⊕ (CS)) := bx (f_X7_needFrame s p1) (fun _ => gd (vp_in p1 200) (if p2 < 0 then some (.inl 1) else if p2 < (s.1 13 p1.toNatClampNeg 7) then if p3 < 0 then some (.inl 2) else if p3 ≤ 255 then gd (vp_in (s.1 13 p1.toNatClampNeg 4) 32) (if (s.1 13 p1.toNatClampNeg 8) = 0 then bd (f_X2_isSending p1.toNatClampNeg (s.2.2 ((s.1 13 p1.toNatClampNeg 4).toNatClampNeg)).2 (s.1 3 ((s.1 13 p1.toNatClampNeg 4).toNatClampNeg))) (fun u5 => if u5 = 0 then gd (vp_in p2 64) (lt (α := CS) (sZ s 14 p1.toNatClampNeg (upd (s.1 14 p1.toNatClampNeg) p2.toNatClampNeg p3)) (fun s8 => bd (f_X6_write (s8.1 16 0) (s8.1 7 32) (s8.1 8 32) (s8.1 9 32) (s8.2.1 13 p1.toNatClampNeg) (s8.1 13 p1.toNatClampNeg) (s8.1 14 p1.toNatClampNeg) (s8.1 15 p1.toNatClampNeg)) (fun ⟨u9, u10, u11, u12, u13, u14⟩ => lt (α := CS) (qWF s8 p1.toNatClampNeg u9 u10 u11 u12 (s8.2.1 13 p1.toNatClampNeg) u13 (s8.1 14 p1.toNatClampNeg) u14) (fun s15 => bd (f_X7_firstOf s15 (s15.1 13 p1.toNatClampNeg 4)) (fun u17 => lt (α := CS) (sR s15 ((s.1 13 p1.toNatClampNeg 4).toNatClampNeg) (u17, (s15.2.2 ((s.1 13 p1.toNatClampNeg 4).toNatClampNeg)).2)) (fun s19 => some (.inr (s19)))))))) else some (.inl 3)) else some (.inl 3)) else some (.inl 2) else some (.inl 1)))
set_option maxHeartbeats 4000000 in
set_option maxRecDepth 100000 in
theorem c_X7_octet (l : Launch) (Λ : LY) (hF : FL Λ) (σ : CS)  (s : CS) (p1 : Int32) (p2 : Int32) (p3 : Int32)   {s' : CS} (hf : f_X7_octet s p1 p2 p3 = some (.inr s')) : CM l yX7_octet (.code yX7_octet cX7_octet 6 none :: TT) ({ frames := 6, cells := 0, slots := 0, locals := 135 }) Λ [.ref (ya Λ 0 0), .int p1, .int p2, .int p3] (qC σ s) (qC σ s') (none) := by
  refine CM_intro (own := RX7) (by decide) rfl (Nat.le_of_ble_eq_true rfl) ?_
  intro Γ hg hl hΓ hE
  subst hg; subst hl
  show GG Γ (0, 0) (qC σ s) 0 [(0, .ref (ya (gl Γ) 0 0)), (1, .int p1), (2, .int p2), (3, .int p3)] []
  unfold f_X7_octet at hf
  refine G_aload_n hΓ 0 dX7_octet_0 rfl ?_
  refine G_iload_n hΓ 1 dX7_octet_1 rfl ?_
  obtain ⟨_, hc1, hf⟩ := bx_r hf
  refine G_callV hΓ (n := 1) (As := [.int p1]) (t := 0) (i := 0) (ci := 10) (T := TX7) (N := 14) (FS := fs7 (gl Γ) 0) (σ' := (qC σ s)) (c_X7_needFrame (gL Γ) (gl Γ) hF σ  s p1  hc1) rfl rfl kw_610 kw_612 kp_10 kw_1 kw_613 ⟨rfl, by decide, by decide, by decide +kernel⟩ (FLi hF (t := 0) (by decide)) (fun _ _ _ => rfl) rfl rfl rfl ⟨Nat.le_of_ble_eq_true rfl, Nat.le_of_ble_eq_true rfl⟩ rfl (Nat.le_of_ble_eq_true rfl) dX7_octet_2 ⟨_, rfl⟩ rfl ?_
  refine G_aload_n hΓ 0 dX7_octet_5 rfl ?_
  refine F_get hΓ (t := 0) (i := 0) (ci := 10) (C := RX7) (T := TX7) (N := 14) (fs7 (gl Γ) 0) (v := .ref (ya (gl Γ) 2 0)) (FLi hF (t := 0) (by decide)) (fun _ _ _ => rfl) rfl rfl rfl rfl inW7 1 (by decide) (TT_cons kw_292) rfl dX7_octet_6 ?_
  refine G_iload_n hΓ 1 dX7_octet_9 rfl ?_
  obtain ⟨hg3, hf⟩ := gd_some hf
  refine F_aaF hΓ (FLi hF (t := 2) (by decide)) hg3 dX7_octet_10 ?_
  refine G_astore hΓ [(4, .ref (ya (gl Γ) 13 p1.toNatClampNeg)), (0, .ref (ya (gl Γ) 0 0)), (1, .int p1), (2, .int p2), (3, .int p3)] dX7_octet_11 (by decide) rfl ?_
  refine G_iload_n hΓ 3 dX7_octet_13 rfl ?_
  refine G_if_lt hΓ (tgt := 26) dX7_octet_14 (by decide) (fun hc25 => ?_) (fun hc25 => ?_)
  · rw [if_pos hc25] at hf
    cases hf
  · rw [if_neg hc25] at hf
    refine G_iload_n hΓ 3 dX7_octet_17 rfl ?_
    refine G_aload hΓ 0 dX7_octet_18 rfl ?_
    refine F_getN hΓ (t := 13) (i := p1.toNatClampNeg) (ci := 3) (C := RX0) (T := TX0) (N := 9) (fs0 (gl Γ) p1.toNatClampNeg) (v := .int (s.1 13 p1.toNatClampNeg 7)) (FLi hF (t := 13) (vp_lt hg3)) (fun _ _ _ => rfl) rfl rfl rfl rfl inW0 7 (by decide) 30 (host := "CanBits") rfl rfl dX7_octet_20 ?_
    refine G_icmp_lt hΓ (tgt := 36) dX7_octet_23 (by decide) (fun hc24 => ?_) (fun hc24 => ?_)
    · rw [if_pos hc24] at hf
      refine G_iload_n hΓ 4 dX7_octet_36 rfl ?_
      refine G_if_lt hΓ (tgt := 47) dX7_octet_37 (by decide) (fun hc23 => ?_) (fun hc23 => ?_)
      · rw [if_pos hc23] at hf
        cases hf
      · rw [if_neg hc23] at hf
        refine G_iload_n hΓ 4 dX7_octet_40 rfl ?_
        refine G_sipush (v := 255) hΓ dX7_octet_41 (by decide) ?_
        refine G_icmp_le hΓ (tgt := 57) dX7_octet_44 (by decide) (fun hc22 => ?_) (fun hc22 => ?_)
        · rw [if_pos hc22] at hf
          refine G_aload_n hΓ 1 dX7_octet_57 rfl ?_
          refine F_get hΓ (t := 0) (i := 0) (ci := 10) (C := RX7) (T := TX7) (N := 14) (fs7 (gl Γ) 0) (v := .ref (ya (gl Γ) 1 0)) (FLi hF (t := 0) (by decide)) (fun _ _ _ => rfl) rfl rfl rfl rfl inW7 0 (by decide) (TT_cons kw_291) rfl dX7_octet_58 ?_
          refine G_aload hΓ 0 dX7_octet_61 rfl ?_
          refine F_getN hΓ (t := 13) (i := p1.toNatClampNeg) (ci := 3) (C := RX0) (T := TX0) (N := 9) (fs0 (gl Γ) p1.toNatClampNeg) (v := .int (s.1 13 p1.toNatClampNeg 4)) (FLi hF (t := 13) (vp_lt hg3)) (fun _ _ _ => rfl) rfl rfl rfl rfl inW0 4 (by decide) 25 (host := "CanBits") rfl rfl dX7_octet_63 ?_
          obtain ⟨hg4, hf⟩ := gd_some hf
          refine F_aaN hΓ (FLi hF (t := 1) (by decide)) hg4 dX7_octet_66 ?_
          refine G_astore hΓ [(5, .ref (ya (gl Γ) 3 ((s.1 13 p1.toNatClampNeg 4).toNatClampNeg))), (4, .ref (ya (gl Γ) 13 p1.toNatClampNeg)), (0, .ref (ya (gl Γ) 0 0)), (1, .int p1), (2, .int p2), (3, .int p3)] dX7_octet_67 (by decide) rfl ?_
          refine G_aload hΓ 1 dX7_octet_69 rfl ?_
          refine F_getN hΓ (t := 13) (i := p1.toNatClampNeg) (ci := 3) (C := RX0) (T := TX0) (N := 9) (fs0 (gl Γ) p1.toNatClampNeg) (v := .int (s.1 13 p1.toNatClampNeg 8)) (FLi hF (t := 13) (vp_lt hg3)) (fun _ _ _ => rfl) rfl rfl rfl rfl inW0 8 (by decide) 31 (host := "CanBits") rfl rfl dX7_octet_71 ?_
          refine G_if_ne hΓ (tgt := 87) dX7_octet_74 (by decide) (fun hc21 => ?_) (fun hc21 => ?_)
          · rw [if_neg hc21] at hf
            cases hf
          · rw [if_pos hc21] at hf
            refine G_aload hΓ 0 dX7_octet_77 rfl ?_
            refine G_aload hΓ 1 dX7_octet_79 rfl ?_
            obtain ⟨u5, hc6, hf⟩ := bd_some hf
            refine G_callV hΓ (n := 1) (As := [.ref (ya (gl Γ) 13 p1.toNatClampNeg)]) (t := 3) (i := ((s.1 13 p1.toNatClampNeg 4).toNatClampNeg)) (ci := 5) (T := TX2) (N := 10) (FS := fs2 (gl Γ) ((s.1 13 p1.toNatClampNeg 4).toNatClampNeg)) (σ' := (qC σ s)) (c_X2_isSending (gL Γ) (gl Γ) hF (qC σ s) ((s.1 13 p1.toNatClampNeg 4).toNatClampNeg) p1.toNatClampNeg (s.2.2 ((s.1 13 p1.toNatClampNeg 4).toNatClampNeg)).1 (s.2.2 ((s.1 13 p1.toNatClampNeg 4).toNatClampNeg)).2 (s.1 3 ((s.1 13 p1.toNatClampNeg 4).toNatClampNeg)) (s.2.1 4 ((s.1 13 p1.toNatClampNeg 4).toNatClampNeg)) (s.1 4 ((s.1 13 p1.toNatClampNeg 4).toNatClampNeg)) (s.1 5 ((s.1 13 p1.toNatClampNeg 4).toNatClampNeg)) (s.1 7 ((s.1 13 p1.toNatClampNeg 4).toNatClampNeg)) (s.1 8 ((s.1 13 p1.toNatClampNeg 4).toNatClampNeg)) (s.1 9 ((s.1 13 p1.toNatClampNeg 4).toNatClampNeg)) (s.1 10 ((s.1 13 p1.toNatClampNeg 4).toNatClampNeg)) (s.1 11 ((s.1 13 p1.toNatClampNeg 4).toNatClampNeg)) (s.1 12 ((s.1 13 p1.toNatClampNeg 4).toNatClampNeg))  (vp_lt hg4) (vp_lt hg3) hc6) (qNd_qC.trans (congrArg (qC σ) qNd_self)) (qNd_qC.trans (congrArg (qC σ) qNd_self)) kw_617 kw_618 kw_619 kw_2 kw_620 ⟨rfl, by decide, by decide, by decide +kernel⟩ (FLi hF (t := 3) (vp_lt hg4)) (fun _ _ _ => rfl) rfl rfl rfl ⟨Nat.le_of_ble_eq_true rfl, Nat.le_of_ble_eq_true rfl⟩ rfl (Nat.le_of_ble_eq_true rfl) dX7_octet_81 ⟨_, rfl⟩ rfl ?_
            refine G_if_eq hΓ (tgt := 97) dX7_octet_84 (by decide) (fun hc20 => ?_) (fun hc20 => ?_)
            · rw [if_pos hc20] at hf
              refine G_aload hΓ 1 dX7_octet_97 rfl ?_
              refine F_getN hΓ (t := 13) (i := p1.toNatClampNeg) (ci := 3) (C := RX0) (T := TX0) (N := 9) (fs0 (gl Γ) p1.toNatClampNeg) (v := .ref (ya (gl Γ) 14 p1.toNatClampNeg)) (FLi hF (t := 13) (vp_lt hg3)) (fun _ _ _ => rfl) rfl rfl rfl rfl inW0 0 (by decide) 20 (host := "CanBits") rfl rfl dX7_octet_99 ?_
              refine G_iload_n hΓ 4 dX7_octet_102 rfl ?_
              refine G_iload_n hΓ 5 dX7_octet_103 rfl ?_
              obtain ⟨hg7, hf⟩ := gd_some hf
              obtain ⟨s8, hv_s8, hf⟩ := lt_eq hf
              refine F_iast hΓ (t := 14) (i := p1.toNatClampNeg) (f := s.1 14 p1.toNatClampNeg) (σ' := (qC σ s8)) (FLi hF (t := 14) (vp_lt hg3)) (fun _ _ _ => rfl) rfl ((qC_s (by decide)).trans (congrArg (qC σ) hv_s8.symm)) hg7 dX7_octet_104 ?_
              refine G_aload_n hΓ 2 dX7_octet_105 rfl ?_
              refine F_get hΓ (t := 0) (i := 0) (ci := 10) (C := RX7) (T := TX7) (N := 14) (fs7 (gl Γ) 0) (v := .ref (ya (gl Γ) 16 0)) (FLi hF (t := 0) (by decide)) (fun _ _ _ => rfl) rfl rfl rfl rfl inW7 2 (by decide) (TT_cons kw_293) rfl dX7_octet_106 ?_
              refine G_aload hΓ 1 dX7_octet_109 rfl ?_
              obtain ⟨⟨u9, u10, u11, u12, u13, u14⟩, hc16, hf⟩ := bd_some hf
              try dsimp only at hf
              obtain ⟨s15, hv_s15, hf⟩ := lt_eq hf
              refine G_callV hΓ (n := 1) (As := [.ref (ya (gl Γ) 13 p1.toNatClampNeg)]) (t := 16) (i := 0) (ci := 9) (T := TX6) (N := 4) (FS := fs6 (gl Γ) 0) (σ' := (qC σ s15)) (c_X6_write (gL Γ) (gl Γ) hF (qC σ s8) p1.toNatClampNeg (s8.1 16 0) (s8.1 7 32) (s8.1 8 32) (s8.1 9 32) (s8.2.1 13 p1.toNatClampNeg) (s8.1 13 p1.toNatClampNeg) (s8.1 14 p1.toNatClampNeg) (s8.1 15 p1.toNatClampNeg)  (vp_lt hg3) hc16) (qWF_qC.trans (congrArg (qC σ) qWF_self)) (qWF_qC.trans (congrArg (qC σ) hv_s15.symm)) kw_528 kw_529 kw_530 kw_8 kw_531 ⟨rfl, by decide, by decide, by decide +kernel⟩ (FLi hF (t := 16) (by decide)) (fun _ _ _ => rfl) rfl rfl rfl ⟨Nat.le_of_ble_eq_true rfl, Nat.le_of_ble_eq_true rfl⟩ rfl (Nat.le_of_ble_eq_true rfl) dX7_octet_111 ⟨_, rfl⟩ rfl ?_
              refine G_aload hΓ 0 dX7_octet_114 rfl ?_
              refine G_aload_n hΓ 2 dX7_octet_116 rfl ?_
              refine G_aload hΓ 1 dX7_octet_117 rfl ?_
              refine F_getN hΓ (t := 13) (i := p1.toNatClampNeg) (ci := 3) (C := RX0) (T := TX0) (N := 9) (fs0 (gl Γ) p1.toNatClampNeg) (v := .int (s15.1 13 p1.toNatClampNeg 4)) (FLi hF (t := 13) (vp_lt hg3)) (fun _ _ _ => rfl) rfl rfl rfl rfl inW0 4 (by decide) 25 (host := "CanBits") rfl rfl dX7_octet_119 ?_
              obtain ⟨u17, hc18, hf⟩ := bd_some hf
              refine G_callV hΓ (n := 1) (As := [.int (s15.1 13 p1.toNatClampNeg 4)]) (t := 0) (i := 0) (ci := 10) (T := TX7) (N := 14) (FS := fs7 (gl Γ) 0) (σ' := (qC σ s15)) (c_X7_firstOf (gL Γ) (gl Γ) hF σ  s15 (s15.1 13 p1.toNatClampNeg 4)  hc18) rfl rfl kw_595 kw_597 kp_9 kw_1 kw_598 ⟨rfl, by decide, by decide, by decide +kernel⟩ (FLi hF (t := 0) (by decide)) (fun _ _ _ => rfl) rfl rfl rfl ⟨Nat.le_of_ble_eq_true rfl, Nat.le_of_ble_eq_true rfl⟩ rfl (Nat.le_of_ble_eq_true rfl) dX7_octet_122 ⟨_, rfl⟩ rfl ?_
              obtain ⟨s19, hv_s19, hf⟩ := lt_eq hf
              refine F_putRN hΓ (i := ((s.1 13 p1.toNatClampNeg 4).toNatClampNeg)) (r' := (u17, (s15.2.2 ((s.1 13 p1.toNatClampNeg 4).toNatClampNeg)).2)) (σ' := (qC σ s19)) (ty := .object "CanBits$Frame") (v := va_rf (u17.map (ya (gl Γ) 13))) (FLi hF (t := 3) (vp_lt hg4)) rfl (qC_sR.trans (congrArg (qC σ) hv_s19.symm)) inW2 7 (by decide) 17 (host := "CanBits") rfl rfl (by decide +kernel) fits_rf.1 fits_rf.2 (fun _ _ => Nat.le_of_ble_eq_true rfl) (fun _ _ => rfl) dX7_octet_125 ?_
              cases hf
              exact G_vret hΓ hE dX7_octet_128
            · rw [if_neg hc20] at hf
              cases hf
        · rw [if_neg hc22] at hf
          cases hf
    · rw [if_neg hc24] at hf
      cases hf
set_option maxHeartbeats 4000000 in
set_option maxRecDepth 100000 in
theorem t_X7_octet (l : Launch) (hst : l.stackTraces = false) (Λ : LY) (hF : FL Λ) (σ : CS)  (s : CS) (p1 : Int32) (p2 : Int32) (p3 : Int32)   {e9 : Nat} (hf : f_X7_octet s p1 p2 p3 = some (.inl e9)) : CT l yX7_octet (.code yX7_octet cX7_octet 6 none :: TT) ({ frames := 8, cells := 1, slots := 6, locals := 141 }) Λ [.ref (ya Λ 0 0), .int p1, .int p2, .int p3] (qC σ s) (xn e9) := by
  refine CT_intro hst (own := RX7) (by decide) rfl (Nat.le_of_ble_eq_true rfl) rfl rfl ?_
  intro Γ hg hl hΓ hT
  subst hg; subst hl
  show GG Γ (0, 0) (qC σ s) 0 [(0, .ref (ya (gl Γ) 0 0)), (1, .int p1), (2, .int p2), (3, .int p3)] []
  unfold f_X7_octet at hf
  refine G_aload_n hΓ 0 dX7_octet_0 rfl ?_
  refine G_iload_n hΓ 1 dX7_octet_1 rfl ?_
  rcases bx_l hf with hcx2 | ⟨_, hc1, hf⟩
  · exact G_callVX hΓ hT (n := 1) (As := [.int p1]) (t := 0) (i := 0) (ci := 10) (T := TX7) (N := 14) (FS := fs7 (gl Γ) 0) (t_X7_needFrame (gL Γ) hst (gl Γ) hF σ  s p1  hcx2) kw_610 kw_612 kp_10 kw_1 kw_613 ⟨rfl, by decide, by decide, by decide +kernel⟩ (FLi hF (t := 0) (by decide)) (fun _ _ _ => rfl) rfl rfl rfl ⟨Nat.le_of_ble_eq_true rfl, Nat.le_of_ble_eq_true rfl⟩ rfl (Nat.le_of_ble_eq_true rfl) dX7_octet_2
  refine G_callV hΓ (n := 1) (As := [.int p1]) (t := 0) (i := 0) (ci := 10) (T := TX7) (N := 14) (FS := fs7 (gl Γ) 0) (σ' := (qC σ s)) (c_X7_needFrame (gL Γ) (gl Γ) hF σ  s p1  hc1) rfl rfl kw_610 kw_612 kp_10 kw_1 kw_613 ⟨rfl, by decide, by decide, by decide +kernel⟩ (FLi hF (t := 0) (by decide)) (fun _ _ _ => rfl) rfl rfl rfl ⟨Nat.le_of_ble_eq_true rfl, Nat.le_of_ble_eq_true rfl⟩ rfl (Nat.le_of_ble_eq_true rfl) dX7_octet_2 ⟨_, rfl⟩ rfl ?_
  refine G_aload_n hΓ 0 dX7_octet_5 rfl ?_
  refine F_get hΓ (t := 0) (i := 0) (ci := 10) (C := RX7) (T := TX7) (N := 14) (fs7 (gl Γ) 0) (v := .ref (ya (gl Γ) 2 0)) (FLi hF (t := 0) (by decide)) (fun _ _ _ => rfl) rfl rfl rfl rfl inW7 1 (by decide) (TT_cons kw_292) rfl dX7_octet_6 ?_
  refine G_iload_n hΓ 1 dX7_octet_9 rfl ?_
  obtain ⟨hg3, hf⟩ := gd_some hf
  refine F_aaF hΓ (FLi hF (t := 2) (by decide)) hg3 dX7_octet_10 ?_
  refine G_astore hΓ [(4, .ref (ya (gl Γ) 13 p1.toNatClampNeg)), (0, .ref (ya (gl Γ) 0 0)), (1, .int p1), (2, .int p2), (3, .int p3)] dX7_octet_11 (by decide) rfl ?_
  refine G_iload_n hΓ 3 dX7_octet_13 rfl ?_
  refine G_if_lt hΓ (tgt := 26) dX7_octet_14 (by decide) (fun hc25 => ?_) (fun hc25 => ?_)
  · rw [if_pos hc25] at hf
    cases hf
    exact G_throw hΓ hT (names := ["java/lang/RuntimeException", "java/lang/Exception"]) (by decide) (by decide) kw_468 kw_16 8 rfl at_1 3 rfl ao_1 dX7_octet_26 dX7_octet_29 dX7_octet_30 dX7_octet_32 dX7_octet_35 (by decide) (Nat.le_of_ble_eq_true rfl)
  · rw [if_neg hc25] at hf
    refine G_iload_n hΓ 3 dX7_octet_17 rfl ?_
    refine G_aload hΓ 0 dX7_octet_18 rfl ?_
    refine F_getN hΓ (t := 13) (i := p1.toNatClampNeg) (ci := 3) (C := RX0) (T := TX0) (N := 9) (fs0 (gl Γ) p1.toNatClampNeg) (v := .int (s.1 13 p1.toNatClampNeg 7)) (FLi hF (t := 13) (vp_lt hg3)) (fun _ _ _ => rfl) rfl rfl rfl rfl inW0 7 (by decide) 30 (host := "CanBits") rfl rfl dX7_octet_20 ?_
    refine G_icmp_lt hΓ (tgt := 36) dX7_octet_23 (by decide) (fun hc24 => ?_) (fun hc24 => ?_)
    · rw [if_pos hc24] at hf
      refine G_iload_n hΓ 4 dX7_octet_36 rfl ?_
      refine G_if_lt hΓ (tgt := 47) dX7_octet_37 (by decide) (fun hc23 => ?_) (fun hc23 => ?_)
      · rw [if_pos hc23] at hf
        cases hf
        exact G_throw hΓ hT (names := ["java/lang/RuntimeException", "java/lang/Exception"]) (by decide) (by decide) kw_418 kw_15 9 rfl at_2 1 rfl ao_2 dX7_octet_47 dX7_octet_50 dX7_octet_51 dX7_octet_53 dX7_octet_56 (by decide) (Nat.le_of_ble_eq_true rfl)
      · rw [if_neg hc23] at hf
        refine G_iload_n hΓ 4 dX7_octet_40 rfl ?_
        refine G_sipush (v := 255) hΓ dX7_octet_41 (by decide) ?_
        refine G_icmp_le hΓ (tgt := 57) dX7_octet_44 (by decide) (fun hc22 => ?_) (fun hc22 => ?_)
        · rw [if_pos hc22] at hf
          refine G_aload_n hΓ 1 dX7_octet_57 rfl ?_
          refine F_get hΓ (t := 0) (i := 0) (ci := 10) (C := RX7) (T := TX7) (N := 14) (fs7 (gl Γ) 0) (v := .ref (ya (gl Γ) 1 0)) (FLi hF (t := 0) (by decide)) (fun _ _ _ => rfl) rfl rfl rfl rfl inW7 0 (by decide) (TT_cons kw_291) rfl dX7_octet_58 ?_
          refine G_aload hΓ 0 dX7_octet_61 rfl ?_
          refine F_getN hΓ (t := 13) (i := p1.toNatClampNeg) (ci := 3) (C := RX0) (T := TX0) (N := 9) (fs0 (gl Γ) p1.toNatClampNeg) (v := .int (s.1 13 p1.toNatClampNeg 4)) (FLi hF (t := 13) (vp_lt hg3)) (fun _ _ _ => rfl) rfl rfl rfl rfl inW0 4 (by decide) 25 (host := "CanBits") rfl rfl dX7_octet_63 ?_
          obtain ⟨hg4, hf⟩ := gd_some hf
          refine F_aaN hΓ (FLi hF (t := 1) (by decide)) hg4 dX7_octet_66 ?_
          refine G_astore hΓ [(5, .ref (ya (gl Γ) 3 ((s.1 13 p1.toNatClampNeg 4).toNatClampNeg))), (4, .ref (ya (gl Γ) 13 p1.toNatClampNeg)), (0, .ref (ya (gl Γ) 0 0)), (1, .int p1), (2, .int p2), (3, .int p3)] dX7_octet_67 (by decide) rfl ?_
          refine G_aload hΓ 1 dX7_octet_69 rfl ?_
          refine F_getN hΓ (t := 13) (i := p1.toNatClampNeg) (ci := 3) (C := RX0) (T := TX0) (N := 9) (fs0 (gl Γ) p1.toNatClampNeg) (v := .int (s.1 13 p1.toNatClampNeg 8)) (FLi hF (t := 13) (vp_lt hg3)) (fun _ _ _ => rfl) rfl rfl rfl rfl inW0 8 (by decide) 31 (host := "CanBits") rfl rfl dX7_octet_71 ?_
          refine G_if_ne hΓ (tgt := 87) dX7_octet_74 (by decide) (fun hc21 => ?_) (fun hc21 => ?_)
          · rw [if_neg hc21] at hf
            cases hf
            exact G_throw hΓ hT (names := ["java/lang/RuntimeException", "java/lang/Exception"]) (by decide) (by decide) kw_488 kw_18 10 rfl at_3 4 rfl ao_3 dX7_octet_87 dX7_octet_90 dX7_octet_91 dX7_octet_93 dX7_octet_96 (by decide) (Nat.le_of_ble_eq_true rfl)
          · rw [if_pos hc21] at hf
            refine G_aload hΓ 0 dX7_octet_77 rfl ?_
            refine G_aload hΓ 1 dX7_octet_79 rfl ?_
            obtain ⟨u5, hc6, hf⟩ := bd_some hf
            refine G_callV hΓ (n := 1) (As := [.ref (ya (gl Γ) 13 p1.toNatClampNeg)]) (t := 3) (i := ((s.1 13 p1.toNatClampNeg 4).toNatClampNeg)) (ci := 5) (T := TX2) (N := 10) (FS := fs2 (gl Γ) ((s.1 13 p1.toNatClampNeg 4).toNatClampNeg)) (σ' := (qC σ s)) (c_X2_isSending (gL Γ) (gl Γ) hF (qC σ s) ((s.1 13 p1.toNatClampNeg 4).toNatClampNeg) p1.toNatClampNeg (s.2.2 ((s.1 13 p1.toNatClampNeg 4).toNatClampNeg)).1 (s.2.2 ((s.1 13 p1.toNatClampNeg 4).toNatClampNeg)).2 (s.1 3 ((s.1 13 p1.toNatClampNeg 4).toNatClampNeg)) (s.2.1 4 ((s.1 13 p1.toNatClampNeg 4).toNatClampNeg)) (s.1 4 ((s.1 13 p1.toNatClampNeg 4).toNatClampNeg)) (s.1 5 ((s.1 13 p1.toNatClampNeg 4).toNatClampNeg)) (s.1 7 ((s.1 13 p1.toNatClampNeg 4).toNatClampNeg)) (s.1 8 ((s.1 13 p1.toNatClampNeg 4).toNatClampNeg)) (s.1 9 ((s.1 13 p1.toNatClampNeg 4).toNatClampNeg)) (s.1 10 ((s.1 13 p1.toNatClampNeg 4).toNatClampNeg)) (s.1 11 ((s.1 13 p1.toNatClampNeg 4).toNatClampNeg)) (s.1 12 ((s.1 13 p1.toNatClampNeg 4).toNatClampNeg))  (vp_lt hg4) (vp_lt hg3) hc6) (qNd_qC.trans (congrArg (qC σ) qNd_self)) (qNd_qC.trans (congrArg (qC σ) qNd_self)) kw_617 kw_618 kw_619 kw_2 kw_620 ⟨rfl, by decide, by decide, by decide +kernel⟩ (FLi hF (t := 3) (vp_lt hg4)) (fun _ _ _ => rfl) rfl rfl rfl ⟨Nat.le_of_ble_eq_true rfl, Nat.le_of_ble_eq_true rfl⟩ rfl (Nat.le_of_ble_eq_true rfl) dX7_octet_81 ⟨_, rfl⟩ rfl ?_
            refine G_if_eq hΓ (tgt := 97) dX7_octet_84 (by decide) (fun hc20 => ?_) (fun hc20 => ?_)
            · rw [if_pos hc20] at hf
              refine G_aload hΓ 1 dX7_octet_97 rfl ?_
              refine F_getN hΓ (t := 13) (i := p1.toNatClampNeg) (ci := 3) (C := RX0) (T := TX0) (N := 9) (fs0 (gl Γ) p1.toNatClampNeg) (v := .ref (ya (gl Γ) 14 p1.toNatClampNeg)) (FLi hF (t := 13) (vp_lt hg3)) (fun _ _ _ => rfl) rfl rfl rfl rfl inW0 0 (by decide) 20 (host := "CanBits") rfl rfl dX7_octet_99 ?_
              refine G_iload_n hΓ 4 dX7_octet_102 rfl ?_
              refine G_iload_n hΓ 5 dX7_octet_103 rfl ?_
              obtain ⟨hg7, hf⟩ := gd_some hf
              obtain ⟨s8, hv_s8, hf⟩ := lt_eq hf
              refine F_iast hΓ (t := 14) (i := p1.toNatClampNeg) (f := s.1 14 p1.toNatClampNeg) (σ' := (qC σ s8)) (FLi hF (t := 14) (vp_lt hg3)) (fun _ _ _ => rfl) rfl ((qC_s (by decide)).trans (congrArg (qC σ) hv_s8.symm)) hg7 dX7_octet_104 ?_
              refine G_aload_n hΓ 2 dX7_octet_105 rfl ?_
              refine F_get hΓ (t := 0) (i := 0) (ci := 10) (C := RX7) (T := TX7) (N := 14) (fs7 (gl Γ) 0) (v := .ref (ya (gl Γ) 16 0)) (FLi hF (t := 0) (by decide)) (fun _ _ _ => rfl) rfl rfl rfl rfl inW7 2 (by decide) (TT_cons kw_293) rfl dX7_octet_106 ?_
              refine G_aload hΓ 1 dX7_octet_109 rfl ?_
              obtain ⟨⟨u9, u10, u11, u12, u13, u14⟩, hc16, hf⟩ := bd_some hf
              try dsimp only at hf
              obtain ⟨s15, hv_s15, hf⟩ := lt_eq hf
              refine G_callV hΓ (n := 1) (As := [.ref (ya (gl Γ) 13 p1.toNatClampNeg)]) (t := 16) (i := 0) (ci := 9) (T := TX6) (N := 4) (FS := fs6 (gl Γ) 0) (σ' := (qC σ s15)) (c_X6_write (gL Γ) (gl Γ) hF (qC σ s8) p1.toNatClampNeg (s8.1 16 0) (s8.1 7 32) (s8.1 8 32) (s8.1 9 32) (s8.2.1 13 p1.toNatClampNeg) (s8.1 13 p1.toNatClampNeg) (s8.1 14 p1.toNatClampNeg) (s8.1 15 p1.toNatClampNeg)  (vp_lt hg3) hc16) (qWF_qC.trans (congrArg (qC σ) qWF_self)) (qWF_qC.trans (congrArg (qC σ) hv_s15.symm)) kw_528 kw_529 kw_530 kw_8 kw_531 ⟨rfl, by decide, by decide, by decide +kernel⟩ (FLi hF (t := 16) (by decide)) (fun _ _ _ => rfl) rfl rfl rfl ⟨Nat.le_of_ble_eq_true rfl, Nat.le_of_ble_eq_true rfl⟩ rfl (Nat.le_of_ble_eq_true rfl) dX7_octet_111 ⟨_, rfl⟩ rfl ?_
              refine G_aload hΓ 0 dX7_octet_114 rfl ?_
              refine G_aload_n hΓ 2 dX7_octet_116 rfl ?_
              refine G_aload hΓ 1 dX7_octet_117 rfl ?_
              refine F_getN hΓ (t := 13) (i := p1.toNatClampNeg) (ci := 3) (C := RX0) (T := TX0) (N := 9) (fs0 (gl Γ) p1.toNatClampNeg) (v := .int (s15.1 13 p1.toNatClampNeg 4)) (FLi hF (t := 13) (vp_lt hg3)) (fun _ _ _ => rfl) rfl rfl rfl rfl inW0 4 (by decide) 25 (host := "CanBits") rfl rfl dX7_octet_119 ?_
              obtain ⟨u17, hc18, hf⟩ := bd_some hf
              refine G_callV hΓ (n := 1) (As := [.int (s15.1 13 p1.toNatClampNeg 4)]) (t := 0) (i := 0) (ci := 10) (T := TX7) (N := 14) (FS := fs7 (gl Γ) 0) (σ' := (qC σ s15)) (c_X7_firstOf (gL Γ) (gl Γ) hF σ  s15 (s15.1 13 p1.toNatClampNeg 4)  hc18) rfl rfl kw_595 kw_597 kp_9 kw_1 kw_598 ⟨rfl, by decide, by decide, by decide +kernel⟩ (FLi hF (t := 0) (by decide)) (fun _ _ _ => rfl) rfl rfl rfl ⟨Nat.le_of_ble_eq_true rfl, Nat.le_of_ble_eq_true rfl⟩ rfl (Nat.le_of_ble_eq_true rfl) dX7_octet_122 ⟨_, rfl⟩ rfl ?_
              obtain ⟨s19, hv_s19, hf⟩ := lt_eq hf
              refine F_putRN hΓ (i := ((s.1 13 p1.toNatClampNeg 4).toNatClampNeg)) (r' := (u17, (s15.2.2 ((s.1 13 p1.toNatClampNeg 4).toNatClampNeg)).2)) (σ' := (qC σ s19)) (ty := .object "CanBits$Frame") (v := va_rf (u17.map (ya (gl Γ) 13))) (FLi hF (t := 3) (vp_lt hg4)) rfl (qC_sR.trans (congrArg (qC σ) hv_s19.symm)) inW2 7 (by decide) 17 (host := "CanBits") rfl rfl (by decide +kernel) fits_rf.1 fits_rf.2 (fun _ _ => Nat.le_of_ble_eq_true rfl) (fun _ _ => rfl) dX7_octet_125 ?_
              cases hf
            · rw [if_neg hc20] at hf
              cases hf
              exact G_throw hΓ hT (names := ["java/lang/RuntimeException", "java/lang/Exception"]) (by decide) (by decide) kw_488 kw_18 10 rfl at_3 4 rfl ao_3 dX7_octet_87 dX7_octet_90 dX7_octet_91 dX7_octet_93 dX7_octet_96 (by decide) (Nat.le_of_ble_eq_true rfl)
        · rw [if_neg hc22] at hf
          cases hf
          exact G_throw hΓ hT (names := ["java/lang/RuntimeException", "java/lang/Exception"]) (by decide) (by decide) kw_418 kw_15 9 rfl at_2 1 rfl ao_2 dX7_octet_47 dX7_octet_50 dX7_octet_51 dX7_octet_53 dX7_octet_56 (by decide) (Nat.le_of_ble_eq_true rfl)
    · rw [if_neg hc24] at hf
      cases hf
      exact G_throw hΓ hT (names := ["java/lang/RuntimeException", "java/lang/Exception"]) (by decide) (by decide) kw_468 kw_16 8 rfl at_1 3 rfl ao_1 dX7_octet_26 dX7_octet_29 dX7_octet_30 dX7_octet_32 dX7_octet_35 (by decide) (Nat.le_of_ble_eq_true rfl)
theorem dX7_check_0 : decode cX7_check 0 = .ok (.iload_n 1, 1) := by decide +kernel
theorem dX7_check_1 : decode cX7_check 1 = .ok (.ifCond .lt 8, 3) := by decide +kernel
theorem dX7_check_4 : decode cX7_check 4 = .ok (.iload_n 1, 1) := by decide +kernel
theorem dX7_check_5 : decode cX7_check 5 = .ok (.iconst 2, 1) := by decide +kernel
theorem dX7_check_6 : decode cX7_check 6 = .ok (.if_icmp .le 13, 3) := by decide +kernel
theorem dX7_check_9 : decode cX7_check 9 = .ok (.new 52, 3) := by decide +kernel
theorem dX7_check_12 : decode cX7_check 12 = .ok (.dup, 1) := by decide +kernel
theorem dX7_check_13 : decode cX7_check 13 = .ok (.ldc 194, 2) := by decide +kernel
theorem dX7_check_15 : decode cX7_check 15 = .ok (.invokespecial 56, 3) := by decide +kernel
theorem dX7_check_18 : decode cX7_check 18 = .ok (.athrow, 1) := by decide +kernel
theorem dX7_check_19 : decode cX7_check 19 = .ok (.iload_n 2, 1) := by decide +kernel
theorem dX7_check_20 : decode cX7_check 20 = .ok (.ifCond .lt 16, 3) := by decide +kernel
theorem dX7_check_23 : decode cX7_check 23 = .ok (.iload_n 2, 1) := by decide +kernel
theorem dX7_check_24 : decode cX7_check 24 = .ok (.iload_n 3, 1) := by decide +kernel
theorem dX7_check_25 : decode cX7_check 25 = .ok (.if_icmp .gt 11, 3) := by decide +kernel
theorem dX7_check_28 : decode cX7_check 28 = .ok (.iload_n 3, 1) := by decide +kernel
theorem dX7_check_29 : decode cX7_check 29 = .ok (.aload_n 0, 1) := by decide +kernel
theorem dX7_check_30 : decode cX7_check 30 = .ok (.getfield 155, 3) := by decide +kernel
theorem dX7_check_33 : decode cX7_check 33 = .ok (.if_icmp .le 13, 3) := by decide +kernel
theorem dX7_check_36 : decode cX7_check 36 = .ok (.new 123, 3) := by decide +kernel
theorem dX7_check_39 : decode cX7_check 39 = .ok (.dup, 1) := by decide +kernel
theorem dX7_check_40 : decode cX7_check 40 = .ok (.ldc 196, 2) := by decide +kernel
theorem dX7_check_42 : decode cX7_check 42 = .ok (.invokespecial 127, 3) := by decide +kernel
theorem dX7_check_45 : decode cX7_check 45 = .ok (.athrow, 1) := by decide +kernel
theorem dX7_check_46 : decode cX7_check 46 = .ok (.aload_n 0, 1) := by decide +kernel
theorem dX7_check_47 : decode cX7_check 47 = .ok (.getfield 26, 3) := by decide +kernel
theorem dX7_check_50 : decode cX7_check 50 = .ok (.getfield 198, 3) := by decide +kernel
theorem dX7_check_53 : decode cX7_check 53 = .ok (.astore 4, 2) := by decide +kernel
theorem dX7_check_55 : decode cX7_check 55 = .ok (.aload 4, 2) := by decide +kernel
theorem dX7_check_57 : decode cX7_check 57 = .ok (.invokevirtual 202, 3) := by decide +kernel
theorem dX7_check_60 : decode cX7_check 60 = .ok (.iload_n 1, 1) := by decide +kernel
theorem dX7_check_61 : decode cX7_check 61 = .ok (.ifCond .ne 11, 3) := by decide +kernel
theorem dX7_check_64 : decode cX7_check 64 = .ok (.aload 4, 2) := by decide +kernel
theorem dX7_check_66 : decode cX7_check 66 = .ok (.getfield 206, 3) := by decide +kernel
theorem dX7_check_69 : decode cX7_check 69 = .ok (.goto 21, 3) := by decide +kernel
theorem dX7_check_72 : decode cX7_check 72 = .ok (.iload_n 1, 1) := by decide +kernel
theorem dX7_check_73 : decode cX7_check 73 = .ok (.iconst 1, 1) := by decide +kernel
theorem dX7_check_74 : decode cX7_check 74 = .ok (.if_icmp .ne 11, 3) := by decide +kernel
theorem dX7_check_77 : decode cX7_check 77 = .ok (.aload 4, 2) := by decide +kernel
theorem dX7_check_79 : decode cX7_check 79 = .ok (.getfield 210, 3) := by decide +kernel
theorem dX7_check_82 : decode cX7_check 82 = .ok (.goto 8, 3) := by decide +kernel
theorem dX7_check_85 : decode cX7_check 85 = .ok (.aload 4, 2) := by decide +kernel
theorem dX7_check_87 : decode cX7_check 87 = .ok (.getfield 213, 3) := by decide +kernel
theorem dX7_check_90 : decode cX7_check 90 = .ok (.astore 5, 2) := by decide +kernel
theorem dX7_check_92 : decode cX7_check 92 = .ok (.iload_n 2, 1) := by decide +kernel
theorem dX7_check_93 : decode cX7_check 93 = .ok (.istore 6, 2) := by decide +kernel
theorem dX7_check_95 : decode cX7_check 95 = .ok (.iload 6, 2) := by decide +kernel
theorem dX7_check_97 : decode cX7_check 97 = .ok (.iload_n 3, 1) := by decide +kernel
theorem dX7_check_98 : decode cX7_check 98 = .ok (.if_icmp .ge 21, 3) := by decide +kernel
theorem dX7_check_101 : decode cX7_check 101 = .ok (.aload 5, 2) := by decide +kernel
theorem dX7_check_103 : decode cX7_check 103 = .ok (.aload_n 0, 1) := by decide +kernel
theorem dX7_check_104 : decode cX7_check 104 = .ok (.getfield 30, 3) := by decide +kernel
theorem dX7_check_107 : decode cX7_check 107 = .ok (.iload 6, 2) := by decide +kernel
theorem dX7_check_109 : decode cX7_check 109 = .ok (.baload, 1) := by decide +kernel
theorem dX7_check_110 : decode cX7_check 110 = .ok (.invokevirtual 216, 3) := by decide +kernel
theorem dX7_check_113 : decode cX7_check 113 = .ok (.iinc 6 1, 3) := by decide +kernel
theorem dX7_check_116 : decode cX7_check 116 = .ok (.goto (-21), 3) := by decide +kernel
theorem dX7_check_119 : decode cX7_check 119 = .ok (.aload 5, 2) := by decide +kernel
theorem dX7_check_121 : decode cX7_check 121 = .ok (.getfield 221, 3) := by decide +kernel
theorem dX7_check_124 : decode cX7_check 124 = .ok (.ireturn, 1) := by decide +kernel
noncomputable def L_X7_check_95 (p3 : Int32) (k10 : CS × Int32 → Option (Nat ⊕ (CS × Int32))) : Nat → CS → Int32 → Option (Nat ⊕ (CS × Int32))
  | 0, _, _ => none
  | nn + 1, v8, v9 => if p3 ≤ v9 then k10 (v8, v9) else gd (vp_in v9 20000) (bd (f_X3_move (v8.1 9 32) (v8.1 17 0 v9.toNatClampNeg)) (fun u13 => lt (α := CS) (sZ v8 9 32 u13) (fun s14 => L_X7_check_95 p3 k10 nn s14 (v9 + 1))))
noncomputable def L_X7_check_95_2 (p3 : Int32) (k20 : CS × Int32 → Option (Nat ⊕ (CS × Int32))) : Nat → CS → Int32 → Option (Nat ⊕ (CS × Int32))
  | 0, _, _ => none
  | nn + 1, v18, v19 => if p3 ≤ v19 then k20 (v18, v19) else gd (vp_in v19 20000) (bd (f_X3_move (v18.1 8 32) (v18.1 17 0 v19.toNatClampNeg)) (fun u23 => lt (α := CS) (sZ v18 8 32 u23) (fun s24 => L_X7_check_95_2 p3 k20 nn s24 (v19 + 1))))
noncomputable def L_X7_check_95_3 (p3 : Int32) (k31 : CS × Int32 → Option (Nat ⊕ (CS × Int32))) : Nat → CS → Int32 → Option (Nat ⊕ (CS × Int32))
  | 0, _, _ => none
  | nn + 1, v29, v30 => if p3 ≤ v30 then k31 (v29, v30) else gd (vp_in v30 20000) (bd (f_X3_move (v29.1 7 32) (v29.1 17 0 v30.toNatClampNeg)) (fun u34 => lt (α := CS) (sZ v29 7 32 u34) (fun s35 => L_X7_check_95_3 p3 k31 nn s35 (v30 + 1))))
noncomputable def f_X7_check  (s : CS) (p1 : Int32) (p2 : Int32) (p3 : Int32) : Option (Nat ⊕ (CS × Int32)) := if p1 < 0 then some (.inl 2) else if p1 ≤ 2 then if p2 < 0 then some (.inl 1) else if p3 < p2 then some (.inl 1) else if p3 ≤ (s.1 0 0 13) then bd (f_X4_begin (s.1 7 32) (s.1 8 32) (s.1 9 32)) (fun ⟨u1, u2, u3⟩ => lt (α := CS) (qSum s 32 u1 u2 u3) (fun s4 => if p1 = 0 then jn (α := CS × Int32) (fun ⟨v29, v30⟩ => some (.inr (v29, v29.1 7 32 3))) (fun k31 => L_X7_check_95_3 p3 k31 fu s4 p2) else if p1 = 1 then jn (α := CS × Int32) (fun ⟨v18, v19⟩ => some (.inr (v18, v18.1 8 32 3))) (fun k20 => L_X7_check_95_2 p3 k20 fu s4 p2) else jn (α := CS × Int32) (fun ⟨v8, v9⟩ => some (.inr (v8, v8.1 9 32 3))) (fun k10 => L_X7_check_95 p3 k10 fu s4 p2))) else some (.inl 1) else some (.inl 2)
set_option maxHeartbeats 4000000 in
set_option maxRecDepth 100000 in
theorem c_X7_check (l : Launch) (Λ : LY) (hF : FL Λ) (σ : CS)  (s : CS) (p1 : Int32) (p2 : Int32) (p3 : Int32)   {s' : CS} {r9 : Int32} (hf : f_X7_check s p1 p2 p3 = some (.inr (s', r9))) : CM l yX7_check (.code yX7_check cX7_check 7 (some .int) :: TT) ({ frames := 2, cells := 0, slots := 0, locals := 40 }) Λ [.ref (ya Λ 0 0), .int p1, .int p2, .int p3] (qC σ s) (qC σ s') (some (.int r9)) := by
  refine CM_intro (own := RX7) (by decide) rfl (Nat.le_of_ble_eq_true rfl) ?_
  intro Γ hg hl hΓ hE
  subst hg; subst hl
  show GG Γ (0, 0) (qC σ s) 0 [(0, .ref (ya (gl Γ) 0 0)), (1, .int p1), (2, .int p2), (3, .int p3)] []
  unfold f_X7_check at hf
  refine G_iload_n hΓ 1 dX7_check_0 rfl ?_
  refine G_if_lt hΓ (tgt := 9) dX7_check_1 (by decide) (fun hc44 => ?_) (fun hc44 => ?_)
  · rw [if_pos hc44] at hf
    cases hf
  · rw [if_neg hc44] at hf
    refine G_iload_n hΓ 1 dX7_check_4 rfl ?_
    refine G_iconst (v := 2) hΓ dX7_check_5 (by decide) ?_
    refine G_icmp_le hΓ (tgt := 19) dX7_check_6 (by decide) (fun hc43 => ?_) (fun hc43 => ?_)
    · rw [if_pos hc43] at hf
      refine G_iload_n hΓ 2 dX7_check_19 rfl ?_
      refine G_if_lt hΓ (tgt := 36) dX7_check_20 (by decide) (fun hc42 => ?_) (fun hc42 => ?_)
      · rw [if_pos hc42] at hf
        cases hf
      · rw [if_neg hc42] at hf
        refine G_iload_n hΓ 2 dX7_check_23 rfl ?_
        refine G_iload_n hΓ 3 dX7_check_24 rfl ?_
        refine G_icmp_gt hΓ (tgt := 36) dX7_check_25 (by decide) (fun hc41 => ?_) (fun hc41 => ?_)
        · rw [if_pos hc41] at hf
          cases hf
        · rw [if_neg hc41] at hf
          refine G_iload_n hΓ 3 dX7_check_28 rfl ?_
          refine G_aload_n hΓ 0 dX7_check_29 rfl ?_
          refine F_get hΓ (t := 0) (i := 0) (ci := 10) (C := RX7) (T := TX7) (N := 14) (fs7 (gl Γ) 0) (v := .int (s.1 0 0 13)) (FLi hF (t := 0) (by decide)) (fun _ _ _ => rfl) rfl rfl rfl rfl inW7 13 (by decide) (TT_cons kw_304) rfl dX7_check_30 ?_
          refine G_icmp_le hΓ (tgt := 46) dX7_check_33 (by decide) (fun hc40 => ?_) (fun hc40 => ?_)
          · rw [if_pos hc40] at hf
            refine G_aload_n hΓ 0 dX7_check_46 rfl ?_
            refine F_get hΓ (t := 0) (i := 0) (ci := 10) (C := RX7) (T := TX7) (N := 14) (fs7 (gl Γ) 0) (v := .ref (ya (gl Γ) 16 0)) (FLi hF (t := 0) (by decide)) (fun _ _ _ => rfl) rfl rfl rfl rfl inW7 2 (by decide) (TT_cons kw_293) rfl dX7_check_47 ?_
            refine F_getN hΓ (t := 16) (i := 0) (ci := 9) (C := RX6) (T := TX6) (N := 4) (fs6 (gl Γ) 0) (v := .ref (ya (gl Γ) 6 32)) (FLi hF (t := 16) (by decide)) (fun _ _ _ => rfl) rfl rfl rfl rfl inW6 0 (by decide) 32 (host := "CanBits") rfl rfl dX7_check_50 ?_
            refine G_astore hΓ [(4, .ref (ya (gl Γ) 6 32)), (0, .ref (ya (gl Γ) 0 0)), (1, .int p1), (2, .int p2), (3, .int p3)] dX7_check_53 (by decide) rfl ?_
            refine G_aload hΓ 0 dX7_check_55 rfl ?_
            obtain ⟨⟨u1, u2, u3⟩, hc5, hf⟩ := bd_some hf
            try dsimp only at hf
            obtain ⟨s4, hv_s4, hf⟩ := lt_eq hf
            refine G_callV hΓ (n := 0) (As := []) (t := 6) (i := 32) (ci := 7) (T := TX4) (N := 3) (FS := fs4 (gl Γ) 32) (σ' := (qC σ s4)) (c_X4_begin (gL Γ) (gl Γ) hF (qC σ s) 32 (s.1 7 32) (s.1 8 32) (s.1 9 32)  (by decide) hc5) (qSum_qC.trans (congrArg (qC σ) qSum_self)) (qSum_qC.trans (congrArg (qC σ) hv_s4.symm)) kw_809 kw_537 kw_538 kw_4 kw_539 ⟨rfl, by decide, by decide, by decide +kernel⟩ (FLi hF (t := 6) (by decide)) (fun _ _ _ => rfl) rfl rfl rfl ⟨Nat.le_of_ble_eq_true rfl, Nat.le_of_ble_eq_true rfl⟩ rfl (Nat.le_of_ble_eq_true rfl) dX7_check_57 ⟨_, rfl⟩ rfl ?_
            refine G_iload_n hΓ 2 dX7_check_60 rfl ?_
            refine G_if_ne hΓ (tgt := 72) dX7_check_61 (by decide) (fun hc39 => ?_) (fun hc39 => ?_)
            · rw [if_neg hc39] at hf
              refine G_iload_n hΓ 2 dX7_check_72 rfl ?_
              refine G_iconst (v := 1) hΓ dX7_check_73 (by decide) ?_
              refine G_icmp_ne hΓ (tgt := 85) dX7_check_74 (by decide) (fun hc28 => ?_) (fun hc28 => ?_)
              · rw [if_neg hc28] at hf
                refine G_aload hΓ 0 dX7_check_85 rfl ?_
                refine F_getN hΓ (t := 6) (i := 32) (ci := 7) (C := RX4) (T := TX4) (N := 3) (fs4 (gl Γ) 32) (v := .ref (ya (gl Γ) 9 32)) (FLi hF (t := 6) (by decide)) (fun _ _ _ => rfl) rfl rfl rfl rfl inW4 2 (by decide) 8 (host := "CanBits") rfl rfl dX7_check_87 ?_
                refine G_astore hΓ [(5, .ref (ya (gl Γ) 9 32)), (4, .ref (ya (gl Γ) 6 32)), (0, .ref (ya (gl Γ) 0 0)), (1, .int p1), (2, .int p2), (3, .int p3)] dX7_check_90 (by decide) rfl ?_
                refine G_iload_n hΓ 4 dX7_check_92 rfl ?_
                refine G_istore hΓ [(6, .int p2), (5, .ref (ya (gl Γ) 9 32)), (4, .ref (ya (gl Γ) 6 32)), (0, .ref (ya (gl Γ) 0 0)), (1, .int p1), (2, .int p2), (3, .int p3)] dX7_check_93 (by decide) rfl ?_
                obtain ⟨k10, hk_k10, hf⟩ := jn_eq hf
                try dsimp only at hf
                have K11 : ∀ v8 v9, k10 (v8, v9) = some (.inr (s', r9)) → GG Γ (0, 0) (qC σ v8) 119 [(6, .int v9), (5, .ref (ya (gl Γ) 9 32)), (4, .ref (ya (gl Γ) 6 32)), (0, .ref (ya (gl Γ) 0 0)), (1, .int p1), (2, .int p2), (3, .int p3)] [] := by
                  intro v8 v9 hf
                  subst hk_k10
                  try dsimp only at hf
                  refine G_aload hΓ 1 dX7_check_119 rfl ?_
                  refine F_getN hΓ (t := 9) (i := 32) (ci := 6) (C := RX3) (T := TX3) (N := 4) (fs3 (gl Γ) 32) (v := .int (v8.1 9 32 3)) (FLi hF (t := 9) (by decide)) (fun _ _ _ => rfl) rfl rfl rfl rfl inW3 3 (by decide) 2 (host := "CanBits") rfl rfl dX7_check_121 ?_
                  cases hf
                  exact G_iret hΓ hE dX7_check_124
                clear hk_k10
                have loop17 : ∀ (nn : Nat) v8 v9, L_X7_check_95 p3 k10 nn v8 v9 = some (.inr (s', r9)) → GG Γ (0, 0) (qC σ v8) 95 [(6, .int v9), (5, .ref (ya (gl Γ) 9 32)), (4, .ref (ya (gl Γ) 6 32)), (0, .ref (ya (gl Γ) 0 0)), (1, .int p1), (2, .int p2), (3, .int p3)] [] := by
                  intro nn
                  induction nn with
                  | zero => intro v8 v9 hf; cases hf
                  | succ nn ih =>
                    intro v8 v9 hf
                    rw [L_X7_check_95] at hf
                    refine G_iload hΓ 0 dX7_check_95 rfl ?_
                    refine G_iload_n hΓ 6 dX7_check_97 rfl ?_
                    refine G_icmp_ge hΓ (tgt := 119) dX7_check_98 (by decide) (fun hc16 => ?_) (fun hc16 => ?_)
                    · rw [if_pos hc16] at hf
                      exact (K11 _ _ hf)
                    · rw [if_neg hc16] at hf
                      refine G_aload hΓ 1 dX7_check_101 rfl ?_
                      refine G_aload_n hΓ 3 dX7_check_103 rfl ?_
                      refine F_get hΓ (t := 0) (i := 0) (ci := 10) (C := RX7) (T := TX7) (N := 14) (fs7 (gl Γ) 0) (v := .ref (ya (gl Γ) 17 0)) (FLi hF (t := 0) (by decide)) (fun _ _ _ => rfl) rfl rfl rfl rfl inW7 3 (by decide) (TT_cons kw_294) rfl dX7_check_104 ?_
                      refine G_iload hΓ 0 dX7_check_107 rfl ?_
                      obtain ⟨hg12, hf⟩ := gd_some hf
                      refine F_ald (G_bald hΓ) (t := 17) (i := 0) (f := v8.1 17 0) (FLi hF (t := 17) (by decide)) (fun _ _ _ => rfl) rfl hg12 dX7_check_109 ?_
                      obtain ⟨u13, hc15, hf⟩ := bd_some hf
                      obtain ⟨s14, hv_s14, hf⟩ := lt_eq hf
                      refine G_callV hΓ (n := 1) (As := [.int (v8.1 17 0 v9.toNatClampNeg)]) (t := 9) (i := 32) (ci := 6) (T := TX3) (N := 4) (FS := fs3 (gl Γ) 32) (σ' := (qC σ s14)) (c_X3_move (gL Γ) (gl Γ) hF (qC σ v8) 9 32 (v8.1 9 32) (v8.1 17 0 v9.toNatClampNeg) (by decide) (by decide) hc15) ((qC_s (by decide)).trans (congrArg (qC σ) sZ_self)) ((qC_s (by decide)).trans (congrArg (qC σ) hv_s14.symm)) kw_810 kw_560 kw_561 kw_5 kw_562 ⟨rfl, by decide, by decide, by decide +kernel⟩ (FLi hF (t := 9) (by decide)) (fun _ _ _ => rfl) rfl rfl rfl ⟨Nat.le_of_ble_eq_true rfl, Nat.le_of_ble_eq_true rfl⟩ rfl (Nat.le_of_ble_eq_true rfl) dX7_check_110 ⟨_, rfl⟩ rfl ?_
                      refine G_iinc hΓ 0 [(6, .int (v9 + 1)), (5, .ref (ya (gl Γ) 9 32)), (4, .ref (ya (gl Γ) 6 32)), (0, .ref (ya (gl Γ) 0 0)), (1, .int p1), (2, .int p2), (3, .int p3)] dX7_check_113 rfl rfl (by decide) rfl ?_
                      refine G_goto hΓ (tgt := 95) dX7_check_116 (by decide) ?_
                      exact (ih _ _ hf)
                exact loop17 _ _ _ hf
              · rw [if_pos hc28] at hf
                refine G_aload hΓ 0 dX7_check_77 rfl ?_
                refine F_getN hΓ (t := 6) (i := 32) (ci := 7) (C := RX4) (T := TX4) (N := 3) (fs4 (gl Γ) 32) (v := .ref (ya (gl Γ) 8 32)) (FLi hF (t := 6) (by decide)) (fun _ _ _ => rfl) rfl rfl rfl rfl inW4 1 (by decide) 7 (host := "CanBits") rfl rfl dX7_check_79 ?_
                refine G_goto hΓ (tgt := 90) dX7_check_82 (by decide) ?_
                refine G_astore hΓ [(5, .ref (ya (gl Γ) 8 32)), (4, .ref (ya (gl Γ) 6 32)), (0, .ref (ya (gl Γ) 0 0)), (1, .int p1), (2, .int p2), (3, .int p3)] dX7_check_90 (by decide) rfl ?_
                refine G_iload_n hΓ 4 dX7_check_92 rfl ?_
                refine G_istore hΓ [(6, .int p2), (5, .ref (ya (gl Γ) 8 32)), (4, .ref (ya (gl Γ) 6 32)), (0, .ref (ya (gl Γ) 0 0)), (1, .int p1), (2, .int p2), (3, .int p3)] dX7_check_93 (by decide) rfl ?_
                obtain ⟨k20, hk_k20, hf⟩ := jn_eq hf
                try dsimp only at hf
                have K21 : ∀ v18 v19, k20 (v18, v19) = some (.inr (s', r9)) → GG Γ (0, 0) (qC σ v18) 119 [(6, .int v19), (5, .ref (ya (gl Γ) 8 32)), (4, .ref (ya (gl Γ) 6 32)), (0, .ref (ya (gl Γ) 0 0)), (1, .int p1), (2, .int p2), (3, .int p3)] [] := by
                  intro v18 v19 hf
                  subst hk_k20
                  try dsimp only at hf
                  refine G_aload hΓ 1 dX7_check_119 rfl ?_
                  refine F_getN hΓ (t := 8) (i := 32) (ci := 6) (C := RX3) (T := TX3) (N := 4) (fs3 (gl Γ) 32) (v := .int (v18.1 8 32 3)) (FLi hF (t := 8) (by decide)) (fun _ _ _ => rfl) rfl rfl rfl rfl inW3 3 (by decide) 2 (host := "CanBits") rfl rfl dX7_check_121 ?_
                  cases hf
                  exact G_iret hΓ hE dX7_check_124
                clear hk_k20
                have loop27 : ∀ (nn : Nat) v18 v19, L_X7_check_95_2 p3 k20 nn v18 v19 = some (.inr (s', r9)) → GG Γ (0, 0) (qC σ v18) 95 [(6, .int v19), (5, .ref (ya (gl Γ) 8 32)), (4, .ref (ya (gl Γ) 6 32)), (0, .ref (ya (gl Γ) 0 0)), (1, .int p1), (2, .int p2), (3, .int p3)] [] := by
                  intro nn
                  induction nn with
                  | zero => intro v18 v19 hf; cases hf
                  | succ nn ih =>
                    intro v18 v19 hf
                    rw [L_X7_check_95_2] at hf
                    refine G_iload hΓ 0 dX7_check_95 rfl ?_
                    refine G_iload_n hΓ 6 dX7_check_97 rfl ?_
                    refine G_icmp_ge hΓ (tgt := 119) dX7_check_98 (by decide) (fun hc26 => ?_) (fun hc26 => ?_)
                    · rw [if_pos hc26] at hf
                      exact (K21 _ _ hf)
                    · rw [if_neg hc26] at hf
                      refine G_aload hΓ 1 dX7_check_101 rfl ?_
                      refine G_aload_n hΓ 3 dX7_check_103 rfl ?_
                      refine F_get hΓ (t := 0) (i := 0) (ci := 10) (C := RX7) (T := TX7) (N := 14) (fs7 (gl Γ) 0) (v := .ref (ya (gl Γ) 17 0)) (FLi hF (t := 0) (by decide)) (fun _ _ _ => rfl) rfl rfl rfl rfl inW7 3 (by decide) (TT_cons kw_294) rfl dX7_check_104 ?_
                      refine G_iload hΓ 0 dX7_check_107 rfl ?_
                      obtain ⟨hg22, hf⟩ := gd_some hf
                      refine F_ald (G_bald hΓ) (t := 17) (i := 0) (f := v18.1 17 0) (FLi hF (t := 17) (by decide)) (fun _ _ _ => rfl) rfl hg22 dX7_check_109 ?_
                      obtain ⟨u23, hc25, hf⟩ := bd_some hf
                      obtain ⟨s24, hv_s24, hf⟩ := lt_eq hf
                      refine G_callV hΓ (n := 1) (As := [.int (v18.1 17 0 v19.toNatClampNeg)]) (t := 8) (i := 32) (ci := 6) (T := TX3) (N := 4) (FS := fs3 (gl Γ) 32) (σ' := (qC σ s24)) (c_X3_move (gL Γ) (gl Γ) hF (qC σ v18) 8 32 (v18.1 8 32) (v18.1 17 0 v19.toNatClampNeg) (by decide) (by decide) hc25) ((qC_s (by decide)).trans (congrArg (qC σ) sZ_self)) ((qC_s (by decide)).trans (congrArg (qC σ) hv_s24.symm)) kw_810 kw_560 kw_561 kw_5 kw_562 ⟨rfl, by decide, by decide, by decide +kernel⟩ (FLi hF (t := 8) (by decide)) (fun _ _ _ => rfl) rfl rfl rfl ⟨Nat.le_of_ble_eq_true rfl, Nat.le_of_ble_eq_true rfl⟩ rfl (Nat.le_of_ble_eq_true rfl) dX7_check_110 ⟨_, rfl⟩ rfl ?_
                      refine G_iinc hΓ 0 [(6, .int (v19 + 1)), (5, .ref (ya (gl Γ) 8 32)), (4, .ref (ya (gl Γ) 6 32)), (0, .ref (ya (gl Γ) 0 0)), (1, .int p1), (2, .int p2), (3, .int p3)] dX7_check_113 rfl rfl (by decide) rfl ?_
                      refine G_goto hΓ (tgt := 95) dX7_check_116 (by decide) ?_
                      exact (ih _ _ hf)
                exact loop27 _ _ _ hf
            · rw [if_pos hc39] at hf
              refine G_aload hΓ 0 dX7_check_64 rfl ?_
              refine F_getN hΓ (t := 6) (i := 32) (ci := 7) (C := RX4) (T := TX4) (N := 3) (fs4 (gl Γ) 32) (v := .ref (ya (gl Γ) 7 32)) (FLi hF (t := 6) (by decide)) (fun _ _ _ => rfl) rfl rfl rfl rfl inW4 0 (by decide) 5 (host := "CanBits") rfl rfl dX7_check_66 ?_
              refine G_goto hΓ (tgt := 90) dX7_check_69 (by decide) ?_
              refine G_astore hΓ [(5, .ref (ya (gl Γ) 7 32)), (4, .ref (ya (gl Γ) 6 32)), (0, .ref (ya (gl Γ) 0 0)), (1, .int p1), (2, .int p2), (3, .int p3)] dX7_check_90 (by decide) rfl ?_
              refine G_iload_n hΓ 4 dX7_check_92 rfl ?_
              refine G_istore hΓ [(6, .int p2), (5, .ref (ya (gl Γ) 7 32)), (4, .ref (ya (gl Γ) 6 32)), (0, .ref (ya (gl Γ) 0 0)), (1, .int p1), (2, .int p2), (3, .int p3)] dX7_check_93 (by decide) rfl ?_
              obtain ⟨k31, hk_k31, hf⟩ := jn_eq hf
              try dsimp only at hf
              have K32 : ∀ v29 v30, k31 (v29, v30) = some (.inr (s', r9)) → GG Γ (0, 0) (qC σ v29) 119 [(6, .int v30), (5, .ref (ya (gl Γ) 7 32)), (4, .ref (ya (gl Γ) 6 32)), (0, .ref (ya (gl Γ) 0 0)), (1, .int p1), (2, .int p2), (3, .int p3)] [] := by
                intro v29 v30 hf
                subst hk_k31
                try dsimp only at hf
                refine G_aload hΓ 1 dX7_check_119 rfl ?_
                refine F_getN hΓ (t := 7) (i := 32) (ci := 6) (C := RX3) (T := TX3) (N := 4) (fs3 (gl Γ) 32) (v := .int (v29.1 7 32 3)) (FLi hF (t := 7) (by decide)) (fun _ _ _ => rfl) rfl rfl rfl rfl inW3 3 (by decide) 2 (host := "CanBits") rfl rfl dX7_check_121 ?_
                cases hf
                exact G_iret hΓ hE dX7_check_124
              clear hk_k31
              have loop38 : ∀ (nn : Nat) v29 v30, L_X7_check_95_3 p3 k31 nn v29 v30 = some (.inr (s', r9)) → GG Γ (0, 0) (qC σ v29) 95 [(6, .int v30), (5, .ref (ya (gl Γ) 7 32)), (4, .ref (ya (gl Γ) 6 32)), (0, .ref (ya (gl Γ) 0 0)), (1, .int p1), (2, .int p2), (3, .int p3)] [] := by
                intro nn
                induction nn with
                | zero => intro v29 v30 hf; cases hf
                | succ nn ih =>
                  intro v29 v30 hf
                  rw [L_X7_check_95_3] at hf
                  refine G_iload hΓ 0 dX7_check_95 rfl ?_
                  refine G_iload_n hΓ 6 dX7_check_97 rfl ?_
                  refine G_icmp_ge hΓ (tgt := 119) dX7_check_98 (by decide) (fun hc37 => ?_) (fun hc37 => ?_)
                  · rw [if_pos hc37] at hf
                    exact (K32 _ _ hf)
                  · rw [if_neg hc37] at hf
                    refine G_aload hΓ 1 dX7_check_101 rfl ?_
                    refine G_aload_n hΓ 3 dX7_check_103 rfl ?_
                    refine F_get hΓ (t := 0) (i := 0) (ci := 10) (C := RX7) (T := TX7) (N := 14) (fs7 (gl Γ) 0) (v := .ref (ya (gl Γ) 17 0)) (FLi hF (t := 0) (by decide)) (fun _ _ _ => rfl) rfl rfl rfl rfl inW7 3 (by decide) (TT_cons kw_294) rfl dX7_check_104 ?_
                    refine G_iload hΓ 0 dX7_check_107 rfl ?_
                    obtain ⟨hg33, hf⟩ := gd_some hf
                    refine F_ald (G_bald hΓ) (t := 17) (i := 0) (f := v29.1 17 0) (FLi hF (t := 17) (by decide)) (fun _ _ _ => rfl) rfl hg33 dX7_check_109 ?_
                    obtain ⟨u34, hc36, hf⟩ := bd_some hf
                    obtain ⟨s35, hv_s35, hf⟩ := lt_eq hf
                    refine G_callV hΓ (n := 1) (As := [.int (v29.1 17 0 v30.toNatClampNeg)]) (t := 7) (i := 32) (ci := 6) (T := TX3) (N := 4) (FS := fs3 (gl Γ) 32) (σ' := (qC σ s35)) (c_X3_move (gL Γ) (gl Γ) hF (qC σ v29) 7 32 (v29.1 7 32) (v29.1 17 0 v30.toNatClampNeg) (by decide) (by decide) hc36) ((qC_s (by decide)).trans (congrArg (qC σ) sZ_self)) ((qC_s (by decide)).trans (congrArg (qC σ) hv_s35.symm)) kw_810 kw_560 kw_561 kw_5 kw_562 ⟨rfl, by decide, by decide, by decide +kernel⟩ (FLi hF (t := 7) (by decide)) (fun _ _ _ => rfl) rfl rfl rfl ⟨Nat.le_of_ble_eq_true rfl, Nat.le_of_ble_eq_true rfl⟩ rfl (Nat.le_of_ble_eq_true rfl) dX7_check_110 ⟨_, rfl⟩ rfl ?_
                    refine G_iinc hΓ 0 [(6, .int (v30 + 1)), (5, .ref (ya (gl Γ) 7 32)), (4, .ref (ya (gl Γ) 6 32)), (0, .ref (ya (gl Γ) 0 0)), (1, .int p1), (2, .int p2), (3, .int p3)] dX7_check_113 rfl rfl (by decide) rfl ?_
                    refine G_goto hΓ (tgt := 95) dX7_check_116 (by decide) ?_
                    exact (ih _ _ hf)
              exact loop38 _ _ _ hf
          · rw [if_neg hc40] at hf
            cases hf
    · rw [if_neg hc43] at hf
      cases hf
set_option maxHeartbeats 4000000 in
set_option maxRecDepth 100000 in
theorem t_X7_check (l : Launch) (hst : l.stackTraces = false) (Λ : LY) (hF : FL Λ) (σ : CS)  (s : CS) (p1 : Int32) (p2 : Int32) (p3 : Int32)   {e9 : Nat} (hf : f_X7_check s p1 p2 p3 = some (.inl e9)) : CT l yX7_check (.code yX7_check cX7_check 7 (some .int) :: TT) ({ frames := 7, cells := 1, slots := 6, locals := 120 }) Λ [.ref (ya Λ 0 0), .int p1, .int p2, .int p3] (qC σ s) (xn e9) := by
  refine CT_intro hst (own := RX7) (by decide) rfl (Nat.le_of_ble_eq_true rfl) rfl rfl ?_
  intro Γ hg hl hΓ hT
  subst hg; subst hl
  show GG Γ (0, 0) (qC σ s) 0 [(0, .ref (ya (gl Γ) 0 0)), (1, .int p1), (2, .int p2), (3, .int p3)] []
  unfold f_X7_check at hf
  refine G_iload_n hΓ 1 dX7_check_0 rfl ?_
  refine G_if_lt hΓ (tgt := 9) dX7_check_1 (by decide) (fun hc44 => ?_) (fun hc44 => ?_)
  · rw [if_pos hc44] at hf
    cases hf
    exact G_throw hΓ hT (names := ["java/lang/RuntimeException", "java/lang/Exception"]) (by decide) (by decide) kw_418 kw_15 15 rfl at_2 1 rfl ao_2 dX7_check_9 dX7_check_12 dX7_check_13 dX7_check_15 dX7_check_18 (by decide) (Nat.le_of_ble_eq_true rfl)
  · rw [if_neg hc44] at hf
    refine G_iload_n hΓ 1 dX7_check_4 rfl ?_
    refine G_iconst (v := 2) hΓ dX7_check_5 (by decide) ?_
    refine G_icmp_le hΓ (tgt := 19) dX7_check_6 (by decide) (fun hc43 => ?_) (fun hc43 => ?_)
    · rw [if_pos hc43] at hf
      refine G_iload_n hΓ 2 dX7_check_19 rfl ?_
      refine G_if_lt hΓ (tgt := 36) dX7_check_20 (by decide) (fun hc42 => ?_) (fun hc42 => ?_)
      · rw [if_pos hc42] at hf
        cases hf
        exact G_throw hΓ hT (names := ["java/lang/RuntimeException", "java/lang/Exception"]) (by decide) (by decide) kw_468 kw_16 16 rfl at_1 3 rfl ao_1 dX7_check_36 dX7_check_39 dX7_check_40 dX7_check_42 dX7_check_45 (by decide) (Nat.le_of_ble_eq_true rfl)
      · rw [if_neg hc42] at hf
        refine G_iload_n hΓ 2 dX7_check_23 rfl ?_
        refine G_iload_n hΓ 3 dX7_check_24 rfl ?_
        refine G_icmp_gt hΓ (tgt := 36) dX7_check_25 (by decide) (fun hc41 => ?_) (fun hc41 => ?_)
        · rw [if_pos hc41] at hf
          cases hf
          exact G_throw hΓ hT (names := ["java/lang/RuntimeException", "java/lang/Exception"]) (by decide) (by decide) kw_468 kw_16 16 rfl at_1 3 rfl ao_1 dX7_check_36 dX7_check_39 dX7_check_40 dX7_check_42 dX7_check_45 (by decide) (Nat.le_of_ble_eq_true rfl)
        · rw [if_neg hc41] at hf
          refine G_iload_n hΓ 3 dX7_check_28 rfl ?_
          refine G_aload_n hΓ 0 dX7_check_29 rfl ?_
          refine F_get hΓ (t := 0) (i := 0) (ci := 10) (C := RX7) (T := TX7) (N := 14) (fs7 (gl Γ) 0) (v := .int (s.1 0 0 13)) (FLi hF (t := 0) (by decide)) (fun _ _ _ => rfl) rfl rfl rfl rfl inW7 13 (by decide) (TT_cons kw_304) rfl dX7_check_30 ?_
          refine G_icmp_le hΓ (tgt := 46) dX7_check_33 (by decide) (fun hc40 => ?_) (fun hc40 => ?_)
          · rw [if_pos hc40] at hf
            refine G_aload_n hΓ 0 dX7_check_46 rfl ?_
            refine F_get hΓ (t := 0) (i := 0) (ci := 10) (C := RX7) (T := TX7) (N := 14) (fs7 (gl Γ) 0) (v := .ref (ya (gl Γ) 16 0)) (FLi hF (t := 0) (by decide)) (fun _ _ _ => rfl) rfl rfl rfl rfl inW7 2 (by decide) (TT_cons kw_293) rfl dX7_check_47 ?_
            refine F_getN hΓ (t := 16) (i := 0) (ci := 9) (C := RX6) (T := TX6) (N := 4) (fs6 (gl Γ) 0) (v := .ref (ya (gl Γ) 6 32)) (FLi hF (t := 16) (by decide)) (fun _ _ _ => rfl) rfl rfl rfl rfl inW6 0 (by decide) 32 (host := "CanBits") rfl rfl dX7_check_50 ?_
            refine G_astore hΓ [(4, .ref (ya (gl Γ) 6 32)), (0, .ref (ya (gl Γ) 0 0)), (1, .int p1), (2, .int p2), (3, .int p3)] dX7_check_53 (by decide) rfl ?_
            refine G_aload hΓ 0 dX7_check_55 rfl ?_
            obtain ⟨⟨u1, u2, u3⟩, hc5, hf⟩ := bd_some hf
            try dsimp only at hf
            obtain ⟨s4, hv_s4, hf⟩ := lt_eq hf
            refine G_callV hΓ (n := 0) (As := []) (t := 6) (i := 32) (ci := 7) (T := TX4) (N := 3) (FS := fs4 (gl Γ) 32) (σ' := (qC σ s4)) (c_X4_begin (gL Γ) (gl Γ) hF (qC σ s) 32 (s.1 7 32) (s.1 8 32) (s.1 9 32)  (by decide) hc5) (qSum_qC.trans (congrArg (qC σ) qSum_self)) (qSum_qC.trans (congrArg (qC σ) hv_s4.symm)) kw_809 kw_537 kw_538 kw_4 kw_539 ⟨rfl, by decide, by decide, by decide +kernel⟩ (FLi hF (t := 6) (by decide)) (fun _ _ _ => rfl) rfl rfl rfl ⟨Nat.le_of_ble_eq_true rfl, Nat.le_of_ble_eq_true rfl⟩ rfl (Nat.le_of_ble_eq_true rfl) dX7_check_57 ⟨_, rfl⟩ rfl ?_
            refine G_iload_n hΓ 2 dX7_check_60 rfl ?_
            refine G_if_ne hΓ (tgt := 72) dX7_check_61 (by decide) (fun hc39 => ?_) (fun hc39 => ?_)
            · rw [if_neg hc39] at hf
              refine G_iload_n hΓ 2 dX7_check_72 rfl ?_
              refine G_iconst (v := 1) hΓ dX7_check_73 (by decide) ?_
              refine G_icmp_ne hΓ (tgt := 85) dX7_check_74 (by decide) (fun hc28 => ?_) (fun hc28 => ?_)
              · rw [if_neg hc28] at hf
                refine G_aload hΓ 0 dX7_check_85 rfl ?_
                refine F_getN hΓ (t := 6) (i := 32) (ci := 7) (C := RX4) (T := TX4) (N := 3) (fs4 (gl Γ) 32) (v := .ref (ya (gl Γ) 9 32)) (FLi hF (t := 6) (by decide)) (fun _ _ _ => rfl) rfl rfl rfl rfl inW4 2 (by decide) 8 (host := "CanBits") rfl rfl dX7_check_87 ?_
                refine G_astore hΓ [(5, .ref (ya (gl Γ) 9 32)), (4, .ref (ya (gl Γ) 6 32)), (0, .ref (ya (gl Γ) 0 0)), (1, .int p1), (2, .int p2), (3, .int p3)] dX7_check_90 (by decide) rfl ?_
                refine G_iload_n hΓ 4 dX7_check_92 rfl ?_
                refine G_istore hΓ [(6, .int p2), (5, .ref (ya (gl Γ) 9 32)), (4, .ref (ya (gl Γ) 6 32)), (0, .ref (ya (gl Γ) 0 0)), (1, .int p1), (2, .int p2), (3, .int p3)] dX7_check_93 (by decide) rfl ?_
                obtain ⟨k10, hk_k10, hf⟩ := jn_eq hf
                try dsimp only at hf
                have K11 : ∀ v8 v9, k10 (v8, v9) = some (.inl e9) → GG Γ (0, 0) (qC σ v8) 119 [(6, .int v9), (5, .ref (ya (gl Γ) 9 32)), (4, .ref (ya (gl Γ) 6 32)), (0, .ref (ya (gl Γ) 0 0)), (1, .int p1), (2, .int p2), (3, .int p3)] [] := by
                  intro v8 v9 hf
                  subst hk_k10
                  try dsimp only at hf
                  refine G_aload hΓ 1 dX7_check_119 rfl ?_
                  refine F_getN hΓ (t := 9) (i := 32) (ci := 6) (C := RX3) (T := TX3) (N := 4) (fs3 (gl Γ) 32) (v := .int (v8.1 9 32 3)) (FLi hF (t := 9) (by decide)) (fun _ _ _ => rfl) rfl rfl rfl rfl inW3 3 (by decide) 2 (host := "CanBits") rfl rfl dX7_check_121 ?_
                  cases hf
                clear hk_k10
                have loop17 : ∀ (nn : Nat) v8 v9, L_X7_check_95 p3 k10 nn v8 v9 = some (.inl e9) → GG Γ (0, 0) (qC σ v8) 95 [(6, .int v9), (5, .ref (ya (gl Γ) 9 32)), (4, .ref (ya (gl Γ) 6 32)), (0, .ref (ya (gl Γ) 0 0)), (1, .int p1), (2, .int p2), (3, .int p3)] [] := by
                  intro nn
                  induction nn with
                  | zero => intro v8 v9 hf; cases hf
                  | succ nn ih =>
                    intro v8 v9 hf
                    rw [L_X7_check_95] at hf
                    refine G_iload hΓ 0 dX7_check_95 rfl ?_
                    refine G_iload_n hΓ 6 dX7_check_97 rfl ?_
                    refine G_icmp_ge hΓ (tgt := 119) dX7_check_98 (by decide) (fun hc16 => ?_) (fun hc16 => ?_)
                    · rw [if_pos hc16] at hf
                      exact (K11 _ _ hf)
                    · rw [if_neg hc16] at hf
                      refine G_aload hΓ 1 dX7_check_101 rfl ?_
                      refine G_aload_n hΓ 3 dX7_check_103 rfl ?_
                      refine F_get hΓ (t := 0) (i := 0) (ci := 10) (C := RX7) (T := TX7) (N := 14) (fs7 (gl Γ) 0) (v := .ref (ya (gl Γ) 17 0)) (FLi hF (t := 0) (by decide)) (fun _ _ _ => rfl) rfl rfl rfl rfl inW7 3 (by decide) (TT_cons kw_294) rfl dX7_check_104 ?_
                      refine G_iload hΓ 0 dX7_check_107 rfl ?_
                      obtain ⟨hg12, hf⟩ := gd_some hf
                      refine F_ald (G_bald hΓ) (t := 17) (i := 0) (f := v8.1 17 0) (FLi hF (t := 17) (by decide)) (fun _ _ _ => rfl) rfl hg12 dX7_check_109 ?_
                      obtain ⟨u13, hc15, hf⟩ := bd_some hf
                      obtain ⟨s14, hv_s14, hf⟩ := lt_eq hf
                      refine G_callV hΓ (n := 1) (As := [.int (v8.1 17 0 v9.toNatClampNeg)]) (t := 9) (i := 32) (ci := 6) (T := TX3) (N := 4) (FS := fs3 (gl Γ) 32) (σ' := (qC σ s14)) (c_X3_move (gL Γ) (gl Γ) hF (qC σ v8) 9 32 (v8.1 9 32) (v8.1 17 0 v9.toNatClampNeg) (by decide) (by decide) hc15) ((qC_s (by decide)).trans (congrArg (qC σ) sZ_self)) ((qC_s (by decide)).trans (congrArg (qC σ) hv_s14.symm)) kw_810 kw_560 kw_561 kw_5 kw_562 ⟨rfl, by decide, by decide, by decide +kernel⟩ (FLi hF (t := 9) (by decide)) (fun _ _ _ => rfl) rfl rfl rfl ⟨Nat.le_of_ble_eq_true rfl, Nat.le_of_ble_eq_true rfl⟩ rfl (Nat.le_of_ble_eq_true rfl) dX7_check_110 ⟨_, rfl⟩ rfl ?_
                      refine G_iinc hΓ 0 [(6, .int (v9 + 1)), (5, .ref (ya (gl Γ) 9 32)), (4, .ref (ya (gl Γ) 6 32)), (0, .ref (ya (gl Γ) 0 0)), (1, .int p1), (2, .int p2), (3, .int p3)] dX7_check_113 rfl rfl (by decide) rfl ?_
                      refine G_goto hΓ (tgt := 95) dX7_check_116 (by decide) ?_
                      exact (ih _ _ hf)
                exact loop17 _ _ _ hf
              · rw [if_pos hc28] at hf
                refine G_aload hΓ 0 dX7_check_77 rfl ?_
                refine F_getN hΓ (t := 6) (i := 32) (ci := 7) (C := RX4) (T := TX4) (N := 3) (fs4 (gl Γ) 32) (v := .ref (ya (gl Γ) 8 32)) (FLi hF (t := 6) (by decide)) (fun _ _ _ => rfl) rfl rfl rfl rfl inW4 1 (by decide) 7 (host := "CanBits") rfl rfl dX7_check_79 ?_
                refine G_goto hΓ (tgt := 90) dX7_check_82 (by decide) ?_
                refine G_astore hΓ [(5, .ref (ya (gl Γ) 8 32)), (4, .ref (ya (gl Γ) 6 32)), (0, .ref (ya (gl Γ) 0 0)), (1, .int p1), (2, .int p2), (3, .int p3)] dX7_check_90 (by decide) rfl ?_
                refine G_iload_n hΓ 4 dX7_check_92 rfl ?_
                refine G_istore hΓ [(6, .int p2), (5, .ref (ya (gl Γ) 8 32)), (4, .ref (ya (gl Γ) 6 32)), (0, .ref (ya (gl Γ) 0 0)), (1, .int p1), (2, .int p2), (3, .int p3)] dX7_check_93 (by decide) rfl ?_
                obtain ⟨k20, hk_k20, hf⟩ := jn_eq hf
                try dsimp only at hf
                have K21 : ∀ v18 v19, k20 (v18, v19) = some (.inl e9) → GG Γ (0, 0) (qC σ v18) 119 [(6, .int v19), (5, .ref (ya (gl Γ) 8 32)), (4, .ref (ya (gl Γ) 6 32)), (0, .ref (ya (gl Γ) 0 0)), (1, .int p1), (2, .int p2), (3, .int p3)] [] := by
                  intro v18 v19 hf
                  subst hk_k20
                  try dsimp only at hf
                  refine G_aload hΓ 1 dX7_check_119 rfl ?_
                  refine F_getN hΓ (t := 8) (i := 32) (ci := 6) (C := RX3) (T := TX3) (N := 4) (fs3 (gl Γ) 32) (v := .int (v18.1 8 32 3)) (FLi hF (t := 8) (by decide)) (fun _ _ _ => rfl) rfl rfl rfl rfl inW3 3 (by decide) 2 (host := "CanBits") rfl rfl dX7_check_121 ?_
                  cases hf
                clear hk_k20
                have loop27 : ∀ (nn : Nat) v18 v19, L_X7_check_95_2 p3 k20 nn v18 v19 = some (.inl e9) → GG Γ (0, 0) (qC σ v18) 95 [(6, .int v19), (5, .ref (ya (gl Γ) 8 32)), (4, .ref (ya (gl Γ) 6 32)), (0, .ref (ya (gl Γ) 0 0)), (1, .int p1), (2, .int p2), (3, .int p3)] [] := by
                  intro nn
                  induction nn with
                  | zero => intro v18 v19 hf; cases hf
                  | succ nn ih =>
                    intro v18 v19 hf
                    rw [L_X7_check_95_2] at hf
                    refine G_iload hΓ 0 dX7_check_95 rfl ?_
                    refine G_iload_n hΓ 6 dX7_check_97 rfl ?_
                    refine G_icmp_ge hΓ (tgt := 119) dX7_check_98 (by decide) (fun hc26 => ?_) (fun hc26 => ?_)
                    · rw [if_pos hc26] at hf
                      exact (K21 _ _ hf)
                    · rw [if_neg hc26] at hf
                      refine G_aload hΓ 1 dX7_check_101 rfl ?_
                      refine G_aload_n hΓ 3 dX7_check_103 rfl ?_
                      refine F_get hΓ (t := 0) (i := 0) (ci := 10) (C := RX7) (T := TX7) (N := 14) (fs7 (gl Γ) 0) (v := .ref (ya (gl Γ) 17 0)) (FLi hF (t := 0) (by decide)) (fun _ _ _ => rfl) rfl rfl rfl rfl inW7 3 (by decide) (TT_cons kw_294) rfl dX7_check_104 ?_
                      refine G_iload hΓ 0 dX7_check_107 rfl ?_
                      obtain ⟨hg22, hf⟩ := gd_some hf
                      refine F_ald (G_bald hΓ) (t := 17) (i := 0) (f := v18.1 17 0) (FLi hF (t := 17) (by decide)) (fun _ _ _ => rfl) rfl hg22 dX7_check_109 ?_
                      obtain ⟨u23, hc25, hf⟩ := bd_some hf
                      obtain ⟨s24, hv_s24, hf⟩ := lt_eq hf
                      refine G_callV hΓ (n := 1) (As := [.int (v18.1 17 0 v19.toNatClampNeg)]) (t := 8) (i := 32) (ci := 6) (T := TX3) (N := 4) (FS := fs3 (gl Γ) 32) (σ' := (qC σ s24)) (c_X3_move (gL Γ) (gl Γ) hF (qC σ v18) 8 32 (v18.1 8 32) (v18.1 17 0 v19.toNatClampNeg) (by decide) (by decide) hc25) ((qC_s (by decide)).trans (congrArg (qC σ) sZ_self)) ((qC_s (by decide)).trans (congrArg (qC σ) hv_s24.symm)) kw_810 kw_560 kw_561 kw_5 kw_562 ⟨rfl, by decide, by decide, by decide +kernel⟩ (FLi hF (t := 8) (by decide)) (fun _ _ _ => rfl) rfl rfl rfl ⟨Nat.le_of_ble_eq_true rfl, Nat.le_of_ble_eq_true rfl⟩ rfl (Nat.le_of_ble_eq_true rfl) dX7_check_110 ⟨_, rfl⟩ rfl ?_
                      refine G_iinc hΓ 0 [(6, .int (v19 + 1)), (5, .ref (ya (gl Γ) 8 32)), (4, .ref (ya (gl Γ) 6 32)), (0, .ref (ya (gl Γ) 0 0)), (1, .int p1), (2, .int p2), (3, .int p3)] dX7_check_113 rfl rfl (by decide) rfl ?_
                      refine G_goto hΓ (tgt := 95) dX7_check_116 (by decide) ?_
                      exact (ih _ _ hf)
                exact loop27 _ _ _ hf
            · rw [if_pos hc39] at hf
              refine G_aload hΓ 0 dX7_check_64 rfl ?_
              refine F_getN hΓ (t := 6) (i := 32) (ci := 7) (C := RX4) (T := TX4) (N := 3) (fs4 (gl Γ) 32) (v := .ref (ya (gl Γ) 7 32)) (FLi hF (t := 6) (by decide)) (fun _ _ _ => rfl) rfl rfl rfl rfl inW4 0 (by decide) 5 (host := "CanBits") rfl rfl dX7_check_66 ?_
              refine G_goto hΓ (tgt := 90) dX7_check_69 (by decide) ?_
              refine G_astore hΓ [(5, .ref (ya (gl Γ) 7 32)), (4, .ref (ya (gl Γ) 6 32)), (0, .ref (ya (gl Γ) 0 0)), (1, .int p1), (2, .int p2), (3, .int p3)] dX7_check_90 (by decide) rfl ?_
              refine G_iload_n hΓ 4 dX7_check_92 rfl ?_
              refine G_istore hΓ [(6, .int p2), (5, .ref (ya (gl Γ) 7 32)), (4, .ref (ya (gl Γ) 6 32)), (0, .ref (ya (gl Γ) 0 0)), (1, .int p1), (2, .int p2), (3, .int p3)] dX7_check_93 (by decide) rfl ?_
              obtain ⟨k31, hk_k31, hf⟩ := jn_eq hf
              try dsimp only at hf
              have K32 : ∀ v29 v30, k31 (v29, v30) = some (.inl e9) → GG Γ (0, 0) (qC σ v29) 119 [(6, .int v30), (5, .ref (ya (gl Γ) 7 32)), (4, .ref (ya (gl Γ) 6 32)), (0, .ref (ya (gl Γ) 0 0)), (1, .int p1), (2, .int p2), (3, .int p3)] [] := by
                intro v29 v30 hf
                subst hk_k31
                try dsimp only at hf
                refine G_aload hΓ 1 dX7_check_119 rfl ?_
                refine F_getN hΓ (t := 7) (i := 32) (ci := 6) (C := RX3) (T := TX3) (N := 4) (fs3 (gl Γ) 32) (v := .int (v29.1 7 32 3)) (FLi hF (t := 7) (by decide)) (fun _ _ _ => rfl) rfl rfl rfl rfl inW3 3 (by decide) 2 (host := "CanBits") rfl rfl dX7_check_121 ?_
                cases hf
              clear hk_k31
              have loop38 : ∀ (nn : Nat) v29 v30, L_X7_check_95_3 p3 k31 nn v29 v30 = some (.inl e9) → GG Γ (0, 0) (qC σ v29) 95 [(6, .int v30), (5, .ref (ya (gl Γ) 7 32)), (4, .ref (ya (gl Γ) 6 32)), (0, .ref (ya (gl Γ) 0 0)), (1, .int p1), (2, .int p2), (3, .int p3)] [] := by
                intro nn
                induction nn with
                | zero => intro v29 v30 hf; cases hf
                | succ nn ih =>
                  intro v29 v30 hf
                  rw [L_X7_check_95_3] at hf
                  refine G_iload hΓ 0 dX7_check_95 rfl ?_
                  refine G_iload_n hΓ 6 dX7_check_97 rfl ?_
                  refine G_icmp_ge hΓ (tgt := 119) dX7_check_98 (by decide) (fun hc37 => ?_) (fun hc37 => ?_)
                  · rw [if_pos hc37] at hf
                    exact (K32 _ _ hf)
                  · rw [if_neg hc37] at hf
                    refine G_aload hΓ 1 dX7_check_101 rfl ?_
                    refine G_aload_n hΓ 3 dX7_check_103 rfl ?_
                    refine F_get hΓ (t := 0) (i := 0) (ci := 10) (C := RX7) (T := TX7) (N := 14) (fs7 (gl Γ) 0) (v := .ref (ya (gl Γ) 17 0)) (FLi hF (t := 0) (by decide)) (fun _ _ _ => rfl) rfl rfl rfl rfl inW7 3 (by decide) (TT_cons kw_294) rfl dX7_check_104 ?_
                    refine G_iload hΓ 0 dX7_check_107 rfl ?_
                    obtain ⟨hg33, hf⟩ := gd_some hf
                    refine F_ald (G_bald hΓ) (t := 17) (i := 0) (f := v29.1 17 0) (FLi hF (t := 17) (by decide)) (fun _ _ _ => rfl) rfl hg33 dX7_check_109 ?_
                    obtain ⟨u34, hc36, hf⟩ := bd_some hf
                    obtain ⟨s35, hv_s35, hf⟩ := lt_eq hf
                    refine G_callV hΓ (n := 1) (As := [.int (v29.1 17 0 v30.toNatClampNeg)]) (t := 7) (i := 32) (ci := 6) (T := TX3) (N := 4) (FS := fs3 (gl Γ) 32) (σ' := (qC σ s35)) (c_X3_move (gL Γ) (gl Γ) hF (qC σ v29) 7 32 (v29.1 7 32) (v29.1 17 0 v30.toNatClampNeg) (by decide) (by decide) hc36) ((qC_s (by decide)).trans (congrArg (qC σ) sZ_self)) ((qC_s (by decide)).trans (congrArg (qC σ) hv_s35.symm)) kw_810 kw_560 kw_561 kw_5 kw_562 ⟨rfl, by decide, by decide, by decide +kernel⟩ (FLi hF (t := 7) (by decide)) (fun _ _ _ => rfl) rfl rfl rfl ⟨Nat.le_of_ble_eq_true rfl, Nat.le_of_ble_eq_true rfl⟩ rfl (Nat.le_of_ble_eq_true rfl) dX7_check_110 ⟨_, rfl⟩ rfl ?_
                    refine G_iinc hΓ 0 [(6, .int (v30 + 1)), (5, .ref (ya (gl Γ) 7 32)), (4, .ref (ya (gl Γ) 6 32)), (0, .ref (ya (gl Γ) 0 0)), (1, .int p1), (2, .int p2), (3, .int p3)] dX7_check_113 rfl rfl (by decide) rfl ?_
                    refine G_goto hΓ (tgt := 95) dX7_check_116 (by decide) ?_
                    exact (ih _ _ hf)
              exact loop38 _ _ _ hf
          · rw [if_neg hc40] at hf
            cases hf
            exact G_throw hΓ hT (names := ["java/lang/RuntimeException", "java/lang/Exception"]) (by decide) (by decide) kw_468 kw_16 16 rfl at_1 3 rfl ao_1 dX7_check_36 dX7_check_39 dX7_check_40 dX7_check_42 dX7_check_45 (by decide) (Nat.le_of_ble_eq_true rfl)
    · rw [if_neg hc43] at hf
      cases hf
      exact G_throw hΓ hT (names := ["java/lang/RuntimeException", "java/lang/Exception"]) (by decide) (by decide) kw_418 kw_15 15 rfl at_2 1 rfl ao_2 dX7_check_9 dX7_check_12 dX7_check_13 dX7_check_15 dX7_check_18 (by decide) (Nat.le_of_ble_eq_true rfl)
theorem dX7_run_0 : decode cX7_run 0 = .ok (.iload_n 1, 1) := by decide +kernel
theorem dX7_run_1 : decode cX7_run 1 = .ok (.ifCond .ge 13, 3) := by decide +kernel
theorem dX7_run_4 : decode cX7_run 4 = .ok (.new 52, 3) := by decide +kernel
theorem dX7_run_7 : decode cX7_run 7 = .ok (.dup, 1) := by decide +kernel
theorem dX7_run_8 : decode cX7_run 8 = .ok (.ldc 168, 2) := by decide +kernel
theorem dX7_run_10 : decode cX7_run 10 = .ok (.invokespecial 56, 3) := by decide +kernel
theorem dX7_run_13 : decode cX7_run 13 = .ok (.athrow, 1) := by decide +kernel
theorem dX7_run_14 : decode cX7_run 14 = .ok (.iload_n 1, 1) := by decide +kernel
theorem dX7_run_15 : decode cX7_run 15 = .ok (.sipush 20000, 3) := by decide +kernel
theorem dX7_run_18 : decode cX7_run 18 = .ok (.aload_n 0, 1) := by decide +kernel
theorem dX7_run_19 : decode cX7_run 19 = .ok (.getfield 155, 3) := by decide +kernel
theorem dX7_run_22 : decode cX7_run 22 = .ok (.isub, 1) := by decide +kernel
theorem dX7_run_23 : decode cX7_run 23 = .ok (.if_icmp .le 13, 3) := by decide +kernel
theorem dX7_run_26 : decode cX7_run 26 = .ok (.new 82, 3) := by decide +kernel
theorem dX7_run_29 : decode cX7_run 29 = .ok (.dup, 1) := by decide +kernel
theorem dX7_run_30 : decode cX7_run 30 = .ok (.ldc 170, 2) := by decide +kernel
theorem dX7_run_32 : decode cX7_run 32 = .ok (.invokespecial 86, 3) := by decide +kernel
theorem dX7_run_35 : decode cX7_run 35 = .ok (.athrow, 1) := by decide +kernel
theorem dX7_run_36 : decode cX7_run 36 = .ok (.aload_n 0, 1) := by decide +kernel
theorem dX7_run_37 : decode cX7_run 37 = .ok (.getfield 172, 3) := by decide +kernel
theorem dX7_run_40 : decode cX7_run 40 = .ok (.istore_n 2, 1) := by decide +kernel
theorem dX7_run_41 : decode cX7_run 41 = .ok (.iconst 0, 1) := by decide +kernel
theorem dX7_run_42 : decode cX7_run 42 = .ok (.istore_n 3, 1) := by decide +kernel
theorem dX7_run_43 : decode cX7_run 43 = .ok (.iload_n 3, 1) := by decide +kernel
theorem dX7_run_44 : decode cX7_run 44 = .ok (.iload_n 1, 1) := by decide +kernel
theorem dX7_run_45 : decode cX7_run 45 = .ok (.if_icmp .ge 106, 3) := by decide +kernel
theorem dX7_run_48 : decode cX7_run 48 = .ok (.aload_n 0, 1) := by decide +kernel
theorem dX7_run_49 : decode cX7_run 49 = .ok (.getfield 155, 3) := by decide +kernel
theorem dX7_run_52 : decode cX7_run 52 = .ok (.sipush 20000, 3) := by decide +kernel
theorem dX7_run_55 : decode cX7_run 55 = .ok (.if_icmp .ge 96, 3) := by decide +kernel
theorem dX7_run_58 : decode cX7_run 58 = .ok (.aload_n 0, 1) := by decide +kernel
theorem dX7_run_59 : decode cX7_run 59 = .ok (.invokevirtual 175, 3) := by decide +kernel
theorem dX7_run_62 : decode cX7_run 62 = .ok (.istore 4, 2) := by decide +kernel
theorem dX7_run_64 : decode cX7_run 64 = .ok (.aload_n 0, 1) := by decide +kernel
theorem dX7_run_65 : decode cX7_run 65 = .ok (.getfield 34, 3) := by decide +kernel
theorem dX7_run_68 : decode cX7_run 68 = .ok (.aload_n 0, 1) := by decide +kernel
theorem dX7_run_69 : decode cX7_run 69 = .ok (.getfield 155, 3) := by decide +kernel
theorem dX7_run_72 : decode cX7_run 72 = .ok (.iaload, 1) := by decide +kernel
theorem dX7_run_73 : decode cX7_run 73 = .ok (.istore 5, 2) := by decide +kernel
theorem dX7_run_75 : decode cX7_run 75 = .ok (.aload_n 0, 1) := by decide +kernel
theorem dX7_run_76 : decode cX7_run 76 = .ok (.getfield 30, 3) := by decide +kernel
theorem dX7_run_79 : decode cX7_run 79 = .ok (.aload_n 0, 1) := by decide +kernel
theorem dX7_run_80 : decode cX7_run 80 = .ok (.getfield 155, 3) := by decide +kernel
theorem dX7_run_83 : decode cX7_run 83 = .ok (.iload 4, 2) := by decide +kernel
theorem dX7_run_85 : decode cX7_run 85 = .ok (.i2b, 1) := by decide +kernel
theorem dX7_run_86 : decode cX7_run 86 = .ok (.bastore, 1) := by decide +kernel
theorem dX7_run_87 : decode cX7_run 87 = .ok (.iconst 0, 1) := by decide +kernel
theorem dX7_run_88 : decode cX7_run 88 = .ok (.istore 6, 2) := by decide +kernel
theorem dX7_run_90 : decode cX7_run 90 = .ok (.iload 6, 2) := by decide +kernel
theorem dX7_run_92 : decode cX7_run 92 = .ok (.aload_n 0, 1) := by decide +kernel
theorem dX7_run_93 : decode cX7_run 93 = .ok (.getfield 179, 3) := by decide +kernel
theorem dX7_run_96 : decode cX7_run 96 = .ok (.if_icmp .ge 39, 3) := by decide +kernel
theorem dX7_run_99 : decode cX7_run 99 = .ok (.aload_n 0, 1) := by decide +kernel
theorem dX7_run_100 : decode cX7_run 100 = .ok (.iload 6, 2) := by decide +kernel
theorem dX7_run_102 : decode cX7_run 102 = .ok (.aload_n 0, 1) := by decide +kernel
theorem dX7_run_103 : decode cX7_run 103 = .ok (.getfield 11, 3) := by decide +kernel
theorem dX7_run_106 : decode cX7_run 106 = .ok (.iload 6, 2) := by decide +kernel
theorem dX7_run_108 : decode cX7_run 108 = .ok (.aaload, 1) := by decide +kernel
theorem dX7_run_109 : decode cX7_run 109 = .ok (.iload 4, 2) := by decide +kernel
theorem dX7_run_111 : decode cX7_run 111 = .ok (.iload 5, 2) := by decide +kernel
theorem dX7_run_113 : decode cX7_run 113 = .ok (.iload 6, 2) := by decide +kernel
theorem dX7_run_115 : decode cX7_run 115 = .ok (.iushr, 1) := by decide +kernel
theorem dX7_run_116 : decode cX7_run 116 = .ok (.iconst 1, 1) := by decide +kernel
theorem dX7_run_117 : decode cX7_run 117 = .ok (.iand, 1) := by decide +kernel
theorem dX7_run_118 : decode cX7_run 118 = .ok (.ixor, 1) := by decide +kernel
theorem dX7_run_119 : decode cX7_run 119 = .ok (.aload_n 0, 1) := by decide +kernel
theorem dX7_run_120 : decode cX7_run 120 = .ok (.getfield 155, 3) := by decide +kernel
theorem dX7_run_123 : decode cX7_run 123 = .ok (.invokevirtual 182, 3) := by decide +kernel
theorem dX7_run_126 : decode cX7_run 126 = .ok (.invokevirtual 185, 3) := by decide +kernel
theorem dX7_run_129 : decode cX7_run 129 = .ok (.iinc 6 1, 3) := by decide +kernel
theorem dX7_run_132 : decode cX7_run 132 = .ok (.goto (-42), 3) := by decide +kernel
theorem dX7_run_135 : decode cX7_run 135 = .ok (.aload_n 0, 1) := by decide +kernel
theorem dX7_run_136 : decode cX7_run 136 = .ok (.dup, 1) := by decide +kernel
theorem dX7_run_137 : decode cX7_run 137 = .ok (.getfield 155, 3) := by decide +kernel
theorem dX7_run_140 : decode cX7_run 140 = .ok (.iconst 1, 1) := by decide +kernel
theorem dX7_run_141 : decode cX7_run 141 = .ok (.iadd, 1) := by decide +kernel
theorem dX7_run_142 : decode cX7_run 142 = .ok (.putfield 155, 3) := by decide +kernel
theorem dX7_run_145 : decode cX7_run 145 = .ok (.iinc 3 1, 3) := by decide +kernel
theorem dX7_run_148 : decode cX7_run 148 = .ok (.goto (-105), 3) := by decide +kernel
theorem dX7_run_151 : decode cX7_run 151 = .ok (.aload_n 0, 1) := by decide +kernel
theorem dX7_run_152 : decode cX7_run 152 = .ok (.getfield 172, 3) := by decide +kernel
theorem dX7_run_155 : decode cX7_run 155 = .ok (.iload_n 2, 1) := by decide +kernel
theorem dX7_run_156 : decode cX7_run 156 = .ok (.isub, 1) := by decide +kernel
theorem dX7_run_157 : decode cX7_run 157 = .ok (.ireturn, 1) := by decide +kernel
noncomputable def L_X7_run_90 (u6 : Int32) (v9 : Int32) (k14 : CS × Int32 → Option (Nat ⊕ (CS × Int32))) : Nat → CS → Int32 → Option (Nat ⊕ (CS × Int32))
  | 0, _, _ => none
  | nn + 1, v12, v13 => if (v12.1 0 0 8) ≤ v13 then k14 (v12, v13) else gd (vp_in v13 32) (bd (f_X2_see (v12.2.2 v13.toNatClampNeg).1 (v12.2.2 v13.toNatClampNeg).2 (v12.1 3 v13.toNatClampNeg) (v12.2.1 4 v13.toNatClampNeg) (v12.1 4 v13.toNatClampNeg) (v12.1 5 v13.toNatClampNeg) (v12.1 7 v13.toNatClampNeg) (v12.1 8 v13.toNatClampNeg) (v12.1 9 v13.toNatClampNeg) (v12.1 10 v13.toNatClampNeg) (v12.1 11 v13.toNatClampNeg) (v12.1 12 v13.toNatClampNeg) (v12.1 13) (v12.1 15) (u6 ^^^ (((v9.toUInt32 >>> (v13.toUInt32 &&& Int32.toUInt32 31)).toInt32) &&& 1)) (v12.1 0 0 13)) (fun ⟨u17, u18, u19, u20, u21, u22, u23, u24, u25, u26, u27, u28, u29⟩ => lt (α := CS) (qNd v12 v13.toNatClampNeg u17 u18 u19 u20 u21 u22 u23 u24 u25 u26 u27 u28) (fun s30 => bd (f_X7_keep s30 v13 u29) (fun u32 => L_X7_run_90 u6 v9 k14 nn u32 (v13 + 1)))))
noncomputable def L_X7_run_43 (p1 : Int32) (k3 : CS × Int32 → Option (Nat ⊕ (CS × Int32))) : Nat → CS → Int32 → Option (Nat ⊕ (CS × Int32))
  | 0, _, _ => none
  | nn + 1, v1, v2 => if p1 ≤ v2 then k3 (v1, v2) else if 20000 ≤ (v1.1 0 0 13) then k3 (v1, v2) else bd (f_X7_putByAll v1) (fun ⟨u5, u6⟩ => gd (vp_in (u5.1 0 0 13) 20000) (lt (α := Int32) (u5.1 17 1 (u5.1 0 0 13).toNatClampNeg) (fun v9 => gd (vp_in (u5.1 0 0 13) 20000) (lt (α := CS) (sZ u5 17 0 (upd (u5.1 17 0) (u5.1 0 0 13).toNatClampNeg (vp_nar .byte u6.toInt8.toInt32))) (fun s11 => jn (α := CS × Int32) (fun ⟨v12, v13⟩ => lt (α := CS) (sZ v12 0 0 (upd (v12.1 0 0) 13 ((v12.1 0 0 13) + 1))) (fun s35 => L_X7_run_43 p1 k3 nn s35 (v2 + 1))) (fun k14 => L_X7_run_90 u6 v9 k14 fu s11 0))))))
noncomputable def f_X7_run  (s : CS) (p1 : Int32) : Option (Nat ⊕ (CS × Int32)) := if 0 ≤ p1 then if p1 ≤ (20000 - (s.1 0 0 13)) then jn (α := CS × Int32) (fun ⟨v1, v2⟩ => some (.inr (v1, (v1.1 0 0 10) - (s.1 0 0 10)))) (fun k3 => L_X7_run_43 p1 k3 fu s 0) else some (.inl 3) else some (.inl 2)
set_option maxHeartbeats 4000000 in
set_option maxRecDepth 100000 in
theorem c_X7_run (l : Launch) (Λ : LY) (hF : FL Λ) (σ : CS)  (s : CS) (p1 : Int32)   {s' : CS} {r9 : Int32} (hf : f_X7_run s p1 = some (.inr (s', r9))) : CM l yX7_run (.code yX7_run cX7_run 7 (some .int) :: TT) ({ frames := 7, cells := 0, slots := 0, locals := 154 }) Λ [.ref (ya Λ 0 0), .int p1] (qC σ s) (qC σ s') (some (.int r9)) := by
  refine CM_intro (own := RX7) (by decide) rfl (Nat.le_of_ble_eq_true rfl) ?_
  intro Γ hg hl hΓ hE
  subst hg; subst hl
  show GG Γ (0, 0) (qC σ s) 0 [(0, .ref (ya (gl Γ) 0 0)), (1, .int p1)] []
  unfold f_X7_run at hf
  refine G_iload_n hΓ 1 dX7_run_0 rfl ?_
  refine G_if_ge hΓ (tgt := 14) dX7_run_1 (by decide) (fun hc41 => ?_) (fun hc41 => ?_)
  · rw [if_pos hc41] at hf
    refine G_iload_n hΓ 1 dX7_run_14 rfl ?_
    refine G_sipush (v := 20000) hΓ dX7_run_15 (by decide) ?_
    refine G_aload_n hΓ 0 dX7_run_18 rfl ?_
    refine F_get hΓ (t := 0) (i := 0) (ci := 10) (C := RX7) (T := TX7) (N := 14) (fs7 (gl Γ) 0) (v := .int (s.1 0 0 13)) (FLi hF (t := 0) (by decide)) (fun _ _ _ => rfl) rfl rfl rfl rfl inW7 13 (by decide) (TT_cons kw_304) rfl dX7_run_19 ?_
    refine G_isub hΓ dX7_run_22 ?_
    refine G_icmp_le hΓ (tgt := 36) dX7_run_23 (by decide) (fun hc40 => ?_) (fun hc40 => ?_)
    · rw [if_pos hc40] at hf
      refine G_aload_n hΓ 0 dX7_run_36 rfl ?_
      refine F_get hΓ (t := 0) (i := 0) (ci := 10) (C := RX7) (T := TX7) (N := 14) (fs7 (gl Γ) 0) (v := .int (s.1 0 0 10)) (FLi hF (t := 0) (by decide)) (fun _ _ _ => rfl) rfl rfl rfl rfl inW7 10 (by decide) (TT_cons kw_301) rfl dX7_run_37 ?_
      refine G_istore_n hΓ [(2, .int (s.1 0 0 10)), (0, .ref (ya (gl Γ) 0 0)), (1, .int p1)] dX7_run_40 (by decide) rfl ?_
      refine G_iconst (v := 0) hΓ dX7_run_41 (by decide) ?_
      refine G_istore_n hΓ [(3, .int 0), (2, .int (s.1 0 0 10)), (0, .ref (ya (gl Γ) 0 0)), (1, .int p1)] dX7_run_42 (by decide) rfl ?_
      obtain ⟨k3, hk_k3, hf⟩ := jn_eq hf
      try dsimp only at hf
      have K4 : ∀ v1 v2, k3 (v1, v2) = some (.inr (s', r9)) → GG Γ (0, 0) (qC σ v1) 151 [(3, .int v2), (2, .int (s.1 0 0 10)), (0, .ref (ya (gl Γ) 0 0)), (1, .int p1)] [] := by
        intro v1 v2 hf
        subst hk_k3
        try dsimp only at hf
        refine G_aload_n hΓ 2 dX7_run_151 rfl ?_
        refine F_get hΓ (t := 0) (i := 0) (ci := 10) (C := RX7) (T := TX7) (N := 14) (fs7 (gl Γ) 0) (v := .int (v1.1 0 0 10)) (FLi hF (t := 0) (by decide)) (fun _ _ _ => rfl) rfl rfl rfl rfl inW7 10 (by decide) (TT_cons kw_301) rfl dX7_run_152 ?_
        refine G_iload_n hΓ 1 dX7_run_155 rfl ?_
        refine G_isub hΓ dX7_run_156 ?_
        cases hf
        exact G_iret hΓ hE dX7_run_157
      clear hk_k3
      have loop39 : ∀ (nn : Nat) v1 v2, L_X7_run_43 p1 k3 nn v1 v2 = some (.inr (s', r9)) → GG Γ (0, 0) (qC σ v1) 43 [(3, .int v2), (2, .int (s.1 0 0 10)), (0, .ref (ya (gl Γ) 0 0)), (1, .int p1)] [] := by
        intro nn
        induction nn with
        | zero => intro v1 v2 hf; cases hf
        | succ nn ih =>
          intro v1 v2 hf
          rw [L_X7_run_43] at hf
          refine G_iload_n hΓ 0 dX7_run_43 rfl ?_
          refine G_iload_n hΓ 3 dX7_run_44 rfl ?_
          refine G_icmp_ge hΓ (tgt := 151) dX7_run_45 (by decide) (fun hc38 => ?_) (fun hc38 => ?_)
          · rw [if_pos hc38] at hf
            exact (K4 _ _ hf)
          · rw [if_neg hc38] at hf
            refine G_aload_n hΓ 2 dX7_run_48 rfl ?_
            refine F_get hΓ (t := 0) (i := 0) (ci := 10) (C := RX7) (T := TX7) (N := 14) (fs7 (gl Γ) 0) (v := .int (v1.1 0 0 13)) (FLi hF (t := 0) (by decide)) (fun _ _ _ => rfl) rfl rfl rfl rfl inW7 13 (by decide) (TT_cons kw_304) rfl dX7_run_49 ?_
            refine G_sipush (v := 20000) hΓ dX7_run_52 (by decide) ?_
            refine G_icmp_ge hΓ (tgt := 151) dX7_run_55 (by decide) (fun hc37 => ?_) (fun hc37 => ?_)
            · rw [if_pos hc37] at hf
              exact (K4 _ _ hf)
            · rw [if_neg hc37] at hf
              refine G_aload_n hΓ 2 dX7_run_58 rfl ?_
              obtain ⟨⟨u5, u6⟩, hc7, hf⟩ := bd_some hf
              try dsimp only at hf
              refine G_callV hΓ (n := 0) (As := []) (t := 0) (i := 0) (ci := 10) (T := TX7) (N := 14) (FS := fs7 (gl Γ) 0) (σ' := (qC σ u5)) (c_X7_putByAll (gL Γ) (gl Γ) hF σ  v1   hc7) rfl rfl kw_656 kw_658 kp_11 kw_1 kw_659 ⟨rfl, by decide, by decide, by decide +kernel⟩ (FLi hF (t := 0) (by decide)) (fun _ _ _ => rfl) rfl rfl rfl ⟨Nat.le_of_ble_eq_true rfl, Nat.le_of_ble_eq_true rfl⟩ rfl (Nat.le_of_ble_eq_true rfl) dX7_run_59 ⟨_, rfl⟩ rfl ?_
              refine G_istore hΓ [(4, .int u6), (3, .int v2), (2, .int (s.1 0 0 10)), (0, .ref (ya (gl Γ) 0 0)), (1, .int p1)] dX7_run_62 (by decide) rfl ?_
              refine G_aload_n hΓ 3 dX7_run_64 rfl ?_
              refine F_get hΓ (t := 0) (i := 0) (ci := 10) (C := RX7) (T := TX7) (N := 14) (fs7 (gl Γ) 0) (v := .ref (ya (gl Γ) 17 1)) (FLi hF (t := 0) (by decide)) (fun _ _ _ => rfl) rfl rfl rfl rfl inW7 4 (by decide) (TT_cons kw_295) rfl dX7_run_65 ?_
              refine G_aload_n hΓ 3 dX7_run_68 rfl ?_
              refine F_get hΓ (t := 0) (i := 0) (ci := 10) (C := RX7) (T := TX7) (N := 14) (fs7 (gl Γ) 0) (v := .int (u5.1 0 0 13)) (FLi hF (t := 0) (by decide)) (fun _ _ _ => rfl) rfl rfl rfl rfl inW7 13 (by decide) (TT_cons kw_304) rfl dX7_run_69 ?_
              obtain ⟨hg8, hf⟩ := gd_some hf
              refine F_ald (G_iald hΓ) (t := 17) (i := 1) (f := u5.1 17 1) (FLi hF (t := 17) (by decide)) (fun _ _ _ => rfl) rfl hg8 dX7_run_72 ?_
              obtain ⟨v9, hv_v9, hf⟩ := lt_eq hf
              refine G_topi hv_v9 ?_
              refine G_istore hΓ [(5, .int v9), (4, .int u6), (3, .int v2), (2, .int (s.1 0 0 10)), (0, .ref (ya (gl Γ) 0 0)), (1, .int p1)] dX7_run_73 (by decide) rfl ?_
              refine G_aload_n hΓ 4 dX7_run_75 rfl ?_
              refine F_get hΓ (t := 0) (i := 0) (ci := 10) (C := RX7) (T := TX7) (N := 14) (fs7 (gl Γ) 0) (v := .ref (ya (gl Γ) 17 0)) (FLi hF (t := 0) (by decide)) (fun _ _ _ => rfl) rfl rfl rfl rfl inW7 3 (by decide) (TT_cons kw_294) rfl dX7_run_76 ?_
              refine G_aload_n hΓ 4 dX7_run_79 rfl ?_
              refine F_get hΓ (t := 0) (i := 0) (ci := 10) (C := RX7) (T := TX7) (N := 14) (fs7 (gl Γ) 0) (v := .int (u5.1 0 0 13)) (FLi hF (t := 0) (by decide)) (fun _ _ _ => rfl) rfl rfl rfl rfl inW7 13 (by decide) (TT_cons kw_304) rfl dX7_run_80 ?_
              refine G_iload hΓ 1 dX7_run_83 rfl ?_
              refine G_i2b hΓ dX7_run_85 ?_
              obtain ⟨hg10, hf⟩ := gd_some hf
              obtain ⟨s11, hv_s11, hf⟩ := lt_eq hf
              refine F_bast hΓ (t := 17) (i := 0) (f := u5.1 17 0) (σ' := (qC σ s11)) (FLi hF (t := 17) (by decide)) (fun _ _ _ => rfl) rfl ((qC_s (by decide)).trans (congrArg (qC σ) hv_s11.symm)) hg10 dX7_run_86 ?_
              refine G_iconst (v := 0) hΓ dX7_run_87 (by decide) ?_
              refine G_istore hΓ [(6, .int 0), (5, .int v9), (4, .int u6), (3, .int v2), (2, .int (s.1 0 0 10)), (0, .ref (ya (gl Γ) 0 0)), (1, .int p1)] dX7_run_88 (by decide) rfl ?_
              obtain ⟨k14, hk_k14, hf⟩ := jn_eq hf
              try dsimp only at hf
              have K15 : ∀ v12 v13, k14 (v12, v13) = some (.inr (s', r9)) → GG Γ (0, 0) (qC σ v12) 135 [(6, .int v13), (5, .int v9), (4, .int u6), (3, .int v2), (2, .int (s.1 0 0 10)), (0, .ref (ya (gl Γ) 0 0)), (1, .int p1)] [] := by
                intro v12 v13 hf
                subst hk_k14
                try dsimp only at hf
                refine G_aload_n hΓ 5 dX7_run_135 rfl ?_
                refine G_dup hΓ dX7_run_136 rfl ?_
                refine F_get hΓ (t := 0) (i := 0) (ci := 10) (C := RX7) (T := TX7) (N := 14) (fs7 (gl Γ) 0) (v := .int (v12.1 0 0 13)) (FLi hF (t := 0) (by decide)) (fun _ _ _ => rfl) rfl rfl rfl rfl inW7 13 (by decide) (TT_cons kw_304) rfl dX7_run_137 ?_
                refine G_iconst (v := 1) hΓ dX7_run_140 (by decide) ?_
                refine G_iadd hΓ dX7_run_141 ?_
                obtain ⟨s35, hv_s35, hf⟩ := lt_eq hf
                refine F_put hΓ (t := 0) (i := 0) (ci := 10) (C := RX7) (T := TX7) (N := 14) (fs7 (gl Γ) 0) (f := (v12.1 0 0)) (f' := (upd (v12.1 0 0) 13 ((v12.1 0 0 13) + 1))) (σ' := (qC σ s35)) (ty := .int) (v := .int ((v12.1 0 0 13) + 1)) tyX7 tyX7_ok nmX7 (FLi hF (t := 0) (by decide)) (fun _ _ _ => rfl) rfl ((qC_s (by decide)).trans (congrArg (qC σ) hv_s35.symm)) rfl inW7 13 (by decide) (TT_cons kw_304) rfl (by decide +kernel) rfl rfl (fun _ _ => Nat.le_of_ble_eq_true rfl) (fun _ _ => rfl) dX7_run_142 ?_
                refine G_iinc hΓ 3 [(3, .int (v2 + 1)), (6, .int v13), (5, .int v9), (4, .int u6), (2, .int (s.1 0 0 10)), (0, .ref (ya (gl Γ) 0 0)), (1, .int p1)] dX7_run_145 rfl rfl (by decide) rfl ?_
                refine G_goto hΓ (tgt := 43) dX7_run_148 (by decide) ?_
                exact G_loc [0, 4, 5, 6] rfl (ih _ _ hf)
              clear hk_k14
              have loop36 : ∀ (nn : Nat) v12 v13, L_X7_run_90 u6 v9 k14 nn v12 v13 = some (.inr (s', r9)) → GG Γ (0, 0) (qC σ v12) 90 [(6, .int v13), (5, .int v9), (4, .int u6), (3, .int v2), (2, .int (s.1 0 0 10)), (0, .ref (ya (gl Γ) 0 0)), (1, .int p1)] [] := by
                intro nn
                induction nn with
                | zero => intro v12 v13 hf; cases hf
                | succ nn ih =>
                  intro v12 v13 hf
                  rw [L_X7_run_90] at hf
                  refine G_iload hΓ 0 dX7_run_90 rfl ?_
                  refine G_aload_n hΓ 5 dX7_run_92 rfl ?_
                  refine F_get hΓ (t := 0) (i := 0) (ci := 10) (C := RX7) (T := TX7) (N := 14) (fs7 (gl Γ) 0) (v := .int (v12.1 0 0 8)) (FLi hF (t := 0) (by decide)) (fun _ _ _ => rfl) rfl rfl rfl rfl inW7 8 (by decide) (TT_cons kw_299) rfl dX7_run_93 ?_
                  refine G_icmp_ge hΓ (tgt := 135) dX7_run_96 (by decide) (fun hc34 => ?_) (fun hc34 => ?_)
                  · rw [if_pos hc34] at hf
                    exact (K15 _ _ hf)
                  · rw [if_neg hc34] at hf
                    refine G_aload_n hΓ 5 dX7_run_99 rfl ?_
                    refine G_iload hΓ 0 dX7_run_100 rfl ?_
                    refine G_aload_n hΓ 5 dX7_run_102 rfl ?_
                    refine F_get hΓ (t := 0) (i := 0) (ci := 10) (C := RX7) (T := TX7) (N := 14) (fs7 (gl Γ) 0) (v := .ref (ya (gl Γ) 1 0)) (FLi hF (t := 0) (by decide)) (fun _ _ _ => rfl) rfl rfl rfl rfl inW7 0 (by decide) (TT_cons kw_291) rfl dX7_run_103 ?_
                    refine G_iload hΓ 0 dX7_run_106 rfl ?_
                    obtain ⟨hg16, hf⟩ := gd_some hf
                    refine F_aaN hΓ (FLi hF (t := 1) (by decide)) hg16 dX7_run_108 ?_
                    refine G_iload hΓ 2 dX7_run_109 rfl ?_
                    refine G_iload hΓ 1 dX7_run_111 rfl ?_
                    refine G_iload hΓ 0 dX7_run_113 rfl ?_
                    refine G_iushr hΓ dX7_run_115 ?_
                    refine G_iconst (v := 1) hΓ dX7_run_116 (by decide) ?_
                    refine G_iand hΓ dX7_run_117 ?_
                    refine G_ixor hΓ dX7_run_118 ?_
                    refine G_aload_n hΓ 5 dX7_run_119 rfl ?_
                    refine F_get hΓ (t := 0) (i := 0) (ci := 10) (C := RX7) (T := TX7) (N := 14) (fs7 (gl Γ) 0) (v := .int (v12.1 0 0 13)) (FLi hF (t := 0) (by decide)) (fun _ _ _ => rfl) rfl rfl rfl rfl inW7 13 (by decide) (TT_cons kw_304) rfl dX7_run_120 ?_
                    obtain ⟨⟨u17, u18, u19, u20, u21, u22, u23, u24, u25, u26, u27, u28, u29⟩, hc31, hf⟩ := bd_some hf
                    try dsimp only at hf
                    obtain ⟨s30, hv_s30, hf⟩ := lt_eq hf
                    refine G_callV hΓ (n := 2) (As := [.int (u6 ^^^ (((v9.toUInt32 >>> (v13.toUInt32 &&& Int32.toUInt32 31)).toInt32) &&& 1)), .int (v12.1 0 0 13)]) (t := 3) (i := v13.toNatClampNeg) (ci := 5) (T := TX2) (N := 10) (FS := fs2 (gl Γ) v13.toNatClampNeg) (σ' := (qC σ s30)) (c_X2_see (gL Γ) (gl Γ) hF (qC σ v12) v13.toNatClampNeg (v12.2.2 v13.toNatClampNeg).1 (v12.2.2 v13.toNatClampNeg).2 (v12.1 3 v13.toNatClampNeg) (v12.2.1 4 v13.toNatClampNeg) (v12.1 4 v13.toNatClampNeg) (v12.1 5 v13.toNatClampNeg) (v12.1 7 v13.toNatClampNeg) (v12.1 8 v13.toNatClampNeg) (v12.1 9 v13.toNatClampNeg) (v12.1 10 v13.toNatClampNeg) (v12.1 11 v13.toNatClampNeg) (v12.1 12 v13.toNatClampNeg) (v12.1 13) (v12.1 15) (u6 ^^^ (((v9.toUInt32 >>> (v13.toUInt32 &&& Int32.toUInt32 31)).toInt32) &&& 1)) (v12.1 0 0 13) (vp_lt hg16) rfl rfl hc31) (qNd_qC.trans (congrArg (qC σ) qNd_self)) (qNd_qC.trans (congrArg (qC σ) hv_s30.symm)) kw_676 kw_677 kw_678 kw_2 kw_679 ⟨rfl, by decide, by decide, by decide +kernel⟩ (FLi hF (t := 3) (vp_lt hg16)) (fun _ _ _ => rfl) rfl rfl rfl ⟨Nat.le_of_ble_eq_true rfl, Nat.le_of_ble_eq_true rfl⟩ rfl (Nat.le_of_ble_eq_true rfl) dX7_run_123 ⟨_, rfl⟩ rfl ?_
                    obtain ⟨u32, hc33, hf⟩ := bd_some hf
                    refine G_callV hΓ (n := 2) (As := [.int v13, .int u29]) (t := 0) (i := 0) (ci := 10) (T := TX7) (N := 14) (FS := fs7 (gl Γ) 0) (σ' := (qC σ u32)) (c_X7_keep (gL Γ) (gl Γ) hF σ  s30 v13 u29  hc33) rfl rfl kw_781 kw_783 kp_27 kw_1 kw_784 ⟨rfl, by decide, by decide, by decide +kernel⟩ (FLi hF (t := 0) (by decide)) (fun _ _ _ => rfl) rfl rfl rfl ⟨Nat.le_of_ble_eq_true rfl, Nat.le_of_ble_eq_true rfl⟩ rfl (Nat.le_of_ble_eq_true rfl) dX7_run_126 ⟨_, rfl⟩ rfl ?_
                    refine G_iinc hΓ 0 [(6, .int (v13 + 1)), (5, .int v9), (4, .int u6), (3, .int v2), (2, .int (s.1 0 0 10)), (0, .ref (ya (gl Γ) 0 0)), (1, .int p1)] dX7_run_129 rfl rfl (by decide) rfl ?_
                    refine G_goto hΓ (tgt := 90) dX7_run_132 (by decide) ?_
                    exact (ih _ _ hf)
              exact loop36 _ _ _ hf
      exact loop39 _ _ _ hf
    · rw [if_neg hc40] at hf
      cases hf
  · rw [if_neg hc41] at hf
    cases hf
set_option maxHeartbeats 4000000 in
set_option maxRecDepth 100000 in
theorem t_X7_run (l : Launch) (hst : l.stackTraces = false) (Λ : LY) (hF : FL Λ) (σ : CS)  (s : CS) (p1 : Int32)   {e9 : Nat} (hf : f_X7_run s p1 = some (.inl e9)) : CT l yX7_run (.code yX7_run cX7_run 7 (some .int) :: TT) ({ frames := 7, cells := 1, slots := 6, locals := 154 }) Λ [.ref (ya Λ 0 0), .int p1] (qC σ s) (xn e9) := by
  refine CT_intro hst (own := RX7) (by decide) rfl (Nat.le_of_ble_eq_true rfl) rfl rfl ?_
  intro Γ hg hl hΓ hT
  subst hg; subst hl
  show GG Γ (0, 0) (qC σ s) 0 [(0, .ref (ya (gl Γ) 0 0)), (1, .int p1)] []
  unfold f_X7_run at hf
  refine G_iload_n hΓ 1 dX7_run_0 rfl ?_
  refine G_if_ge hΓ (tgt := 14) dX7_run_1 (by decide) (fun hc41 => ?_) (fun hc41 => ?_)
  · rw [if_pos hc41] at hf
    refine G_iload_n hΓ 1 dX7_run_14 rfl ?_
    refine G_sipush (v := 20000) hΓ dX7_run_15 (by decide) ?_
    refine G_aload_n hΓ 0 dX7_run_18 rfl ?_
    refine F_get hΓ (t := 0) (i := 0) (ci := 10) (C := RX7) (T := TX7) (N := 14) (fs7 (gl Γ) 0) (v := .int (s.1 0 0 13)) (FLi hF (t := 0) (by decide)) (fun _ _ _ => rfl) rfl rfl rfl rfl inW7 13 (by decide) (TT_cons kw_304) rfl dX7_run_19 ?_
    refine G_isub hΓ dX7_run_22 ?_
    refine G_icmp_le hΓ (tgt := 36) dX7_run_23 (by decide) (fun hc40 => ?_) (fun hc40 => ?_)
    · rw [if_pos hc40] at hf
      refine G_aload_n hΓ 0 dX7_run_36 rfl ?_
      refine F_get hΓ (t := 0) (i := 0) (ci := 10) (C := RX7) (T := TX7) (N := 14) (fs7 (gl Γ) 0) (v := .int (s.1 0 0 10)) (FLi hF (t := 0) (by decide)) (fun _ _ _ => rfl) rfl rfl rfl rfl inW7 10 (by decide) (TT_cons kw_301) rfl dX7_run_37 ?_
      refine G_istore_n hΓ [(2, .int (s.1 0 0 10)), (0, .ref (ya (gl Γ) 0 0)), (1, .int p1)] dX7_run_40 (by decide) rfl ?_
      refine G_iconst (v := 0) hΓ dX7_run_41 (by decide) ?_
      refine G_istore_n hΓ [(3, .int 0), (2, .int (s.1 0 0 10)), (0, .ref (ya (gl Γ) 0 0)), (1, .int p1)] dX7_run_42 (by decide) rfl ?_
      obtain ⟨k3, hk_k3, hf⟩ := jn_eq hf
      try dsimp only at hf
      have K4 : ∀ v1 v2, k3 (v1, v2) = some (.inl e9) → GG Γ (0, 0) (qC σ v1) 151 [(3, .int v2), (2, .int (s.1 0 0 10)), (0, .ref (ya (gl Γ) 0 0)), (1, .int p1)] [] := by
        intro v1 v2 hf
        subst hk_k3
        try dsimp only at hf
        refine G_aload_n hΓ 2 dX7_run_151 rfl ?_
        refine F_get hΓ (t := 0) (i := 0) (ci := 10) (C := RX7) (T := TX7) (N := 14) (fs7 (gl Γ) 0) (v := .int (v1.1 0 0 10)) (FLi hF (t := 0) (by decide)) (fun _ _ _ => rfl) rfl rfl rfl rfl inW7 10 (by decide) (TT_cons kw_301) rfl dX7_run_152 ?_
        refine G_iload_n hΓ 1 dX7_run_155 rfl ?_
        refine G_isub hΓ dX7_run_156 ?_
        cases hf
      clear hk_k3
      have loop39 : ∀ (nn : Nat) v1 v2, L_X7_run_43 p1 k3 nn v1 v2 = some (.inl e9) → GG Γ (0, 0) (qC σ v1) 43 [(3, .int v2), (2, .int (s.1 0 0 10)), (0, .ref (ya (gl Γ) 0 0)), (1, .int p1)] [] := by
        intro nn
        induction nn with
        | zero => intro v1 v2 hf; cases hf
        | succ nn ih =>
          intro v1 v2 hf
          rw [L_X7_run_43] at hf
          refine G_iload_n hΓ 0 dX7_run_43 rfl ?_
          refine G_iload_n hΓ 3 dX7_run_44 rfl ?_
          refine G_icmp_ge hΓ (tgt := 151) dX7_run_45 (by decide) (fun hc38 => ?_) (fun hc38 => ?_)
          · rw [if_pos hc38] at hf
            exact (K4 _ _ hf)
          · rw [if_neg hc38] at hf
            refine G_aload_n hΓ 2 dX7_run_48 rfl ?_
            refine F_get hΓ (t := 0) (i := 0) (ci := 10) (C := RX7) (T := TX7) (N := 14) (fs7 (gl Γ) 0) (v := .int (v1.1 0 0 13)) (FLi hF (t := 0) (by decide)) (fun _ _ _ => rfl) rfl rfl rfl rfl inW7 13 (by decide) (TT_cons kw_304) rfl dX7_run_49 ?_
            refine G_sipush (v := 20000) hΓ dX7_run_52 (by decide) ?_
            refine G_icmp_ge hΓ (tgt := 151) dX7_run_55 (by decide) (fun hc37 => ?_) (fun hc37 => ?_)
            · rw [if_pos hc37] at hf
              exact (K4 _ _ hf)
            · rw [if_neg hc37] at hf
              refine G_aload_n hΓ 2 dX7_run_58 rfl ?_
              obtain ⟨⟨u5, u6⟩, hc7, hf⟩ := bd_some hf
              try dsimp only at hf
              refine G_callV hΓ (n := 0) (As := []) (t := 0) (i := 0) (ci := 10) (T := TX7) (N := 14) (FS := fs7 (gl Γ) 0) (σ' := (qC σ u5)) (c_X7_putByAll (gL Γ) (gl Γ) hF σ  v1   hc7) rfl rfl kw_656 kw_658 kp_11 kw_1 kw_659 ⟨rfl, by decide, by decide, by decide +kernel⟩ (FLi hF (t := 0) (by decide)) (fun _ _ _ => rfl) rfl rfl rfl ⟨Nat.le_of_ble_eq_true rfl, Nat.le_of_ble_eq_true rfl⟩ rfl (Nat.le_of_ble_eq_true rfl) dX7_run_59 ⟨_, rfl⟩ rfl ?_
              refine G_istore hΓ [(4, .int u6), (3, .int v2), (2, .int (s.1 0 0 10)), (0, .ref (ya (gl Γ) 0 0)), (1, .int p1)] dX7_run_62 (by decide) rfl ?_
              refine G_aload_n hΓ 3 dX7_run_64 rfl ?_
              refine F_get hΓ (t := 0) (i := 0) (ci := 10) (C := RX7) (T := TX7) (N := 14) (fs7 (gl Γ) 0) (v := .ref (ya (gl Γ) 17 1)) (FLi hF (t := 0) (by decide)) (fun _ _ _ => rfl) rfl rfl rfl rfl inW7 4 (by decide) (TT_cons kw_295) rfl dX7_run_65 ?_
              refine G_aload_n hΓ 3 dX7_run_68 rfl ?_
              refine F_get hΓ (t := 0) (i := 0) (ci := 10) (C := RX7) (T := TX7) (N := 14) (fs7 (gl Γ) 0) (v := .int (u5.1 0 0 13)) (FLi hF (t := 0) (by decide)) (fun _ _ _ => rfl) rfl rfl rfl rfl inW7 13 (by decide) (TT_cons kw_304) rfl dX7_run_69 ?_
              obtain ⟨hg8, hf⟩ := gd_some hf
              refine F_ald (G_iald hΓ) (t := 17) (i := 1) (f := u5.1 17 1) (FLi hF (t := 17) (by decide)) (fun _ _ _ => rfl) rfl hg8 dX7_run_72 ?_
              obtain ⟨v9, hv_v9, hf⟩ := lt_eq hf
              refine G_topi hv_v9 ?_
              refine G_istore hΓ [(5, .int v9), (4, .int u6), (3, .int v2), (2, .int (s.1 0 0 10)), (0, .ref (ya (gl Γ) 0 0)), (1, .int p1)] dX7_run_73 (by decide) rfl ?_
              refine G_aload_n hΓ 4 dX7_run_75 rfl ?_
              refine F_get hΓ (t := 0) (i := 0) (ci := 10) (C := RX7) (T := TX7) (N := 14) (fs7 (gl Γ) 0) (v := .ref (ya (gl Γ) 17 0)) (FLi hF (t := 0) (by decide)) (fun _ _ _ => rfl) rfl rfl rfl rfl inW7 3 (by decide) (TT_cons kw_294) rfl dX7_run_76 ?_
              refine G_aload_n hΓ 4 dX7_run_79 rfl ?_
              refine F_get hΓ (t := 0) (i := 0) (ci := 10) (C := RX7) (T := TX7) (N := 14) (fs7 (gl Γ) 0) (v := .int (u5.1 0 0 13)) (FLi hF (t := 0) (by decide)) (fun _ _ _ => rfl) rfl rfl rfl rfl inW7 13 (by decide) (TT_cons kw_304) rfl dX7_run_80 ?_
              refine G_iload hΓ 1 dX7_run_83 rfl ?_
              refine G_i2b hΓ dX7_run_85 ?_
              obtain ⟨hg10, hf⟩ := gd_some hf
              obtain ⟨s11, hv_s11, hf⟩ := lt_eq hf
              refine F_bast hΓ (t := 17) (i := 0) (f := u5.1 17 0) (σ' := (qC σ s11)) (FLi hF (t := 17) (by decide)) (fun _ _ _ => rfl) rfl ((qC_s (by decide)).trans (congrArg (qC σ) hv_s11.symm)) hg10 dX7_run_86 ?_
              refine G_iconst (v := 0) hΓ dX7_run_87 (by decide) ?_
              refine G_istore hΓ [(6, .int 0), (5, .int v9), (4, .int u6), (3, .int v2), (2, .int (s.1 0 0 10)), (0, .ref (ya (gl Γ) 0 0)), (1, .int p1)] dX7_run_88 (by decide) rfl ?_
              obtain ⟨k14, hk_k14, hf⟩ := jn_eq hf
              try dsimp only at hf
              have K15 : ∀ v12 v13, k14 (v12, v13) = some (.inl e9) → GG Γ (0, 0) (qC σ v12) 135 [(6, .int v13), (5, .int v9), (4, .int u6), (3, .int v2), (2, .int (s.1 0 0 10)), (0, .ref (ya (gl Γ) 0 0)), (1, .int p1)] [] := by
                intro v12 v13 hf
                subst hk_k14
                try dsimp only at hf
                refine G_aload_n hΓ 5 dX7_run_135 rfl ?_
                refine G_dup hΓ dX7_run_136 rfl ?_
                refine F_get hΓ (t := 0) (i := 0) (ci := 10) (C := RX7) (T := TX7) (N := 14) (fs7 (gl Γ) 0) (v := .int (v12.1 0 0 13)) (FLi hF (t := 0) (by decide)) (fun _ _ _ => rfl) rfl rfl rfl rfl inW7 13 (by decide) (TT_cons kw_304) rfl dX7_run_137 ?_
                refine G_iconst (v := 1) hΓ dX7_run_140 (by decide) ?_
                refine G_iadd hΓ dX7_run_141 ?_
                obtain ⟨s35, hv_s35, hf⟩ := lt_eq hf
                refine F_put hΓ (t := 0) (i := 0) (ci := 10) (C := RX7) (T := TX7) (N := 14) (fs7 (gl Γ) 0) (f := (v12.1 0 0)) (f' := (upd (v12.1 0 0) 13 ((v12.1 0 0 13) + 1))) (σ' := (qC σ s35)) (ty := .int) (v := .int ((v12.1 0 0 13) + 1)) tyX7 tyX7_ok nmX7 (FLi hF (t := 0) (by decide)) (fun _ _ _ => rfl) rfl ((qC_s (by decide)).trans (congrArg (qC σ) hv_s35.symm)) rfl inW7 13 (by decide) (TT_cons kw_304) rfl (by decide +kernel) rfl rfl (fun _ _ => Nat.le_of_ble_eq_true rfl) (fun _ _ => rfl) dX7_run_142 ?_
                refine G_iinc hΓ 3 [(3, .int (v2 + 1)), (6, .int v13), (5, .int v9), (4, .int u6), (2, .int (s.1 0 0 10)), (0, .ref (ya (gl Γ) 0 0)), (1, .int p1)] dX7_run_145 rfl rfl (by decide) rfl ?_
                refine G_goto hΓ (tgt := 43) dX7_run_148 (by decide) ?_
                exact G_loc [0, 4, 5, 6] rfl (ih _ _ hf)
              clear hk_k14
              have loop36 : ∀ (nn : Nat) v12 v13, L_X7_run_90 u6 v9 k14 nn v12 v13 = some (.inl e9) → GG Γ (0, 0) (qC σ v12) 90 [(6, .int v13), (5, .int v9), (4, .int u6), (3, .int v2), (2, .int (s.1 0 0 10)), (0, .ref (ya (gl Γ) 0 0)), (1, .int p1)] [] := by
                intro nn
                induction nn with
                | zero => intro v12 v13 hf; cases hf
                | succ nn ih =>
                  intro v12 v13 hf
                  rw [L_X7_run_90] at hf
                  refine G_iload hΓ 0 dX7_run_90 rfl ?_
                  refine G_aload_n hΓ 5 dX7_run_92 rfl ?_
                  refine F_get hΓ (t := 0) (i := 0) (ci := 10) (C := RX7) (T := TX7) (N := 14) (fs7 (gl Γ) 0) (v := .int (v12.1 0 0 8)) (FLi hF (t := 0) (by decide)) (fun _ _ _ => rfl) rfl rfl rfl rfl inW7 8 (by decide) (TT_cons kw_299) rfl dX7_run_93 ?_
                  refine G_icmp_ge hΓ (tgt := 135) dX7_run_96 (by decide) (fun hc34 => ?_) (fun hc34 => ?_)
                  · rw [if_pos hc34] at hf
                    exact (K15 _ _ hf)
                  · rw [if_neg hc34] at hf
                    refine G_aload_n hΓ 5 dX7_run_99 rfl ?_
                    refine G_iload hΓ 0 dX7_run_100 rfl ?_
                    refine G_aload_n hΓ 5 dX7_run_102 rfl ?_
                    refine F_get hΓ (t := 0) (i := 0) (ci := 10) (C := RX7) (T := TX7) (N := 14) (fs7 (gl Γ) 0) (v := .ref (ya (gl Γ) 1 0)) (FLi hF (t := 0) (by decide)) (fun _ _ _ => rfl) rfl rfl rfl rfl inW7 0 (by decide) (TT_cons kw_291) rfl dX7_run_103 ?_
                    refine G_iload hΓ 0 dX7_run_106 rfl ?_
                    obtain ⟨hg16, hf⟩ := gd_some hf
                    refine F_aaN hΓ (FLi hF (t := 1) (by decide)) hg16 dX7_run_108 ?_
                    refine G_iload hΓ 2 dX7_run_109 rfl ?_
                    refine G_iload hΓ 1 dX7_run_111 rfl ?_
                    refine G_iload hΓ 0 dX7_run_113 rfl ?_
                    refine G_iushr hΓ dX7_run_115 ?_
                    refine G_iconst (v := 1) hΓ dX7_run_116 (by decide) ?_
                    refine G_iand hΓ dX7_run_117 ?_
                    refine G_ixor hΓ dX7_run_118 ?_
                    refine G_aload_n hΓ 5 dX7_run_119 rfl ?_
                    refine F_get hΓ (t := 0) (i := 0) (ci := 10) (C := RX7) (T := TX7) (N := 14) (fs7 (gl Γ) 0) (v := .int (v12.1 0 0 13)) (FLi hF (t := 0) (by decide)) (fun _ _ _ => rfl) rfl rfl rfl rfl inW7 13 (by decide) (TT_cons kw_304) rfl dX7_run_120 ?_
                    obtain ⟨⟨u17, u18, u19, u20, u21, u22, u23, u24, u25, u26, u27, u28, u29⟩, hc31, hf⟩ := bd_some hf
                    try dsimp only at hf
                    obtain ⟨s30, hv_s30, hf⟩ := lt_eq hf
                    refine G_callV hΓ (n := 2) (As := [.int (u6 ^^^ (((v9.toUInt32 >>> (v13.toUInt32 &&& Int32.toUInt32 31)).toInt32) &&& 1)), .int (v12.1 0 0 13)]) (t := 3) (i := v13.toNatClampNeg) (ci := 5) (T := TX2) (N := 10) (FS := fs2 (gl Γ) v13.toNatClampNeg) (σ' := (qC σ s30)) (c_X2_see (gL Γ) (gl Γ) hF (qC σ v12) v13.toNatClampNeg (v12.2.2 v13.toNatClampNeg).1 (v12.2.2 v13.toNatClampNeg).2 (v12.1 3 v13.toNatClampNeg) (v12.2.1 4 v13.toNatClampNeg) (v12.1 4 v13.toNatClampNeg) (v12.1 5 v13.toNatClampNeg) (v12.1 7 v13.toNatClampNeg) (v12.1 8 v13.toNatClampNeg) (v12.1 9 v13.toNatClampNeg) (v12.1 10 v13.toNatClampNeg) (v12.1 11 v13.toNatClampNeg) (v12.1 12 v13.toNatClampNeg) (v12.1 13) (v12.1 15) (u6 ^^^ (((v9.toUInt32 >>> (v13.toUInt32 &&& Int32.toUInt32 31)).toInt32) &&& 1)) (v12.1 0 0 13) (vp_lt hg16) rfl rfl hc31) (qNd_qC.trans (congrArg (qC σ) qNd_self)) (qNd_qC.trans (congrArg (qC σ) hv_s30.symm)) kw_676 kw_677 kw_678 kw_2 kw_679 ⟨rfl, by decide, by decide, by decide +kernel⟩ (FLi hF (t := 3) (vp_lt hg16)) (fun _ _ _ => rfl) rfl rfl rfl ⟨Nat.le_of_ble_eq_true rfl, Nat.le_of_ble_eq_true rfl⟩ rfl (Nat.le_of_ble_eq_true rfl) dX7_run_123 ⟨_, rfl⟩ rfl ?_
                    obtain ⟨u32, hc33, hf⟩ := bd_some hf
                    refine G_callV hΓ (n := 2) (As := [.int v13, .int u29]) (t := 0) (i := 0) (ci := 10) (T := TX7) (N := 14) (FS := fs7 (gl Γ) 0) (σ' := (qC σ u32)) (c_X7_keep (gL Γ) (gl Γ) hF σ  s30 v13 u29  hc33) rfl rfl kw_781 kw_783 kp_27 kw_1 kw_784 ⟨rfl, by decide, by decide, by decide +kernel⟩ (FLi hF (t := 0) (by decide)) (fun _ _ _ => rfl) rfl rfl rfl ⟨Nat.le_of_ble_eq_true rfl, Nat.le_of_ble_eq_true rfl⟩ rfl (Nat.le_of_ble_eq_true rfl) dX7_run_126 ⟨_, rfl⟩ rfl ?_
                    refine G_iinc hΓ 0 [(6, .int (v13 + 1)), (5, .int v9), (4, .int u6), (3, .int v2), (2, .int (s.1 0 0 10)), (0, .ref (ya (gl Γ) 0 0)), (1, .int p1)] dX7_run_129 rfl rfl (by decide) rfl ?_
                    refine G_goto hΓ (tgt := 90) dX7_run_132 (by decide) ?_
                    exact (ih _ _ hf)
              exact loop36 _ _ _ hf
      exact loop39 _ _ _ hf
    · rw [if_neg hc40] at hf
      cases hf
      exact G_throw hΓ hT (names := ["java/lang/RuntimeException", "java/lang/Exception"]) (by decide) (by decide) kw_488 kw_18 13 rfl at_3 4 rfl ao_3 dX7_run_26 dX7_run_29 dX7_run_30 dX7_run_32 dX7_run_35 (by decide) (Nat.le_of_ble_eq_true rfl)
  · rw [if_neg hc41] at hf
    cases hf
    exact G_throw hΓ hT (names := ["java/lang/RuntimeException", "java/lang/Exception"]) (by decide) (by decide) kw_418 kw_15 12 rfl at_2 1 rfl ao_2 dX7_run_4 dX7_run_7 dX7_run_8 dX7_run_10 dX7_run_13 (by decide) (Nat.le_of_ble_eq_true rfl)
