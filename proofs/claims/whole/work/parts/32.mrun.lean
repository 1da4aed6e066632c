theorem dX8_first_0 : decode cX8_first 0 = .ok (.iconst (-1), 1) := by decide +kernel
theorem dX8_first_1 : decode cX8_first 1 = .ok (.istore_n 2, 1) := by decide +kernel
theorem dX8_first_2 : decode cX8_first 2 = .ok (.iconst 0, 1) := by decide +kernel
theorem dX8_first_3 : decode cX8_first 3 = .ok (.istore_n 3, 1) := by decide +kernel
theorem dX8_first_4 : decode cX8_first 4 = .ok (.iconst 0, 1) := by decide +kernel
theorem dX8_first_5 : decode cX8_first 5 = .ok (.istore 4, 2) := by decide +kernel
theorem dX8_first_7 : decode cX8_first 7 = .ok (.iload 4, 2) := by decide +kernel
theorem dX8_first_9 : decode cX8_first 9 = .ok (.aload_n 0, 1) := by decide +kernel
theorem dX8_first_10 : decode cX8_first 10 = .ok (.getfield 119, 3) := by decide +kernel
theorem dX8_first_13 : decode cX8_first 13 = .ok (.if_icmp .ge 177, 3) := by decide +kernel
theorem dX8_first_16 : decode cX8_first 16 = .ok (.aload_n 0, 1) := by decide +kernel
theorem dX8_first_17 : decode cX8_first 17 = .ok (.getfield 17, 3) := by decide +kernel
theorem dX8_first_20 : decode cX8_first 20 = .ok (.iload 4, 2) := by decide +kernel
theorem dX8_first_22 : decode cX8_first 22 = .ok (.iaload, 1) := by decide +kernel
theorem dX8_first_23 : decode cX8_first 23 = .ok (.iload_n 1, 1) := by decide +kernel
theorem dX8_first_24 : decode cX8_first 24 = .ok (.if_icmp .ne 160, 3) := by decide +kernel
theorem dX8_first_27 : decode cX8_first 27 = .ok (.aload_n 0, 1) := by decide +kernel
theorem dX8_first_28 : decode cX8_first 28 = .ok (.getfield 33, 3) := by decide +kernel
theorem dX8_first_31 : decode cX8_first 31 = .ok (.iload 4, 2) := by decide +kernel
theorem dX8_first_33 : decode cX8_first 33 = .ok (.baload, 1) := by decide +kernel
theorem dX8_first_34 : decode cX8_first 34 = .ok (.ifCond .eq 6, 3) := by decide +kernel
theorem dX8_first_37 : decode cX8_first 37 = .ok (.goto 147, 3) := by decide +kernel
theorem dX8_first_40 : decode cX8_first 40 = .ok (.aload_n 0, 1) := by decide +kernel
theorem dX8_first_41 : decode cX8_first 41 = .ok (.iload 4, 2) := by decide +kernel
theorem dX8_first_43 : decode cX8_first 43 = .ok (.invokevirtual 163, 3) := by decide +kernel
theorem dX8_first_46 : decode cX8_first 46 = .ok (.iconst 0, 1) := by decide +kernel
theorem dX8_first_47 : decode cX8_first 47 = .ok (.istore 5, 2) := by decide +kernel
theorem dX8_first_49 : decode cX8_first 49 = .ok (.iload_n 2, 1) := by decide +kernel
theorem dX8_first_50 : decode cX8_first 50 = .ok (.iconst (-1), 1) := by decide +kernel
theorem dX8_first_51 : decode cX8_first 51 = .ok (.if_icmp .eq 41, 3) := by decide +kernel
theorem dX8_first_54 : decode cX8_first 54 = .ok (.iload 5, 2) := by decide +kernel
theorem dX8_first_56 : decode cX8_first 56 = .ok (.aload_n 0, 1) := by decide +kernel
theorem dX8_first_57 : decode cX8_first 57 = .ok (.getfield 143, 3) := by decide +kernel
theorem dX8_first_60 : decode cX8_first 60 = .ok (.if_icmp .ge 32, 3) := by decide +kernel
theorem dX8_first_63 : decode cX8_first 63 = .ok (.iload 5, 2) := by decide +kernel
theorem dX8_first_65 : decode cX8_first 65 = .ok (.iload_n 3, 1) := by decide +kernel
theorem dX8_first_66 : decode cX8_first 66 = .ok (.if_icmp .ge 26, 3) := by decide +kernel
theorem dX8_first_69 : decode cX8_first 69 = .ok (.aload_n 0, 1) := by decide +kernel
theorem dX8_first_70 : decode cX8_first 70 = .ok (.getfield 98, 3) := by decide +kernel
theorem dX8_first_73 : decode cX8_first 73 = .ok (.iload 5, 2) := by decide +kernel
theorem dX8_first_75 : decode cX8_first 75 = .ok (.baload, 1) := by decide +kernel
theorem dX8_first_76 : decode cX8_first 76 = .ok (.aload_n 0, 1) := by decide +kernel
theorem dX8_first_77 : decode cX8_first 77 = .ok (.getfield 107, 3) := by decide +kernel
theorem dX8_first_80 : decode cX8_first 80 = .ok (.iload 5, 2) := by decide +kernel
theorem dX8_first_82 : decode cX8_first 82 = .ok (.baload, 1) := by decide +kernel
theorem dX8_first_83 : decode cX8_first 83 = .ok (.if_icmp .ne 9, 3) := by decide +kernel
theorem dX8_first_86 : decode cX8_first 86 = .ok (.iinc 5 1, 3) := by decide +kernel
theorem dX8_first_89 : decode cX8_first 89 = .ok (.goto (-40), 3) := by decide +kernel
theorem dX8_first_92 : decode cX8_first 92 = .ok (.iload_n 2, 1) := by decide +kernel
theorem dX8_first_93 : decode cX8_first 93 = .ok (.iconst (-1), 1) := by decide +kernel
theorem dX8_first_94 : decode cX8_first 94 = .ok (.if_icmp .eq 35, 3) := by decide +kernel
theorem dX8_first_97 : decode cX8_first 97 = .ok (.iload 5, 2) := by decide +kernel
theorem dX8_first_99 : decode cX8_first 99 = .ok (.aload_n 0, 1) := by decide +kernel
theorem dX8_first_100 : decode cX8_first 100 = .ok (.getfield 143, 3) := by decide +kernel
theorem dX8_first_103 : decode cX8_first 103 = .ok (.if_icmp .ge 30, 3) := by decide +kernel
theorem dX8_first_106 : decode cX8_first 106 = .ok (.iload 5, 2) := by decide +kernel
theorem dX8_first_108 : decode cX8_first 108 = .ok (.iload_n 3, 1) := by decide +kernel
theorem dX8_first_109 : decode cX8_first 109 = .ok (.if_icmp .ge 24, 3) := by decide +kernel
theorem dX8_first_112 : decode cX8_first 112 = .ok (.aload_n 0, 1) := by decide +kernel
theorem dX8_first_113 : decode cX8_first 113 = .ok (.getfield 98, 3) := by decide +kernel
theorem dX8_first_116 : decode cX8_first 116 = .ok (.iload 5, 2) := by decide +kernel
theorem dX8_first_118 : decode cX8_first 118 = .ok (.baload, 1) := by decide +kernel
theorem dX8_first_119 : decode cX8_first 119 = .ok (.aload_n 0, 1) := by decide +kernel
theorem dX8_first_120 : decode cX8_first 120 = .ok (.getfield 107, 3) := by decide +kernel
theorem dX8_first_123 : decode cX8_first 123 = .ok (.iload 5, 2) := by decide +kernel
theorem dX8_first_125 : decode cX8_first 125 = .ok (.baload, 1) := by decide +kernel
theorem dX8_first_126 : decode cX8_first 126 = .ok (.if_icmp .ge 7, 3) := by decide +kernel
theorem dX8_first_129 : decode cX8_first 129 = .ok (.iconst 1, 1) := by decide +kernel
theorem dX8_first_130 : decode cX8_first 130 = .ok (.goto 4, 3) := by decide +kernel
theorem dX8_first_133 : decode cX8_first 133 = .ok (.iconst 0, 1) := by decide +kernel
theorem dX8_first_134 : decode cX8_first 134 = .ok (.istore 6, 2) := by decide +kernel
theorem dX8_first_136 : decode cX8_first 136 = .ok (.iload 6, 2) := by decide +kernel
theorem dX8_first_138 : decode cX8_first 138 = .ok (.ifCond .ne 6, 3) := by decide +kernel
theorem dX8_first_141 : decode cX8_first 141 = .ok (.goto 43, 3) := by decide +kernel
theorem dX8_first_144 : decode cX8_first 144 = .ok (.iload 4, 2) := by decide +kernel
theorem dX8_first_146 : decode cX8_first 146 = .ok (.istore_n 2, 1) := by decide +kernel
theorem dX8_first_147 : decode cX8_first 147 = .ok (.aload_n 0, 1) := by decide +kernel
theorem dX8_first_148 : decode cX8_first 148 = .ok (.getfield 143, 3) := by decide +kernel
theorem dX8_first_151 : decode cX8_first 151 = .ok (.istore_n 3, 1) := by decide +kernel
theorem dX8_first_152 : decode cX8_first 152 = .ok (.iconst 0, 1) := by decide +kernel
theorem dX8_first_153 : decode cX8_first 153 = .ok (.istore 7, 2) := by decide +kernel
theorem dX8_first_155 : decode cX8_first 155 = .ok (.iload 7, 2) := by decide +kernel
theorem dX8_first_157 : decode cX8_first 157 = .ok (.aload_n 0, 1) := by decide +kernel
theorem dX8_first_158 : decode cX8_first 158 = .ok (.getfield 143, 3) := by decide +kernel
theorem dX8_first_161 : decode cX8_first 161 = .ok (.if_icmp .ge 23, 3) := by decide +kernel
theorem dX8_first_164 : decode cX8_first 164 = .ok (.aload_n 0, 1) := by decide +kernel
theorem dX8_first_165 : decode cX8_first 165 = .ok (.getfield 107, 3) := by decide +kernel
theorem dX8_first_168 : decode cX8_first 168 = .ok (.iload 7, 2) := by decide +kernel
theorem dX8_first_170 : decode cX8_first 170 = .ok (.aload_n 0, 1) := by decide +kernel
theorem dX8_first_171 : decode cX8_first 171 = .ok (.getfield 98, 3) := by decide +kernel
theorem dX8_first_174 : decode cX8_first 174 = .ok (.iload 7, 2) := by decide +kernel
theorem dX8_first_176 : decode cX8_first 176 = .ok (.baload, 1) := by decide +kernel
theorem dX8_first_177 : decode cX8_first 177 = .ok (.bastore, 1) := by decide +kernel
theorem dX8_first_178 : decode cX8_first 178 = .ok (.iinc 7 1, 3) := by decide +kernel
theorem dX8_first_181 : decode cX8_first 181 = .ok (.goto (-26), 3) := by decide +kernel
theorem dX8_first_184 : decode cX8_first 184 = .ok (.iinc 4 1, 3) := by decide +kernel
theorem dX8_first_187 : decode cX8_first 187 = .ok (.goto (-180), 3) := by decide +kernel
theorem dX8_first_190 : decode cX8_first 190 = .ok (.iload_n 2, 1) := by decide +kernel
theorem dX8_first_191 : decode cX8_first 191 = .ok (.ireturn, 1) := by decide +kernel
noncomputable def L_X8_first_155 (u16 : Nat → Int32) (k34 : (Nat → Nat → Int32) × Int32 → Option ((Nat → Int32) × (Nat → Nat → Int32) × Int32)) : Nat → (Nat → Nat → Int32) → Int32 → Option ((Nat → Int32) × (Nat → Nat → Int32) × Int32)
  | 0, _, _ => none
  | nn + 1, v32, v33 => if (u16 34) ≤ v33 then k34 (v32, v33) else gd (vp_in v33 700) (lt (α := Int32) ((v32 26) v33.toNatClampNeg) (fun v37 => gd (vp_in v33 700) (L_X8_first_155 u16 k34 nn (va_up v32 29 (upd (v32 29) v33.toNatClampNeg (vp_nar .byte v37))) (v33 + 1))))
noncomputable def L_X8_first_49 (v5 : Int32) (u16 : Nat → Int32) (v4 : Int32) (u17 : Nat → Nat → Int32) (k20 : Int32 → Option ((Nat → Int32) × (Nat → Nat → Int32) × Int32)) : Nat → Int32 → Option ((Nat → Int32) × (Nat → Nat → Int32) × Int32)
  | 0, _ => none
  | nn + 1, v19 => if v5 = (-1) then k20 v19 else if (u16 34) ≤ v19 then k20 v19 else if v4 ≤ v19 then k20 v19 else gd (vp_in v19 700) (gd (vp_in v19 700) (if ((u17 26) v19.toNatClampNeg) = ((u17 29) v19.toNatClampNeg) then L_X8_first_49 v5 u16 v4 u17 k20 nn (v19 + 1) else k20 v19))
noncomputable def L_X8_first_7 (p1 : Int32) (k6 : (Nat → Int32) × (Nat → Nat → Int32) × Int32 × Int32 × Int32 → Option ((Nat → Int32) × (Nat → Nat → Int32) × Int32)) : Nat → (Nat → Int32) → (Nat → Nat → Int32) → Int32 → Int32 → Int32 → Option ((Nat → Int32) × (Nat → Nat → Int32) × Int32)
  | 0, _, _, _, _, _ => none
  | nn + 1, v1, v2, v3, v4, v5 => if (v1 4) ≤ v3 then k6 (v1, v2, v3, v4, v5) else gd (vp_in v3 200) (jn (α := Int32 × Int32 × (Nat → Int32) × (Nat → Nat → Int32)) (fun ⟨x9, x10, x11, x12⟩ => L_X8_first_7 p1 k6 nn x11 x12 (v3 + 1) x10 x9) (fun k13 => if ((v2 1) v3.toNatClampNeg) = p1 then gd (vp_in v3 200) (if ((v2 6) v3.toNatClampNeg) = 0 then bd (f_X8_writePlain v1 v2 v3) (fun ⟨u16, u17⟩ => jn (α := Int32) (fun v19 => jn (α := Int32) (fun x28 => if x28 = 0 then k13 (v5, v4, u16, u17) else jn (α := (Nat → Nat → Int32) × Int32) (fun ⟨v32, v33⟩ => k13 (v3, u16 34, u16, v32)) (fun k34 => L_X8_first_155 u16 k34 fu u17 0)) (fun k30 => if v5 = (-1) then k30 1 else if (u16 34) ≤ v19 then k30 0 else if v4 ≤ v19 then k30 0 else gd (vp_in v19 700) (gd (vp_in v19 700) (if ((u17 29) v19.toNatClampNeg) ≤ ((u17 26) v19.toNatClampNeg) then k30 0 else k30 1)))) (fun k20 => L_X8_first_49 v5 u16 v4 u17 k20 fu 0)) else k13 (v5, v4, v1, v2)) else k13 (v5, v4, v1, v2)))
noncomputable def f_X8_first  (v : Nat → Int32) (m : Nat → Nat → Int32) (p1 : Int32) : Option ((Nat → Int32) × (Nat → Nat → Int32) × Int32) := jn (α := (Nat → Int32) × (Nat → Nat → Int32) × Int32 × Int32 × Int32) (fun ⟨v1, v2, v3, v4, v5⟩ => some (v1, v2, v5)) (fun k6 => L_X8_first_7 p1 k6 fu v m 0 0 (-1))
set_option maxHeartbeats 4000000 in
set_option maxRecDepth 100000 in
theorem c_X8_first (l : Launch) (Λ : LY) (hF : FM Λ) (σ : CS)  (v : Nat → Int32) (m : Nat → Nat → Int32) (p1 : Int32)   {v' : Nat → Int32} {m' : Nat → Nat → Int32} {r9 : Int32} (hf : f_X8_first v m p1 = some (v', m', r9)) : CM l yX8_first (.code yX8_first cX8_first 8 (some .int) :: TT) ({ frames := 2, cells := 0, slots := 0, locals := 48 }) Λ [.ref (ya Λ 18 0), .int p1] (qM σ v m) (qM σ v' m') (some (.int r9)) := by
  refine CM_intro (own := RX8) (by decide) rfl (Nat.le_of_ble_eq_true rfl) ?_
  intro Γ hg hl hΓ hE
  subst hg; subst hl
  show GG Γ (0, 0) (qM σ v m) 0 [(0, .ref (ya (gl Γ) 18 0)), (1, .int p1)] []
  unfold f_X8_first at hf
  refine G_iconst (v := (-1)) hΓ dX8_first_0 (by decide) ?_
  refine G_istore_n hΓ [(2, .int (-1)), (0, .ref (ya (gl Γ) 18 0)), (1, .int p1)] dX8_first_1 (by decide) rfl ?_
  refine G_iconst (v := 0) hΓ dX8_first_2 (by decide) ?_
  refine G_istore_n hΓ [(3, .int 0), (2, .int (-1)), (0, .ref (ya (gl Γ) 18 0)), (1, .int p1)] dX8_first_3 (by decide) rfl ?_
  refine G_iconst (v := 0) hΓ dX8_first_4 (by decide) ?_
  refine G_istore hΓ [(4, .int 0), (3, .int 0), (2, .int (-1)), (0, .ref (ya (gl Γ) 18 0)), (1, .int p1)] dX8_first_5 (by decide) rfl ?_
  obtain ⟨k6, hk_k6, hf⟩ := jn_eq hf
  try dsimp only at hf
  have K7 : ∀ v1 v2 v3 v4 v5, k6 (v1, v2, v3, v4, v5) = some (v', m', r9) → GG Γ (0, 0) (qM σ v1 v2) 190 [(4, .int v3), (3, .int v4), (2, .int v5), (0, .ref (ya (gl Γ) 18 0)), (1, .int p1)] [] := by
    intro v1 v2 v3 v4 v5 hf
    subst hk_k6
    try dsimp only at hf
    refine G_iload_n hΓ 2 dX8_first_190 rfl ?_
    cases hf
    exact G_iret hΓ hE dX8_first_191
  clear hk_k6
  have loop52 : ∀ (nn : Nat) v1 v2 v3 v4 v5, L_X8_first_7 p1 k6 nn v1 v2 v3 v4 v5 = some (v', m', r9) → GG Γ (0, 0) (qM σ v1 v2) 7 [(4, .int v3), (3, .int v4), (2, .int v5), (0, .ref (ya (gl Γ) 18 0)), (1, .int p1)] [] := by
    intro nn
    induction nn with
    | zero => intro v1 v2 v3 v4 v5 hf; cases hf
    | succ nn ih =>
      intro v1 v2 v3 v4 v5 hf
      rw [L_X8_first_7] at hf
      refine G_iload hΓ 0 dX8_first_7 rfl ?_
      refine G_aload_n hΓ 3 dX8_first_9 rfl ?_
      refine F_get hΓ (t := 18) (i := 0) (ci := 11) (C := RX8) (T := TX8) (N := 47) (fs8 (gl Γ) 0) (v := .int (v1 4)) (FMi hF (t := 18) (by decide)) (fun _ _ _ => rfl) rfl rfl rfl rfl inW8 4 (by decide) (TT_cons kw_884) rfl dX8_first_10 ?_
      refine G_icmp_ge hΓ (tgt := 190) dX8_first_13 (by decide) (fun hc51 => ?_) (fun hc51 => ?_)
      · rw [if_pos hc51] at hf
        exact (K7 _ _ _ _ _ hf)
      · rw [if_neg hc51] at hf
        refine G_aload_n hΓ 3 dX8_first_16 rfl ?_
        refine F_get hΓ (t := 18) (i := 0) (ci := 11) (C := RX8) (T := TX8) (N := 47) (fs8 (gl Γ) 0) (v := .ref (ya (gl Γ) 19 1)) (FMi hF (t := 18) (by decide)) (fun _ _ _ => rfl) rfl rfl rfl rfl inW8 5 (by decide) (TT_cons kw_885) rfl dX8_first_17 ?_
        refine G_iload hΓ 0 dX8_first_20 rfl ?_
        obtain ⟨hg8, hf⟩ := gd_some hf
        refine F_ald (G_iald hΓ) (t := 19) (i := 1) (f := (v2 1)) (FMi hF (t := 19) (by decide)) (fun _ _ _ => rfl) rfl hg8 dX8_first_22 ?_
        refine G_iload_n hΓ 4 dX8_first_23 rfl ?_
        obtain ⟨k13, hk_k13, hf⟩ := jn_eq hf
        try dsimp only at hf
        have K14 : ∀ x9 x10 x11 x12, k13 (x9, x10, x11, x12) = some (v', m', r9) → GG Γ (0, 0) (qM σ x11 x12) 184 [(4, .int v3), (3, .int x10), (2, .int x9), (0, .ref (ya (gl Γ) 18 0)), (1, .int p1)] [] := by
          intro x9 x10 x11 x12 hf
          subst hk_k13
          try dsimp only at hf
          refine G_iinc hΓ 0 [(4, .int (v3 + 1)), (3, .int x10), (2, .int x9), (0, .ref (ya (gl Γ) 18 0)), (1, .int p1)] dX8_first_184 rfl rfl (by decide) rfl ?_
          refine G_goto hΓ (tgt := 7) dX8_first_187 (by decide) ?_
          exact (ih _ _ _ _ _ hf)
        clear hk_k13
        refine G_icmp_ne hΓ (tgt := 184) dX8_first_24 (by decide) (fun hc50 => ?_) (fun hc50 => ?_)
        · rw [if_neg hc50] at hf
          exact K14 _ _ _ _ hf
        · rw [if_pos hc50] at hf
          refine G_aload_n hΓ 3 dX8_first_27 rfl ?_
          refine F_get hΓ (t := 18) (i := 0) (ci := 11) (C := RX8) (T := TX8) (N := 47) (fs8 (gl Γ) 0) (v := .ref (ya (gl Γ) 19 6)) (FMi hF (t := 18) (by decide)) (fun _ _ _ => rfl) rfl rfl rfl rfl inW8 10 (by decide) (TT_cons kw_890) rfl dX8_first_28 ?_
          refine G_iload hΓ 0 dX8_first_31 rfl ?_
          obtain ⟨hg15, hf⟩ := gd_some hf
          refine F_ald (G_zald hΓ) (t := 19) (i := 6) (f := (v2 6)) (FMi hF (t := 19) (by decide)) (fun _ _ _ => rfl) rfl hg15 dX8_first_33 ?_
          refine G_if_eq hΓ (tgt := 40) dX8_first_34 (by decide) (fun hc49 => ?_) (fun hc49 => ?_)
          · rw [if_pos hc49] at hf
            refine G_aload_n hΓ 3 dX8_first_40 rfl ?_
            refine G_iload hΓ 0 dX8_first_41 rfl ?_
            obtain ⟨⟨u16, u17⟩, hc18, hf⟩ := bd_some hf
            try dsimp only at hf
            refine G_callV hΓ (n := 1) (As := [.int v3]) (t := 18) (i := 0) (ci := 11) (T := TX8) (N := 47) (FS := fs8 (gl Γ) 0) (σ' := (qM σ u16 u17)) (c_X8_writePlain (gL Γ) (gl Γ) hF σ  v1 v2 v3  hc18) rfl rfl kw_1059 kw_1061 kp_32 kw_9 kw_1062 ⟨rfl, by decide, by decide, by decide +kernel⟩ (FMi hF (t := 18) (by decide)) (fun _ _ _ => rfl) rfl rfl rfl ⟨Nat.le_of_ble_eq_true rfl, Nat.le_of_ble_eq_true rfl⟩ rfl (Nat.le_of_ble_eq_true rfl) dX8_first_43 ⟨_, rfl⟩ rfl ?_
            refine G_iconst (v := 0) hΓ dX8_first_46 (by decide) ?_
            refine G_istore hΓ [(5, .int 0), (4, .int v3), (3, .int v4), (2, .int v5), (0, .ref (ya (gl Γ) 18 0)), (1, .int p1)] dX8_first_47 (by decide) rfl ?_
            obtain ⟨k20, hk_k20, hf⟩ := jn_eq hf
            try dsimp only at hf
            have K21 : ∀ v19, k20 v19 = some (v', m', r9) → GG Γ (0, 0) (qM σ u16 u17) 92 [(5, .int v19), (4, .int v3), (3, .int v4), (2, .int v5), (0, .ref (ya (gl Γ) 18 0)), (1, .int p1)] [] := by
              intro v19 hf
              subst hk_k20
              try dsimp only at hf
              refine G_iload_n hΓ 3 dX8_first_92 rfl ?_
              refine G_iconst (v := (-1)) hΓ dX8_first_93 (by decide) ?_
              obtain ⟨k30, hk_k30, hf⟩ := jn_eq hf
              try dsimp only at hf
              have K31 : ∀ x28, (x28 = 0 ∨ x28 = 1) → k30 x28 = some (v', m', r9) → GG Γ (0, 0) (qM σ u16 u17) 134 [(5, .int v19), (4, .int v3), (3, .int v4), (2, .int v5), (0, .ref (ya (gl Γ) 18 0)), (1, .int p1)] [.int x28] := by
                intro x28 hb_x28 hf
                subst hk_k30
                try dsimp only at hf
                refine G_istore hΓ [(6, .int x28), (5, .int v19), (4, .int v3), (3, .int v4), (2, .int v5), (0, .ref (ya (gl Γ) 18 0)), (1, .int p1)] dX8_first_134 (by decide) rfl ?_
                refine G_iload hΓ 0 dX8_first_136 rfl ?_
                refine G_if_ne hΓ (tgt := 144) dX8_first_138 (by decide) (fun hc41 => ?_) (fun hc41 => ?_)
                · rw [if_neg hc41] at hf
                  refine G_iload hΓ 2 dX8_first_144 rfl ?_
                  refine G_istore_n hΓ [(2, .int v3), (6, .int x28), (5, .int v19), (4, .int v3), (3, .int v4), (0, .ref (ya (gl Γ) 18 0)), (1, .int p1)] dX8_first_146 (by decide) rfl ?_
                  refine G_aload_n hΓ 5 dX8_first_147 rfl ?_
                  refine F_get hΓ (t := 18) (i := 0) (ci := 11) (C := RX8) (T := TX8) (N := 47) (fs8 (gl Γ) 0) (v := .int (u16 34)) (FMi hF (t := 18) (by decide)) (fun _ _ _ => rfl) rfl rfl rfl rfl inW8 34 (by decide) (TT_cons kw_914) rfl dX8_first_148 ?_
                  refine G_istore_n hΓ [(3, .int (u16 34)), (2, .int v3), (6, .int x28), (5, .int v19), (4, .int v3), (0, .ref (ya (gl Γ) 18 0)), (1, .int p1)] dX8_first_151 (by decide) rfl ?_
                  refine G_iconst (v := 0) hΓ dX8_first_152 (by decide) ?_
                  refine G_istore hΓ [(7, .int 0), (3, .int (u16 34)), (2, .int v3), (6, .int x28), (5, .int v19), (4, .int v3), (0, .ref (ya (gl Γ) 18 0)), (1, .int p1)] dX8_first_153 (by decide) rfl ?_
                  obtain ⟨k34, hk_k34, hf⟩ := jn_eq hf
                  try dsimp only at hf
                  have K35 : ∀ v32 v33, k34 (v32, v33) = some (v', m', r9) → GG Γ (0, 0) (qM σ u16 v32) 184 [(7, .int v33), (3, .int (u16 34)), (2, .int v3), (6, .int x28), (5, .int v19), (4, .int v3), (0, .ref (ya (gl Γ) 18 0)), (1, .int p1)] [] := by
                    intro v32 v33 hf
                    subst hk_k34
                    try dsimp only at hf
                    exact G_loc [5, 1, 2, 6, 7] rfl (K14 _ _ _ _ hf)
                  clear hk_k34
                  have loop40 : ∀ (nn : Nat) v32 v33, L_X8_first_155 u16 k34 nn v32 v33 = some (v', m', r9) → GG Γ (0, 0) (qM σ u16 v32) 155 [(7, .int v33), (3, .int (u16 34)), (2, .int v3), (6, .int x28), (5, .int v19), (4, .int v3), (0, .ref (ya (gl Γ) 18 0)), (1, .int p1)] [] := by
                    intro nn
                    induction nn with
                    | zero => intro v32 v33 hf; cases hf
                    | succ nn ih =>
                      intro v32 v33 hf
                      rw [L_X8_first_155] at hf
                      refine G_iload hΓ 0 dX8_first_155 rfl ?_
                      refine G_aload_n hΓ 6 dX8_first_157 rfl ?_
                      refine F_get hΓ (t := 18) (i := 0) (ci := 11) (C := RX8) (T := TX8) (N := 47) (fs8 (gl Γ) 0) (v := .int (u16 34)) (FMi hF (t := 18) (by decide)) (fun _ _ _ => rfl) rfl rfl rfl rfl inW8 34 (by decide) (TT_cons kw_914) rfl dX8_first_158 ?_
                      refine G_icmp_ge hΓ (tgt := 184) dX8_first_161 (by decide) (fun hc39 => ?_) (fun hc39 => ?_)
                      · rw [if_pos hc39] at hf
                        exact (K35 _ _ hf)
                      · rw [if_neg hc39] at hf
                        refine G_aload_n hΓ 6 dX8_first_164 rfl ?_
                        refine F_get hΓ (t := 18) (i := 0) (ci := 11) (C := RX8) (T := TX8) (N := 47) (fs8 (gl Γ) 0) (v := .ref (ya (gl Γ) 19 29)) (FMi hF (t := 18) (by decide)) (fun _ _ _ => rfl) rfl rfl rfl rfl inW8 39 (by decide) (TT_cons kw_919) rfl dX8_first_165 ?_
                        refine G_iload hΓ 0 dX8_first_168 rfl ?_
                        refine G_aload_n hΓ 6 dX8_first_170 rfl ?_
                        refine F_get hΓ (t := 18) (i := 0) (ci := 11) (C := RX8) (T := TX8) (N := 47) (fs8 (gl Γ) 0) (v := .ref (ya (gl Γ) 19 26)) (FMi hF (t := 18) (by decide)) (fun _ _ _ => rfl) rfl rfl rfl rfl inW8 33 (by decide) (TT_cons kw_913) rfl dX8_first_171 ?_
                        refine G_iload hΓ 0 dX8_first_174 rfl ?_
                        obtain ⟨hg36, hf⟩ := gd_some hf
                        refine F_ald (G_bald hΓ) (t := 19) (i := 26) (f := (v32 26)) (FMi hF (t := 19) (by decide)) (fun _ _ _ => rfl) rfl hg36 dX8_first_176 ?_
                        obtain ⟨v37, hv_v37, hf⟩ := lt_eq hf
                        refine G_topi hv_v37 ?_
                        obtain ⟨hg38, hf⟩ := gd_some hf
                        refine F_bast hΓ (t := 19) (i := 29) (f := (v32 29)) (σ' := (qM σ u16 (va_up v32 29 (upd (v32 29) v33.toNatClampNeg (vp_nar .byte v37))))) (FMi hF (t := 19) (by decide)) (fun _ _ _ => rfl) rfl qM_m hg38 dX8_first_177 ?_
                        refine G_iinc hΓ 0 [(7, .int (v33 + 1)), (3, .int (u16 34)), (2, .int v3), (6, .int x28), (5, .int v19), (4, .int v3), (0, .ref (ya (gl Γ) 18 0)), (1, .int p1)] dX8_first_178 rfl rfl (by decide) rfl ?_
                        refine G_goto hΓ (tgt := 155) dX8_first_181 (by decide) ?_
                        exact (ih _ _ hf)
                  exact loop40 _ _ _ hf
                · rw [if_pos hc41] at hf
                  refine G_goto hΓ (tgt := 184) dX8_first_141 (by decide) ?_
                  exact G_loc [2, 3, 4, 5, 6] rfl (K14 _ _ _ _ hf)
              clear hk_k30
              refine G_icmp_eq hΓ (tgt := 129) dX8_first_94 (by decide) (fun hc47 => ?_) (fun hc47 => ?_)
              · rw [if_pos hc47] at hf
                refine G_iconst (v := 1) hΓ dX8_first_129 (by decide) ?_
                refine G_goto hΓ (tgt := 134) dX8_first_130 (by decide) ?_
                exact K31 _ (Or.inr rfl) hf
              · rw [if_neg hc47] at hf
                refine G_iload hΓ 0 dX8_first_97 rfl ?_
                refine G_aload_n hΓ 4 dX8_first_99 rfl ?_
                refine F_get hΓ (t := 18) (i := 0) (ci := 11) (C := RX8) (T := TX8) (N := 47) (fs8 (gl Γ) 0) (v := .int (u16 34)) (FMi hF (t := 18) (by decide)) (fun _ _ _ => rfl) rfl rfl rfl rfl inW8 34 (by decide) (TT_cons kw_914) rfl dX8_first_100 ?_
                refine G_icmp_ge hΓ (tgt := 133) dX8_first_103 (by decide) (fun hc46 => ?_) (fun hc46 => ?_)
                · rw [if_pos hc46] at hf
                  refine G_iconst (v := 0) hΓ dX8_first_133 (by decide) ?_
                  exact K31 _ (Or.inl rfl) hf
                · rw [if_neg hc46] at hf
                  refine G_iload hΓ 0 dX8_first_106 rfl ?_
                  refine G_iload_n hΓ 2 dX8_first_108 rfl ?_
                  refine G_icmp_ge hΓ (tgt := 133) dX8_first_109 (by decide) (fun hc45 => ?_) (fun hc45 => ?_)
                  · rw [if_pos hc45] at hf
                    refine G_iconst (v := 0) hΓ dX8_first_133 (by decide) ?_
                    exact K31 _ (Or.inl rfl) hf
                  · rw [if_neg hc45] at hf
                    refine G_aload_n hΓ 4 dX8_first_112 rfl ?_
                    refine F_get hΓ (t := 18) (i := 0) (ci := 11) (C := RX8) (T := TX8) (N := 47) (fs8 (gl Γ) 0) (v := .ref (ya (gl Γ) 19 26)) (FMi hF (t := 18) (by decide)) (fun _ _ _ => rfl) rfl rfl rfl rfl inW8 33 (by decide) (TT_cons kw_913) rfl dX8_first_113 ?_
                    refine G_iload hΓ 0 dX8_first_116 rfl ?_
                    obtain ⟨hg42, hf⟩ := gd_some hf
                    refine F_ald (G_bald hΓ) (t := 19) (i := 26) (f := (u17 26)) (FMi hF (t := 19) (by decide)) (fun _ _ _ => rfl) rfl hg42 dX8_first_118 ?_
                    refine G_aload_n hΓ 4 dX8_first_119 rfl ?_
                    refine F_get hΓ (t := 18) (i := 0) (ci := 11) (C := RX8) (T := TX8) (N := 47) (fs8 (gl Γ) 0) (v := .ref (ya (gl Γ) 19 29)) (FMi hF (t := 18) (by decide)) (fun _ _ _ => rfl) rfl rfl rfl rfl inW8 39 (by decide) (TT_cons kw_919) rfl dX8_first_120 ?_
                    refine G_iload hΓ 0 dX8_first_123 rfl ?_
                    obtain ⟨hg43, hf⟩ := gd_some hf
                    refine F_ald (G_bald hΓ) (t := 19) (i := 29) (f := (u17 29)) (FMi hF (t := 19) (by decide)) (fun _ _ _ => rfl) rfl hg43 dX8_first_125 ?_
                    refine G_icmp_ge hΓ (tgt := 133) dX8_first_126 (by decide) (fun hc44 => ?_) (fun hc44 => ?_)
                    · rw [if_pos hc44] at hf
                      refine G_iconst (v := 0) hΓ dX8_first_133 (by decide) ?_
                      exact K31 _ (Or.inl rfl) hf
                    · rw [if_neg hc44] at hf
                      refine G_iconst (v := 1) hΓ dX8_first_129 (by decide) ?_
                      refine G_goto hΓ (tgt := 134) dX8_first_130 (by decide) ?_
                      exact K31 _ (Or.inr rfl) hf
            clear hk_k20
            have loop48 : ∀ (nn : Nat) v19, L_X8_first_49 v5 u16 v4 u17 k20 nn v19 = some (v', m', r9) → GG Γ (0, 0) (qM σ u16 u17) 49 [(5, .int v19), (4, .int v3), (3, .int v4), (2, .int v5), (0, .ref (ya (gl Γ) 18 0)), (1, .int p1)] [] := by
              intro nn
              induction nn with
              | zero => intro v19 hf; cases hf
              | succ nn ih =>
                intro v19 hf
                rw [L_X8_first_49] at hf
                refine G_iload_n hΓ 3 dX8_first_49 rfl ?_
                refine G_iconst (v := (-1)) hΓ dX8_first_50 (by decide) ?_
                refine G_icmp_eq hΓ (tgt := 92) dX8_first_51 (by decide) (fun hc27 => ?_) (fun hc27 => ?_)
                · rw [if_pos hc27] at hf
                  exact (K21 _ hf)
                · rw [if_neg hc27] at hf
                  refine G_iload hΓ 0 dX8_first_54 rfl ?_
                  refine G_aload_n hΓ 4 dX8_first_56 rfl ?_
                  refine F_get hΓ (t := 18) (i := 0) (ci := 11) (C := RX8) (T := TX8) (N := 47) (fs8 (gl Γ) 0) (v := .int (u16 34)) (FMi hF (t := 18) (by decide)) (fun _ _ _ => rfl) rfl rfl rfl rfl inW8 34 (by decide) (TT_cons kw_914) rfl dX8_first_57 ?_
                  refine G_icmp_ge hΓ (tgt := 92) dX8_first_60 (by decide) (fun hc26 => ?_) (fun hc26 => ?_)
                  · rw [if_pos hc26] at hf
                    exact (K21 _ hf)
                  · rw [if_neg hc26] at hf
                    refine G_iload hΓ 0 dX8_first_63 rfl ?_
                    refine G_iload_n hΓ 2 dX8_first_65 rfl ?_
                    refine G_icmp_ge hΓ (tgt := 92) dX8_first_66 (by decide) (fun hc25 => ?_) (fun hc25 => ?_)
                    · rw [if_pos hc25] at hf
                      exact (K21 _ hf)
                    · rw [if_neg hc25] at hf
                      refine G_aload_n hΓ 4 dX8_first_69 rfl ?_
                      refine F_get hΓ (t := 18) (i := 0) (ci := 11) (C := RX8) (T := TX8) (N := 47) (fs8 (gl Γ) 0) (v := .ref (ya (gl Γ) 19 26)) (FMi hF (t := 18) (by decide)) (fun _ _ _ => rfl) rfl rfl rfl rfl inW8 33 (by decide) (TT_cons kw_913) rfl dX8_first_70 ?_
                      refine G_iload hΓ 0 dX8_first_73 rfl ?_
                      obtain ⟨hg22, hf⟩ := gd_some hf
                      refine F_ald (G_bald hΓ) (t := 19) (i := 26) (f := (u17 26)) (FMi hF (t := 19) (by decide)) (fun _ _ _ => rfl) rfl hg22 dX8_first_75 ?_
                      refine G_aload_n hΓ 4 dX8_first_76 rfl ?_
                      refine F_get hΓ (t := 18) (i := 0) (ci := 11) (C := RX8) (T := TX8) (N := 47) (fs8 (gl Γ) 0) (v := .ref (ya (gl Γ) 19 29)) (FMi hF (t := 18) (by decide)) (fun _ _ _ => rfl) rfl rfl rfl rfl inW8 39 (by decide) (TT_cons kw_919) rfl dX8_first_77 ?_
                      refine G_iload hΓ 0 dX8_first_80 rfl ?_
                      obtain ⟨hg23, hf⟩ := gd_some hf
                      refine F_ald (G_bald hΓ) (t := 19) (i := 29) (f := (u17 29)) (FMi hF (t := 19) (by decide)) (fun _ _ _ => rfl) rfl hg23 dX8_first_82 ?_
                      refine G_icmp_ne hΓ (tgt := 92) dX8_first_83 (by decide) (fun hc24 => ?_) (fun hc24 => ?_)
                      · rw [if_neg hc24] at hf
                        exact (K21 _ hf)
                      · rw [if_pos hc24] at hf
                        refine G_iinc hΓ 0 [(5, .int (v19 + 1)), (4, .int v3), (3, .int v4), (2, .int v5), (0, .ref (ya (gl Γ) 18 0)), (1, .int p1)] dX8_first_86 rfl rfl (by decide) rfl ?_
                        refine G_goto hΓ (tgt := 49) dX8_first_89 (by decide) ?_
                        exact (ih _ hf)
            exact loop48 _ _ hf
          · rw [if_neg hc49] at hf
            refine G_goto hΓ (tgt := 184) dX8_first_37 (by decide) ?_
            exact K14 _ _ _ _ hf
  exact loop52 _ _ _ _ _ _ hf
theorem dX8_puts_0 : decode cX8_puts 0 = .ok (.aload_n 0, 1) := by decide +kernel
theorem dX8_puts_1 : decode cX8_puts 1 = .ok (.getfield 43, 3) := by decide +kernel
theorem dX8_puts_4 : decode cX8_puts 4 = .ok (.iload_n 1, 1) := by decide +kernel
theorem dX8_puts_5 : decode cX8_puts 5 = .ok (.iaload, 1) := by decide +kernel
theorem dX8_puts_6 : decode cX8_puts 6 = .ok (.ifCond .ne 18, 3) := by decide +kernel
theorem dX8_puts_9 : decode cX8_puts 9 = .ok (.aload_n 0, 1) := by decide +kernel
theorem dX8_puts_10 : decode cX8_puts 10 = .ok (.iload_n 1, 1) := by decide +kernel
theorem dX8_puts_11 : decode cX8_puts 11 = .ok (.invokevirtual 232, 3) := by decide +kernel
theorem dX8_puts_14 : decode cX8_puts 14 = .ok (.iconst (-1), 1) := by decide +kernel
theorem dX8_puts_15 : decode cX8_puts 15 = .ok (.if_icmp .ne 7, 3) := by decide +kernel
theorem dX8_puts_18 : decode cX8_puts 18 = .ok (.iconst 1, 1) := by decide +kernel
theorem dX8_puts_19 : decode cX8_puts 19 = .ok (.goto 4, 3) := by decide +kernel
theorem dX8_puts_22 : decode cX8_puts 22 = .ok (.iconst 0, 1) := by decide +kernel
theorem dX8_puts_23 : decode cX8_puts 23 = .ok (.ireturn, 1) := by decide +kernel
theorem dX8_puts_24 : decode cX8_puts 24 = .ok (.aload_n 0, 1) := by decide +kernel
theorem dX8_puts_25 : decode cX8_puts 25 = .ok (.getfield 43, 3) := by decide +kernel
theorem dX8_puts_28 : decode cX8_puts 28 = .ok (.iload_n 1, 1) := by decide +kernel
theorem dX8_puts_29 : decode cX8_puts 29 = .ok (.iaload, 1) := by decide +kernel
theorem dX8_puts_30 : decode cX8_puts 30 = .ok (.iconst 1, 1) := by decide +kernel
theorem dX8_puts_31 : decode cX8_puts 31 = .ok (.if_icmp .ne 25, 3) := by decide +kernel
theorem dX8_puts_34 : decode cX8_puts 34 = .ok (.aload_n 0, 1) := by decide +kernel
theorem dX8_puts_35 : decode cX8_puts 35 = .ok (.aload_n 0, 1) := by decide +kernel
theorem dX8_puts_36 : decode cX8_puts 36 = .ok (.getfield 49, 3) := by decide +kernel
theorem dX8_puts_39 : decode cX8_puts 39 = .ok (.iload_n 1, 1) := by decide +kernel
theorem dX8_puts_40 : decode cX8_puts 40 = .ok (.iaload, 1) := by decide +kernel
theorem dX8_puts_41 : decode cX8_puts 41 = .ok (.invokevirtual 190, 3) := by decide +kernel
theorem dX8_puts_44 : decode cX8_puts 44 = .ok (.aload_n 0, 1) := by decide +kernel
theorem dX8_puts_45 : decode cX8_puts 45 = .ok (.getfield 101, 3) := by decide +kernel
theorem dX8_puts_48 : decode cX8_puts 48 = .ok (.aload_n 0, 1) := by decide +kernel
theorem dX8_puts_49 : decode cX8_puts 49 = .ok (.getfield 58, 3) := by decide +kernel
theorem dX8_puts_52 : decode cX8_puts 52 = .ok (.iload_n 1, 1) := by decide +kernel
theorem dX8_puts_53 : decode cX8_puts 53 = .ok (.iaload, 1) := by decide +kernel
theorem dX8_puts_54 : decode cX8_puts 54 = .ok (.baload, 1) := by decide +kernel
theorem dX8_puts_55 : decode cX8_puts 55 = .ok (.ireturn, 1) := by decide +kernel
theorem dX8_puts_56 : decode cX8_puts 56 = .ok (.aload_n 0, 1) := by decide +kernel
theorem dX8_puts_57 : decode cX8_puts 57 = .ok (.getfield 43, 3) := by decide +kernel
theorem dX8_puts_60 : decode cX8_puts 60 = .ok (.iload_n 1, 1) := by decide +kernel
theorem dX8_puts_61 : decode cX8_puts 61 = .ok (.iaload, 1) := by decide +kernel
theorem dX8_puts_62 : decode cX8_puts 62 = .ok (.iconst 2, 1) := by decide +kernel
theorem dX8_puts_63 : decode cX8_puts 63 = .ok (.if_icmp .ne 17, 3) := by decide +kernel
theorem dX8_puts_66 : decode cX8_puts 66 = .ok (.aload_n 0, 1) := by decide +kernel
theorem dX8_puts_67 : decode cX8_puts 67 = .ok (.iload_n 1, 1) := by decide +kernel
theorem dX8_puts_68 : decode cX8_puts 68 = .ok (.invokevirtual 235, 3) := by decide +kernel
theorem dX8_puts_71 : decode cX8_puts 71 = .ok (.ifCond .eq 7, 3) := by decide +kernel
theorem dX8_puts_74 : decode cX8_puts 74 = .ok (.iconst 0, 1) := by decide +kernel
theorem dX8_puts_75 : decode cX8_puts 75 = .ok (.goto 4, 3) := by decide +kernel
theorem dX8_puts_78 : decode cX8_puts 78 = .ok (.iconst 1, 1) := by decide +kernel
theorem dX8_puts_79 : decode cX8_puts 79 = .ok (.ireturn, 1) := by decide +kernel
theorem dX8_puts_80 : decode cX8_puts 80 = .ok (.aload_n 0, 1) := by decide +kernel
theorem dX8_puts_81 : decode cX8_puts 81 = .ok (.getfield 43, 3) := by decide +kernel
theorem dX8_puts_84 : decode cX8_puts 84 = .ok (.iload_n 1, 1) := by decide +kernel
theorem dX8_puts_85 : decode cX8_puts 85 = .ok (.iaload, 1) := by decide +kernel
theorem dX8_puts_86 : decode cX8_puts 86 = .ok (.iconst 3, 1) := by decide +kernel
theorem dX8_puts_87 : decode cX8_puts 87 = .ok (.if_icmp .ne 7, 3) := by decide +kernel
theorem dX8_puts_90 : decode cX8_puts 90 = .ok (.iconst 0, 1) := by decide +kernel
theorem dX8_puts_91 : decode cX8_puts 91 = .ok (.goto 4, 3) := by decide +kernel
theorem dX8_puts_94 : decode cX8_puts 94 = .ok (.iconst 1, 1) := by decide +kernel
theorem dX8_puts_95 : decode cX8_puts 95 = .ok (.ireturn, 1) := by decide +kernel
noncomputable def f_X8_puts  (v : Nat → Int32) (m : Nat → Nat → Int32) (p1 : Int32) : Option ((Nat → Int32) × (Nat → Nat → Int32) × Int32) := gd (vp_in p1 32) (if ((m 9) p1.toNatClampNeg) = 0 then bd (f_X8_first v m p1) (fun ⟨u25, u26, u27⟩ => lt (α := Int32) (if u27 = (-1) then 1 else 0) (fun x29 => some (u25, u26, x29))) else gd (vp_in p1 32) (if ((m 9) p1.toNatClampNeg) = 1 then gd (vp_in p1 32) (bd (f_X8_write v m ((m 11) p1.toNatClampNeg)) (fun ⟨u19, u20⟩ => gd (vp_in p1 32) (gd (vp_in ((u20 14) p1.toNatClampNeg) 1200) (some (u19, u20, (u20 27) (((u20 14) p1.toNatClampNeg).toNatClampNeg)))))) else gd (vp_in p1 32) (if ((m 9) p1.toNatClampNeg) = 2 then bd (f_X8_answers v m p1) (fun ⟨u9, u10, u11⟩ => lt (α := Int32) (if u11 = 0 then 1 else 0) (fun x13 => some (u9, u10, x13))) else gd (vp_in p1 32) (lt (α := Int32) (if ((m 9) p1.toNatClampNeg) = 3 then 0 else 1) (fun x5 => some (v, m, x5))))))
set_option maxHeartbeats 4000000 in
set_option maxRecDepth 100000 in
theorem c_X8_puts (l : Launch) (Λ : LY) (hF : FM Λ) (σ : CS)  (v : Nat → Int32) (m : Nat → Nat → Int32) (p1 : Int32)   {v' : Nat → Int32} {m' : Nat → Nat → Int32} {r9 : Int32} (hf : f_X8_puts v m p1 = some (v', m', r9)) : CM l yX8_puts (.code yX8_puts cX8_puts 2 (some .int) :: TT) ({ frames := 5, cells := 0, slots := 0, locals := 110 }) Λ [.ref (ya Λ 18 0), .int p1] (qM σ v m) (qM σ v' m') (some (.int r9)) := by
  refine CM_intro (own := RX8) (by decide) rfl (Nat.le_of_ble_eq_true rfl) ?_
  intro Γ hg hl hΓ hE
  subst hg; subst hl
  show GG Γ (0, 0) (qM σ v m) 0 [(0, .ref (ya (gl Γ) 18 0)), (1, .int p1)] []
  unfold f_X8_puts at hf
  refine G_aload_n hΓ 0 dX8_puts_0 rfl ?_
  refine F_get hΓ (t := 18) (i := 0) (ci := 11) (C := RX8) (T := TX8) (N := 47) (fs8 (gl Γ) 0) (v := .ref (ya (gl Γ) 19 9)) (FMi hF (t := 18) (by decide)) (fun _ _ _ => rfl) rfl rfl rfl rfl inW8 14 (by decide) (TT_cons kw_894) rfl dX8_puts_1 ?_
  refine G_iload_n hΓ 1 dX8_puts_4 rfl ?_
  obtain ⟨hg1, hf⟩ := gd_some hf
  refine F_ald (G_iald hΓ) (t := 19) (i := 9) (f := (m 9)) (FMi hF (t := 19) (by decide)) (fun _ _ _ => rfl) rfl hg1 dX8_puts_5 ?_
  refine G_if_ne hΓ (tgt := 24) dX8_puts_6 (by decide) (fun hc33 => ?_) (fun hc33 => ?_)
  · rw [if_neg hc33] at hf
    refine G_aload_n hΓ 0 dX8_puts_24 rfl ?_
    refine F_get hΓ (t := 18) (i := 0) (ci := 11) (C := RX8) (T := TX8) (N := 47) (fs8 (gl Γ) 0) (v := .ref (ya (gl Γ) 19 9)) (FMi hF (t := 18) (by decide)) (fun _ _ _ => rfl) rfl rfl rfl rfl inW8 14 (by decide) (TT_cons kw_894) rfl dX8_puts_25 ?_
    refine G_iload_n hΓ 1 dX8_puts_28 rfl ?_
    obtain ⟨hg2, hf⟩ := gd_some hf
    refine F_ald (G_iald hΓ) (t := 19) (i := 9) (f := (m 9)) (FMi hF (t := 19) (by decide)) (fun _ _ _ => rfl) rfl hg2 dX8_puts_29 ?_
    refine G_iconst (v := 1) hΓ dX8_puts_30 (by decide) ?_
    refine G_icmp_ne hΓ (tgt := 56) dX8_puts_31 (by decide) (fun hc24 => ?_) (fun hc24 => ?_)
    · rw [if_neg hc24] at hf
      refine G_aload_n hΓ 0 dX8_puts_56 rfl ?_
      refine F_get hΓ (t := 18) (i := 0) (ci := 11) (C := RX8) (T := TX8) (N := 47) (fs8 (gl Γ) 0) (v := .ref (ya (gl Γ) 19 9)) (FMi hF (t := 18) (by decide)) (fun _ _ _ => rfl) rfl rfl rfl rfl inW8 14 (by decide) (TT_cons kw_894) rfl dX8_puts_57 ?_
      refine G_iload_n hΓ 1 dX8_puts_60 rfl ?_
      obtain ⟨hg3, hf⟩ := gd_some hf
      refine F_ald (G_iald hΓ) (t := 19) (i := 9) (f := (m 9)) (FMi hF (t := 19) (by decide)) (fun _ _ _ => rfl) rfl hg3 dX8_puts_61 ?_
      refine G_iconst (v := 2) hΓ dX8_puts_62 (by decide) ?_
      refine G_icmp_ne hΓ (tgt := 80) dX8_puts_63 (by decide) (fun hc17 => ?_) (fun hc17 => ?_)
      · rw [if_neg hc17] at hf
        refine G_aload_n hΓ 0 dX8_puts_80 rfl ?_
        refine F_get hΓ (t := 18) (i := 0) (ci := 11) (C := RX8) (T := TX8) (N := 47) (fs8 (gl Γ) 0) (v := .ref (ya (gl Γ) 19 9)) (FMi hF (t := 18) (by decide)) (fun _ _ _ => rfl) rfl rfl rfl rfl inW8 14 (by decide) (TT_cons kw_894) rfl dX8_puts_81 ?_
        refine G_iload_n hΓ 1 dX8_puts_84 rfl ?_
        obtain ⟨hg4, hf⟩ := gd_some hf
        refine F_ald (G_iald hΓ) (t := 19) (i := 9) (f := (m 9)) (FMi hF (t := 19) (by decide)) (fun _ _ _ => rfl) rfl hg4 dX8_puts_85 ?_
        refine G_iconst (v := 3) hΓ dX8_puts_86 (by decide) ?_
        obtain ⟨x5, he8, hf⟩ := lt_eq hf
        have K6 : GG Γ (0, 0) (qM σ v m) 95 [(0, .ref (ya (gl Γ) 18 0)), (1, .int p1)] [.int x5] := by
          cases hf
          exact G_iret hΓ hE dX8_puts_95
        have he := he8
        refine G_icmp_ne hΓ (tgt := 94) dX8_puts_87 (by decide) (fun hc7 => ?_) (fun hc7 => ?_)
        · rw [if_neg hc7] at he
          refine G_iconst (v := 1) hΓ dX8_puts_94 (by decide) ?_
          subst he
          exact K6
        · rw [if_pos hc7] at he
          refine G_iconst (v := 0) hΓ dX8_puts_90 (by decide) ?_
          refine G_goto hΓ (tgt := 95) dX8_puts_91 (by decide) ?_
          subst he
          exact K6
      · rw [if_pos hc17] at hf
        refine G_aload_n hΓ 0 dX8_puts_66 rfl ?_
        refine G_iload_n hΓ 1 dX8_puts_67 rfl ?_
        obtain ⟨⟨u9, u10, u11⟩, hc12, hf⟩ := bd_some hf
        try dsimp only at hf
        refine G_callV hΓ (n := 1) (As := [.int p1]) (t := 18) (i := 0) (ci := 11) (T := TX8) (N := 47) (FS := fs8 (gl Γ) 0) (σ' := (qM σ u9 u10)) (c_X8_answers (gL Γ) (gl Γ) hF σ  v m p1  hc12) rfl rfl kw_1120 kw_1122 kp_41 kw_9 kw_1123 ⟨rfl, by decide, by decide, by decide +kernel⟩ (FMi hF (t := 18) (by decide)) (fun _ _ _ => rfl) rfl rfl rfl ⟨Nat.le_of_ble_eq_true rfl, Nat.le_of_ble_eq_true rfl⟩ rfl (Nat.le_of_ble_eq_true rfl) dX8_puts_68 ⟨_, rfl⟩ rfl ?_
        obtain ⟨x13, he16, hf⟩ := lt_eq hf
        have K14 : GG Γ (0, 0) (qM σ u9 u10) 79 [(0, .ref (ya (gl Γ) 18 0)), (1, .int p1)] [.int x13] := by
          cases hf
          exact G_iret hΓ hE dX8_puts_79
        have he := he16
        refine G_if_eq hΓ (tgt := 78) dX8_puts_71 (by decide) (fun hc15 => ?_) (fun hc15 => ?_)
        · rw [if_pos hc15] at he
          refine G_iconst (v := 1) hΓ dX8_puts_78 (by decide) ?_
          subst he
          exact K14
        · rw [if_neg hc15] at he
          refine G_iconst (v := 0) hΓ dX8_puts_74 (by decide) ?_
          refine G_goto hΓ (tgt := 79) dX8_puts_75 (by decide) ?_
          subst he
          exact K14
    · rw [if_pos hc24] at hf
      refine G_aload_n hΓ 0 dX8_puts_34 rfl ?_
      refine G_aload_n hΓ 0 dX8_puts_35 rfl ?_
      refine F_get hΓ (t := 18) (i := 0) (ci := 11) (C := RX8) (T := TX8) (N := 47) (fs8 (gl Γ) 0) (v := .ref (ya (gl Γ) 19 11)) (FMi hF (t := 18) (by decide)) (fun _ _ _ => rfl) rfl rfl rfl rfl inW8 16 (by decide) (TT_cons kw_896) rfl dX8_puts_36 ?_
      refine G_iload_n hΓ 1 dX8_puts_39 rfl ?_
      obtain ⟨hg18, hf⟩ := gd_some hf
      refine F_ald (G_iald hΓ) (t := 19) (i := 11) (f := (m 11)) (FMi hF (t := 19) (by decide)) (fun _ _ _ => rfl) rfl hg18 dX8_puts_40 ?_
      obtain ⟨⟨u19, u20⟩, hc21, hf⟩ := bd_some hf
      try dsimp only at hf
      refine G_callV hΓ (n := 1) (As := [.int ((m 11) p1.toNatClampNeg)]) (t := 18) (i := 0) (ci := 11) (T := TX8) (N := 47) (FS := fs8 (gl Γ) 0) (σ' := (qM σ u19 u20)) (c_X8_write (gL Γ) (gl Γ) hF σ  v m ((m 11) p1.toNatClampNeg)  hc21) rfl rfl kw_1055 kw_1057 kp_31 kw_9 kw_1058 ⟨rfl, by decide, by decide, by decide +kernel⟩ (FMi hF (t := 18) (by decide)) (fun _ _ _ => rfl) rfl rfl rfl ⟨Nat.le_of_ble_eq_true rfl, Nat.le_of_ble_eq_true rfl⟩ rfl (Nat.le_of_ble_eq_true rfl) dX8_puts_41 ⟨_, rfl⟩ rfl ?_
      refine G_aload_n hΓ 0 dX8_puts_44 rfl ?_
      refine F_get hΓ (t := 18) (i := 0) (ci := 11) (C := RX8) (T := TX8) (N := 47) (fs8 (gl Γ) 0) (v := .ref (ya (gl Γ) 19 27)) (FMi hF (t := 18) (by decide)) (fun _ _ _ => rfl) rfl rfl rfl rfl inW8 35 (by decide) (TT_cons kw_915) rfl dX8_puts_45 ?_
      refine G_aload_n hΓ 0 dX8_puts_48 rfl ?_
      refine F_get hΓ (t := 18) (i := 0) (ci := 11) (C := RX8) (T := TX8) (N := 47) (fs8 (gl Γ) 0) (v := .ref (ya (gl Γ) 19 14)) (FMi hF (t := 18) (by decide)) (fun _ _ _ => rfl) rfl rfl rfl rfl inW8 19 (by decide) (TT_cons kw_899) rfl dX8_puts_49 ?_
      refine G_iload_n hΓ 1 dX8_puts_52 rfl ?_
      obtain ⟨hg22, hf⟩ := gd_some hf
      refine F_ald (G_iald hΓ) (t := 19) (i := 14) (f := (u20 14)) (FMi hF (t := 19) (by decide)) (fun _ _ _ => rfl) rfl hg22 dX8_puts_53 ?_
      obtain ⟨hg23, hf⟩ := gd_some hf
      refine F_ald (G_bald hΓ) (t := 19) (i := 27) (f := (u20 27)) (FMi hF (t := 19) (by decide)) (fun _ _ _ => rfl) rfl hg23 dX8_puts_54 ?_
      cases hf
      exact G_iret hΓ hE dX8_puts_55
  · rw [if_pos hc33] at hf
    refine G_aload_n hΓ 0 dX8_puts_9 rfl ?_
    refine G_iload_n hΓ 1 dX8_puts_10 rfl ?_
    obtain ⟨⟨u25, u26, u27⟩, hc28, hf⟩ := bd_some hf
    try dsimp only at hf
    refine G_callV hΓ (n := 1) (As := [.int p1]) (t := 18) (i := 0) (ci := 11) (T := TX8) (N := 47) (FS := fs8 (gl Γ) 0) (σ' := (qM σ u25 u26)) (c_X8_first (gL Γ) (gl Γ) hF σ  v m p1  hc28) rfl rfl kw_1116 kw_1118 kp_40 kw_9 kw_1119 ⟨rfl, by decide, by decide, by decide +kernel⟩ (FMi hF (t := 18) (by decide)) (fun _ _ _ => rfl) rfl rfl rfl ⟨Nat.le_of_ble_eq_true rfl, Nat.le_of_ble_eq_true rfl⟩ rfl (Nat.le_of_ble_eq_true rfl) dX8_puts_11 ⟨_, rfl⟩ rfl ?_
    refine G_iconst (v := (-1)) hΓ dX8_puts_14 (by decide) ?_
    obtain ⟨x29, he32, hf⟩ := lt_eq hf
    have K30 : GG Γ (0, 0) (qM σ u25 u26) 23 [(0, .ref (ya (gl Γ) 18 0)), (1, .int p1)] [.int x29] := by
      cases hf
      exact G_iret hΓ hE dX8_puts_23
    have he := he32
    refine G_icmp_ne hΓ (tgt := 22) dX8_puts_15 (by decide) (fun hc31 => ?_) (fun hc31 => ?_)
    · rw [if_neg hc31] at he
      refine G_iconst (v := 0) hΓ dX8_puts_22 (by decide) ?_
      subst he
      exact K30
    · rw [if_pos hc31] at he
      refine G_iconst (v := 1) hΓ dX8_puts_18 (by decide) ?_
      refine G_goto hΓ (tgt := 23) dX8_puts_19 (by decide) ?_
      subst he
      exact K30
theorem dX8_see_0 : decode cX8_see 0 = .ok (.aload_n 0, 1) := by decide +kernel
theorem dX8_see_1 : decode cX8_see 1 = .ok (.getfield 62, 3) := by decide +kernel
theorem dX8_see_4 : decode cX8_see 4 = .ok (.sipush 1200, 3) := by decide +kernel
theorem dX8_see_7 : decode cX8_see 7 = .ok (.iload_n 1, 1) := by decide +kernel
theorem dX8_see_8 : decode cX8_see 8 = .ok (.imul, 1) := by decide +kernel
theorem dX8_see_9 : decode cX8_see 9 = .ok (.aload_n 0, 1) := by decide +kernel
theorem dX8_see_10 : decode cX8_see 10 = .ok (.getfield 58, 3) := by decide +kernel
theorem dX8_see_13 : decode cX8_see 13 = .ok (.iload_n 1, 1) := by decide +kernel
theorem dX8_see_14 : decode cX8_see 14 = .ok (.iaload, 1) := by decide +kernel
theorem dX8_see_15 : decode cX8_see 15 = .ok (.iadd, 1) := by decide +kernel
theorem dX8_see_16 : decode cX8_see 16 = .ok (.iload_n 2, 1) := by decide +kernel
theorem dX8_see_17 : decode cX8_see 17 = .ok (.i2b, 1) := by decide +kernel
theorem dX8_see_18 : decode cX8_see 18 = .ok (.bastore, 1) := by decide +kernel
theorem dX8_see_19 : decode cX8_see 19 = .ok (.aload_n 0, 1) := by decide +kernel
theorem dX8_see_20 : decode cX8_see 20 = .ok (.getfield 58, 3) := by decide +kernel
theorem dX8_see_23 : decode cX8_see 23 = .ok (.iload_n 1, 1) := by decide +kernel
theorem dX8_see_24 : decode cX8_see 24 = .ok (.dup2, 1) := by decide +kernel
theorem dX8_see_25 : decode cX8_see 25 = .ok (.iaload, 1) := by decide +kernel
theorem dX8_see_26 : decode cX8_see 26 = .ok (.iconst 1, 1) := by decide +kernel
theorem dX8_see_27 : decode cX8_see 27 = .ok (.iadd, 1) := by decide +kernel
theorem dX8_see_28 : decode cX8_see 28 = .ok (.iastore, 1) := by decide +kernel
theorem dX8_see_29 : decode cX8_see 29 = .ok (.return_, 1) := by decide +kernel
noncomputable def f_X8_see  (m : Nat → Nat → Int32) (p1 : Int32) (p2 : Int32) : Option ((Nat → Nat → Int32)) := gd (vp_in p1 32) (gd (vp_in ((1200 * p1) + ((m 14) p1.toNatClampNeg)) 38400) (gd (vp_in p1 32) (lt (α := Int32) (((m 14) p1.toNatClampNeg) + 1) (fun v4 => gd (vp_in p1 32) (some ((va_up (va_up m 15 (upd (m 15) (((1200 * p1) + ((m 14) p1.toNatClampNeg)).toNatClampNeg) (vp_nar .byte p2.toInt8.toInt32))) 14 (upd (m 14) p1.toNatClampNeg v4))))))))
set_option maxHeartbeats 4000000 in
set_option maxRecDepth 100000 in
theorem c_X8_see (l : Launch) (Λ : LY) (hF : FM Λ) (σ : CS)  (v : Nat → Int32) (m : Nat → Nat → Int32) (p1 : Int32) (p2 : Int32)   {m' : Nat → Nat → Int32} (hf : f_X8_see m p1 p2 = some m') : CM l yX8_see (.code yX8_see cX8_see 3 none :: TT) ({ frames := 0, cells := 0, slots := 0, locals := 0 }) Λ [.ref (ya Λ 18 0), .int p1, .int p2] (qM σ v m) (qM σ v m') (none) := by
  refine CM_intro (own := RX8) (by decide) rfl (Nat.le_of_ble_eq_true rfl) ?_
  intro Γ hg hl hΓ hE
  subst hg; subst hl
  show GG Γ (0, 0) (qM σ v m) 0 [(0, .ref (ya (gl Γ) 18 0)), (1, .int p1), (2, .int p2)] []
  unfold f_X8_see at hf
  refine G_aload_n hΓ 0 dX8_see_0 rfl ?_
  refine F_get hΓ (t := 18) (i := 0) (ci := 11) (C := RX8) (T := TX8) (N := 47) (fs8 (gl Γ) 0) (v := .ref (ya (gl Γ) 19 15)) (FMi hF (t := 18) (by decide)) (fun _ _ _ => rfl) rfl rfl rfl rfl inW8 20 (by decide) (TT_cons kw_900) rfl dX8_see_1 ?_
  refine G_sipush (v := 1200) hΓ dX8_see_4 (by decide) ?_
  refine G_iload_n hΓ 1 dX8_see_7 rfl ?_
  refine G_imul hΓ dX8_see_8 ?_
  refine G_aload_n hΓ 0 dX8_see_9 rfl ?_
  refine F_get hΓ (t := 18) (i := 0) (ci := 11) (C := RX8) (T := TX8) (N := 47) (fs8 (gl Γ) 0) (v := .ref (ya (gl Γ) 19 14)) (FMi hF (t := 18) (by decide)) (fun _ _ _ => rfl) rfl rfl rfl rfl inW8 19 (by decide) (TT_cons kw_899) rfl dX8_see_10 ?_
  refine G_iload_n hΓ 1 dX8_see_13 rfl ?_
  obtain ⟨hg1, hf⟩ := gd_some hf
  refine F_ald (G_iald hΓ) (t := 19) (i := 14) (f := (m 14)) (FMi hF (t := 19) (by decide)) (fun _ _ _ => rfl) rfl hg1 dX8_see_14 ?_
  refine G_iadd hΓ dX8_see_15 ?_
  refine G_iload_n hΓ 2 dX8_see_16 rfl ?_
  refine G_i2b hΓ dX8_see_17 ?_
  obtain ⟨hg2, hf⟩ := gd_some hf
  refine F_bast hΓ (t := 19) (i := 15) (f := (m 15)) (σ' := (qM σ v (va_up m 15 (upd (m 15) (((1200 * p1) + ((m 14) p1.toNatClampNeg)).toNatClampNeg) (vp_nar .byte p2.toInt8.toInt32))))) (FMi hF (t := 19) (by decide)) (fun _ _ _ => rfl) rfl qM_m hg2 dX8_see_18 ?_
  refine G_aload_n hΓ 0 dX8_see_19 rfl ?_
  refine F_get hΓ (t := 18) (i := 0) (ci := 11) (C := RX8) (T := TX8) (N := 47) (fs8 (gl Γ) 0) (v := .ref (ya (gl Γ) 19 14)) (FMi hF (t := 18) (by decide)) (fun _ _ _ => rfl) rfl rfl rfl rfl inW8 19 (by decide) (TT_cons kw_899) rfl dX8_see_20 ?_
  refine G_iload_n hΓ 1 dX8_see_23 rfl ?_
  refine G_dup2 hΓ dX8_see_24 rfl rfl ?_
  obtain ⟨hg3, hf⟩ := gd_some hf
  refine F_ald (G_iald hΓ) (t := 19) (i := 14) (f := (m 14)) (FMi hF (t := 19) (by decide)) (fun _ _ _ => rfl) rfl hg3 dX8_see_25 ?_
  refine G_iconst (v := 1) hΓ dX8_see_26 (by decide) ?_
  refine G_iadd hΓ dX8_see_27 ?_
  obtain ⟨v4, hv_v4, hf⟩ := lt_eq hf
  refine G_topi hv_v4 ?_
  obtain ⟨hg5, hf⟩ := gd_some hf
  refine F_iast hΓ (t := 19) (i := 14) (f := (m 14)) (σ' := (qM σ v (va_up (va_up m 15 (upd (m 15) (((1200 * p1) + ((m 14) p1.toNatClampNeg)).toNatClampNeg) (vp_nar .byte p2.toInt8.toInt32))) 14 (upd (m 14) p1.toNatClampNeg v4)))) (FMi hF (t := 19) (by decide)) (fun _ _ _ => rfl) rfl qM_m hg5 dX8_see_28 ?_
  cases hf
  exact G_vret hΓ hE dX8_see_29
theorem dX8_wrong_0 : decode cX8_wrong 0 = .ok (.aload_n 0, 1) := by decide +kernel
theorem dX8_wrong_1 : decode cX8_wrong 1 = .ok (.getfield 89, 3) := by decide +kernel
theorem dX8_wrong_4 : decode cX8_wrong 4 = .ok (.aload_n 0, 1) := by decide +kernel
theorem dX8_wrong_5 : decode cX8_wrong 5 = .ok (.getfield 128, 3) := by decide +kernel
theorem dX8_wrong_8 : decode cX8_wrong 8 = .ok (.iload_n 2, 1) := by decide +kernel
theorem dX8_wrong_9 : decode cX8_wrong 9 = .ok (.i2b, 1) := by decide +kernel
theorem dX8_wrong_10 : decode cX8_wrong 10 = .ok (.bastore, 1) := by decide +kernel
theorem dX8_wrong_11 : decode cX8_wrong 11 = .ok (.aload_n 0, 1) := by decide +kernel
theorem dX8_wrong_12 : decode cX8_wrong 12 = .ok (.getfield 92, 3) := by decide +kernel
theorem dX8_wrong_15 : decode cX8_wrong 15 = .ok (.aload_n 0, 1) := by decide +kernel
theorem dX8_wrong_16 : decode cX8_wrong 16 = .ok (.getfield 128, 3) := by decide +kernel
theorem dX8_wrong_19 : decode cX8_wrong 19 = .ok (.iload_n 1, 1) := by decide +kernel
theorem dX8_wrong_20 : decode cX8_wrong 20 = .ok (.i2b, 1) := by decide +kernel
theorem dX8_wrong_21 : decode cX8_wrong 21 = .ok (.bastore, 1) := by decide +kernel
theorem dX8_wrong_22 : decode cX8_wrong 22 = .ok (.aload_n 0, 1) := by decide +kernel
theorem dX8_wrong_23 : decode cX8_wrong 23 = .ok (.getfield 95, 3) := by decide +kernel
theorem dX8_wrong_26 : decode cX8_wrong 26 = .ok (.aload_n 0, 1) := by decide +kernel
theorem dX8_wrong_27 : decode cX8_wrong 27 = .ok (.getfield 128, 3) := by decide +kernel
theorem dX8_wrong_30 : decode cX8_wrong 30 = .ok (.aload_n 0, 1) := by decide +kernel
theorem dX8_wrong_31 : decode cX8_wrong 31 = .ok (.getfield 116, 3) := by decide +kernel
theorem dX8_wrong_34 : decode cX8_wrong 34 = .ok (.iastore, 1) := by decide +kernel
theorem dX8_wrong_35 : decode cX8_wrong 35 = .ok (.aload_n 0, 1) := by decide +kernel
theorem dX8_wrong_36 : decode cX8_wrong 36 = .ok (.dup, 1) := by decide +kernel
theorem dX8_wrong_37 : decode cX8_wrong 37 = .ok (.getfield 128, 3) := by decide +kernel
theorem dX8_wrong_40 : decode cX8_wrong 40 = .ok (.iconst 1, 1) := by decide +kernel
theorem dX8_wrong_41 : decode cX8_wrong 41 = .ok (.iadd, 1) := by decide +kernel
theorem dX8_wrong_42 : decode cX8_wrong 42 = .ok (.putfield 128, 3) := by decide +kernel
theorem dX8_wrong_45 : decode cX8_wrong 45 = .ok (.aload_n 0, 1) := by decide +kernel
theorem dX8_wrong_46 : decode cX8_wrong 46 = .ok (.getfield 43, 3) := by decide +kernel
theorem dX8_wrong_49 : decode cX8_wrong 49 = .ok (.iload_n 1, 1) := by decide +kernel
theorem dX8_wrong_50 : decode cX8_wrong 50 = .ok (.iconst 3, 1) := by decide +kernel
theorem dX8_wrong_51 : decode cX8_wrong 51 = .ok (.iastore, 1) := by decide +kernel
theorem dX8_wrong_52 : decode cX8_wrong 52 = .ok (.aload_n 0, 1) := by decide +kernel
theorem dX8_wrong_53 : decode cX8_wrong 53 = .ok (.getfield 46, 3) := by decide +kernel
theorem dX8_wrong_56 : decode cX8_wrong 56 = .ok (.iload_n 1, 1) := by decide +kernel
theorem dX8_wrong_57 : decode cX8_wrong 57 = .ok (.bipush 6, 2) := by decide +kernel
theorem dX8_wrong_59 : decode cX8_wrong 59 = .ok (.iastore, 1) := by decide +kernel
theorem dX8_wrong_60 : decode cX8_wrong 60 = .ok (.return_, 1) := by decide +kernel
noncomputable def f_X8_wrong  (v : Nat → Int32) (m : Nat → Nat → Int32) (p1 : Int32) (p2 : Int32) : Option ((Nat → Int32) × (Nat → Nat → Int32)) := gd (vp_in (v 29) 92000) (gd (vp_in (v 29) 92000) (gd (vp_in (v 29) 92000) (gd (vp_in p1 32) (gd (vp_in p1 32) (some ((upd v 29 ((v 29) + 1)), (va_up (va_up (va_up (va_up (va_up m 23 (upd (m 23) ((v 29).toNatClampNeg) (vp_nar .byte p2.toInt8.toInt32))) 24 (upd (m 24) ((v 29).toNatClampNeg) (vp_nar .byte p1.toInt8.toInt32))) 25 (upd (m 25) ((v 29).toNatClampNeg) (v 2))) 9 (upd (m 9) p1.toNatClampNeg 3)) 10 (upd (m 10) p1.toNatClampNeg 6))))))))
set_option maxHeartbeats 4000000 in
set_option maxRecDepth 100000 in
theorem c_X8_wrong (l : Launch) (Λ : LY) (hF : FM Λ) (σ : CS)  (v : Nat → Int32) (m : Nat → Nat → Int32) (p1 : Int32) (p2 : Int32)   {v' : Nat → Int32} {m' : Nat → Nat → Int32} (hf : f_X8_wrong v m p1 p2 = some (v', m')) : CM l yX8_wrong (.code yX8_wrong cX8_wrong 3 none :: TT) ({ frames := 0, cells := 0, slots := 0, locals := 0 }) Λ [.ref (ya Λ 18 0), .int p1, .int p2] (qM σ v m) (qM σ v' m') (none) := by
  refine CM_intro (own := RX8) (by decide) rfl (Nat.le_of_ble_eq_true rfl) ?_
  intro Γ hg hl hΓ hE
  subst hg; subst hl
  show GG Γ (0, 0) (qM σ v m) 0 [(0, .ref (ya (gl Γ) 18 0)), (1, .int p1), (2, .int p2)] []
  unfold f_X8_wrong at hf
  refine G_aload_n hΓ 0 dX8_wrong_0 rfl ?_
  refine F_get hΓ (t := 18) (i := 0) (ci := 11) (C := RX8) (T := TX8) (N := 47) (fs8 (gl Γ) 0) (v := .ref (ya (gl Γ) 19 23)) (FMi hF (t := 18) (by decide)) (fun _ _ _ => rfl) rfl rfl rfl rfl inW8 30 (by decide) (TT_cons kw_910) rfl dX8_wrong_1 ?_
  refine G_aload_n hΓ 0 dX8_wrong_4 rfl ?_
  refine F_get hΓ (t := 18) (i := 0) (ci := 11) (C := RX8) (T := TX8) (N := 47) (fs8 (gl Γ) 0) (v := .int (v 29)) (FMi hF (t := 18) (by decide)) (fun _ _ _ => rfl) rfl rfl rfl rfl inW8 29 (by decide) (TT_cons kw_909) rfl dX8_wrong_5 ?_
  refine G_iload_n hΓ 2 dX8_wrong_8 rfl ?_
  refine G_i2b hΓ dX8_wrong_9 ?_
  obtain ⟨hg1, hf⟩ := gd_some hf
  refine F_bast hΓ (t := 19) (i := 23) (f := (m 23)) (σ' := (qM σ v (va_up m 23 (upd (m 23) ((v 29).toNatClampNeg) (vp_nar .byte p2.toInt8.toInt32))))) (FMi hF (t := 19) (by decide)) (fun _ _ _ => rfl) rfl qM_m hg1 dX8_wrong_10 ?_
  refine G_aload_n hΓ 0 dX8_wrong_11 rfl ?_
  refine F_get hΓ (t := 18) (i := 0) (ci := 11) (C := RX8) (T := TX8) (N := 47) (fs8 (gl Γ) 0) (v := .ref (ya (gl Γ) 19 24)) (FMi hF (t := 18) (by decide)) (fun _ _ _ => rfl) rfl rfl rfl rfl inW8 31 (by decide) (TT_cons kw_911) rfl dX8_wrong_12 ?_
  refine G_aload_n hΓ 0 dX8_wrong_15 rfl ?_
  refine F_get hΓ (t := 18) (i := 0) (ci := 11) (C := RX8) (T := TX8) (N := 47) (fs8 (gl Γ) 0) (v := .int (v 29)) (FMi hF (t := 18) (by decide)) (fun _ _ _ => rfl) rfl rfl rfl rfl inW8 29 (by decide) (TT_cons kw_909) rfl dX8_wrong_16 ?_
  refine G_iload_n hΓ 1 dX8_wrong_19 rfl ?_
  refine G_i2b hΓ dX8_wrong_20 ?_
  obtain ⟨hg2, hf⟩ := gd_some hf
  refine F_bast hΓ (t := 19) (i := 24) (f := (m 24)) (σ' := (qM σ v (va_up (va_up m 23 (upd (m 23) ((v 29).toNatClampNeg) (vp_nar .byte p2.toInt8.toInt32))) 24 (upd (m 24) ((v 29).toNatClampNeg) (vp_nar .byte p1.toInt8.toInt32))))) (FMi hF (t := 19) (by decide)) (fun _ _ _ => rfl) rfl qM_m hg2 dX8_wrong_21 ?_
  refine G_aload_n hΓ 0 dX8_wrong_22 rfl ?_
  refine F_get hΓ (t := 18) (i := 0) (ci := 11) (C := RX8) (T := TX8) (N := 47) (fs8 (gl Γ) 0) (v := .ref (ya (gl Γ) 19 25)) (FMi hF (t := 18) (by decide)) (fun _ _ _ => rfl) rfl rfl rfl rfl inW8 32 (by decide) (TT_cons kw_912) rfl dX8_wrong_23 ?_
  refine G_aload_n hΓ 0 dX8_wrong_26 rfl ?_
  refine F_get hΓ (t := 18) (i := 0) (ci := 11) (C := RX8) (T := TX8) (N := 47) (fs8 (gl Γ) 0) (v := .int (v 29)) (FMi hF (t := 18) (by decide)) (fun _ _ _ => rfl) rfl rfl rfl rfl inW8 29 (by decide) (TT_cons kw_909) rfl dX8_wrong_27 ?_
  refine G_aload_n hΓ 0 dX8_wrong_30 rfl ?_
  refine F_get hΓ (t := 18) (i := 0) (ci := 11) (C := RX8) (T := TX8) (N := 47) (fs8 (gl Γ) 0) (v := .int (v 2)) (FMi hF (t := 18) (by decide)) (fun _ _ _ => rfl) rfl rfl rfl rfl inW8 2 (by decide) (TT_cons kw_882) rfl dX8_wrong_31 ?_
  obtain ⟨hg3, hf⟩ := gd_some hf
  refine F_iast hΓ (t := 19) (i := 25) (f := (m 25)) (σ' := (qM σ v (va_up (va_up (va_up m 23 (upd (m 23) ((v 29).toNatClampNeg) (vp_nar .byte p2.toInt8.toInt32))) 24 (upd (m 24) ((v 29).toNatClampNeg) (vp_nar .byte p1.toInt8.toInt32))) 25 (upd (m 25) ((v 29).toNatClampNeg) (v 2))))) (FMi hF (t := 19) (by decide)) (fun _ _ _ => rfl) rfl qM_m hg3 dX8_wrong_34 ?_
  refine G_aload_n hΓ 0 dX8_wrong_35 rfl ?_
  refine G_dup hΓ dX8_wrong_36 rfl ?_
  refine F_get hΓ (t := 18) (i := 0) (ci := 11) (C := RX8) (T := TX8) (N := 47) (fs8 (gl Γ) 0) (v := .int (v 29)) (FMi hF (t := 18) (by decide)) (fun _ _ _ => rfl) rfl rfl rfl rfl inW8 29 (by decide) (TT_cons kw_909) rfl dX8_wrong_37 ?_
  refine G_iconst (v := 1) hΓ dX8_wrong_40 (by decide) ?_
  refine G_iadd hΓ dX8_wrong_41 ?_
  refine F_put hΓ (t := 18) (i := 0) (ci := 11) (C := RX8) (T := TX8) (N := 47) (fs8 (gl Γ) 0) (f := v) (f' := (upd v 29 ((v 29) + 1))) (σ' := (qM σ (upd v 29 ((v 29) + 1)) (va_up (va_up (va_up m 23 (upd (m 23) ((v 29).toNatClampNeg) (vp_nar .byte p2.toInt8.toInt32))) 24 (upd (m 24) ((v 29).toNatClampNeg) (vp_nar .byte p1.toInt8.toInt32))) 25 (upd (m 25) ((v 29).toNatClampNeg) (v 2))))) (ty := .int) (v := .int ((v 29) + 1)) tyX8 tyX8_ok nmX8 (FMi hF (t := 18) (by decide)) (fun _ _ _ => rfl) rfl qM_v rfl inW8 29 (by decide) (TT_cons kw_909) rfl (by decide +kernel) rfl rfl (fun _ _ => Nat.le_of_ble_eq_true rfl) (fun _ _ => rfl) dX8_wrong_42 ?_
  refine G_aload_n hΓ 0 dX8_wrong_45 rfl ?_
  refine F_get hΓ (t := 18) (i := 0) (ci := 11) (C := RX8) (T := TX8) (N := 47) (fs8 (gl Γ) 0) (v := .ref (ya (gl Γ) 19 9)) (FMi hF (t := 18) (by decide)) (fun _ _ _ => rfl) rfl rfl rfl rfl inW8 14 (by decide) (TT_cons kw_894) rfl dX8_wrong_46 ?_
  refine G_iload_n hΓ 1 dX8_wrong_49 rfl ?_
  refine G_iconst (v := 3) hΓ dX8_wrong_50 (by decide) ?_
  obtain ⟨hg4, hf⟩ := gd_some hf
  refine F_iast hΓ (t := 19) (i := 9) (f := (m 9)) (σ' := (qM σ (upd v 29 ((v 29) + 1)) (va_up (va_up (va_up (va_up m 23 (upd (m 23) ((v 29).toNatClampNeg) (vp_nar .byte p2.toInt8.toInt32))) 24 (upd (m 24) ((v 29).toNatClampNeg) (vp_nar .byte p1.toInt8.toInt32))) 25 (upd (m 25) ((v 29).toNatClampNeg) (v 2))) 9 (upd (m 9) p1.toNatClampNeg 3)))) (FMi hF (t := 19) (by decide)) (fun _ _ _ => rfl) rfl qM_m hg4 dX8_wrong_51 ?_
  refine G_aload_n hΓ 0 dX8_wrong_52 rfl ?_
  refine F_get hΓ (t := 18) (i := 0) (ci := 11) (C := RX8) (T := TX8) (N := 47) (fs8 (gl Γ) 0) (v := .ref (ya (gl Γ) 19 10)) (FMi hF (t := 18) (by decide)) (fun _ _ _ => rfl) rfl rfl rfl rfl inW8 15 (by decide) (TT_cons kw_895) rfl dX8_wrong_53 ?_
  refine G_iload_n hΓ 1 dX8_wrong_56 rfl ?_
  refine G_bipush (v := 6) hΓ dX8_wrong_57 (by decide) ?_
  obtain ⟨hg5, hf⟩ := gd_some hf
  refine F_iast hΓ (t := 19) (i := 10) (f := (m 10)) (σ' := (qM σ (upd v 29 ((v 29) + 1)) (va_up (va_up (va_up (va_up (va_up m 23 (upd (m 23) ((v 29).toNatClampNeg) (vp_nar .byte p2.toInt8.toInt32))) 24 (upd (m 24) ((v 29).toNatClampNeg) (vp_nar .byte p1.toInt8.toInt32))) 25 (upd (m 25) ((v 29).toNatClampNeg) (v 2))) 9 (upd (m 9) p1.toNatClampNeg 3)) 10 (upd (m 10) p1.toNatClampNeg 6)))) (FMi hF (t := 19) (by decide)) (fun _ _ _ => rfl) rfl qM_m hg5 dX8_wrong_59 ?_
  cases hf
  exact G_vret hΓ hE dX8_wrong_60
theorem dX8_go_0 : decode cX8_go 0 = .ok (.aload_n 0, 1) := by decide +kernel
theorem dX8_go_1 : decode cX8_go 1 = .ok (.getfield 43, 3) := by decide +kernel
theorem dX8_go_4 : decode cX8_go 4 = .ok (.iload_n 1, 1) := by decide +kernel
theorem dX8_go_5 : decode cX8_go 5 = .ok (.iload_n 2, 1) := by decide +kernel
theorem dX8_go_6 : decode cX8_go 6 = .ok (.iastore, 1) := by decide +kernel
theorem dX8_go_7 : decode cX8_go 7 = .ok (.aload_n 0, 1) := by decide +kernel
theorem dX8_go_8 : decode cX8_go 8 = .ok (.getfield 46, 3) := by decide +kernel
theorem dX8_go_11 : decode cX8_go 11 = .ok (.iload_n 1, 1) := by decide +kernel
theorem dX8_go_12 : decode cX8_go 12 = .ok (.iload_n 3, 1) := by decide +kernel
theorem dX8_go_13 : decode cX8_go 13 = .ok (.iastore, 1) := by decide +kernel
theorem dX8_go_14 : decode cX8_go 14 = .ok (.return_, 1) := by decide +kernel
noncomputable def f_X8_go  (m : Nat → Nat → Int32) (p1 : Int32) (p2 : Int32) (p3 : Int32) : Option ((Nat → Nat → Int32)) := gd (vp_in p1 32) (gd (vp_in p1 32) (some ((va_up (va_up m 9 (upd (m 9) p1.toNatClampNeg p2)) 10 (upd (m 10) p1.toNatClampNeg p3)))))
set_option maxHeartbeats 4000000 in
set_option maxRecDepth 100000 in
theorem c_X8_go (l : Launch) (Λ : LY) (hF : FM Λ) (σ : CS)  (v : Nat → Int32) (m : Nat → Nat → Int32) (p1 : Int32) (p2 : Int32) (p3 : Int32)   {m' : Nat → Nat → Int32} (hf : f_X8_go m p1 p2 p3 = some m') : CM l yX8_go (.code yX8_go cX8_go 4 none :: TT) ({ frames := 0, cells := 0, slots := 0, locals := 0 }) Λ [.ref (ya Λ 18 0), .int p1, .int p2, .int p3] (qM σ v m) (qM σ v m') (none) := by
  refine CM_intro (own := RX8) (by decide) rfl (Nat.le_of_ble_eq_true rfl) ?_
  intro Γ hg hl hΓ hE
  subst hg; subst hl
  show GG Γ (0, 0) (qM σ v m) 0 [(0, .ref (ya (gl Γ) 18 0)), (1, .int p1), (2, .int p2), (3, .int p3)] []
  unfold f_X8_go at hf
  refine G_aload_n hΓ 0 dX8_go_0 rfl ?_
  refine F_get hΓ (t := 18) (i := 0) (ci := 11) (C := RX8) (T := TX8) (N := 47) (fs8 (gl Γ) 0) (v := .ref (ya (gl Γ) 19 9)) (FMi hF (t := 18) (by decide)) (fun _ _ _ => rfl) rfl rfl rfl rfl inW8 14 (by decide) (TT_cons kw_894) rfl dX8_go_1 ?_
  refine G_iload_n hΓ 1 dX8_go_4 rfl ?_
  refine G_iload_n hΓ 2 dX8_go_5 rfl ?_
  obtain ⟨hg1, hf⟩ := gd_some hf
  refine F_iast hΓ (t := 19) (i := 9) (f := (m 9)) (σ' := (qM σ v (va_up m 9 (upd (m 9) p1.toNatClampNeg p2)))) (FMi hF (t := 19) (by decide)) (fun _ _ _ => rfl) rfl qM_m hg1 dX8_go_6 ?_
  refine G_aload_n hΓ 0 dX8_go_7 rfl ?_
  refine F_get hΓ (t := 18) (i := 0) (ci := 11) (C := RX8) (T := TX8) (N := 47) (fs8 (gl Γ) 0) (v := .ref (ya (gl Γ) 19 10)) (FMi hF (t := 18) (by decide)) (fun _ _ _ => rfl) rfl rfl rfl rfl inW8 15 (by decide) (TT_cons kw_895) rfl dX8_go_8 ?_
  refine G_iload_n hΓ 1 dX8_go_11 rfl ?_
  refine G_iload_n hΓ 3 dX8_go_12 rfl ?_
  obtain ⟨hg2, hf⟩ := gd_some hf
  refine F_iast hΓ (t := 19) (i := 10) (f := (m 10)) (σ' := (qM σ v (va_up (va_up m 9 (upd (m 9) p1.toNatClampNeg p2)) 10 (upd (m 10) p1.toNatClampNeg p3)))) (FMi hF (t := 19) (by decide)) (fun _ _ _ => rfl) rfl qM_m hg2 dX8_go_13 ?_
  cases hf
  exact G_vret hΓ hE dX8_go_14
theorem dX8_pauses_0 : decode cX8_pauses 0 = .ok (.iload_n 2, 1) := by decide +kernel
theorem dX8_pauses_1 : decode cX8_pauses 1 = .ok (.ifCond .ne 21, 3) := by decide +kernel
theorem dX8_pauses_4 : decode cX8_pauses 4 = .ok (.aload_n 0, 1) := by decide +kernel
theorem dX8_pauses_5 : decode cX8_pauses 5 = .ok (.getfield 46, 3) := by decide +kernel
theorem dX8_pauses_8 : decode cX8_pauses 8 = .ok (.iload_n 1, 1) := by decide +kernel
theorem dX8_pauses_9 : decode cX8_pauses 9 = .ok (.iaload, 1) := by decide +kernel
theorem dX8_pauses_10 : decode cX8_pauses 10 = .ok (.ifCond .le 12, 3) := by decide +kernel
theorem dX8_pauses_13 : decode cX8_pauses 13 = .ok (.aload_n 0, 1) := by decide +kernel
theorem dX8_pauses_14 : decode cX8_pauses 14 = .ok (.iload_n 1, 1) := by decide +kernel
theorem dX8_pauses_15 : decode cX8_pauses 15 = .ok (.iconst 5, 1) := by decide +kernel
theorem dX8_pauses_16 : decode cX8_pauses 16 = .ok (.invokevirtual 254, 3) := by decide +kernel
theorem dX8_pauses_19 : decode cX8_pauses 19 = .ok (.goto 71, 3) := by decide +kernel
theorem dX8_pauses_22 : decode cX8_pauses 22 = .ok (.iload_n 2, 1) := by decide +kernel
theorem dX8_pauses_23 : decode cX8_pauses 23 = .ok (.ifCond .ne 51, 3) := by decide +kernel
theorem dX8_pauses_26 : decode cX8_pauses 26 = .ok (.aload_n 0, 1) := by decide +kernel
theorem dX8_pauses_27 : decode cX8_pauses 27 = .ok (.getfield 58, 3) := by decide +kernel
theorem dX8_pauses_30 : decode cX8_pauses 30 = .ok (.iload_n 1, 1) := by decide +kernel
theorem dX8_pauses_31 : decode cX8_pauses 31 = .ok (.iconst 0, 1) := by decide +kernel
theorem dX8_pauses_32 : decode cX8_pauses 32 = .ok (.iastore, 1) := by decide +kernel
theorem dX8_pauses_33 : decode cX8_pauses 33 = .ok (.aload_n 0, 1) := by decide +kernel
theorem dX8_pauses_34 : decode cX8_pauses 34 = .ok (.iload_n 1, 1) := by decide +kernel
theorem dX8_pauses_35 : decode cX8_pauses 35 = .ok (.iconst 0, 1) := by decide +kernel
theorem dX8_pauses_36 : decode cX8_pauses 36 = .ok (.invokevirtual 241, 3) := by decide +kernel
theorem dX8_pauses_39 : decode cX8_pauses 39 = .ok (.aload_n 0, 1) := by decide +kernel
theorem dX8_pauses_40 : decode cX8_pauses 40 = .ok (.getfield 49, 3) := by decide +kernel
theorem dX8_pauses_43 : decode cX8_pauses 43 = .ok (.iload_n 1, 1) := by decide +kernel
theorem dX8_pauses_44 : decode cX8_pauses 44 = .ok (.aload_n 0, 1) := by decide +kernel
theorem dX8_pauses_45 : decode cX8_pauses 45 = .ok (.iload_n 1, 1) := by decide +kernel
theorem dX8_pauses_46 : decode cX8_pauses 46 = .ok (.invokevirtual 232, 3) := by decide +kernel
theorem dX8_pauses_49 : decode cX8_pauses 49 = .ok (.iastore, 1) := by decide +kernel
theorem dX8_pauses_50 : decode cX8_pauses 50 = .ok (.aload_n 0, 1) := by decide +kernel
theorem dX8_pauses_51 : decode cX8_pauses 51 = .ok (.getfield 43, 3) := by decide +kernel
theorem dX8_pauses_54 : decode cX8_pauses 54 = .ok (.iload_n 1, 1) := by decide +kernel
theorem dX8_pauses_55 : decode cX8_pauses 55 = .ok (.aload_n 0, 1) := by decide +kernel
theorem dX8_pauses_56 : decode cX8_pauses 56 = .ok (.getfield 49, 3) := by decide +kernel
theorem dX8_pauses_59 : decode cX8_pauses 59 = .ok (.iload_n 1, 1) := by decide +kernel
theorem dX8_pauses_60 : decode cX8_pauses 60 = .ok (.iaload, 1) := by decide +kernel
theorem dX8_pauses_61 : decode cX8_pauses 61 = .ok (.iconst (-1), 1) := by decide +kernel
theorem dX8_pauses_62 : decode cX8_pauses 62 = .ok (.if_icmp .ne 7, 3) := by decide +kernel
theorem dX8_pauses_65 : decode cX8_pauses 65 = .ok (.iconst 2, 1) := by decide +kernel
theorem dX8_pauses_66 : decode cX8_pauses 66 = .ok (.goto 4, 3) := by decide +kernel
theorem dX8_pauses_69 : decode cX8_pauses 69 = .ok (.iconst 1, 1) := by decide +kernel
theorem dX8_pauses_70 : decode cX8_pauses 70 = .ok (.iastore, 1) := by decide +kernel
theorem dX8_pauses_71 : decode cX8_pauses 71 = .ok (.goto 19, 3) := by decide +kernel
theorem dX8_pauses_74 : decode cX8_pauses 74 = .ok (.aload_n 0, 1) := by decide +kernel
theorem dX8_pauses_75 : decode cX8_pauses 75 = .ok (.getfield 46, 3) := by decide +kernel
theorem dX8_pauses_78 : decode cX8_pauses 78 = .ok (.iload_n 1, 1) := by decide +kernel
theorem dX8_pauses_79 : decode cX8_pauses 79 = .ok (.iaload, 1) := by decide +kernel
theorem dX8_pauses_80 : decode cX8_pauses 80 = .ok (.ifCond .ne 10, 3) := by decide +kernel
theorem dX8_pauses_83 : decode cX8_pauses 83 = .ok (.aload_n 0, 1) := by decide +kernel
theorem dX8_pauses_84 : decode cX8_pauses 84 = .ok (.getfield 43, 3) := by decide +kernel
theorem dX8_pauses_87 : decode cX8_pauses 87 = .ok (.iload_n 1, 1) := by decide +kernel
theorem dX8_pauses_88 : decode cX8_pauses 88 = .ok (.iconst 0, 1) := by decide +kernel
theorem dX8_pauses_89 : decode cX8_pauses 89 = .ok (.iastore, 1) := by decide +kernel
theorem dX8_pauses_90 : decode cX8_pauses 90 = .ok (.return_, 1) := by decide +kernel
noncomputable def f_X8_pauses  (v : Nat → Int32) (m : Nat → Nat → Int32) (p1 : Int32) (p2 : Int32) : Option ((Nat → Int32) × (Nat → Nat → Int32)) := jn (α := (Nat → Nat → Int32) × (Nat → Int32)) (fun ⟨x1, x2⟩ => some (x2, x1)) (fun k3 => if p2 = 0 then gd (vp_in p1 32) (if ((m 10) p1.toNatClampNeg) ≤ 0 then if p2 = 0 then gd (vp_in p1 32) (bd (f_X8_see (va_up m 14 (upd (m 14) p1.toNatClampNeg 0)) p1 0) (fun u28 => bd (f_X8_first v u28 p1) (fun ⟨u30, u31, u32⟩ => gd (vp_in p1 32) (gd (vp_in p1 32) (lt (α := Int32) (if ((upd (u31 11) p1.toNatClampNeg u32) p1.toNatClampNeg) = (-1) then 2 else 1) (fun x36 => gd (vp_in p1 32) (k3 ((va_up (va_up u31 11 (upd (u31 11) p1.toNatClampNeg u32)) 9 (upd (u31 9) p1.toNatClampNeg x36)), u30)))))))) else gd (vp_in p1 32) (if ((m 10) p1.toNatClampNeg) = 0 then gd (vp_in p1 32) (k3 ((va_up m 9 (upd (m 9) p1.toNatClampNeg 0)), v)) else k3 (m, v)) else bd (f_X8_wrong v m p1 5) (fun ⟨u42, u43⟩ => k3 (u43, u42))) else if p2 = 0 then gd (vp_in p1 32) (bd (f_X8_see (va_up m 14 (upd (m 14) p1.toNatClampNeg 0)) p1 0) (fun u9 => bd (f_X8_first v u9 p1) (fun ⟨u11, u12, u13⟩ => gd (vp_in p1 32) (gd (vp_in p1 32) (lt (α := Int32) (if ((upd (u12 11) p1.toNatClampNeg u13) p1.toNatClampNeg) = (-1) then 2 else 1) (fun x17 => gd (vp_in p1 32) (k3 ((va_up (va_up u12 11 (upd (u12 11) p1.toNatClampNeg u13)) 9 (upd (u12 9) p1.toNatClampNeg x17)), u11)))))))) else gd (vp_in p1 32) (if ((m 10) p1.toNatClampNeg) = 0 then gd (vp_in p1 32) (k3 ((va_up m 9 (upd (m 9) p1.toNatClampNeg 0)), v)) else k3 (m, v)))
set_option maxHeartbeats 4000000 in
set_option maxRecDepth 100000 in
theorem c_X8_pauses (l : Launch) (Λ : LY) (hF : FM Λ) (σ : CS)  (v : Nat → Int32) (m : Nat → Nat → Int32) (p1 : Int32) (p2 : Int32)   {v' : Nat → Int32} {m' : Nat → Nat → Int32} (hf : f_X8_pauses v m p1 p2 = some (v', m')) : CM l yX8_pauses (.code yX8_pauses cX8_pauses 3 none :: TT) ({ frames := 3, cells := 0, slots := 0, locals := 75 }) Λ [.ref (ya Λ 18 0), .int p1, .int p2] (qM σ v m) (qM σ v' m') (none) := by
  refine CM_intro (own := RX8) (by decide) rfl (Nat.le_of_ble_eq_true rfl) ?_
  intro Γ hg hl hΓ hE
  subst hg; subst hl
  show GG Γ (0, 0) (qM σ v m) 0 [(0, .ref (ya (gl Γ) 18 0)), (1, .int p1), (2, .int p2)] []
  unfold f_X8_pauses at hf
  refine G_iload_n hΓ 2 dX8_pauses_0 rfl ?_
  obtain ⟨k3, hk_k3, hf⟩ := jn_eq hf
  try dsimp only at hf
  have K4 : ∀ x1 x2, k3 (x1, x2) = some (v', m') → GG Γ (0, 0) (qM σ x2 x1) 90 [(0, .ref (ya (gl Γ) 18 0)), (1, .int p1), (2, .int p2)] [] := by
    intro x1 x2 hf
    subst hk_k3
    try dsimp only at hf
    cases hf
    exact G_vret hΓ hE dX8_pauses_90
  clear hk_k3
  refine G_if_ne hΓ (tgt := 22) dX8_pauses_1 (by decide) (fun hc46 => ?_) (fun hc46 => ?_)
  · rw [if_neg hc46] at hf
    refine G_iload_n hΓ 2 dX8_pauses_22 rfl ?_
    refine G_if_ne hΓ (tgt := 74) dX8_pauses_23 (by decide) (fun hc22 => ?_) (fun hc22 => ?_)
    · rw [if_neg hc22] at hf
      refine G_aload_n hΓ 0 dX8_pauses_74 rfl ?_
      refine F_get hΓ (t := 18) (i := 0) (ci := 11) (C := RX8) (T := TX8) (N := 47) (fs8 (gl Γ) 0) (v := .ref (ya (gl Γ) 19 10)) (FMi hF (t := 18) (by decide)) (fun _ _ _ => rfl) rfl rfl rfl rfl inW8 15 (by decide) (TT_cons kw_895) rfl dX8_pauses_75 ?_
      refine G_iload_n hΓ 1 dX8_pauses_78 rfl ?_
      obtain ⟨hg5, hf⟩ := gd_some hf
      refine F_ald (G_iald hΓ) (t := 19) (i := 10) (f := (m 10)) (FMi hF (t := 19) (by decide)) (fun _ _ _ => rfl) rfl hg5 dX8_pauses_79 ?_
      refine G_if_ne hΓ (tgt := 90) dX8_pauses_80 (by decide) (fun hc7 => ?_) (fun hc7 => ?_)
      · rw [if_neg hc7] at hf
        exact K4 _ _ hf
      · rw [if_pos hc7] at hf
        refine G_aload_n hΓ 0 dX8_pauses_83 rfl ?_
        refine F_get hΓ (t := 18) (i := 0) (ci := 11) (C := RX8) (T := TX8) (N := 47) (fs8 (gl Γ) 0) (v := .ref (ya (gl Γ) 19 9)) (FMi hF (t := 18) (by decide)) (fun _ _ _ => rfl) rfl rfl rfl rfl inW8 14 (by decide) (TT_cons kw_894) rfl dX8_pauses_84 ?_
        refine G_iload_n hΓ 1 dX8_pauses_87 rfl ?_
        refine G_iconst (v := 0) hΓ dX8_pauses_88 (by decide) ?_
        obtain ⟨hg6, hf⟩ := gd_some hf
        refine F_iast hΓ (t := 19) (i := 9) (f := (m 9)) (σ' := (qM σ v (va_up m 9 (upd (m 9) p1.toNatClampNeg 0)))) (FMi hF (t := 19) (by decide)) (fun _ _ _ => rfl) rfl qM_m hg6 dX8_pauses_89 ?_
        exact K4 _ _ hf
    · rw [if_pos hc22] at hf
      refine G_aload_n hΓ 0 dX8_pauses_26 rfl ?_
      refine F_get hΓ (t := 18) (i := 0) (ci := 11) (C := RX8) (T := TX8) (N := 47) (fs8 (gl Γ) 0) (v := .ref (ya (gl Γ) 19 14)) (FMi hF (t := 18) (by decide)) (fun _ _ _ => rfl) rfl rfl rfl rfl inW8 19 (by decide) (TT_cons kw_899) rfl dX8_pauses_27 ?_
      refine G_iload_n hΓ 1 dX8_pauses_30 rfl ?_
      refine G_iconst (v := 0) hΓ dX8_pauses_31 (by decide) ?_
      obtain ⟨hg8, hf⟩ := gd_some hf
      refine F_iast hΓ (t := 19) (i := 14) (f := (m 14)) (σ' := (qM σ v (va_up m 14 (upd (m 14) p1.toNatClampNeg 0)))) (FMi hF (t := 19) (by decide)) (fun _ _ _ => rfl) rfl qM_m hg8 dX8_pauses_32 ?_
      refine G_aload_n hΓ 0 dX8_pauses_33 rfl ?_
      refine G_iload_n hΓ 1 dX8_pauses_34 rfl ?_
      refine G_iconst (v := 0) hΓ dX8_pauses_35 (by decide) ?_
      obtain ⟨u9, hc10, hf⟩ := bd_some hf
      refine G_callV hΓ (n := 2) (As := [.int p1, .int 0]) (t := 18) (i := 0) (ci := 11) (T := TX8) (N := 47) (FS := fs8 (gl Γ) 0) (σ' := (qM σ v u9)) (c_X8_see (gL Γ) (gl Γ) hF σ  v (va_up m 14 (upd (m 14) p1.toNatClampNeg 0)) p1 0  hc10) rfl rfl kw_1161 kw_1163 kp_51 kw_9 kw_1164 ⟨rfl, by decide, by decide, by decide +kernel⟩ (FMi hF (t := 18) (by decide)) (fun _ _ _ => rfl) rfl rfl rfl ⟨Nat.le_of_ble_eq_true rfl, Nat.le_of_ble_eq_true rfl⟩ rfl (Nat.le_of_ble_eq_true rfl) dX8_pauses_36 ⟨_, rfl⟩ rfl ?_
      refine G_aload_n hΓ 0 dX8_pauses_39 rfl ?_
      refine F_get hΓ (t := 18) (i := 0) (ci := 11) (C := RX8) (T := TX8) (N := 47) (fs8 (gl Γ) 0) (v := .ref (ya (gl Γ) 19 11)) (FMi hF (t := 18) (by decide)) (fun _ _ _ => rfl) rfl rfl rfl rfl inW8 16 (by decide) (TT_cons kw_896) rfl dX8_pauses_40 ?_
      refine G_iload_n hΓ 1 dX8_pauses_43 rfl ?_
      refine G_aload_n hΓ 0 dX8_pauses_44 rfl ?_
      refine G_iload_n hΓ 1 dX8_pauses_45 rfl ?_
      obtain ⟨⟨u11, u12, u13⟩, hc14, hf⟩ := bd_some hf
      try dsimp only at hf
      refine G_callV hΓ (n := 1) (As := [.int p1]) (t := 18) (i := 0) (ci := 11) (T := TX8) (N := 47) (FS := fs8 (gl Γ) 0) (σ' := (qM σ u11 u12)) (c_X8_first (gL Γ) (gl Γ) hF σ  v u9 p1  hc14) rfl rfl kw_1116 kw_1118 kp_40 kw_9 kw_1119 ⟨rfl, by decide, by decide, by decide +kernel⟩ (FMi hF (t := 18) (by decide)) (fun _ _ _ => rfl) rfl rfl rfl ⟨Nat.le_of_ble_eq_true rfl, Nat.le_of_ble_eq_true rfl⟩ rfl (Nat.le_of_ble_eq_true rfl) dX8_pauses_46 ⟨_, rfl⟩ rfl ?_
      obtain ⟨hg15, hf⟩ := gd_some hf
      refine F_iast hΓ (t := 19) (i := 11) (f := (u12 11)) (σ' := (qM σ u11 (va_up u12 11 (upd (u12 11) p1.toNatClampNeg u13)))) (FMi hF (t := 19) (by decide)) (fun _ _ _ => rfl) rfl qM_m hg15 dX8_pauses_49 ?_
      refine G_aload_n hΓ 0 dX8_pauses_50 rfl ?_
      refine F_get hΓ (t := 18) (i := 0) (ci := 11) (C := RX8) (T := TX8) (N := 47) (fs8 (gl Γ) 0) (v := .ref (ya (gl Γ) 19 9)) (FMi hF (t := 18) (by decide)) (fun _ _ _ => rfl) rfl rfl rfl rfl inW8 14 (by decide) (TT_cons kw_894) rfl dX8_pauses_51 ?_
      refine G_iload_n hΓ 1 dX8_pauses_54 rfl ?_
      refine G_aload_n hΓ 0 dX8_pauses_55 rfl ?_
      refine F_get hΓ (t := 18) (i := 0) (ci := 11) (C := RX8) (T := TX8) (N := 47) (fs8 (gl Γ) 0) (v := .ref (ya (gl Γ) 19 11)) (FMi hF (t := 18) (by decide)) (fun _ _ _ => rfl) rfl rfl rfl rfl inW8 16 (by decide) (TT_cons kw_896) rfl dX8_pauses_56 ?_
      refine G_iload_n hΓ 1 dX8_pauses_59 rfl ?_
      obtain ⟨hg16, hf⟩ := gd_some hf
      refine F_ald (G_iald hΓ) (t := 19) (i := 11) (f := (upd (u12 11) p1.toNatClampNeg u13)) (FMi hF (t := 19) (by decide)) (fun _ _ _ => rfl) rfl hg16 dX8_pauses_60 ?_
      refine G_iconst (v := (-1)) hΓ dX8_pauses_61 (by decide) ?_
      obtain ⟨x17, he20, hf⟩ := lt_eq hf
      have K18 : GG Γ (0, 0) (qM σ u11 (va_up u12 11 (upd (u12 11) p1.toNatClampNeg u13))) 70 [(0, .ref (ya (gl Γ) 18 0)), (1, .int p1), (2, .int p2)] [.int x17, .int p1, .ref (ya (gl Γ) 19 9)] := by
        obtain ⟨hg21, hf⟩ := gd_some hf
        refine F_iast hΓ (t := 19) (i := 9) (f := (u12 9)) (σ' := (qM σ u11 (va_up (va_up u12 11 (upd (u12 11) p1.toNatClampNeg u13)) 9 (upd (u12 9) p1.toNatClampNeg x17)))) (FMi hF (t := 19) (by decide)) (fun _ _ _ => rfl) rfl qM_m hg21 dX8_pauses_70 ?_
        refine G_goto hΓ (tgt := 90) dX8_pauses_71 (by decide) ?_
        exact K4 _ _ hf
      have he := he20
      refine G_icmp_ne hΓ (tgt := 69) dX8_pauses_62 (by decide) (fun hc19 => ?_) (fun hc19 => ?_)
      · rw [if_neg hc19] at he
        refine G_iconst (v := 1) hΓ dX8_pauses_69 (by decide) ?_
        subst he
        exact K18
      · rw [if_pos hc19] at he
        refine G_iconst (v := 2) hΓ dX8_pauses_65 (by decide) ?_
        refine G_goto hΓ (tgt := 70) dX8_pauses_66 (by decide) ?_
        subst he
        exact K18
  · rw [if_pos hc46] at hf
    refine G_aload_n hΓ 0 dX8_pauses_4 rfl ?_
    refine F_get hΓ (t := 18) (i := 0) (ci := 11) (C := RX8) (T := TX8) (N := 47) (fs8 (gl Γ) 0) (v := .ref (ya (gl Γ) 19 10)) (FMi hF (t := 18) (by decide)) (fun _ _ _ => rfl) rfl rfl rfl rfl inW8 15 (by decide) (TT_cons kw_895) rfl dX8_pauses_5 ?_
    refine G_iload_n hΓ 1 dX8_pauses_8 rfl ?_
    obtain ⟨hg23, hf⟩ := gd_some hf
    refine F_ald (G_iald hΓ) (t := 19) (i := 10) (f := (m 10)) (FMi hF (t := 19) (by decide)) (fun _ _ _ => rfl) rfl hg23 dX8_pauses_9 ?_
    refine G_if_le hΓ (tgt := 22) dX8_pauses_10 (by decide) (fun hc45 => ?_) (fun hc45 => ?_)
    · rw [if_pos hc45] at hf
      refine G_iload_n hΓ 2 dX8_pauses_22 rfl ?_
      refine G_if_ne hΓ (tgt := 74) dX8_pauses_23 (by decide) (fun hc41 => ?_) (fun hc41 => ?_)
      · rw [if_neg hc41] at hf
        refine G_aload_n hΓ 0 dX8_pauses_74 rfl ?_
        refine F_get hΓ (t := 18) (i := 0) (ci := 11) (C := RX8) (T := TX8) (N := 47) (fs8 (gl Γ) 0) (v := .ref (ya (gl Γ) 19 10)) (FMi hF (t := 18) (by decide)) (fun _ _ _ => rfl) rfl rfl rfl rfl inW8 15 (by decide) (TT_cons kw_895) rfl dX8_pauses_75 ?_
        refine G_iload_n hΓ 1 dX8_pauses_78 rfl ?_
        obtain ⟨hg24, hf⟩ := gd_some hf
        refine F_ald (G_iald hΓ) (t := 19) (i := 10) (f := (m 10)) (FMi hF (t := 19) (by decide)) (fun _ _ _ => rfl) rfl hg24 dX8_pauses_79 ?_
        refine G_if_ne hΓ (tgt := 90) dX8_pauses_80 (by decide) (fun hc26 => ?_) (fun hc26 => ?_)
        · rw [if_neg hc26] at hf
          exact K4 _ _ hf
        · rw [if_pos hc26] at hf
          refine G_aload_n hΓ 0 dX8_pauses_83 rfl ?_
          refine F_get hΓ (t := 18) (i := 0) (ci := 11) (C := RX8) (T := TX8) (N := 47) (fs8 (gl Γ) 0) (v := .ref (ya (gl Γ) 19 9)) (FMi hF (t := 18) (by decide)) (fun _ _ _ => rfl) rfl rfl rfl rfl inW8 14 (by decide) (TT_cons kw_894) rfl dX8_pauses_84 ?_
          refine G_iload_n hΓ 1 dX8_pauses_87 rfl ?_
          refine G_iconst (v := 0) hΓ dX8_pauses_88 (by decide) ?_
          obtain ⟨hg25, hf⟩ := gd_some hf
          refine F_iast hΓ (t := 19) (i := 9) (f := (m 9)) (σ' := (qM σ v (va_up m 9 (upd (m 9) p1.toNatClampNeg 0)))) (FMi hF (t := 19) (by decide)) (fun _ _ _ => rfl) rfl qM_m hg25 dX8_pauses_89 ?_
          exact K4 _ _ hf
      · rw [if_pos hc41] at hf
        refine G_aload_n hΓ 0 dX8_pauses_26 rfl ?_
        refine F_get hΓ (t := 18) (i := 0) (ci := 11) (C := RX8) (T := TX8) (N := 47) (fs8 (gl Γ) 0) (v := .ref (ya (gl Γ) 19 14)) (FMi hF (t := 18) (by decide)) (fun _ _ _ => rfl) rfl rfl rfl rfl inW8 19 (by decide) (TT_cons kw_899) rfl dX8_pauses_27 ?_
        refine G_iload_n hΓ 1 dX8_pauses_30 rfl ?_
        refine G_iconst (v := 0) hΓ dX8_pauses_31 (by decide) ?_
        obtain ⟨hg27, hf⟩ := gd_some hf
        refine F_iast hΓ (t := 19) (i := 14) (f := (m 14)) (σ' := (qM σ v (va_up m 14 (upd (m 14) p1.toNatClampNeg 0)))) (FMi hF (t := 19) (by decide)) (fun _ _ _ => rfl) rfl qM_m hg27 dX8_pauses_32 ?_
        refine G_aload_n hΓ 0 dX8_pauses_33 rfl ?_
        refine G_iload_n hΓ 1 dX8_pauses_34 rfl ?_
        refine G_iconst (v := 0) hΓ dX8_pauses_35 (by decide) ?_
        obtain ⟨u28, hc29, hf⟩ := bd_some hf
        refine G_callV hΓ (n := 2) (As := [.int p1, .int 0]) (t := 18) (i := 0) (ci := 11) (T := TX8) (N := 47) (FS := fs8 (gl Γ) 0) (σ' := (qM σ v u28)) (c_X8_see (gL Γ) (gl Γ) hF σ  v (va_up m 14 (upd (m 14) p1.toNatClampNeg 0)) p1 0  hc29) rfl rfl kw_1161 kw_1163 kp_51 kw_9 kw_1164 ⟨rfl, by decide, by decide, by decide +kernel⟩ (FMi hF (t := 18) (by decide)) (fun _ _ _ => rfl) rfl rfl rfl ⟨Nat.le_of_ble_eq_true rfl, Nat.le_of_ble_eq_true rfl⟩ rfl (Nat.le_of_ble_eq_true rfl) dX8_pauses_36 ⟨_, rfl⟩ rfl ?_
        refine G_aload_n hΓ 0 dX8_pauses_39 rfl ?_
        refine F_get hΓ (t := 18) (i := 0) (ci := 11) (C := RX8) (T := TX8) (N := 47) (fs8 (gl Γ) 0) (v := .ref (ya (gl Γ) 19 11)) (FMi hF (t := 18) (by decide)) (fun _ _ _ => rfl) rfl rfl rfl rfl inW8 16 (by decide) (TT_cons kw_896) rfl dX8_pauses_40 ?_
        refine G_iload_n hΓ 1 dX8_pauses_43 rfl ?_
        refine G_aload_n hΓ 0 dX8_pauses_44 rfl ?_
        refine G_iload_n hΓ 1 dX8_pauses_45 rfl ?_
        obtain ⟨⟨u30, u31, u32⟩, hc33, hf⟩ := bd_some hf
        try dsimp only at hf
        refine G_callV hΓ (n := 1) (As := [.int p1]) (t := 18) (i := 0) (ci := 11) (T := TX8) (N := 47) (FS := fs8 (gl Γ) 0) (σ' := (qM σ u30 u31)) (c_X8_first (gL Γ) (gl Γ) hF σ  v u28 p1  hc33) rfl rfl kw_1116 kw_1118 kp_40 kw_9 kw_1119 ⟨rfl, by decide, by decide, by decide +kernel⟩ (FMi hF (t := 18) (by decide)) (fun _ _ _ => rfl) rfl rfl rfl ⟨Nat.le_of_ble_eq_true rfl, Nat.le_of_ble_eq_true rfl⟩ rfl (Nat.le_of_ble_eq_true rfl) dX8_pauses_46 ⟨_, rfl⟩ rfl ?_
        obtain ⟨hg34, hf⟩ := gd_some hf
        refine F_iast hΓ (t := 19) (i := 11) (f := (u31 11)) (σ' := (qM σ u30 (va_up u31 11 (upd (u31 11) p1.toNatClampNeg u32)))) (FMi hF (t := 19) (by decide)) (fun _ _ _ => rfl) rfl qM_m hg34 dX8_pauses_49 ?_
        refine G_aload_n hΓ 0 dX8_pauses_50 rfl ?_
        refine F_get hΓ (t := 18) (i := 0) (ci := 11) (C := RX8) (T := TX8) (N := 47) (fs8 (gl Γ) 0) (v := .ref (ya (gl Γ) 19 9)) (FMi hF (t := 18) (by decide)) (fun _ _ _ => rfl) rfl rfl rfl rfl inW8 14 (by decide) (TT_cons kw_894) rfl dX8_pauses_51 ?_
        refine G_iload_n hΓ 1 dX8_pauses_54 rfl ?_
        refine G_aload_n hΓ 0 dX8_pauses_55 rfl ?_
        refine F_get hΓ (t := 18) (i := 0) (ci := 11) (C := RX8) (T := TX8) (N := 47) (fs8 (gl Γ) 0) (v := .ref (ya (gl Γ) 19 11)) (FMi hF (t := 18) (by decide)) (fun _ _ _ => rfl) rfl rfl rfl rfl inW8 16 (by decide) (TT_cons kw_896) rfl dX8_pauses_56 ?_
        refine G_iload_n hΓ 1 dX8_pauses_59 rfl ?_
        obtain ⟨hg35, hf⟩ := gd_some hf
        refine F_ald (G_iald hΓ) (t := 19) (i := 11) (f := (upd (u31 11) p1.toNatClampNeg u32)) (FMi hF (t := 19) (by decide)) (fun _ _ _ => rfl) rfl hg35 dX8_pauses_60 ?_
        refine G_iconst (v := (-1)) hΓ dX8_pauses_61 (by decide) ?_
        obtain ⟨x36, he39, hf⟩ := lt_eq hf
        have K37 : GG Γ (0, 0) (qM σ u30 (va_up u31 11 (upd (u31 11) p1.toNatClampNeg u32))) 70 [(0, .ref (ya (gl Γ) 18 0)), (1, .int p1), (2, .int p2)] [.int x36, .int p1, .ref (ya (gl Γ) 19 9)] := by
          obtain ⟨hg40, hf⟩ := gd_some hf
          refine F_iast hΓ (t := 19) (i := 9) (f := (u31 9)) (σ' := (qM σ u30 (va_up (va_up u31 11 (upd (u31 11) p1.toNatClampNeg u32)) 9 (upd (u31 9) p1.toNatClampNeg x36)))) (FMi hF (t := 19) (by decide)) (fun _ _ _ => rfl) rfl qM_m hg40 dX8_pauses_70 ?_
          refine G_goto hΓ (tgt := 90) dX8_pauses_71 (by decide) ?_
          exact K4 _ _ hf
        have he := he39
        refine G_icmp_ne hΓ (tgt := 69) dX8_pauses_62 (by decide) (fun hc38 => ?_) (fun hc38 => ?_)
        · rw [if_neg hc38] at he
          refine G_iconst (v := 1) hΓ dX8_pauses_69 (by decide) ?_
          subst he
          exact K37
        · rw [if_pos hc38] at he
          refine G_iconst (v := 2) hΓ dX8_pauses_65 (by decide) ?_
          refine G_goto hΓ (tgt := 70) dX8_pauses_66 (by decide) ?_
          subst he
          exact K37
    · rw [if_neg hc45] at hf
      refine G_aload_n hΓ 0 dX8_pauses_13 rfl ?_
      refine G_iload_n hΓ 1 dX8_pauses_14 rfl ?_
      refine G_iconst (v := 5) hΓ dX8_pauses_15 (by decide) ?_
      obtain ⟨⟨u42, u43⟩, hc44, hf⟩ := bd_some hf
      try dsimp only at hf
      refine G_callV hΓ (n := 2) (As := [.int p1, .int 5]) (t := 18) (i := 0) (ci := 11) (T := TX8) (N := 47) (FS := fs8 (gl Γ) 0) (σ' := (qM σ u42 u43)) (c_X8_wrong (gL Γ) (gl Γ) hF σ  v m p1 5  hc44) rfl rfl kw_1165 kw_1167 kp_52 kw_9 kw_1168 ⟨rfl, by decide, by decide, by decide +kernel⟩ (FMi hF (t := 18) (by decide)) (fun _ _ _ => rfl) rfl rfl rfl ⟨Nat.le_of_ble_eq_true rfl, Nat.le_of_ble_eq_true rfl⟩ rfl (Nat.le_of_ble_eq_true rfl) dX8_pauses_16 ⟨_, rfl⟩ rfl ?_
      refine G_goto hΓ (tgt := 90) dX8_pauses_19 (by decide) ?_
      exact K4 _ _ hf
theorem dX8_sent_0 : decode cX8_sent 0 = .ok (.aload_n 0, 1) := by decide +kernel
theorem dX8_sent_1 : decode cX8_sent 1 = .ok (.getfield 49, 3) := by decide +kernel
theorem dX8_sent_4 : decode cX8_sent 4 = .ok (.iload_n 1, 1) := by decide +kernel
theorem dX8_sent_5 : decode cX8_sent 5 = .ok (.iaload, 1) := by decide +kernel
theorem dX8_sent_6 : decode cX8_sent 6 = .ok (.istore_n 3, 1) := by decide +kernel
theorem dX8_sent_7 : decode cX8_sent 7 = .ok (.aload_n 0, 1) := by decide +kernel
theorem dX8_sent_8 : decode cX8_sent 8 = .ok (.iload_n 3, 1) := by decide +kernel
theorem dX8_sent_9 : decode cX8_sent 9 = .ok (.invokevirtual 190, 3) := by decide +kernel
theorem dX8_sent_12 : decode cX8_sent 12 = .ok (.aload_n 0, 1) := by decide +kernel
theorem dX8_sent_13 : decode cX8_sent 13 = .ok (.getfield 58, 3) := by decide +kernel
theorem dX8_sent_16 : decode cX8_sent 16 = .ok (.iload_n 1, 1) := by decide +kernel
theorem dX8_sent_17 : decode cX8_sent 17 = .ok (.iaload, 1) := by decide +kernel
theorem dX8_sent_18 : decode cX8_sent 18 = .ok (.istore 4, 2) := by decide +kernel
theorem dX8_sent_20 : decode cX8_sent 20 = .ok (.aload_n 0, 1) := by decide +kernel
theorem dX8_sent_21 : decode cX8_sent 21 = .ok (.iload_n 1, 1) := by decide +kernel
theorem dX8_sent_22 : decode cX8_sent 22 = .ok (.iload_n 2, 1) := by decide +kernel
theorem dX8_sent_23 : decode cX8_sent 23 = .ok (.invokevirtual 241, 3) := by decide +kernel
theorem dX8_sent_26 : decode cX8_sent 26 = .ok (.iload 4, 2) := by decide +kernel
theorem dX8_sent_28 : decode cX8_sent 28 = .ok (.aload_n 0, 1) := by decide +kernel
theorem dX8_sent_29 : decode cX8_sent 29 = .ok (.getfield 177, 3) := by decide +kernel
theorem dX8_sent_32 : decode cX8_sent 32 = .ok (.if_icmp .ge 32, 3) := by decide +kernel
theorem dX8_sent_35 : decode cX8_sent 35 = .ok (.aload_n 0, 1) := by decide +kernel
theorem dX8_sent_36 : decode cX8_sent 36 = .ok (.getfield 104, 3) := by decide +kernel
theorem dX8_sent_39 : decode cX8_sent 39 = .ok (.iload 4, 2) := by decide +kernel
theorem dX8_sent_41 : decode cX8_sent 41 = .ok (.baload, 1) := by decide +kernel
theorem dX8_sent_42 : decode cX8_sent 42 = .ok (.ifCond .ne 22, 3) := by decide +kernel
theorem dX8_sent_45 : decode cX8_sent 45 = .ok (.aload_n 0, 1) := by decide +kernel
theorem dX8_sent_46 : decode cX8_sent 46 = .ok (.getfield 101, 3) := by decide +kernel
theorem dX8_sent_49 : decode cX8_sent 49 = .ok (.iload 4, 2) := by decide +kernel
theorem dX8_sent_51 : decode cX8_sent 51 = .ok (.baload, 1) := by decide +kernel
theorem dX8_sent_52 : decode cX8_sent 52 = .ok (.iconst 1, 1) := by decide +kernel
theorem dX8_sent_53 : decode cX8_sent 53 = .ok (.if_icmp .ne 11, 3) := by decide +kernel
theorem dX8_sent_56 : decode cX8_sent 56 = .ok (.iload_n 2, 1) := by decide +kernel
theorem dX8_sent_57 : decode cX8_sent 57 = .ok (.ifCond .ne 7, 3) := by decide +kernel
theorem dX8_sent_60 : decode cX8_sent 60 = .ok (.iconst 1, 1) := by decide +kernel
theorem dX8_sent_61 : decode cX8_sent 61 = .ok (.goto 4, 3) := by decide +kernel
theorem dX8_sent_64 : decode cX8_sent 64 = .ok (.iconst 0, 1) := by decide +kernel
theorem dX8_sent_65 : decode cX8_sent 65 = .ok (.istore 5, 2) := by decide +kernel
theorem dX8_sent_67 : decode cX8_sent 67 = .ok (.iload 4, 2) := by decide +kernel
theorem dX8_sent_69 : decode cX8_sent 69 = .ok (.aload_n 0, 1) := by decide +kernel
theorem dX8_sent_70 : decode cX8_sent 70 = .ok (.getfield 156, 3) := by decide +kernel
theorem dX8_sent_73 : decode cX8_sent 73 = .ok (.bipush 9, 2) := by decide +kernel
theorem dX8_sent_75 : decode cX8_sent 75 = .ok (.isub, 1) := by decide +kernel
theorem dX8_sent_76 : decode cX8_sent 76 = .ok (.if_icmp .ne 7, 3) := by decide +kernel
theorem dX8_sent_79 : decode cX8_sent 79 = .ok (.iconst 1, 1) := by decide +kernel
theorem dX8_sent_80 : decode cX8_sent 80 = .ok (.goto 4, 3) := by decide +kernel
theorem dX8_sent_83 : decode cX8_sent 83 = .ok (.iconst 0, 1) := by decide +kernel
theorem dX8_sent_84 : decode cX8_sent 84 = .ok (.istore 6, 2) := by decide +kernel
theorem dX8_sent_86 : decode cX8_sent 86 = .ok (.iload 5, 2) := by decide +kernel
theorem dX8_sent_88 : decode cX8_sent 88 = .ok (.ifCond .eq 13, 3) := by decide +kernel
theorem dX8_sent_91 : decode cX8_sent 91 = .ok (.aload_n 0, 1) := by decide +kernel
theorem dX8_sent_92 : decode cX8_sent 92 = .ok (.getfield 43, 3) := by decide +kernel
theorem dX8_sent_95 : decode cX8_sent 95 = .ok (.iload_n 1, 1) := by decide +kernel
theorem dX8_sent_96 : decode cX8_sent 96 = .ok (.iconst 2, 1) := by decide +kernel
theorem dX8_sent_97 : decode cX8_sent 97 = .ok (.iastore, 1) := by decide +kernel
theorem dX8_sent_98 : decode cX8_sent 98 = .ok (.goto 104, 3) := by decide +kernel
theorem dX8_sent_101 : decode cX8_sent 101 = .ok (.iload 6, 2) := by decide +kernel
theorem dX8_sent_103 : decode cX8_sent 103 = .ok (.ifCond .eq 11, 3) := by decide +kernel
theorem dX8_sent_106 : decode cX8_sent 106 = .ok (.iload_n 2, 1) := by decide +kernel
theorem dX8_sent_107 : decode cX8_sent 107 = .ok (.iconst 1, 1) := by decide +kernel
theorem dX8_sent_108 : decode cX8_sent 108 = .ok (.if_icmp .ne 35, 3) := by decide +kernel
theorem dX8_sent_111 : decode cX8_sent 111 = .ok (.goto 14, 3) := by decide +kernel
theorem dX8_sent_114 : decode cX8_sent 114 = .ok (.iload_n 2, 1) := by decide +kernel
theorem dX8_sent_115 : decode cX8_sent 115 = .ok (.aload_n 0, 1) := by decide +kernel
theorem dX8_sent_116 : decode cX8_sent 116 = .ok (.getfield 101, 3) := by decide +kernel
theorem dX8_sent_119 : decode cX8_sent 119 = .ok (.iload 4, 2) := by decide +kernel
theorem dX8_sent_121 : decode cX8_sent 121 = .ok (.baload, 1) := by decide +kernel
theorem dX8_sent_122 : decode cX8_sent 122 = .ok (.if_icmp .eq 21, 3) := by decide +kernel
theorem dX8_sent_125 : decode cX8_sent 125 = .ok (.aload_n 0, 1) := by decide +kernel
theorem dX8_sent_126 : decode cX8_sent 126 = .ok (.iload_n 1, 1) := by decide +kernel
theorem dX8_sent_127 : decode cX8_sent 127 = .ok (.iload 6, 2) := by decide +kernel
theorem dX8_sent_129 : decode cX8_sent 129 = .ok (.ifCond .eq 7, 3) := by decide +kernel
theorem dX8_sent_132 : decode cX8_sent 132 = .ok (.iconst 4, 1) := by decide +kernel
theorem dX8_sent_133 : decode cX8_sent 133 = .ok (.goto 4, 3) := by decide +kernel
theorem dX8_sent_136 : decode cX8_sent 136 = .ok (.iconst 0, 1) := by decide +kernel
theorem dX8_sent_137 : decode cX8_sent 137 = .ok (.invokevirtual 254, 3) := by decide +kernel
theorem dX8_sent_140 : decode cX8_sent 140 = .ok (.goto 62, 3) := by decide +kernel
theorem dX8_sent_143 : decode cX8_sent 143 = .ok (.iload 4, 2) := by decide +kernel
theorem dX8_sent_145 : decode cX8_sent 145 = .ok (.aload_n 0, 1) := by decide +kernel
theorem dX8_sent_146 : decode cX8_sent 146 = .ok (.getfield 156, 3) := by decide +kernel
theorem dX8_sent_149 : decode cX8_sent 149 = .ok (.iconst 1, 1) := by decide +kernel
theorem dX8_sent_150 : decode cX8_sent 150 = .ok (.isub, 1) := by decide +kernel
theorem dX8_sent_151 : decode cX8_sent 151 = .ok (.if_icmp .ne 51, 3) := by decide +kernel
theorem dX8_sent_154 : decode cX8_sent 154 = .ok (.aload_n 0, 1) := by decide +kernel
theorem dX8_sent_155 : decode cX8_sent 155 = .ok (.getfield 33, 3) := by decide +kernel
theorem dX8_sent_158 : decode cX8_sent 158 = .ok (.iload_n 3, 1) := by decide +kernel
theorem dX8_sent_159 : decode cX8_sent 159 = .ok (.iconst 1, 1) := by decide +kernel
theorem dX8_sent_160 : decode cX8_sent 160 = .ok (.bastore, 1) := by decide +kernel
theorem dX8_sent_161 : decode cX8_sent 161 = .ok (.aload_n 0, 1) := by decide +kernel
theorem dX8_sent_162 : decode cX8_sent 162 = .ok (.getfield 37, 3) := by decide +kernel
theorem dX8_sent_165 : decode cX8_sent 165 = .ok (.aload_n 0, 1) := by decide +kernel
theorem dX8_sent_166 : decode cX8_sent 166 = .ok (.getfield 122, 3) := by decide +kernel
theorem dX8_sent_169 : decode cX8_sent 169 = .ok (.iload_n 3, 1) := by decide +kernel
theorem dX8_sent_170 : decode cX8_sent 170 = .ok (.iastore, 1) := by decide +kernel
theorem dX8_sent_171 : decode cX8_sent 171 = .ok (.aload_n 0, 1) := by decide +kernel
theorem dX8_sent_172 : decode cX8_sent 172 = .ok (.getfield 40, 3) := by decide +kernel
theorem dX8_sent_175 : decode cX8_sent 175 = .ok (.aload_n 0, 1) := by decide +kernel
theorem dX8_sent_176 : decode cX8_sent 176 = .ok (.getfield 122, 3) := by decide +kernel
theorem dX8_sent_179 : decode cX8_sent 179 = .ok (.aload_n 0, 1) := by decide +kernel
theorem dX8_sent_180 : decode cX8_sent 180 = .ok (.getfield 116, 3) := by decide +kernel
theorem dX8_sent_183 : decode cX8_sent 183 = .ok (.iastore, 1) := by decide +kernel
theorem dX8_sent_184 : decode cX8_sent 184 = .ok (.aload_n 0, 1) := by decide +kernel
theorem dX8_sent_185 : decode cX8_sent 185 = .ok (.dup, 1) := by decide +kernel
theorem dX8_sent_186 : decode cX8_sent 186 = .ok (.getfield 122, 3) := by decide +kernel
theorem dX8_sent_189 : decode cX8_sent 189 = .ok (.iconst 1, 1) := by decide +kernel
theorem dX8_sent_190 : decode cX8_sent 190 = .ok (.iadd, 1) := by decide +kernel
theorem dX8_sent_191 : decode cX8_sent 191 = .ok (.putfield 122, 3) := by decide +kernel
theorem dX8_sent_194 : decode cX8_sent 194 = .ok (.aload_n 0, 1) := by decide +kernel
theorem dX8_sent_195 : decode cX8_sent 195 = .ok (.iload_n 1, 1) := by decide +kernel
theorem dX8_sent_196 : decode cX8_sent 196 = .ok (.bipush 6, 2) := by decide +kernel
theorem dX8_sent_198 : decode cX8_sent 198 = .ok (.iconst 3, 1) := by decide +kernel
theorem dX8_sent_199 : decode cX8_sent 199 = .ok (.invokevirtual 250, 3) := by decide +kernel
theorem dX8_sent_202 : decode cX8_sent 202 = .ok (.return_, 1) := by decide +kernel
noncomputable def f_X8_sent  (v : Nat → Int32) (m : Nat → Nat → Int32) (p1 : Int32) (p2 : Int32) : Option ((Nat → Int32) × (Nat → Nat → Int32)) := gd (vp_in p1 32) (bd (f_X8_write v m ((m 11) p1.toNatClampNeg)) (fun ⟨u2, u3⟩ => gd (vp_in p1 32) (bd (f_X8_see u3 p1 p2) (fun u6 => jn (α := Int32) (fun x8 => lt (α := Int32) (if ((u3 14) p1.toNatClampNeg) = ((u2 37) - 9) then 1 else 0) (fun x12 => jn (α := (Nat → Int32) × (Nat → Nat → Int32)) (fun ⟨x16, x17⟩ => some (x16, x17)) (fun k18 => if x8 = 0 then if x12 = 0 then gd (vp_in ((u3 14) p1.toNatClampNeg) 1200) (if p2 = ((u6 27) (((u3 14) p1.toNatClampNeg).toNatClampNeg)) then if ((u3 14) p1.toNatClampNeg) = ((u2 37) - 1) then gd (vp_in ((m 11) p1.toNatClampNeg) 200) (gd (vp_in (u2 11) 200) (gd (vp_in (u2 11) 200) (bd (f_X8_go (va_up (va_up (va_up u6 6 (upd (u6 6) (((m 11) p1.toNatClampNeg).toNatClampNeg) (vp_nar .boolean 1))) 7 (upd (u6 7) ((u2 11).toNatClampNeg) ((m 11) p1.toNatClampNeg))) 8 (upd (u6 8) ((u2 11).toNatClampNeg) (u2 2))) p1 6 3) (fun u24 => k18 ((upd u2 11 ((u2 11) + 1)), u24))))) else k18 (u2, u6) else lt (α := Int32) (if x12 = 0 then 0 else 4) (fun x27 => bd (f_X8_wrong u2 u6 p1 x27) (fun ⟨u31, u32⟩ => k18 (u31, u32)))) else if p2 = 1 then lt (α := Int32) (if x12 = 0 then 0 else 4) (fun x41 => bd (f_X8_wrong u2 u6 p1 x41) (fun ⟨u45, u46⟩ => k18 (u45, u46))) else if ((u3 14) p1.toNatClampNeg) = ((u2 37) - 1) then gd (vp_in ((m 11) p1.toNatClampNeg) 200) (gd (vp_in (u2 11) 200) (gd (vp_in (u2 11) 200) (bd (f_X8_go (va_up (va_up (va_up u6 6 (upd (u6 6) (((m 11) p1.toNatClampNeg).toNatClampNeg) (vp_nar .boolean 1))) 7 (upd (u6 7) ((u2 11).toNatClampNeg) ((m 11) p1.toNatClampNeg))) 8 (upd (u6 8) ((u2 11).toNatClampNeg) (u2 2))) p1 6 3) (fun u38 => k18 ((upd u2 11 ((u2 11) + 1)), u38))))) else k18 (u2, u6) else gd (vp_in p1 32) (k18 (u2, (va_up u6 9 (upd (u6 9) p1.toNatClampNeg 2))))))) (fun k10 => if (u2 38) ≤ ((u3 14) p1.toNatClampNeg) then k10 0 else gd (vp_in ((u3 14) p1.toNatClampNeg) 1200) (if ((u6 28) (((u3 14) p1.toNatClampNeg).toNatClampNeg)) = 0 then gd (vp_in ((u3 14) p1.toNatClampNeg) 1200) (if ((u6 27) (((u3 14) p1.toNatClampNeg).toNatClampNeg)) = 1 then if p2 = 0 then k10 1 else k10 0 else k10 0) else k10 0))))))
set_option maxHeartbeats 4000000 in
set_option maxRecDepth 100000 in
theorem c_X8_sent (l : Launch) (Λ : LY) (hF : FM Λ) (σ : CS)  (v : Nat → Int32) (m : Nat → Nat → Int32) (p1 : Int32) (p2 : Int32)   {v' : Nat → Int32} {m' : Nat → Nat → Int32} (hf : f_X8_sent v m p1 p2 = some (v', m')) : CM l yX8_sent (.code yX8_sent cX8_sent 7 none :: TT) ({ frames := 3, cells := 0, slots := 0, locals := 78 }) Λ [.ref (ya Λ 18 0), .int p1, .int p2] (qM σ v m) (qM σ v' m') (none) := by
  refine CM_intro (own := RX8) (by decide) rfl (Nat.le_of_ble_eq_true rfl) ?_
  intro Γ hg hl hΓ hE
  subst hg; subst hl
  show GG Γ (0, 0) (qM σ v m) 0 [(0, .ref (ya (gl Γ) 18 0)), (1, .int p1), (2, .int p2)] []
  unfold f_X8_sent at hf
  refine G_aload_n hΓ 0 dX8_sent_0 rfl ?_
  refine F_get hΓ (t := 18) (i := 0) (ci := 11) (C := RX8) (T := TX8) (N := 47) (fs8 (gl Γ) 0) (v := .ref (ya (gl Γ) 19 11)) (FMi hF (t := 18) (by decide)) (fun _ _ _ => rfl) rfl rfl rfl rfl inW8 16 (by decide) (TT_cons kw_896) rfl dX8_sent_1 ?_
  refine G_iload_n hΓ 1 dX8_sent_4 rfl ?_
  obtain ⟨hg1, hf⟩ := gd_some hf
  refine F_ald (G_iald hΓ) (t := 19) (i := 11) (f := (m 11)) (FMi hF (t := 19) (by decide)) (fun _ _ _ => rfl) rfl hg1 dX8_sent_5 ?_
  refine G_istore_n hΓ [(3, .int ((m 11) p1.toNatClampNeg)), (0, .ref (ya (gl Γ) 18 0)), (1, .int p1), (2, .int p2)] dX8_sent_6 (by decide) rfl ?_
  refine G_aload_n hΓ 1 dX8_sent_7 rfl ?_
  refine G_iload_n hΓ 0 dX8_sent_8 rfl ?_
  obtain ⟨⟨u2, u3⟩, hc4, hf⟩ := bd_some hf
  try dsimp only at hf
  refine G_callV hΓ (n := 1) (As := [.int ((m 11) p1.toNatClampNeg)]) (t := 18) (i := 0) (ci := 11) (T := TX8) (N := 47) (FS := fs8 (gl Γ) 0) (σ' := (qM σ u2 u3)) (c_X8_write (gL Γ) (gl Γ) hF σ  v m ((m 11) p1.toNatClampNeg)  hc4) rfl rfl kw_1055 kw_1057 kp_31 kw_9 kw_1058 ⟨rfl, by decide, by decide, by decide +kernel⟩ (FMi hF (t := 18) (by decide)) (fun _ _ _ => rfl) rfl rfl rfl ⟨Nat.le_of_ble_eq_true rfl, Nat.le_of_ble_eq_true rfl⟩ rfl (Nat.le_of_ble_eq_true rfl) dX8_sent_9 ⟨_, rfl⟩ rfl ?_
  refine G_aload_n hΓ 1 dX8_sent_12 rfl ?_
  refine F_get hΓ (t := 18) (i := 0) (ci := 11) (C := RX8) (T := TX8) (N := 47) (fs8 (gl Γ) 0) (v := .ref (ya (gl Γ) 19 14)) (FMi hF (t := 18) (by decide)) (fun _ _ _ => rfl) rfl rfl rfl rfl inW8 19 (by decide) (TT_cons kw_899) rfl dX8_sent_13 ?_
  refine G_iload_n hΓ 2 dX8_sent_16 rfl ?_
  obtain ⟨hg5, hf⟩ := gd_some hf
  refine F_ald (G_iald hΓ) (t := 19) (i := 14) (f := (u3 14)) (FMi hF (t := 19) (by decide)) (fun _ _ _ => rfl) rfl hg5 dX8_sent_17 ?_
  refine G_istore hΓ [(4, .int ((u3 14) p1.toNatClampNeg)), (3, .int ((m 11) p1.toNatClampNeg)), (0, .ref (ya (gl Γ) 18 0)), (1, .int p1), (2, .int p2)] dX8_sent_18 (by decide) rfl ?_
  refine G_aload_n hΓ 2 dX8_sent_20 rfl ?_
  refine G_iload_n hΓ 3 dX8_sent_21 rfl ?_
  refine G_iload_n hΓ 4 dX8_sent_22 rfl ?_
  obtain ⟨u6, hc7, hf⟩ := bd_some hf
  refine G_callV hΓ (n := 2) (As := [.int p1, .int p2]) (t := 18) (i := 0) (ci := 11) (T := TX8) (N := 47) (FS := fs8 (gl Γ) 0) (σ' := (qM σ u2 u6)) (c_X8_see (gL Γ) (gl Γ) hF σ  u2 u3 p1 p2  hc7) rfl rfl kw_1161 kw_1163 kp_51 kw_9 kw_1164 ⟨rfl, by decide, by decide, by decide +kernel⟩ (FMi hF (t := 18) (by decide)) (fun _ _ _ => rfl) rfl rfl rfl ⟨Nat.le_of_ble_eq_true rfl, Nat.le_of_ble_eq_true rfl⟩ rfl (Nat.le_of_ble_eq_true rfl) dX8_sent_23 ⟨_, rfl⟩ rfl ?_
  refine G_iload hΓ 0 dX8_sent_26 rfl ?_
  refine G_aload_n hΓ 2 dX8_sent_28 rfl ?_
  refine F_get hΓ (t := 18) (i := 0) (ci := 11) (C := RX8) (T := TX8) (N := 47) (fs8 (gl Γ) 0) (v := .int (u2 38)) (FMi hF (t := 18) (by decide)) (fun _ _ _ => rfl) rfl rfl rfl rfl inW8 38 (by decide) (TT_cons kw_918) rfl dX8_sent_29 ?_
  obtain ⟨k10, hk_k10, hf⟩ := jn_eq hf
  try dsimp only at hf
  have K11 : ∀ x8, (x8 = 0 ∨ x8 = 1) → k10 x8 = some (v', m') → GG Γ (0, 0) (qM σ u2 u6) 65 [(4, .int ((u3 14) p1.toNatClampNeg)), (3, .int ((m 11) p1.toNatClampNeg)), (0, .ref (ya (gl Γ) 18 0)), (1, .int p1), (2, .int p2)] [.int x8] := by
    intro x8 hb_x8 hf
    subst hk_k10
    try dsimp only at hf
    refine G_istore hΓ [(5, .int x8), (4, .int ((u3 14) p1.toNatClampNeg)), (3, .int ((m 11) p1.toNatClampNeg)), (0, .ref (ya (gl Γ) 18 0)), (1, .int p1), (2, .int p2)] dX8_sent_65 (by decide) rfl ?_
    refine G_iload hΓ 1 dX8_sent_67 rfl ?_
    refine G_aload_n hΓ 3 dX8_sent_69 rfl ?_
    refine F_get hΓ (t := 18) (i := 0) (ci := 11) (C := RX8) (T := TX8) (N := 47) (fs8 (gl Γ) 0) (v := .int (u2 37)) (FMi hF (t := 18) (by decide)) (fun _ _ _ => rfl) rfl rfl rfl rfl inW8 37 (by decide) (TT_cons kw_917) rfl dX8_sent_70 ?_
    refine G_bipush (v := 9) hΓ dX8_sent_73 (by decide) ?_
    refine G_isub hΓ dX8_sent_75 ?_
    obtain ⟨x12, he15, hf⟩ := lt_eq hf
    have K13 : GG Γ (0, 0) (qM σ u2 u6) 84 [(5, .int x8), (4, .int ((u3 14) p1.toNatClampNeg)), (3, .int ((m 11) p1.toNatClampNeg)), (0, .ref (ya (gl Γ) 18 0)), (1, .int p1), (2, .int p2)] [.int x12] := by
      refine G_istore hΓ [(6, .int x12), (5, .int x8), (4, .int ((u3 14) p1.toNatClampNeg)), (3, .int ((m 11) p1.toNatClampNeg)), (0, .ref (ya (gl Γ) 18 0)), (1, .int p1), (2, .int p2)] dX8_sent_84 (by decide) rfl ?_
      refine G_iload hΓ 1 dX8_sent_86 rfl ?_
      obtain ⟨k18, hk_k18, hf⟩ := jn_eq hf
      try dsimp only at hf
      have K19 : ∀ x16 x17, k18 (x16, x17) = some (v', m') → GG Γ (0, 0) (qM σ x16 x17) 202 [(6, .int x12), (5, .int x8), (4, .int ((u3 14) p1.toNatClampNeg)), (3, .int ((m 11) p1.toNatClampNeg)), (0, .ref (ya (gl Γ) 18 0)), (1, .int p1), (2, .int p2)] [] := by
        intro x16 x17 hf
        subst hk_k18
        try dsimp only at hf
        cases hf
        exact G_vret hΓ hE dX8_sent_202
      clear hk_k18
      refine G_if_eq hΓ (tgt := 101) dX8_sent_88 (by decide) (fun hc51 => ?_) (fun hc51 => ?_)
      · rw [if_pos hc51] at hf
        refine G_iload hΓ 0 dX8_sent_101 rfl ?_
        refine G_if_eq hΓ (tgt := 114) dX8_sent_103 (by decide) (fun hc49 => ?_) (fun hc49 => ?_)
        · rw [if_pos hc49] at hf
          refine G_iload_n hΓ 6 dX8_sent_114 rfl ?_
          refine G_aload_n hΓ 4 dX8_sent_115 rfl ?_
          refine F_get hΓ (t := 18) (i := 0) (ci := 11) (C := RX8) (T := TX8) (N := 47) (fs8 (gl Γ) 0) (v := .ref (ya (gl Γ) 19 27)) (FMi hF (t := 18) (by decide)) (fun _ _ _ => rfl) rfl rfl rfl rfl inW8 35 (by decide) (TT_cons kw_915) rfl dX8_sent_116 ?_
          refine G_iload hΓ 2 dX8_sent_119 rfl ?_
          obtain ⟨hg20, hf⟩ := gd_some hf
          refine F_ald (G_bald hΓ) (t := 19) (i := 27) (f := (u6 27)) (FMi hF (t := 19) (by decide)) (fun _ _ _ => rfl) rfl hg20 dX8_sent_121 ?_
          refine G_icmp_eq hΓ (tgt := 143) dX8_sent_122 (by decide) (fun hc34 => ?_) (fun hc34 => ?_)
          · rw [if_pos hc34] at hf
            refine G_iload hΓ 2 dX8_sent_143 rfl ?_
            refine G_aload_n hΓ 4 dX8_sent_145 rfl ?_
            refine F_get hΓ (t := 18) (i := 0) (ci := 11) (C := RX8) (T := TX8) (N := 47) (fs8 (gl Γ) 0) (v := .int (u2 37)) (FMi hF (t := 18) (by decide)) (fun _ _ _ => rfl) rfl rfl rfl rfl inW8 37 (by decide) (TT_cons kw_917) rfl dX8_sent_146 ?_
            refine G_iconst (v := 1) hΓ dX8_sent_149 (by decide) ?_
            refine G_isub hΓ dX8_sent_150 ?_
            refine G_icmp_ne hΓ (tgt := 202) dX8_sent_151 (by decide) (fun hc26 => ?_) (fun hc26 => ?_)
            · rw [if_neg hc26] at hf
              exact K19 _ _ hf
            · rw [if_pos hc26] at hf
              refine G_aload_n hΓ 4 dX8_sent_154 rfl ?_
              refine F_get hΓ (t := 18) (i := 0) (ci := 11) (C := RX8) (T := TX8) (N := 47) (fs8 (gl Γ) 0) (v := .ref (ya (gl Γ) 19 6)) (FMi hF (t := 18) (by decide)) (fun _ _ _ => rfl) rfl rfl rfl rfl inW8 10 (by decide) (TT_cons kw_890) rfl dX8_sent_155 ?_
              refine G_iload_n hΓ 3 dX8_sent_158 rfl ?_
              refine G_iconst (v := 1) hΓ dX8_sent_159 (by decide) ?_
              obtain ⟨hg21, hf⟩ := gd_some hf
              refine F_zast hΓ (t := 19) (i := 6) (f := (u6 6)) (σ' := (qM σ u2 (va_up u6 6 (upd (u6 6) (((m 11) p1.toNatClampNeg).toNatClampNeg) (vp_nar .boolean 1))))) (FMi hF (t := 19) (by decide)) (fun _ _ _ => rfl) rfl qM_m hg21 dX8_sent_160 ?_
              refine G_aload_n hΓ 4 dX8_sent_161 rfl ?_
              refine F_get hΓ (t := 18) (i := 0) (ci := 11) (C := RX8) (T := TX8) (N := 47) (fs8 (gl Γ) 0) (v := .ref (ya (gl Γ) 19 7)) (FMi hF (t := 18) (by decide)) (fun _ _ _ => rfl) rfl rfl rfl rfl inW8 12 (by decide) (TT_cons kw_892) rfl dX8_sent_162 ?_
              refine G_aload_n hΓ 4 dX8_sent_165 rfl ?_
              refine F_get hΓ (t := 18) (i := 0) (ci := 11) (C := RX8) (T := TX8) (N := 47) (fs8 (gl Γ) 0) (v := .int (u2 11)) (FMi hF (t := 18) (by decide)) (fun _ _ _ => rfl) rfl rfl rfl rfl inW8 11 (by decide) (TT_cons kw_891) rfl dX8_sent_166 ?_
              refine G_iload_n hΓ 3 dX8_sent_169 rfl ?_
              obtain ⟨hg22, hf⟩ := gd_some hf
              refine F_iast hΓ (t := 19) (i := 7) (f := (u6 7)) (σ' := (qM σ u2 (va_up (va_up u6 6 (upd (u6 6) (((m 11) p1.toNatClampNeg).toNatClampNeg) (vp_nar .boolean 1))) 7 (upd (u6 7) ((u2 11).toNatClampNeg) ((m 11) p1.toNatClampNeg))))) (FMi hF (t := 19) (by decide)) (fun _ _ _ => rfl) rfl qM_m hg22 dX8_sent_170 ?_
              refine G_aload_n hΓ 4 dX8_sent_171 rfl ?_
              refine F_get hΓ (t := 18) (i := 0) (ci := 11) (C := RX8) (T := TX8) (N := 47) (fs8 (gl Γ) 0) (v := .ref (ya (gl Γ) 19 8)) (FMi hF (t := 18) (by decide)) (fun _ _ _ => rfl) rfl rfl rfl rfl inW8 13 (by decide) (TT_cons kw_893) rfl dX8_sent_172 ?_
              refine G_aload_n hΓ 4 dX8_sent_175 rfl ?_
              refine F_get hΓ (t := 18) (i := 0) (ci := 11) (C := RX8) (T := TX8) (N := 47) (fs8 (gl Γ) 0) (v := .int (u2 11)) (FMi hF (t := 18) (by decide)) (fun _ _ _ => rfl) rfl rfl rfl rfl inW8 11 (by decide) (TT_cons kw_891) rfl dX8_sent_176 ?_
              refine G_aload_n hΓ 4 dX8_sent_179 rfl ?_
              refine F_get hΓ (t := 18) (i := 0) (ci := 11) (C := RX8) (T := TX8) (N := 47) (fs8 (gl Γ) 0) (v := .int (u2 2)) (FMi hF (t := 18) (by decide)) (fun _ _ _ => rfl) rfl rfl rfl rfl inW8 2 (by decide) (TT_cons kw_882) rfl dX8_sent_180 ?_
              obtain ⟨hg23, hf⟩ := gd_some hf
              refine F_iast hΓ (t := 19) (i := 8) (f := (u6 8)) (σ' := (qM σ u2 (va_up (va_up (va_up u6 6 (upd (u6 6) (((m 11) p1.toNatClampNeg).toNatClampNeg) (vp_nar .boolean 1))) 7 (upd (u6 7) ((u2 11).toNatClampNeg) ((m 11) p1.toNatClampNeg))) 8 (upd (u6 8) ((u2 11).toNatClampNeg) (u2 2))))) (FMi hF (t := 19) (by decide)) (fun _ _ _ => rfl) rfl qM_m hg23 dX8_sent_183 ?_
              refine G_aload_n hΓ 4 dX8_sent_184 rfl ?_
              refine G_dup hΓ dX8_sent_185 rfl ?_
              refine F_get hΓ (t := 18) (i := 0) (ci := 11) (C := RX8) (T := TX8) (N := 47) (fs8 (gl Γ) 0) (v := .int (u2 11)) (FMi hF (t := 18) (by decide)) (fun _ _ _ => rfl) rfl rfl rfl rfl inW8 11 (by decide) (TT_cons kw_891) rfl dX8_sent_186 ?_
              refine G_iconst (v := 1) hΓ dX8_sent_189 (by decide) ?_
              refine G_iadd hΓ dX8_sent_190 ?_
              refine F_put hΓ (t := 18) (i := 0) (ci := 11) (C := RX8) (T := TX8) (N := 47) (fs8 (gl Γ) 0) (f := u2) (f' := (upd u2 11 ((u2 11) + 1))) (σ' := (qM σ (upd u2 11 ((u2 11) + 1)) (va_up (va_up (va_up u6 6 (upd (u6 6) (((m 11) p1.toNatClampNeg).toNatClampNeg) (vp_nar .boolean 1))) 7 (upd (u6 7) ((u2 11).toNatClampNeg) ((m 11) p1.toNatClampNeg))) 8 (upd (u6 8) ((u2 11).toNatClampNeg) (u2 2))))) (ty := .int) (v := .int ((u2 11) + 1)) tyX8 tyX8_ok nmX8 (FMi hF (t := 18) (by decide)) (fun _ _ _ => rfl) rfl qM_v rfl inW8 11 (by decide) (TT_cons kw_891) rfl (by decide +kernel) rfl rfl (fun _ _ => Nat.le_of_ble_eq_true rfl) (fun _ _ => rfl) dX8_sent_191 ?_
              refine G_aload_n hΓ 4 dX8_sent_194 rfl ?_
              refine G_iload_n hΓ 5 dX8_sent_195 rfl ?_
              refine G_bipush (v := 6) hΓ dX8_sent_196 (by decide) ?_
              refine G_iconst (v := 3) hΓ dX8_sent_198 (by decide) ?_
              obtain ⟨u24, hc25, hf⟩ := bd_some hf
              refine G_callV hΓ (n := 3) (As := [.int p1, .int 6, .int 3]) (t := 18) (i := 0) (ci := 11) (T := TX8) (N := 47) (FS := fs8 (gl Γ) 0) (σ' := (qM σ (upd u2 11 ((u2 11) + 1)) u24)) (c_X8_go (gL Γ) (gl Γ) hF σ  (upd u2 11 ((u2 11) + 1)) (va_up (va_up (va_up u6 6 (upd (u6 6) (((m 11) p1.toNatClampNeg).toNatClampNeg) (vp_nar .boolean 1))) 7 (upd (u6 7) ((u2 11).toNatClampNeg) ((m 11) p1.toNatClampNeg))) 8 (upd (u6 8) ((u2 11).toNatClampNeg) (u2 2))) p1 6 3  hc25) rfl rfl kw_1169 kw_1171 kp_53 kw_9 kw_1172 ⟨rfl, by decide, by decide, by decide +kernel⟩ (FMi hF (t := 18) (by decide)) (fun _ _ _ => rfl) rfl rfl rfl ⟨Nat.le_of_ble_eq_true rfl, Nat.le_of_ble_eq_true rfl⟩ rfl (Nat.le_of_ble_eq_true rfl) dX8_sent_199 ⟨_, rfl⟩ rfl ?_
              exact K19 _ _ hf
          · rw [if_neg hc34] at hf
            refine G_aload_n hΓ 4 dX8_sent_125 rfl ?_
            refine G_iload_n hΓ 5 dX8_sent_126 rfl ?_
            refine G_iload hΓ 0 dX8_sent_127 rfl ?_
            obtain ⟨x27, he30, hf⟩ := lt_eq hf
            have K28 : GG Γ (0, 0) (qM σ u2 u6) 137 [(6, .int x12), (5, .int x8), (4, .int ((u3 14) p1.toNatClampNeg)), (3, .int ((m 11) p1.toNatClampNeg)), (0, .ref (ya (gl Γ) 18 0)), (1, .int p1), (2, .int p2)] [.int x27, .int p1, .ref (ya (gl Γ) 18 0)] := by
              obtain ⟨⟨u31, u32⟩, hc33, hf⟩ := bd_some hf
              try dsimp only at hf
              refine G_callV hΓ (n := 2) (As := [.int p1, .int x27]) (t := 18) (i := 0) (ci := 11) (T := TX8) (N := 47) (FS := fs8 (gl Γ) 0) (σ' := (qM σ u31 u32)) (c_X8_wrong (gL Γ) (gl Γ) hF σ  u2 u6 p1 x27  hc33) rfl rfl kw_1165 kw_1167 kp_52 kw_9 kw_1168 ⟨rfl, by decide, by decide, by decide +kernel⟩ (FMi hF (t := 18) (by decide)) (fun _ _ _ => rfl) rfl rfl rfl ⟨Nat.le_of_ble_eq_true rfl, Nat.le_of_ble_eq_true rfl⟩ rfl (Nat.le_of_ble_eq_true rfl) dX8_sent_137 ⟨_, rfl⟩ rfl ?_
              refine G_goto hΓ (tgt := 202) dX8_sent_140 (by decide) ?_
              exact K19 _ _ hf
            have he := he30
            refine G_if_eq hΓ (tgt := 136) dX8_sent_129 (by decide) (fun hc29 => ?_) (fun hc29 => ?_)
            · rw [if_pos hc29] at he
              refine G_iconst (v := 0) hΓ dX8_sent_136 (by decide) ?_
              subst he
              exact K28
            · rw [if_neg hc29] at he
              refine G_iconst (v := 4) hΓ dX8_sent_132 (by decide) ?_
              refine G_goto hΓ (tgt := 137) dX8_sent_133 (by decide) ?_
              subst he
              exact K28
        · rw [if_neg hc49] at hf
          refine G_iload_n hΓ 6 dX8_sent_106 rfl ?_
          refine G_iconst (v := 1) hΓ dX8_sent_107 (by decide) ?_
          refine G_icmp_ne hΓ (tgt := 143) dX8_sent_108 (by decide) (fun hc48 => ?_) (fun hc48 => ?_)
          · rw [if_neg hc48] at hf
            refine G_iload hΓ 2 dX8_sent_143 rfl ?_
            refine G_aload_n hΓ 4 dX8_sent_145 rfl ?_
            refine F_get hΓ (t := 18) (i := 0) (ci := 11) (C := RX8) (T := TX8) (N := 47) (fs8 (gl Γ) 0) (v := .int (u2 37)) (FMi hF (t := 18) (by decide)) (fun _ _ _ => rfl) rfl rfl rfl rfl inW8 37 (by decide) (TT_cons kw_917) rfl dX8_sent_146 ?_
            refine G_iconst (v := 1) hΓ dX8_sent_149 (by decide) ?_
            refine G_isub hΓ dX8_sent_150 ?_
            refine G_icmp_ne hΓ (tgt := 202) dX8_sent_151 (by decide) (fun hc40 => ?_) (fun hc40 => ?_)
            · rw [if_neg hc40] at hf
              exact K19 _ _ hf
            · rw [if_pos hc40] at hf
              refine G_aload_n hΓ 4 dX8_sent_154 rfl ?_
              refine F_get hΓ (t := 18) (i := 0) (ci := 11) (C := RX8) (T := TX8) (N := 47) (fs8 (gl Γ) 0) (v := .ref (ya (gl Γ) 19 6)) (FMi hF (t := 18) (by decide)) (fun _ _ _ => rfl) rfl rfl rfl rfl inW8 10 (by decide) (TT_cons kw_890) rfl dX8_sent_155 ?_
              refine G_iload_n hΓ 3 dX8_sent_158 rfl ?_
              refine G_iconst (v := 1) hΓ dX8_sent_159 (by decide) ?_
              obtain ⟨hg35, hf⟩ := gd_some hf
              refine F_zast hΓ (t := 19) (i := 6) (f := (u6 6)) (σ' := (qM σ u2 (va_up u6 6 (upd (u6 6) (((m 11) p1.toNatClampNeg).toNatClampNeg) (vp_nar .boolean 1))))) (FMi hF (t := 19) (by decide)) (fun _ _ _ => rfl) rfl qM_m hg35 dX8_sent_160 ?_
              refine G_aload_n hΓ 4 dX8_sent_161 rfl ?_
              refine F_get hΓ (t := 18) (i := 0) (ci := 11) (C := RX8) (T := TX8) (N := 47) (fs8 (gl Γ) 0) (v := .ref (ya (gl Γ) 19 7)) (FMi hF (t := 18) (by decide)) (fun _ _ _ => rfl) rfl rfl rfl rfl inW8 12 (by decide) (TT_cons kw_892) rfl dX8_sent_162 ?_
              refine G_aload_n hΓ 4 dX8_sent_165 rfl ?_
              refine F_get hΓ (t := 18) (i := 0) (ci := 11) (C := RX8) (T := TX8) (N := 47) (fs8 (gl Γ) 0) (v := .int (u2 11)) (FMi hF (t := 18) (by decide)) (fun _ _ _ => rfl) rfl rfl rfl rfl inW8 11 (by decide) (TT_cons kw_891) rfl dX8_sent_166 ?_
              refine G_iload_n hΓ 3 dX8_sent_169 rfl ?_
              obtain ⟨hg36, hf⟩ := gd_some hf
              refine F_iast hΓ (t := 19) (i := 7) (f := (u6 7)) (σ' := (qM σ u2 (va_up (va_up u6 6 (upd (u6 6) (((m 11) p1.toNatClampNeg).toNatClampNeg) (vp_nar .boolean 1))) 7 (upd (u6 7) ((u2 11).toNatClampNeg) ((m 11) p1.toNatClampNeg))))) (FMi hF (t := 19) (by decide)) (fun _ _ _ => rfl) rfl qM_m hg36 dX8_sent_170 ?_
              refine G_aload_n hΓ 4 dX8_sent_171 rfl ?_
              refine F_get hΓ (t := 18) (i := 0) (ci := 11) (C := RX8) (T := TX8) (N := 47) (fs8 (gl Γ) 0) (v := .ref (ya (gl Γ) 19 8)) (FMi hF (t := 18) (by decide)) (fun _ _ _ => rfl) rfl rfl rfl rfl inW8 13 (by decide) (TT_cons kw_893) rfl dX8_sent_172 ?_
              refine G_aload_n hΓ 4 dX8_sent_175 rfl ?_
              refine F_get hΓ (t := 18) (i := 0) (ci := 11) (C := RX8) (T := TX8) (N := 47) (fs8 (gl Γ) 0) (v := .int (u2 11)) (FMi hF (t := 18) (by decide)) (fun _ _ _ => rfl) rfl rfl rfl rfl inW8 11 (by decide) (TT_cons kw_891) rfl dX8_sent_176 ?_
              refine G_aload_n hΓ 4 dX8_sent_179 rfl ?_
              refine F_get hΓ (t := 18) (i := 0) (ci := 11) (C := RX8) (T := TX8) (N := 47) (fs8 (gl Γ) 0) (v := .int (u2 2)) (FMi hF (t := 18) (by decide)) (fun _ _ _ => rfl) rfl rfl rfl rfl inW8 2 (by decide) (TT_cons kw_882) rfl dX8_sent_180 ?_
              obtain ⟨hg37, hf⟩ := gd_some hf
              refine F_iast hΓ (t := 19) (i := 8) (f := (u6 8)) (σ' := (qM σ u2 (va_up (va_up (va_up u6 6 (upd (u6 6) (((m 11) p1.toNatClampNeg).toNatClampNeg) (vp_nar .boolean 1))) 7 (upd (u6 7) ((u2 11).toNatClampNeg) ((m 11) p1.toNatClampNeg))) 8 (upd (u6 8) ((u2 11).toNatClampNeg) (u2 2))))) (FMi hF (t := 19) (by decide)) (fun _ _ _ => rfl) rfl qM_m hg37 dX8_sent_183 ?_
              refine G_aload_n hΓ 4 dX8_sent_184 rfl ?_
              refine G_dup hΓ dX8_sent_185 rfl ?_
              refine F_get hΓ (t := 18) (i := 0) (ci := 11) (C := RX8) (T := TX8) (N := 47) (fs8 (gl Γ) 0) (v := .int (u2 11)) (FMi hF (t := 18) (by decide)) (fun _ _ _ => rfl) rfl rfl rfl rfl inW8 11 (by decide) (TT_cons kw_891) rfl dX8_sent_186 ?_
              refine G_iconst (v := 1) hΓ dX8_sent_189 (by decide) ?_
              refine G_iadd hΓ dX8_sent_190 ?_
              refine F_put hΓ (t := 18) (i := 0) (ci := 11) (C := RX8) (T := TX8) (N := 47) (fs8 (gl Γ) 0) (f := u2) (f' := (upd u2 11 ((u2 11) + 1))) (σ' := (qM σ (upd u2 11 ((u2 11) + 1)) (va_up (va_up (va_up u6 6 (upd (u6 6) (((m 11) p1.toNatClampNeg).toNatClampNeg) (vp_nar .boolean 1))) 7 (upd (u6 7) ((u2 11).toNatClampNeg) ((m 11) p1.toNatClampNeg))) 8 (upd (u6 8) ((u2 11).toNatClampNeg) (u2 2))))) (ty := .int) (v := .int ((u2 11) + 1)) tyX8 tyX8_ok nmX8 (FMi hF (t := 18) (by decide)) (fun _ _ _ => rfl) rfl qM_v rfl inW8 11 (by decide) (TT_cons kw_891) rfl (by decide +kernel) rfl rfl (fun _ _ => Nat.le_of_ble_eq_true rfl) (fun _ _ => rfl) dX8_sent_191 ?_
              refine G_aload_n hΓ 4 dX8_sent_194 rfl ?_
              refine G_iload_n hΓ 5 dX8_sent_195 rfl ?_
              refine G_bipush (v := 6) hΓ dX8_sent_196 (by decide) ?_
              refine G_iconst (v := 3) hΓ dX8_sent_198 (by decide) ?_
              obtain ⟨u38, hc39, hf⟩ := bd_some hf
              refine G_callV hΓ (n := 3) (As := [.int p1, .int 6, .int 3]) (t := 18) (i := 0) (ci := 11) (T := TX8) (N := 47) (FS := fs8 (gl Γ) 0) (σ' := (qM σ (upd u2 11 ((u2 11) + 1)) u38)) (c_X8_go (gL Γ) (gl Γ) hF σ  (upd u2 11 ((u2 11) + 1)) (va_up (va_up (va_up u6 6 (upd (u6 6) (((m 11) p1.toNatClampNeg).toNatClampNeg) (vp_nar .boolean 1))) 7 (upd (u6 7) ((u2 11).toNatClampNeg) ((m 11) p1.toNatClampNeg))) 8 (upd (u6 8) ((u2 11).toNatClampNeg) (u2 2))) p1 6 3  hc39) rfl rfl kw_1169 kw_1171 kp_53 kw_9 kw_1172 ⟨rfl, by decide, by decide, by decide +kernel⟩ (FMi hF (t := 18) (by decide)) (fun _ _ _ => rfl) rfl rfl rfl ⟨Nat.le_of_ble_eq_true rfl, Nat.le_of_ble_eq_true rfl⟩ rfl (Nat.le_of_ble_eq_true rfl) dX8_sent_199 ⟨_, rfl⟩ rfl ?_
              exact K19 _ _ hf
          · rw [if_pos hc48] at hf
            refine G_goto hΓ (tgt := 125) dX8_sent_111 (by decide) ?_
            refine G_aload_n hΓ 4 dX8_sent_125 rfl ?_
            refine G_iload_n hΓ 5 dX8_sent_126 rfl ?_
            refine G_iload hΓ 0 dX8_sent_127 rfl ?_
            obtain ⟨x41, he44, hf⟩ := lt_eq hf
            have K42 : GG Γ (0, 0) (qM σ u2 u6) 137 [(6, .int x12), (5, .int x8), (4, .int ((u3 14) p1.toNatClampNeg)), (3, .int ((m 11) p1.toNatClampNeg)), (0, .ref (ya (gl Γ) 18 0)), (1, .int p1), (2, .int p2)] [.int x41, .int p1, .ref (ya (gl Γ) 18 0)] := by
              obtain ⟨⟨u45, u46⟩, hc47, hf⟩ := bd_some hf
              try dsimp only at hf
              refine G_callV hΓ (n := 2) (As := [.int p1, .int x41]) (t := 18) (i := 0) (ci := 11) (T := TX8) (N := 47) (FS := fs8 (gl Γ) 0) (σ' := (qM σ u45 u46)) (c_X8_wrong (gL Γ) (gl Γ) hF σ  u2 u6 p1 x41  hc47) rfl rfl kw_1165 kw_1167 kp_52 kw_9 kw_1168 ⟨rfl, by decide, by decide, by decide +kernel⟩ (FMi hF (t := 18) (by decide)) (fun _ _ _ => rfl) rfl rfl rfl ⟨Nat.le_of_ble_eq_true rfl, Nat.le_of_ble_eq_true rfl⟩ rfl (Nat.le_of_ble_eq_true rfl) dX8_sent_137 ⟨_, rfl⟩ rfl ?_
              refine G_goto hΓ (tgt := 202) dX8_sent_140 (by decide) ?_
              exact K19 _ _ hf
            have he := he44
            refine G_if_eq hΓ (tgt := 136) dX8_sent_129 (by decide) (fun hc43 => ?_) (fun hc43 => ?_)
            · rw [if_pos hc43] at he
              refine G_iconst (v := 0) hΓ dX8_sent_136 (by decide) ?_
              subst he
              exact K42
            · rw [if_neg hc43] at he
              refine G_iconst (v := 4) hΓ dX8_sent_132 (by decide) ?_
              refine G_goto hΓ (tgt := 137) dX8_sent_133 (by decide) ?_
              subst he
              exact K42
      · rw [if_neg hc51] at hf
        refine G_aload_n hΓ 4 dX8_sent_91 rfl ?_
        refine F_get hΓ (t := 18) (i := 0) (ci := 11) (C := RX8) (T := TX8) (N := 47) (fs8 (gl Γ) 0) (v := .ref (ya (gl Γ) 19 9)) (FMi hF (t := 18) (by decide)) (fun _ _ _ => rfl) rfl rfl rfl rfl inW8 14 (by decide) (TT_cons kw_894) rfl dX8_sent_92 ?_
        refine G_iload_n hΓ 5 dX8_sent_95 rfl ?_
        refine G_iconst (v := 2) hΓ dX8_sent_96 (by decide) ?_
        obtain ⟨hg50, hf⟩ := gd_some hf
        refine F_iast hΓ (t := 19) (i := 9) (f := (u6 9)) (σ' := (qM σ u2 (va_up u6 9 (upd (u6 9) p1.toNatClampNeg 2)))) (FMi hF (t := 19) (by decide)) (fun _ _ _ => rfl) rfl qM_m hg50 dX8_sent_97 ?_
        refine G_goto hΓ (tgt := 202) dX8_sent_98 (by decide) ?_
        exact K19 _ _ hf
    have he := he15
    refine G_icmp_ne hΓ (tgt := 83) dX8_sent_76 (by decide) (fun hc14 => ?_) (fun hc14 => ?_)
    · rw [if_neg hc14] at he
      refine G_iconst (v := 0) hΓ dX8_sent_83 (by decide) ?_
      subst he
      exact K13
    · rw [if_pos hc14] at he
      refine G_iconst (v := 1) hΓ dX8_sent_79 (by decide) ?_
      refine G_goto hΓ (tgt := 84) dX8_sent_80 (by decide) ?_
      subst he
      exact K13
  clear hk_k10
  refine G_icmp_ge hΓ (tgt := 64) dX8_sent_32 (by decide) (fun hc57 => ?_) (fun hc57 => ?_)
  · rw [if_pos hc57] at hf
    refine G_iconst (v := 0) hΓ dX8_sent_64 (by decide) ?_
    exact K11 _ (Or.inl rfl) hf
  · rw [if_neg hc57] at hf
    refine G_aload_n hΓ 2 dX8_sent_35 rfl ?_
    refine F_get hΓ (t := 18) (i := 0) (ci := 11) (C := RX8) (T := TX8) (N := 47) (fs8 (gl Γ) 0) (v := .ref (ya (gl Γ) 19 28)) (FMi hF (t := 18) (by decide)) (fun _ _ _ => rfl) rfl rfl rfl rfl inW8 36 (by decide) (TT_cons kw_916) rfl dX8_sent_36 ?_
    refine G_iload hΓ 0 dX8_sent_39 rfl ?_
    obtain ⟨hg52, hf⟩ := gd_some hf
    refine F_ald (G_zald hΓ) (t := 19) (i := 28) (f := (u6 28)) (FMi hF (t := 19) (by decide)) (fun _ _ _ => rfl) rfl hg52 dX8_sent_41 ?_
    refine G_if_ne hΓ (tgt := 64) dX8_sent_42 (by decide) (fun hc56 => ?_) (fun hc56 => ?_)
    · rw [if_neg hc56] at hf
      refine G_iconst (v := 0) hΓ dX8_sent_64 (by decide) ?_
      exact K11 _ (Or.inl rfl) hf
    · rw [if_pos hc56] at hf
      refine G_aload_n hΓ 2 dX8_sent_45 rfl ?_
      refine F_get hΓ (t := 18) (i := 0) (ci := 11) (C := RX8) (T := TX8) (N := 47) (fs8 (gl Γ) 0) (v := .ref (ya (gl Γ) 19 27)) (FMi hF (t := 18) (by decide)) (fun _ _ _ => rfl) rfl rfl rfl rfl inW8 35 (by decide) (TT_cons kw_915) rfl dX8_sent_46 ?_
      refine G_iload hΓ 0 dX8_sent_49 rfl ?_
      obtain ⟨hg53, hf⟩ := gd_some hf
      refine F_ald (G_bald hΓ) (t := 19) (i := 27) (f := (u6 27)) (FMi hF (t := 19) (by decide)) (fun _ _ _ => rfl) rfl hg53 dX8_sent_51 ?_
      refine G_iconst (v := 1) hΓ dX8_sent_52 (by decide) ?_
      refine G_icmp_ne hΓ (tgt := 64) dX8_sent_53 (by decide) (fun hc55 => ?_) (fun hc55 => ?_)
      · rw [if_neg hc55] at hf
        refine G_iconst (v := 0) hΓ dX8_sent_64 (by decide) ?_
        exact K11 _ (Or.inl rfl) hf
      · rw [if_pos hc55] at hf
        refine G_iload_n hΓ 4 dX8_sent_56 rfl ?_
        refine G_if_ne hΓ (tgt := 64) dX8_sent_57 (by decide) (fun hc54 => ?_) (fun hc54 => ?_)
        · rw [if_neg hc54] at hf
          refine G_iconst (v := 0) hΓ dX8_sent_64 (by decide) ?_
          exact K11 _ (Or.inl rfl) hf
        · rw [if_pos hc54] at hf
          refine G_iconst (v := 1) hΓ dX8_sent_60 (by decide) ?_
          refine G_goto hΓ (tgt := 65) dX8_sent_61 (by decide) ?_
          exact K11 _ (Or.inr rfl) hf
theorem dX8_sees_0 : decode cX8_sees 0 = .ok (.aload_n 0, 1) := by decide +kernel
theorem dX8_sees_1 : decode cX8_sees 1 = .ok (.getfield 43, 3) := by decide +kernel
theorem dX8_sees_4 : decode cX8_sees 4 = .ok (.iload_n 1, 1) := by decide +kernel
theorem dX8_sees_5 : decode cX8_sees 5 = .ok (.iaload, 1) := by decide +kernel
theorem dX8_sees_6 : decode cX8_sees 6 = .ok (.ifCond .ne 50, 3) := by decide +kernel
theorem dX8_sees_9 : decode cX8_sees 9 = .ok (.aload_n 0, 1) := by decide +kernel
theorem dX8_sees_10 : decode cX8_sees 10 = .ok (.getfield 58, 3) := by decide +kernel
theorem dX8_sees_13 : decode cX8_sees 13 = .ok (.iload_n 1, 1) := by decide +kernel
theorem dX8_sees_14 : decode cX8_sees 14 = .ok (.iconst 0, 1) := by decide +kernel
theorem dX8_sees_15 : decode cX8_sees 15 = .ok (.iastore, 1) := by decide +kernel
theorem dX8_sees_16 : decode cX8_sees 16 = .ok (.aload_n 0, 1) := by decide +kernel
theorem dX8_sees_17 : decode cX8_sees 17 = .ok (.iload_n 1, 1) := by decide +kernel
theorem dX8_sees_18 : decode cX8_sees 18 = .ok (.invokevirtual 232, 3) := by decide +kernel
theorem dX8_sees_21 : decode cX8_sees 21 = .ok (.istore_n 3, 1) := by decide +kernel
theorem dX8_sees_22 : decode cX8_sees 22 = .ok (.iload_n 3, 1) := by decide +kernel
theorem dX8_sees_23 : decode cX8_sees 23 = .ok (.iconst (-1), 1) := by decide +kernel
theorem dX8_sees_24 : decode cX8_sees 24 = .ok (.if_icmp .ne 9, 3) := by decide +kernel
theorem dX8_sees_27 : decode cX8_sees 27 = .ok (.iload_n 2, 1) := by decide +kernel
theorem dX8_sees_28 : decode cX8_sees 28 = .ok (.iconst 1, 1) := by decide +kernel
theorem dX8_sees_29 : decode cX8_sees 29 = .ok (.if_icmp .ne 4, 3) := by decide +kernel
theorem dX8_sees_32 : decode cX8_sees 32 = .ok (.return_, 1) := by decide +kernel
theorem dX8_sees_33 : decode cX8_sees 33 = .ok (.aload_n 0, 1) := by decide +kernel
theorem dX8_sees_34 : decode cX8_sees 34 = .ok (.getfield 43, 3) := by decide +kernel
theorem dX8_sees_37 : decode cX8_sees 37 = .ok (.iload_n 1, 1) := by decide +kernel
theorem dX8_sees_38 : decode cX8_sees 38 = .ok (.iload_n 3, 1) := by decide +kernel
theorem dX8_sees_39 : decode cX8_sees 39 = .ok (.iconst (-1), 1) := by decide +kernel
theorem dX8_sees_40 : decode cX8_sees 40 = .ok (.if_icmp .ne 7, 3) := by decide +kernel
theorem dX8_sees_43 : decode cX8_sees 43 = .ok (.iconst 2, 1) := by decide +kernel
theorem dX8_sees_44 : decode cX8_sees 44 = .ok (.goto 4, 3) := by decide +kernel
theorem dX8_sees_47 : decode cX8_sees 47 = .ok (.iconst 1, 1) := by decide +kernel
theorem dX8_sees_48 : decode cX8_sees 48 = .ok (.iastore, 1) := by decide +kernel
theorem dX8_sees_49 : decode cX8_sees 49 = .ok (.aload_n 0, 1) := by decide +kernel
theorem dX8_sees_50 : decode cX8_sees 50 = .ok (.getfield 49, 3) := by decide +kernel
theorem dX8_sees_53 : decode cX8_sees 53 = .ok (.iload_n 1, 1) := by decide +kernel
theorem dX8_sees_54 : decode cX8_sees 54 = .ok (.iload_n 3, 1) := by decide +kernel
theorem dX8_sees_55 : decode cX8_sees 55 = .ok (.iastore, 1) := by decide +kernel
theorem dX8_sees_56 : decode cX8_sees 56 = .ok (.aload_n 0, 1) := by decide +kernel
theorem dX8_sees_57 : decode cX8_sees 57 = .ok (.getfield 43, 3) := by decide +kernel
theorem dX8_sees_60 : decode cX8_sees 60 = .ok (.iload_n 1, 1) := by decide +kernel
theorem dX8_sees_61 : decode cX8_sees 61 = .ok (.iaload, 1) := by decide +kernel
theorem dX8_sees_62 : decode cX8_sees 62 = .ok (.iconst 1, 1) := by decide +kernel
theorem dX8_sees_63 : decode cX8_sees 63 = .ok (.if_icmp .ne 12, 3) := by decide +kernel
theorem dX8_sees_66 : decode cX8_sees 66 = .ok (.aload_n 0, 1) := by decide +kernel
theorem dX8_sees_67 : decode cX8_sees 67 = .ok (.iload_n 1, 1) := by decide +kernel
theorem dX8_sees_68 : decode cX8_sees 68 = .ok (.iload_n 2, 1) := by decide +kernel
theorem dX8_sees_69 : decode cX8_sees 69 = .ok (.invokevirtual 238, 3) := by decide +kernel
theorem dX8_sees_72 : decode cX8_sees 72 = .ok (.goto 222, 3) := by decide +kernel
theorem dX8_sees_75 : decode cX8_sees 75 = .ok (.aload_n 0, 1) := by decide +kernel
theorem dX8_sees_76 : decode cX8_sees 76 = .ok (.getfield 43, 3) := by decide +kernel
theorem dX8_sees_79 : decode cX8_sees 79 = .ok (.iload_n 1, 1) := by decide +kernel
theorem dX8_sees_80 : decode cX8_sees 80 = .ok (.iaload, 1) := by decide +kernel
theorem dX8_sees_81 : decode cX8_sees 81 = .ok (.iconst 2, 1) := by decide +kernel
theorem dX8_sees_82 : decode cX8_sees 82 = .ok (.if_icmp .ne 60, 3) := by decide +kernel
theorem dX8_sees_85 : decode cX8_sees 85 = .ok (.aload_n 0, 1) := by decide +kernel
theorem dX8_sees_86 : decode cX8_sees 86 = .ok (.iload_n 1, 1) := by decide +kernel
theorem dX8_sees_87 : decode cX8_sees 87 = .ok (.iload_n 2, 1) := by decide +kernel
theorem dX8_sees_88 : decode cX8_sees 88 = .ok (.invokevirtual 241, 3) := by decide +kernel
theorem dX8_sees_91 : decode cX8_sees 91 = .ok (.aload_n 0, 1) := by decide +kernel
theorem dX8_sees_92 : decode cX8_sees 92 = .ok (.iload_n 1, 1) := by decide +kernel
theorem dX8_sees_93 : decode cX8_sees 93 = .ok (.invokevirtual 244, 3) := by decide +kernel
theorem dX8_sees_96 : decode cX8_sees 96 = .ok (.istore_n 3, 1) := by decide +kernel
theorem dX8_sees_97 : decode cX8_sees 97 = .ok (.iload_n 3, 1) := by decide +kernel
theorem dX8_sees_98 : decode cX8_sees 98 = .ok (.bipush 10, 2) := by decide +kernel
theorem dX8_sees_100 : decode cX8_sees 100 = .ok (.if_icmp .ne 11, 3) := by decide +kernel
theorem dX8_sees_103 : decode cX8_sees 103 = .ok (.aload_n 0, 1) := by decide +kernel
theorem dX8_sees_104 : decode cX8_sees 104 = .ok (.iload_n 1, 1) := by decide +kernel
theorem dX8_sees_105 : decode cX8_sees 105 = .ok (.invokevirtual 247, 3) := by decide +kernel
theorem dX8_sees_108 : decode cX8_sees 108 = .ok (.goto 31, 3) := by decide +kernel
theorem dX8_sees_111 : decode cX8_sees 111 = .ok (.iload_n 3, 1) := by decide +kernel
theorem dX8_sees_112 : decode cX8_sees 112 = .ok (.bipush 11, 2) := by decide +kernel
theorem dX8_sees_114 : decode cX8_sees 114 = .ok (.if_icmp .ne 14, 3) := by decide +kernel
theorem dX8_sees_117 : decode cX8_sees 117 = .ok (.aload_n 0, 1) := by decide +kernel
theorem dX8_sees_118 : decode cX8_sees 118 = .ok (.iload_n 1, 1) := by decide +kernel
theorem dX8_sees_119 : decode cX8_sees 119 = .ok (.bipush 6, 2) := by decide +kernel
theorem dX8_sees_121 : decode cX8_sees 121 = .ok (.iconst 3, 1) := by decide +kernel
theorem dX8_sees_122 : decode cX8_sees 122 = .ok (.invokevirtual 250, 3) := by decide +kernel
theorem dX8_sees_125 : decode cX8_sees 125 = .ok (.goto 14, 3) := by decide +kernel
theorem dX8_sees_128 : decode cX8_sees 128 = .ok (.iload_n 3, 1) := by decide +kernel
theorem dX8_sees_129 : decode cX8_sees 129 = .ok (.iconst (-1), 1) := by decide +kernel
theorem dX8_sees_130 : decode cX8_sees 130 = .ok (.if_icmp .eq 9, 3) := by decide +kernel
theorem dX8_sees_133 : decode cX8_sees 133 = .ok (.aload_n 0, 1) := by decide +kernel
theorem dX8_sees_134 : decode cX8_sees 134 = .ok (.iload_n 1, 1) := by decide +kernel
theorem dX8_sees_135 : decode cX8_sees 135 = .ok (.iload_n 3, 1) := by decide +kernel
theorem dX8_sees_136 : decode cX8_sees 136 = .ok (.invokevirtual 254, 3) := by decide +kernel
theorem dX8_sees_139 : decode cX8_sees 139 = .ok (.goto 155, 3) := by decide +kernel
theorem dX8_sees_142 : decode cX8_sees 142 = .ok (.aload_n 0, 1) := by decide +kernel
theorem dX8_sees_143 : decode cX8_sees 143 = .ok (.getfield 46, 3) := by decide +kernel
theorem dX8_sees_146 : decode cX8_sees 146 = .ok (.iload_n 1, 1) := by decide +kernel
theorem dX8_sees_147 : decode cX8_sees 147 = .ok (.dup2, 1) := by decide +kernel
theorem dX8_sees_148 : decode cX8_sees 148 = .ok (.iaload, 1) := by decide +kernel
theorem dX8_sees_149 : decode cX8_sees 149 = .ok (.iconst 1, 1) := by decide +kernel
theorem dX8_sees_150 : decode cX8_sees 150 = .ok (.isub, 1) := by decide +kernel
theorem dX8_sees_151 : decode cX8_sees 151 = .ok (.iastore, 1) := by decide +kernel
theorem dX8_sees_152 : decode cX8_sees 152 = .ok (.aload_n 0, 1) := by decide +kernel
theorem dX8_sees_153 : decode cX8_sees 153 = .ok (.getfield 43, 3) := by decide +kernel
theorem dX8_sees_156 : decode cX8_sees 156 = .ok (.iload_n 1, 1) := by decide +kernel
theorem dX8_sees_157 : decode cX8_sees 157 = .ok (.iaload, 1) := by decide +kernel
theorem dX8_sees_158 : decode cX8_sees 158 = .ok (.iconst 3, 1) := by decide +kernel
theorem dX8_sees_159 : decode cX8_sees 159 = .ok (.if_icmp .ne 26, 3) := by decide +kernel
theorem dX8_sees_162 : decode cX8_sees 162 = .ok (.aload_n 0, 1) := by decide +kernel
theorem dX8_sees_163 : decode cX8_sees 163 = .ok (.getfield 43, 3) := by decide +kernel
theorem dX8_sees_166 : decode cX8_sees 166 = .ok (.iload_n 1, 1) := by decide +kernel
theorem dX8_sees_167 : decode cX8_sees 167 = .ok (.aload_n 0, 1) := by decide +kernel
theorem dX8_sees_168 : decode cX8_sees 168 = .ok (.getfield 46, 3) := by decide +kernel
theorem dX8_sees_171 : decode cX8_sees 171 = .ok (.iload_n 1, 1) := by decide +kernel
theorem dX8_sees_172 : decode cX8_sees 172 = .ok (.iaload, 1) := by decide +kernel
theorem dX8_sees_173 : decode cX8_sees 173 = .ok (.ifCond .ne 7, 3) := by decide +kernel
theorem dX8_sees_176 : decode cX8_sees 176 = .ok (.iconst 4, 1) := by decide +kernel
theorem dX8_sees_177 : decode cX8_sees 177 = .ok (.goto 4, 3) := by decide +kernel
theorem dX8_sees_180 : decode cX8_sees 180 = .ok (.iconst 3, 1) := by decide +kernel
theorem dX8_sees_181 : decode cX8_sees 181 = .ok (.iastore, 1) := by decide +kernel
theorem dX8_sees_182 : decode cX8_sees 182 = .ok (.goto 112, 3) := by decide +kernel
theorem dX8_sees_185 : decode cX8_sees 185 = .ok (.aload_n 0, 1) := by decide +kernel
theorem dX8_sees_186 : decode cX8_sees 186 = .ok (.getfield 43, 3) := by decide +kernel
theorem dX8_sees_189 : decode cX8_sees 189 = .ok (.iload_n 1, 1) := by decide +kernel
theorem dX8_sees_190 : decode cX8_sees 190 = .ok (.iaload, 1) := by decide +kernel
theorem dX8_sees_191 : decode cX8_sees 191 = .ok (.iconst 4, 1) := by decide +kernel
theorem dX8_sees_192 : decode cX8_sees 192 = .ok (.if_icmp .ne 19, 3) := by decide +kernel
theorem dX8_sees_195 : decode cX8_sees 195 = .ok (.iload_n 2, 1) := by decide +kernel
theorem dX8_sees_196 : decode cX8_sees 196 = .ok (.iconst 1, 1) := by decide +kernel
theorem dX8_sees_197 : decode cX8_sees 197 = .ok (.if_icmp .ne 14, 3) := by decide +kernel
theorem dX8_sees_200 : decode cX8_sees 200 = .ok (.aload_n 0, 1) := by decide +kernel
theorem dX8_sees_201 : decode cX8_sees 201 = .ok (.iload_n 1, 1) := by decide +kernel
theorem dX8_sees_202 : decode cX8_sees 202 = .ok (.iconst 5, 1) := by decide +kernel
theorem dX8_sees_203 : decode cX8_sees 203 = .ok (.bipush 7, 2) := by decide +kernel
theorem dX8_sees_205 : decode cX8_sees 205 = .ok (.invokevirtual 250, 3) := by decide +kernel
theorem dX8_sees_208 : decode cX8_sees 208 = .ok (.goto 86, 3) := by decide +kernel
theorem dX8_sees_211 : decode cX8_sees 211 = .ok (.aload_n 0, 1) := by decide +kernel
theorem dX8_sees_212 : decode cX8_sees 212 = .ok (.getfield 43, 3) := by decide +kernel
theorem dX8_sees_215 : decode cX8_sees 215 = .ok (.iload_n 1, 1) := by decide +kernel
theorem dX8_sees_216 : decode cX8_sees 216 = .ok (.iaload, 1) := by decide +kernel
theorem dX8_sees_217 : decode cX8_sees 217 = .ok (.iconst 5, 1) := by decide +kernel
theorem dX8_sees_218 : decode cX8_sees 218 = .ok (.if_icmp .ne 29, 3) := by decide +kernel
theorem dX8_sees_221 : decode cX8_sees 221 = .ok (.iload_n 2, 1) := by decide +kernel
theorem dX8_sees_222 : decode cX8_sees 222 = .ok (.ifCond .ne 25, 3) := by decide +kernel
theorem dX8_sees_225 : decode cX8_sees 225 = .ok (.aload_n 0, 1) := by decide +kernel
theorem dX8_sees_226 : decode cX8_sees 226 = .ok (.iload_n 1, 1) := by decide +kernel
theorem dX8_sees_227 : decode cX8_sees 227 = .ok (.aload_n 0, 1) := by decide +kernel
theorem dX8_sees_228 : decode cX8_sees 228 = .ok (.getfield 46, 3) := by decide +kernel
theorem dX8_sees_231 : decode cX8_sees 231 = .ok (.iload_n 1, 1) := by decide +kernel
theorem dX8_sees_232 : decode cX8_sees 232 = .ok (.iaload, 1) := by decide +kernel
theorem dX8_sees_233 : decode cX8_sees 233 = .ok (.ifCond .ne 7, 3) := by decide +kernel
theorem dX8_sees_236 : decode cX8_sees 236 = .ok (.iconst 5, 1) := by decide +kernel
theorem dX8_sees_237 : decode cX8_sees 237 = .ok (.goto 4, 3) := by decide +kernel
theorem dX8_sees_240 : decode cX8_sees 240 = .ok (.iconst 2, 1) := by decide +kernel
theorem dX8_sees_241 : decode cX8_sees 241 = .ok (.invokevirtual 254, 3) := by decide +kernel
theorem dX8_sees_244 : decode cX8_sees 244 = .ok (.goto 50, 3) := by decide +kernel
theorem dX8_sees_247 : decode cX8_sees 247 = .ok (.aload_n 0, 1) := by decide +kernel
theorem dX8_sees_248 : decode cX8_sees 248 = .ok (.getfield 43, 3) := by decide +kernel
theorem dX8_sees_251 : decode cX8_sees 251 = .ok (.iload_n 1, 1) := by decide +kernel
theorem dX8_sees_252 : decode cX8_sees 252 = .ok (.iaload, 1) := by decide +kernel
theorem dX8_sees_253 : decode cX8_sees 253 = .ok (.iconst 5, 1) := by decide +kernel
theorem dX8_sees_254 : decode cX8_sees 254 = .ok (.if_icmp .ne 23, 3) := by decide +kernel
theorem dX8_sees_257 : decode cX8_sees 257 = .ok (.aload_n 0, 1) := by decide +kernel
theorem dX8_sees_258 : decode cX8_sees 258 = .ok (.getfield 46, 3) := by decide +kernel
theorem dX8_sees_261 : decode cX8_sees 261 = .ok (.iload_n 1, 1) := by decide +kernel
theorem dX8_sees_262 : decode cX8_sees 262 = .ok (.iaload, 1) := by decide +kernel
theorem dX8_sees_263 : decode cX8_sees 263 = .ok (.ifCond .ne 14, 3) := by decide +kernel
theorem dX8_sees_266 : decode cX8_sees 266 = .ok (.aload_n 0, 1) := by decide +kernel
theorem dX8_sees_267 : decode cX8_sees 267 = .ok (.iload_n 1, 1) := by decide +kernel
theorem dX8_sees_268 : decode cX8_sees 268 = .ok (.bipush 6, 2) := by decide +kernel
theorem dX8_sees_270 : decode cX8_sees 270 = .ok (.iconst 3, 1) := by decide +kernel
theorem dX8_sees_271 : decode cX8_sees 271 = .ok (.invokevirtual 250, 3) := by decide +kernel
theorem dX8_sees_274 : decode cX8_sees 274 = .ok (.goto 20, 3) := by decide +kernel
theorem dX8_sees_277 : decode cX8_sees 277 = .ok (.aload_n 0, 1) := by decide +kernel
theorem dX8_sees_278 : decode cX8_sees 278 = .ok (.getfield 43, 3) := by decide +kernel
theorem dX8_sees_281 : decode cX8_sees 281 = .ok (.iload_n 1, 1) := by decide +kernel
theorem dX8_sees_282 : decode cX8_sees 282 = .ok (.iaload, 1) := by decide +kernel
theorem dX8_sees_283 : decode cX8_sees 283 = .ok (.bipush 6, 2) := by decide +kernel
theorem dX8_sees_285 : decode cX8_sees 285 = .ok (.if_icmp .ne 9, 3) := by decide +kernel
theorem dX8_sees_288 : decode cX8_sees 288 = .ok (.aload_n 0, 1) := by decide +kernel
theorem dX8_sees_289 : decode cX8_sees 289 = .ok (.iload_n 1, 1) := by decide +kernel
theorem dX8_sees_290 : decode cX8_sees 290 = .ok (.iload_n 2, 1) := by decide +kernel
theorem dX8_sees_291 : decode cX8_sees 291 = .ok (.invokevirtual 257, 3) := by decide +kernel
theorem dX8_sees_294 : decode cX8_sees 294 = .ok (.return_, 1) := by decide +kernel
noncomputable def f_X8_sees  (v : Nat → Int32) (m : Nat → Nat → Int32) (p1 : Int32) (p2 : Int32) : Option ((Nat → Int32) × (Nat → Nat → Int32)) := gd (vp_in p1 32) (if ((m 9) p1.toNatClampNeg) = 0 then gd (vp_in p1 32) (bd (f_X8_first v (va_up m 14 (upd (m 14) p1.toNatClampNeg 0)) p1) (fun ⟨u137, u138, u139⟩ => if u139 = (-1) then if p2 = 1 then some (u137, u138) else lt (α := Int32) (if u139 = (-1) then 2 else 1) (fun x282 => gd (vp_in p1 32) (gd (vp_in p1 32) (gd (vp_in p1 32) (jn (α := (Nat → Int32) × (Nat → Nat → Int32) × Int32) (fun ⟨x289, x290, x291⟩ => some (x289, x290)) (fun k292 => if ((upd (u138 9) p1.toNatClampNeg x282) p1.toNatClampNeg) = 1 then bd (f_X8_sent u137 (va_up (va_up u138 9 (upd (u138 9) p1.toNatClampNeg x282)) 11 (upd (u138 11) p1.toNatClampNeg u139)) p1 p2) (fun ⟨u419, u420⟩ => k292 (u419, u420, u139)) else gd (vp_in p1 32) (if ((upd (u138 9) p1.toNatClampNeg x282) p1.toNatClampNeg) = 2 then bd (f_X8_see (va_up (va_up u138 9 (upd (u138 9) p1.toNatClampNeg x282)) 11 (upd (u138 11) p1.toNatClampNeg u139)) p1 p2) (fun u397 => bd (f_X8_read u137 u397 p1) (fun ⟨u399, u400, u401⟩ => jn (α := (Nat → Int32) × (Nat → Nat → Int32)) (fun ⟨x403, x404⟩ => k292 (x403, x404, u401)) (fun k405 => if u401 = 10 then bd (f_X8_take u399 u400 p1) (fun ⟨u414, u415⟩ => k405 (u414, u415)) else if u401 = 11 then bd (f_X8_go u400 p1 6 3) (fun u411 => k405 (u399, u411)) else if u401 = (-1) then k405 (u399, u400) else bd (f_X8_wrong u399 u400 p1 u401) (fun ⟨u407, u408⟩ => k405 (u407, u408))))) else gd (vp_in p1 32) (lt (α := Int32) (((u138 10) p1.toNatClampNeg) - 1) (fun v296 => gd (vp_in p1 32) (gd (vp_in p1 32) (if ((upd (u138 9) p1.toNatClampNeg x282) p1.toNatClampNeg) = 3 then gd (vp_in p1 32) (lt (α := Int32) (if ((upd (u138 10) p1.toNatClampNeg v296) p1.toNatClampNeg) = 0 then 4 else 3) (fun x391 => gd (vp_in p1 32) (k292 (u137, (va_up (va_up (va_up (va_up u138 9 (upd (u138 9) p1.toNatClampNeg x282)) 11 (upd (u138 11) p1.toNatClampNeg u139)) 10 (upd (u138 10) p1.toNatClampNeg v296)) 9 (upd (upd (u138 9) p1.toNatClampNeg x282) p1.toNatClampNeg x391)), u139)))) else gd (vp_in p1 32) (if ((upd (u138 9) p1.toNatClampNeg x282) p1.toNatClampNeg) = 4 then if p2 = 1 then bd (f_X8_go (va_up (va_up (va_up u138 9 (upd (u138 9) p1.toNatClampNeg x282)) 11 (upd (u138 11) p1.toNatClampNeg u139)) 10 (upd (u138 10) p1.toNatClampNeg v296)) p1 5 7) (fun u386 => k292 (u137, u386, u139)) else gd (vp_in p1 32) (if ((upd (u138 9) p1.toNatClampNeg x282) p1.toNatClampNeg) = 5 then if p2 = 0 then gd (vp_in p1 32) (lt (α := Int32) (if ((upd (u138 10) p1.toNatClampNeg v296) p1.toNatClampNeg) = 0 then 5 else 2) (fun x377 => bd (f_X8_wrong u137 (va_up (va_up (va_up u138 9 (upd (u138 9) p1.toNatClampNeg x282)) 11 (upd (u138 11) p1.toNatClampNeg u139)) 10 (upd (u138 10) p1.toNatClampNeg v296)) p1 x377) (fun ⟨u381, u382⟩ => k292 (u381, u382, u139)))) else gd (vp_in p1 32) (if ((upd (u138 9) p1.toNatClampNeg x282) p1.toNatClampNeg) = 5 then gd (vp_in p1 32) (if ((upd (u138 10) p1.toNatClampNeg v296) p1.toNatClampNeg) = 0 then bd (f_X8_go (va_up (va_up (va_up u138 9 (upd (u138 9) p1.toNatClampNeg x282)) 11 (upd (u138 11) p1.toNatClampNeg u139)) 10 (upd (u138 10) p1.toNatClampNeg v296)) p1 6 3) (fun u372 => k292 (u137, u372, u139)) else gd (vp_in p1 32) (if ((upd (u138 9) p1.toNatClampNeg x282) p1.toNatClampNeg) = 6 then bd (f_X8_pauses u137 (va_up (va_up (va_up u138 9 (upd (u138 9) p1.toNatClampNeg x282)) 11 (upd (u138 11) p1.toNatClampNeg u139)) 10 (upd (u138 10) p1.toNatClampNeg v296)) p1 p2) (fun ⟨u368, u369⟩ => k292 (u368, u369, u139)) else k292 (u137, (va_up (va_up (va_up u138 9 (upd (u138 9) p1.toNatClampNeg x282)) 11 (upd (u138 11) p1.toNatClampNeg u139)) 10 (upd (u138 10) p1.toNatClampNeg v296)), u139))) else gd (vp_in p1 32) (if ((upd (u138 9) p1.toNatClampNeg x282) p1.toNatClampNeg) = 6 then bd (f_X8_pauses u137 (va_up (va_up (va_up u138 9 (upd (u138 9) p1.toNatClampNeg x282)) 11 (upd (u138 11) p1.toNatClampNeg u139)) 10 (upd (u138 10) p1.toNatClampNeg v296)) p1 p2) (fun ⟨u362, u363⟩ => k292 (u362, u363, u139)) else k292 (u137, (va_up (va_up (va_up u138 9 (upd (u138 9) p1.toNatClampNeg x282)) 11 (upd (u138 11) p1.toNatClampNeg u139)) 10 (upd (u138 10) p1.toNatClampNeg v296)), u139))) else gd (vp_in p1 32) (if ((upd (u138 9) p1.toNatClampNeg x282) p1.toNatClampNeg) = 5 then gd (vp_in p1 32) (if ((upd (u138 10) p1.toNatClampNeg v296) p1.toNatClampNeg) = 0 then bd (f_X8_go (va_up (va_up (va_up u138 9 (upd (u138 9) p1.toNatClampNeg x282)) 11 (upd (u138 11) p1.toNatClampNeg u139)) 10 (upd (u138 10) p1.toNatClampNeg v296)) p1 6 3) (fun u356 => k292 (u137, u356, u139)) else gd (vp_in p1 32) (if ((upd (u138 9) p1.toNatClampNeg x282) p1.toNatClampNeg) = 6 then bd (f_X8_pauses u137 (va_up (va_up (va_up u138 9 (upd (u138 9) p1.toNatClampNeg x282)) 11 (upd (u138 11) p1.toNatClampNeg u139)) 10 (upd (u138 10) p1.toNatClampNeg v296)) p1 p2) (fun ⟨u352, u353⟩ => k292 (u352, u353, u139)) else k292 (u137, (va_up (va_up (va_up u138 9 (upd (u138 9) p1.toNatClampNeg x282)) 11 (upd (u138 11) p1.toNatClampNeg u139)) 10 (upd (u138 10) p1.toNatClampNeg v296)), u139))) else gd (vp_in p1 32) (if ((upd (u138 9) p1.toNatClampNeg x282) p1.toNatClampNeg) = 6 then bd (f_X8_pauses u137 (va_up (va_up (va_up u138 9 (upd (u138 9) p1.toNatClampNeg x282)) 11 (upd (u138 11) p1.toNatClampNeg u139)) 10 (upd (u138 10) p1.toNatClampNeg v296)) p1 p2) (fun ⟨u346, u347⟩ => k292 (u346, u347, u139)) else k292 (u137, (va_up (va_up (va_up u138 9 (upd (u138 9) p1.toNatClampNeg x282)) 11 (upd (u138 11) p1.toNatClampNeg u139)) 10 (upd (u138 10) p1.toNatClampNeg v296)), u139)))) else gd (vp_in p1 32) (if ((upd (u138 9) p1.toNatClampNeg x282) p1.toNatClampNeg) = 5 then if p2 = 0 then gd (vp_in p1 32) (lt (α := Int32) (if ((upd (u138 10) p1.toNatClampNeg v296) p1.toNatClampNeg) = 0 then 5 else 2) (fun x334 => bd (f_X8_wrong u137 (va_up (va_up (va_up u138 9 (upd (u138 9) p1.toNatClampNeg x282)) 11 (upd (u138 11) p1.toNatClampNeg u139)) 10 (upd (u138 10) p1.toNatClampNeg v296)) p1 x334) (fun ⟨u338, u339⟩ => k292 (u338, u339, u139)))) else gd (vp_in p1 32) (if ((upd (u138 9) p1.toNatClampNeg x282) p1.toNatClampNeg) = 5 then gd (vp_in p1 32) (if ((upd (u138 10) p1.toNatClampNeg v296) p1.toNatClampNeg) = 0 then bd (f_X8_go (va_up (va_up (va_up u138 9 (upd (u138 9) p1.toNatClampNeg x282)) 11 (upd (u138 11) p1.toNatClampNeg u139)) 10 (upd (u138 10) p1.toNatClampNeg v296)) p1 6 3) (fun u329 => k292 (u137, u329, u139)) else gd (vp_in p1 32) (if ((upd (u138 9) p1.toNatClampNeg x282) p1.toNatClampNeg) = 6 then bd (f_X8_pauses u137 (va_up (va_up (va_up u138 9 (upd (u138 9) p1.toNatClampNeg x282)) 11 (upd (u138 11) p1.toNatClampNeg u139)) 10 (upd (u138 10) p1.toNatClampNeg v296)) p1 p2) (fun ⟨u325, u326⟩ => k292 (u325, u326, u139)) else k292 (u137, (va_up (va_up (va_up u138 9 (upd (u138 9) p1.toNatClampNeg x282)) 11 (upd (u138 11) p1.toNatClampNeg u139)) 10 (upd (u138 10) p1.toNatClampNeg v296)), u139))) else gd (vp_in p1 32) (if ((upd (u138 9) p1.toNatClampNeg x282) p1.toNatClampNeg) = 6 then bd (f_X8_pauses u137 (va_up (va_up (va_up u138 9 (upd (u138 9) p1.toNatClampNeg x282)) 11 (upd (u138 11) p1.toNatClampNeg u139)) 10 (upd (u138 10) p1.toNatClampNeg v296)) p1 p2) (fun ⟨u319, u320⟩ => k292 (u319, u320, u139)) else k292 (u137, (va_up (va_up (va_up u138 9 (upd (u138 9) p1.toNatClampNeg x282)) 11 (upd (u138 11) p1.toNatClampNeg u139)) 10 (upd (u138 10) p1.toNatClampNeg v296)), u139))) else gd (vp_in p1 32) (if ((upd (u138 9) p1.toNatClampNeg x282) p1.toNatClampNeg) = 5 then gd (vp_in p1 32) (if ((upd (u138 10) p1.toNatClampNeg v296) p1.toNatClampNeg) = 0 then bd (f_X8_go (va_up (va_up (va_up u138 9 (upd (u138 9) p1.toNatClampNeg x282)) 11 (upd (u138 11) p1.toNatClampNeg u139)) 10 (upd (u138 10) p1.toNatClampNeg v296)) p1 6 3) (fun u313 => k292 (u137, u313, u139)) else gd (vp_in p1 32) (if ((upd (u138 9) p1.toNatClampNeg x282) p1.toNatClampNeg) = 6 then bd (f_X8_pauses u137 (va_up (va_up (va_up u138 9 (upd (u138 9) p1.toNatClampNeg x282)) 11 (upd (u138 11) p1.toNatClampNeg u139)) 10 (upd (u138 10) p1.toNatClampNeg v296)) p1 p2) (fun ⟨u309, u310⟩ => k292 (u309, u310, u139)) else k292 (u137, (va_up (va_up (va_up u138 9 (upd (u138 9) p1.toNatClampNeg x282)) 11 (upd (u138 11) p1.toNatClampNeg u139)) 10 (upd (u138 10) p1.toNatClampNeg v296)), u139))) else gd (vp_in p1 32) (if ((upd (u138 9) p1.toNatClampNeg x282) p1.toNatClampNeg) = 6 then bd (f_X8_pauses u137 (va_up (va_up (va_up u138 9 (upd (u138 9) p1.toNatClampNeg x282)) 11 (upd (u138 11) p1.toNatClampNeg u139)) 10 (upd (u138 10) p1.toNatClampNeg v296)) p1 p2) (fun ⟨u303, u304⟩ => k292 (u303, u304, u139)) else k292 (u137, (va_up (va_up (va_up u138 9 (upd (u138 9) p1.toNatClampNeg x282)) 11 (upd (u138 11) p1.toNatClampNeg u139)) 10 (upd (u138 10) p1.toNatClampNeg v296)), u139))))))))))))))) else lt (α := Int32) (if u139 = (-1) then 2 else 1) (fun x141 => gd (vp_in p1 32) (gd (vp_in p1 32) (gd (vp_in p1 32) (jn (α := (Nat → Int32) × (Nat → Nat → Int32) × Int32) (fun ⟨x148, x149, x150⟩ => some (x148, x149)) (fun k151 => if ((upd (u138 9) p1.toNatClampNeg x141) p1.toNatClampNeg) = 1 then bd (f_X8_sent u137 (va_up (va_up u138 9 (upd (u138 9) p1.toNatClampNeg x141)) 11 (upd (u138 11) p1.toNatClampNeg u139)) p1 p2) (fun ⟨u278, u279⟩ => k151 (u278, u279, u139)) else gd (vp_in p1 32) (if ((upd (u138 9) p1.toNatClampNeg x141) p1.toNatClampNeg) = 2 then bd (f_X8_see (va_up (va_up u138 9 (upd (u138 9) p1.toNatClampNeg x141)) 11 (upd (u138 11) p1.toNatClampNeg u139)) p1 p2) (fun u256 => bd (f_X8_read u137 u256 p1) (fun ⟨u258, u259, u260⟩ => jn (α := (Nat → Int32) × (Nat → Nat → Int32)) (fun ⟨x262, x263⟩ => k151 (x262, x263, u260)) (fun k264 => if u260 = 10 then bd (f_X8_take u258 u259 p1) (fun ⟨u273, u274⟩ => k264 (u273, u274)) else if u260 = 11 then bd (f_X8_go u259 p1 6 3) (fun u270 => k264 (u258, u270)) else if u260 = (-1) then k264 (u258, u259) else bd (f_X8_wrong u258 u259 p1 u260) (fun ⟨u266, u267⟩ => k264 (u266, u267))))) else gd (vp_in p1 32) (lt (α := Int32) (((u138 10) p1.toNatClampNeg) - 1) (fun v155 => gd (vp_in p1 32) (gd (vp_in p1 32) (if ((upd (u138 9) p1.toNatClampNeg x141) p1.toNatClampNeg) = 3 then gd (vp_in p1 32) (lt (α := Int32) (if ((upd (u138 10) p1.toNatClampNeg v155) p1.toNatClampNeg) = 0 then 4 else 3) (fun x250 => gd (vp_in p1 32) (k151 (u137, (va_up (va_up (va_up (va_up u138 9 (upd (u138 9) p1.toNatClampNeg x141)) 11 (upd (u138 11) p1.toNatClampNeg u139)) 10 (upd (u138 10) p1.toNatClampNeg v155)) 9 (upd (upd (u138 9) p1.toNatClampNeg x141) p1.toNatClampNeg x250)), u139)))) else gd (vp_in p1 32) (if ((upd (u138 9) p1.toNatClampNeg x141) p1.toNatClampNeg) = 4 then if p2 = 1 then bd (f_X8_go (va_up (va_up (va_up u138 9 (upd (u138 9) p1.toNatClampNeg x141)) 11 (upd (u138 11) p1.toNatClampNeg u139)) 10 (upd (u138 10) p1.toNatClampNeg v155)) p1 5 7) (fun u245 => k151 (u137, u245, u139)) else gd (vp_in p1 32) (if ((upd (u138 9) p1.toNatClampNeg x141) p1.toNatClampNeg) = 5 then if p2 = 0 then gd (vp_in p1 32) (lt (α := Int32) (if ((upd (u138 10) p1.toNatClampNeg v155) p1.toNatClampNeg) = 0 then 5 else 2) (fun x236 => bd (f_X8_wrong u137 (va_up (va_up (va_up u138 9 (upd (u138 9) p1.toNatClampNeg x141)) 11 (upd (u138 11) p1.toNatClampNeg u139)) 10 (upd (u138 10) p1.toNatClampNeg v155)) p1 x236) (fun ⟨u240, u241⟩ => k151 (u240, u241, u139)))) else gd (vp_in p1 32) (if ((upd (u138 9) p1.toNatClampNeg x141) p1.toNatClampNeg) = 5 then gd (vp_in p1 32) (if ((upd (u138 10) p1.toNatClampNeg v155) p1.toNatClampNeg) = 0 then bd (f_X8_go (va_up (va_up (va_up u138 9 (upd (u138 9) p1.toNatClampNeg x141)) 11 (upd (u138 11) p1.toNatClampNeg u139)) 10 (upd (u138 10) p1.toNatClampNeg v155)) p1 6 3) (fun u231 => k151 (u137, u231, u139)) else gd (vp_in p1 32) (if ((upd (u138 9) p1.toNatClampNeg x141) p1.toNatClampNeg) = 6 then bd (f_X8_pauses u137 (va_up (va_up (va_up u138 9 (upd (u138 9) p1.toNatClampNeg x141)) 11 (upd (u138 11) p1.toNatClampNeg u139)) 10 (upd (u138 10) p1.toNatClampNeg v155)) p1 p2) (fun ⟨u227, u228⟩ => k151 (u227, u228, u139)) else k151 (u137, (va_up (va_up (va_up u138 9 (upd (u138 9) p1.toNatClampNeg x141)) 11 (upd (u138 11) p1.toNatClampNeg u139)) 10 (upd (u138 10) p1.toNatClampNeg v155)), u139))) else gd (vp_in p1 32) (if ((upd (u138 9) p1.toNatClampNeg x141) p1.toNatClampNeg) = 6 then bd (f_X8_pauses u137 (va_up (va_up (va_up u138 9 (upd (u138 9) p1.toNatClampNeg x141)) 11 (upd (u138 11) p1.toNatClampNeg u139)) 10 (upd (u138 10) p1.toNatClampNeg v155)) p1 p2) (fun ⟨u221, u222⟩ => k151 (u221, u222, u139)) else k151 (u137, (va_up (va_up (va_up u138 9 (upd (u138 9) p1.toNatClampNeg x141)) 11 (upd (u138 11) p1.toNatClampNeg u139)) 10 (upd (u138 10) p1.toNatClampNeg v155)), u139))) else gd (vp_in p1 32) (if ((upd (u138 9) p1.toNatClampNeg x141) p1.toNatClampNeg) = 5 then gd (vp_in p1 32) (if ((upd (u138 10) p1.toNatClampNeg v155) p1.toNatClampNeg) = 0 then bd (f_X8_go (va_up (va_up (va_up u138 9 (upd (u138 9) p1.toNatClampNeg x141)) 11 (upd (u138 11) p1.toNatClampNeg u139)) 10 (upd (u138 10) p1.toNatClampNeg v155)) p1 6 3) (fun u215 => k151 (u137, u215, u139)) else gd (vp_in p1 32) (if ((upd (u138 9) p1.toNatClampNeg x141) p1.toNatClampNeg) = 6 then bd (f_X8_pauses u137 (va_up (va_up (va_up u138 9 (upd (u138 9) p1.toNatClampNeg x141)) 11 (upd (u138 11) p1.toNatClampNeg u139)) 10 (upd (u138 10) p1.toNatClampNeg v155)) p1 p2) (fun ⟨u211, u212⟩ => k151 (u211, u212, u139)) else k151 (u137, (va_up (va_up (va_up u138 9 (upd (u138 9) p1.toNatClampNeg x141)) 11 (upd (u138 11) p1.toNatClampNeg u139)) 10 (upd (u138 10) p1.toNatClampNeg v155)), u139))) else gd (vp_in p1 32) (if ((upd (u138 9) p1.toNatClampNeg x141) p1.toNatClampNeg) = 6 then bd (f_X8_pauses u137 (va_up (va_up (va_up u138 9 (upd (u138 9) p1.toNatClampNeg x141)) 11 (upd (u138 11) p1.toNatClampNeg u139)) 10 (upd (u138 10) p1.toNatClampNeg v155)) p1 p2) (fun ⟨u205, u206⟩ => k151 (u205, u206, u139)) else k151 (u137, (va_up (va_up (va_up u138 9 (upd (u138 9) p1.toNatClampNeg x141)) 11 (upd (u138 11) p1.toNatClampNeg u139)) 10 (upd (u138 10) p1.toNatClampNeg v155)), u139)))) else gd (vp_in p1 32) (if ((upd (u138 9) p1.toNatClampNeg x141) p1.toNatClampNeg) = 5 then if p2 = 0 then gd (vp_in p1 32) (lt (α := Int32) (if ((upd (u138 10) p1.toNatClampNeg v155) p1.toNatClampNeg) = 0 then 5 else 2) (fun x193 => bd (f_X8_wrong u137 (va_up (va_up (va_up u138 9 (upd (u138 9) p1.toNatClampNeg x141)) 11 (upd (u138 11) p1.toNatClampNeg u139)) 10 (upd (u138 10) p1.toNatClampNeg v155)) p1 x193) (fun ⟨u197, u198⟩ => k151 (u197, u198, u139)))) else gd (vp_in p1 32) (if ((upd (u138 9) p1.toNatClampNeg x141) p1.toNatClampNeg) = 5 then gd (vp_in p1 32) (if ((upd (u138 10) p1.toNatClampNeg v155) p1.toNatClampNeg) = 0 then bd (f_X8_go (va_up (va_up (va_up u138 9 (upd (u138 9) p1.toNatClampNeg x141)) 11 (upd (u138 11) p1.toNatClampNeg u139)) 10 (upd (u138 10) p1.toNatClampNeg v155)) p1 6 3) (fun u188 => k151 (u137, u188, u139)) else gd (vp_in p1 32) (if ((upd (u138 9) p1.toNatClampNeg x141) p1.toNatClampNeg) = 6 then bd (f_X8_pauses u137 (va_up (va_up (va_up u138 9 (upd (u138 9) p1.toNatClampNeg x141)) 11 (upd (u138 11) p1.toNatClampNeg u139)) 10 (upd (u138 10) p1.toNatClampNeg v155)) p1 p2) (fun ⟨u184, u185⟩ => k151 (u184, u185, u139)) else k151 (u137, (va_up (va_up (va_up u138 9 (upd (u138 9) p1.toNatClampNeg x141)) 11 (upd (u138 11) p1.toNatClampNeg u139)) 10 (upd (u138 10) p1.toNatClampNeg v155)), u139))) else gd (vp_in p1 32) (if ((upd (u138 9) p1.toNatClampNeg x141) p1.toNatClampNeg) = 6 then bd (f_X8_pauses u137 (va_up (va_up (va_up u138 9 (upd (u138 9) p1.toNatClampNeg x141)) 11 (upd (u138 11) p1.toNatClampNeg u139)) 10 (upd (u138 10) p1.toNatClampNeg v155)) p1 p2) (fun ⟨u178, u179⟩ => k151 (u178, u179, u139)) else k151 (u137, (va_up (va_up (va_up u138 9 (upd (u138 9) p1.toNatClampNeg x141)) 11 (upd (u138 11) p1.toNatClampNeg u139)) 10 (upd (u138 10) p1.toNatClampNeg v155)), u139))) else gd (vp_in p1 32) (if ((upd (u138 9) p1.toNatClampNeg x141) p1.toNatClampNeg) = 5 then gd (vp_in p1 32) (if ((upd (u138 10) p1.toNatClampNeg v155) p1.toNatClampNeg) = 0 then bd (f_X8_go (va_up (va_up (va_up u138 9 (upd (u138 9) p1.toNatClampNeg x141)) 11 (upd (u138 11) p1.toNatClampNeg u139)) 10 (upd (u138 10) p1.toNatClampNeg v155)) p1 6 3) (fun u172 => k151 (u137, u172, u139)) else gd (vp_in p1 32) (if ((upd (u138 9) p1.toNatClampNeg x141) p1.toNatClampNeg) = 6 then bd (f_X8_pauses u137 (va_up (va_up (va_up u138 9 (upd (u138 9) p1.toNatClampNeg x141)) 11 (upd (u138 11) p1.toNatClampNeg u139)) 10 (upd (u138 10) p1.toNatClampNeg v155)) p1 p2) (fun ⟨u168, u169⟩ => k151 (u168, u169, u139)) else k151 (u137, (va_up (va_up (va_up u138 9 (upd (u138 9) p1.toNatClampNeg x141)) 11 (upd (u138 11) p1.toNatClampNeg u139)) 10 (upd (u138 10) p1.toNatClampNeg v155)), u139))) else gd (vp_in p1 32) (if ((upd (u138 9) p1.toNatClampNeg x141) p1.toNatClampNeg) = 6 then bd (f_X8_pauses u137 (va_up (va_up (va_up u138 9 (upd (u138 9) p1.toNatClampNeg x141)) 11 (upd (u138 11) p1.toNatClampNeg u139)) 10 (upd (u138 10) p1.toNatClampNeg v155)) p1 p2) (fun ⟨u162, u163⟩ => k151 (u162, u163, u139)) else k151 (u137, (va_up (va_up (va_up u138 9 (upd (u138 9) p1.toNatClampNeg x141)) 11 (upd (u138 11) p1.toNatClampNeg u139)) 10 (upd (u138 10) p1.toNatClampNeg v155)), u139))))))))))))))))) else gd (vp_in p1 32) (jn (α := (Nat → Int32) × (Nat → Nat → Int32)) (fun ⟨x3, x4⟩ => some (x3, x4)) (fun k5 => if ((m 9) p1.toNatClampNeg) = 1 then bd (f_X8_sent v m p1 p2) (fun ⟨u132, u133⟩ => k5 (u132, u133)) else gd (vp_in p1 32) (if ((m 9) p1.toNatClampNeg) = 2 then bd (f_X8_see m p1 p2) (fun u110 => bd (f_X8_read v u110 p1) (fun ⟨u112, u113, u114⟩ => jn (α := (Nat → Int32) × (Nat → Nat → Int32)) (fun ⟨x116, x117⟩ => k5 (x116, x117)) (fun k118 => if u114 = 10 then bd (f_X8_take u112 u113 p1) (fun ⟨u127, u128⟩ => k118 (u127, u128)) else if u114 = 11 then bd (f_X8_go u113 p1 6 3) (fun u124 => k118 (u112, u124)) else if u114 = (-1) then k118 (u112, u113) else bd (f_X8_wrong u112 u113 p1 u114) (fun ⟨u120, u121⟩ => k118 (u120, u121))))) else gd (vp_in p1 32) (lt (α := Int32) (((m 10) p1.toNatClampNeg) - 1) (fun v9 => gd (vp_in p1 32) (gd (vp_in p1 32) (if ((m 9) p1.toNatClampNeg) = 3 then gd (vp_in p1 32) (lt (α := Int32) (if ((upd (m 10) p1.toNatClampNeg v9) p1.toNatClampNeg) = 0 then 4 else 3) (fun x104 => gd (vp_in p1 32) (k5 (v, (va_up (va_up m 10 (upd (m 10) p1.toNatClampNeg v9)) 9 (upd (m 9) p1.toNatClampNeg x104)))))) else gd (vp_in p1 32) (if ((m 9) p1.toNatClampNeg) = 4 then if p2 = 1 then bd (f_X8_go (va_up m 10 (upd (m 10) p1.toNatClampNeg v9)) p1 5 7) (fun u99 => k5 (v, u99)) else gd (vp_in p1 32) (if ((m 9) p1.toNatClampNeg) = 5 then if p2 = 0 then gd (vp_in p1 32) (lt (α := Int32) (if ((upd (m 10) p1.toNatClampNeg v9) p1.toNatClampNeg) = 0 then 5 else 2) (fun x90 => bd (f_X8_wrong v (va_up m 10 (upd (m 10) p1.toNatClampNeg v9)) p1 x90) (fun ⟨u94, u95⟩ => k5 (u94, u95)))) else gd (vp_in p1 32) (if ((m 9) p1.toNatClampNeg) = 5 then gd (vp_in p1 32) (if ((upd (m 10) p1.toNatClampNeg v9) p1.toNatClampNeg) = 0 then bd (f_X8_go (va_up m 10 (upd (m 10) p1.toNatClampNeg v9)) p1 6 3) (fun u85 => k5 (v, u85)) else gd (vp_in p1 32) (if ((m 9) p1.toNatClampNeg) = 6 then bd (f_X8_pauses v (va_up m 10 (upd (m 10) p1.toNatClampNeg v9)) p1 p2) (fun ⟨u81, u82⟩ => k5 (u81, u82)) else k5 (v, (va_up m 10 (upd (m 10) p1.toNatClampNeg v9))))) else gd (vp_in p1 32) (if ((m 9) p1.toNatClampNeg) = 6 then bd (f_X8_pauses v (va_up m 10 (upd (m 10) p1.toNatClampNeg v9)) p1 p2) (fun ⟨u75, u76⟩ => k5 (u75, u76)) else k5 (v, (va_up m 10 (upd (m 10) p1.toNatClampNeg v9))))) else gd (vp_in p1 32) (if ((m 9) p1.toNatClampNeg) = 5 then gd (vp_in p1 32) (if ((upd (m 10) p1.toNatClampNeg v9) p1.toNatClampNeg) = 0 then bd (f_X8_go (va_up m 10 (upd (m 10) p1.toNatClampNeg v9)) p1 6 3) (fun u69 => k5 (v, u69)) else gd (vp_in p1 32) (if ((m 9) p1.toNatClampNeg) = 6 then bd (f_X8_pauses v (va_up m 10 (upd (m 10) p1.toNatClampNeg v9)) p1 p2) (fun ⟨u65, u66⟩ => k5 (u65, u66)) else k5 (v, (va_up m 10 (upd (m 10) p1.toNatClampNeg v9))))) else gd (vp_in p1 32) (if ((m 9) p1.toNatClampNeg) = 6 then bd (f_X8_pauses v (va_up m 10 (upd (m 10) p1.toNatClampNeg v9)) p1 p2) (fun ⟨u59, u60⟩ => k5 (u59, u60)) else k5 (v, (va_up m 10 (upd (m 10) p1.toNatClampNeg v9)))))) else gd (vp_in p1 32) (if ((m 9) p1.toNatClampNeg) = 5 then if p2 = 0 then gd (vp_in p1 32) (lt (α := Int32) (if ((upd (m 10) p1.toNatClampNeg v9) p1.toNatClampNeg) = 0 then 5 else 2) (fun x47 => bd (f_X8_wrong v (va_up m 10 (upd (m 10) p1.toNatClampNeg v9)) p1 x47) (fun ⟨u51, u52⟩ => k5 (u51, u52)))) else gd (vp_in p1 32) (if ((m 9) p1.toNatClampNeg) = 5 then gd (vp_in p1 32) (if ((upd (m 10) p1.toNatClampNeg v9) p1.toNatClampNeg) = 0 then bd (f_X8_go (va_up m 10 (upd (m 10) p1.toNatClampNeg v9)) p1 6 3) (fun u42 => k5 (v, u42)) else gd (vp_in p1 32) (if ((m 9) p1.toNatClampNeg) = 6 then bd (f_X8_pauses v (va_up m 10 (upd (m 10) p1.toNatClampNeg v9)) p1 p2) (fun ⟨u38, u39⟩ => k5 (u38, u39)) else k5 (v, (va_up m 10 (upd (m 10) p1.toNatClampNeg v9))))) else gd (vp_in p1 32) (if ((m 9) p1.toNatClampNeg) = 6 then bd (f_X8_pauses v (va_up m 10 (upd (m 10) p1.toNatClampNeg v9)) p1 p2) (fun ⟨u32, u33⟩ => k5 (u32, u33)) else k5 (v, (va_up m 10 (upd (m 10) p1.toNatClampNeg v9))))) else gd (vp_in p1 32) (if ((m 9) p1.toNatClampNeg) = 5 then gd (vp_in p1 32) (if ((upd (m 10) p1.toNatClampNeg v9) p1.toNatClampNeg) = 0 then bd (f_X8_go (va_up m 10 (upd (m 10) p1.toNatClampNeg v9)) p1 6 3) (fun u26 => k5 (v, u26)) else gd (vp_in p1 32) (if ((m 9) p1.toNatClampNeg) = 6 then bd (f_X8_pauses v (va_up m 10 (upd (m 10) p1.toNatClampNeg v9)) p1 p2) (fun ⟨u22, u23⟩ => k5 (u22, u23)) else k5 (v, (va_up m 10 (upd (m 10) p1.toNatClampNeg v9))))) else gd (vp_in p1 32) (if ((m 9) p1.toNatClampNeg) = 6 then bd (f_X8_pauses v (va_up m 10 (upd (m 10) p1.toNatClampNeg v9)) p1 p2) (fun ⟨u16, u17⟩ => k5 (u16, u17)) else k5 (v, (va_up m 10 (upd (m 10) p1.toNatClampNeg v9)))))))))))))))
set_option maxHeartbeats 4000000 in
set_option maxRecDepth 100000 in
theorem c_X8_sees (l : Launch) (Λ : LY) (hF : FM Λ) (σ : CS)  (v : Nat → Int32) (m : Nat → Nat → Int32) (p1 : Int32) (p2 : Int32)   {v' : Nat → Int32} {m' : Nat → Nat → Int32} (hf : f_X8_sees v m p1 p2 = some (v', m')) : CM l yX8_sees (.code yX8_sees cX8_sees 4 none :: TT) ({ frames := 5, cells := 0, slots := 0, locals := 115 }) Λ [.ref (ya Λ 18 0), .int p1, .int p2] (qM σ v m) (qM σ v' m') (none) := by
  refine CM_intro (own := RX8) (by decide) rfl (Nat.le_of_ble_eq_true rfl) ?_
  intro Γ hg hl hΓ hE
  subst hg; subst hl
  show GG Γ (0, 0) (qM σ v m) 0 [(0, .ref (ya (gl Γ) 18 0)), (1, .int p1), (2, .int p2)] []
  unfold f_X8_sees at hf
  refine G_aload_n hΓ 0 dX8_sees_0 rfl ?_
  refine F_get hΓ (t := 18) (i := 0) (ci := 11) (C := RX8) (T := TX8) (N := 47) (fs8 (gl Γ) 0) (v := .ref (ya (gl Γ) 19 9)) (FMi hF (t := 18) (by decide)) (fun _ _ _ => rfl) rfl rfl rfl rfl inW8 14 (by decide) (TT_cons kw_894) rfl dX8_sees_1 ?_
  refine G_iload_n hΓ 1 dX8_sees_4 rfl ?_
  obtain ⟨hg1, hf⟩ := gd_some hf
  refine F_ald (G_iald hΓ) (t := 19) (i := 9) (f := (m 9)) (FMi hF (t := 19) (by decide)) (fun _ _ _ => rfl) rfl hg1 dX8_sees_5 ?_
  refine G_if_ne hΓ (tgt := 56) dX8_sees_6 (by decide) (fun hc425 => ?_) (fun hc425 => ?_)
  · rw [if_neg hc425] at hf
    refine G_aload_n hΓ 0 dX8_sees_56 rfl ?_
    refine F_get hΓ (t := 18) (i := 0) (ci := 11) (C := RX8) (T := TX8) (N := 47) (fs8 (gl Γ) 0) (v := .ref (ya (gl Γ) 19 9)) (FMi hF (t := 18) (by decide)) (fun _ _ _ => rfl) rfl rfl rfl rfl inW8 14 (by decide) (TT_cons kw_894) rfl dX8_sees_57 ?_
    refine G_iload_n hΓ 1 dX8_sees_60 rfl ?_
    obtain ⟨hg2, hf⟩ := gd_some hf
    refine F_ald (G_iald hΓ) (t := 19) (i := 9) (f := (m 9)) (FMi hF (t := 19) (by decide)) (fun _ _ _ => rfl) rfl hg2 dX8_sees_61 ?_
    refine G_iconst (v := 1) hΓ dX8_sees_62 (by decide) ?_
    obtain ⟨k5, hk_k5, hf⟩ := jn_eq hf
    try dsimp only at hf
    have K6 : ∀ x3 x4, k5 (x3, x4) = some (v', m') → GG Γ (0, 0) (qM σ x3 x4) 294 [(0, .ref (ya (gl Γ) 18 0)), (1, .int p1), (2, .int p2)] [] := by
      intro x3 x4 hf
      subst hk_k5
      try dsimp only at hf
      cases hf
      exact G_vret hΓ hE dX8_sees_294
    clear hk_k5
    refine G_icmp_ne hΓ (tgt := 75) dX8_sees_63 (by decide) (fun hc135 => ?_) (fun hc135 => ?_)
    · rw [if_neg hc135] at hf
      refine G_aload_n hΓ 0 dX8_sees_75 rfl ?_
      refine F_get hΓ (t := 18) (i := 0) (ci := 11) (C := RX8) (T := TX8) (N := 47) (fs8 (gl Γ) 0) (v := .ref (ya (gl Γ) 19 9)) (FMi hF (t := 18) (by decide)) (fun _ _ _ => rfl) rfl rfl rfl rfl inW8 14 (by decide) (TT_cons kw_894) rfl dX8_sees_76 ?_
      refine G_iload_n hΓ 1 dX8_sees_79 rfl ?_
      obtain ⟨hg7, hf⟩ := gd_some hf
      refine F_ald (G_iald hΓ) (t := 19) (i := 9) (f := (m 9)) (FMi hF (t := 19) (by decide)) (fun _ _ _ => rfl) rfl hg7 dX8_sees_80 ?_
      refine G_iconst (v := 2) hΓ dX8_sees_81 (by decide) ?_
      refine G_icmp_ne hΓ (tgt := 142) dX8_sees_82 (by decide) (fun hc131 => ?_) (fun hc131 => ?_)
      · rw [if_neg hc131] at hf
        refine G_aload_n hΓ 0 dX8_sees_142 rfl ?_
        refine F_get hΓ (t := 18) (i := 0) (ci := 11) (C := RX8) (T := TX8) (N := 47) (fs8 (gl Γ) 0) (v := .ref (ya (gl Γ) 19 10)) (FMi hF (t := 18) (by decide)) (fun _ _ _ => rfl) rfl rfl rfl rfl inW8 15 (by decide) (TT_cons kw_895) rfl dX8_sees_143 ?_
        refine G_iload_n hΓ 1 dX8_sees_146 rfl ?_
        refine G_dup2 hΓ dX8_sees_147 rfl rfl ?_
        obtain ⟨hg8, hf⟩ := gd_some hf
        refine F_ald (G_iald hΓ) (t := 19) (i := 10) (f := (m 10)) (FMi hF (t := 19) (by decide)) (fun _ _ _ => rfl) rfl hg8 dX8_sees_148 ?_
        refine G_iconst (v := 1) hΓ dX8_sees_149 (by decide) ?_
        refine G_isub hΓ dX8_sees_150 ?_
        obtain ⟨v9, hv_v9, hf⟩ := lt_eq hf
        refine G_topi hv_v9 ?_
        obtain ⟨hg10, hf⟩ := gd_some hf
        refine F_iast hΓ (t := 19) (i := 10) (f := (m 10)) (σ' := (qM σ v (va_up m 10 (upd (m 10) p1.toNatClampNeg v9)))) (FMi hF (t := 19) (by decide)) (fun _ _ _ => rfl) rfl qM_m hg10 dX8_sees_151 ?_
        refine G_aload_n hΓ 0 dX8_sees_152 rfl ?_
        refine F_get hΓ (t := 18) (i := 0) (ci := 11) (C := RX8) (T := TX8) (N := 47) (fs8 (gl Γ) 0) (v := .ref (ya (gl Γ) 19 9)) (FMi hF (t := 18) (by decide)) (fun _ _ _ => rfl) rfl rfl rfl rfl inW8 14 (by decide) (TT_cons kw_894) rfl dX8_sees_153 ?_
        refine G_iload_n hΓ 1 dX8_sees_156 rfl ?_
        obtain ⟨hg11, hf⟩ := gd_some hf
        refine F_ald (G_iald hΓ) (t := 19) (i := 9) (f := (m 9)) (FMi hF (t := 19) (by decide)) (fun _ _ _ => rfl) rfl hg11 dX8_sees_157 ?_
        refine G_iconst (v := 3) hΓ dX8_sees_158 (by decide) ?_
        refine G_icmp_ne hΓ (tgt := 185) dX8_sees_159 (by decide) (fun hc109 => ?_) (fun hc109 => ?_)
        · rw [if_neg hc109] at hf
          refine G_aload_n hΓ 0 dX8_sees_185 rfl ?_
          refine F_get hΓ (t := 18) (i := 0) (ci := 11) (C := RX8) (T := TX8) (N := 47) (fs8 (gl Γ) 0) (v := .ref (ya (gl Γ) 19 9)) (FMi hF (t := 18) (by decide)) (fun _ _ _ => rfl) rfl rfl rfl rfl inW8 14 (by decide) (TT_cons kw_894) rfl dX8_sees_186 ?_
          refine G_iload_n hΓ 1 dX8_sees_189 rfl ?_
          obtain ⟨hg12, hf⟩ := gd_some hf
          refine F_ald (G_iald hΓ) (t := 19) (i := 9) (f := (m 9)) (FMi hF (t := 19) (by decide)) (fun _ _ _ => rfl) rfl hg12 dX8_sees_190 ?_
          refine G_iconst (v := 4) hΓ dX8_sees_191 (by decide) ?_
          refine G_icmp_ne hΓ (tgt := 211) dX8_sees_192 (by decide) (fun hc102 => ?_) (fun hc102 => ?_)
          · rw [if_neg hc102] at hf
            refine G_aload_n hΓ 0 dX8_sees_211 rfl ?_
            refine F_get hΓ (t := 18) (i := 0) (ci := 11) (C := RX8) (T := TX8) (N := 47) (fs8 (gl Γ) 0) (v := .ref (ya (gl Γ) 19 9)) (FMi hF (t := 18) (by decide)) (fun _ _ _ => rfl) rfl rfl rfl rfl inW8 14 (by decide) (TT_cons kw_894) rfl dX8_sees_212 ?_
            refine G_iload_n hΓ 1 dX8_sees_215 rfl ?_
            obtain ⟨hg13, hf⟩ := gd_some hf
            refine F_ald (G_iald hΓ) (t := 19) (i := 9) (f := (m 9)) (FMi hF (t := 19) (by decide)) (fun _ _ _ => rfl) rfl hg13 dX8_sees_216 ?_
            refine G_iconst (v := 5) hΓ dX8_sees_217 (by decide) ?_
            refine G_icmp_ne hΓ (tgt := 247) dX8_sees_218 (by decide) (fun hc55 => ?_) (fun hc55 => ?_)
            · rw [if_neg hc55] at hf
              refine G_aload_n hΓ 0 dX8_sees_247 rfl ?_
              refine F_get hΓ (t := 18) (i := 0) (ci := 11) (C := RX8) (T := TX8) (N := 47) (fs8 (gl Γ) 0) (v := .ref (ya (gl Γ) 19 9)) (FMi hF (t := 18) (by decide)) (fun _ _ _ => rfl) rfl rfl rfl rfl inW8 14 (by decide) (TT_cons kw_894) rfl dX8_sees_248 ?_
              refine G_iload_n hΓ 1 dX8_sees_251 rfl ?_
              obtain ⟨hg14, hf⟩ := gd_some hf
              refine F_ald (G_iald hΓ) (t := 19) (i := 9) (f := (m 9)) (FMi hF (t := 19) (by decide)) (fun _ _ _ => rfl) rfl hg14 dX8_sees_252 ?_
              refine G_iconst (v := 5) hΓ dX8_sees_253 (by decide) ?_
              refine G_icmp_ne hΓ (tgt := 277) dX8_sees_254 (by decide) (fun hc29 => ?_) (fun hc29 => ?_)
              · rw [if_neg hc29] at hf
                refine G_aload_n hΓ 0 dX8_sees_277 rfl ?_
                refine F_get hΓ (t := 18) (i := 0) (ci := 11) (C := RX8) (T := TX8) (N := 47) (fs8 (gl Γ) 0) (v := .ref (ya (gl Γ) 19 9)) (FMi hF (t := 18) (by decide)) (fun _ _ _ => rfl) rfl rfl rfl rfl inW8 14 (by decide) (TT_cons kw_894) rfl dX8_sees_278 ?_
                refine G_iload_n hΓ 1 dX8_sees_281 rfl ?_
                obtain ⟨hg15, hf⟩ := gd_some hf
                refine F_ald (G_iald hΓ) (t := 19) (i := 9) (f := (m 9)) (FMi hF (t := 19) (by decide)) (fun _ _ _ => rfl) rfl hg15 dX8_sees_282 ?_
                refine G_bipush (v := 6) hΓ dX8_sees_283 (by decide) ?_
                refine G_icmp_ne hΓ (tgt := 294) dX8_sees_285 (by decide) (fun hc19 => ?_) (fun hc19 => ?_)
                · rw [if_neg hc19] at hf
                  exact K6 _ _ hf
                · rw [if_pos hc19] at hf
                  refine G_aload_n hΓ 0 dX8_sees_288 rfl ?_
                  refine G_iload_n hΓ 1 dX8_sees_289 rfl ?_
                  refine G_iload_n hΓ 2 dX8_sees_290 rfl ?_
                  obtain ⟨⟨u16, u17⟩, hc18, hf⟩ := bd_some hf
                  try dsimp only at hf
                  refine G_callV hΓ (n := 2) (As := [.int p1, .int p2]) (t := 18) (i := 0) (ci := 11) (T := TX8) (N := 47) (FS := fs8 (gl Γ) 0) (σ' := (qM σ u16 u17)) (c_X8_pauses (gL Γ) (gl Γ) hF σ  v (va_up m 10 (upd (m 10) p1.toNatClampNeg v9)) p1 p2  hc18) rfl rfl kw_1181 kw_1183 kp_56 kw_9 kw_1184 ⟨rfl, by decide, by decide, by decide +kernel⟩ (FMi hF (t := 18) (by decide)) (fun _ _ _ => rfl) rfl rfl rfl ⟨Nat.le_of_ble_eq_true rfl, Nat.le_of_ble_eq_true rfl⟩ rfl (Nat.le_of_ble_eq_true rfl) dX8_sees_291 ⟨_, rfl⟩ rfl ?_
                  exact K6 _ _ hf
              · rw [if_pos hc29] at hf
                refine G_aload_n hΓ 0 dX8_sees_257 rfl ?_
                refine F_get hΓ (t := 18) (i := 0) (ci := 11) (C := RX8) (T := TX8) (N := 47) (fs8 (gl Γ) 0) (v := .ref (ya (gl Γ) 19 10)) (FMi hF (t := 18) (by decide)) (fun _ _ _ => rfl) rfl rfl rfl rfl inW8 15 (by decide) (TT_cons kw_895) rfl dX8_sees_258 ?_
                refine G_iload_n hΓ 1 dX8_sees_261 rfl ?_
                obtain ⟨hg20, hf⟩ := gd_some hf
                refine F_ald (G_iald hΓ) (t := 19) (i := 10) (f := (upd (m 10) p1.toNatClampNeg v9)) (FMi hF (t := 19) (by decide)) (fun _ _ _ => rfl) rfl hg20 dX8_sees_262 ?_
                refine G_if_ne hΓ (tgt := 277) dX8_sees_263 (by decide) (fun hc28 => ?_) (fun hc28 => ?_)
                · rw [if_neg hc28] at hf
                  refine G_aload_n hΓ 0 dX8_sees_277 rfl ?_
                  refine F_get hΓ (t := 18) (i := 0) (ci := 11) (C := RX8) (T := TX8) (N := 47) (fs8 (gl Γ) 0) (v := .ref (ya (gl Γ) 19 9)) (FMi hF (t := 18) (by decide)) (fun _ _ _ => rfl) rfl rfl rfl rfl inW8 14 (by decide) (TT_cons kw_894) rfl dX8_sees_278 ?_
                  refine G_iload_n hΓ 1 dX8_sees_281 rfl ?_
                  obtain ⟨hg21, hf⟩ := gd_some hf
                  refine F_ald (G_iald hΓ) (t := 19) (i := 9) (f := (m 9)) (FMi hF (t := 19) (by decide)) (fun _ _ _ => rfl) rfl hg21 dX8_sees_282 ?_
                  refine G_bipush (v := 6) hΓ dX8_sees_283 (by decide) ?_
                  refine G_icmp_ne hΓ (tgt := 294) dX8_sees_285 (by decide) (fun hc25 => ?_) (fun hc25 => ?_)
                  · rw [if_neg hc25] at hf
                    exact K6 _ _ hf
                  · rw [if_pos hc25] at hf
                    refine G_aload_n hΓ 0 dX8_sees_288 rfl ?_
                    refine G_iload_n hΓ 1 dX8_sees_289 rfl ?_
                    refine G_iload_n hΓ 2 dX8_sees_290 rfl ?_
                    obtain ⟨⟨u22, u23⟩, hc24, hf⟩ := bd_some hf
                    try dsimp only at hf
                    refine G_callV hΓ (n := 2) (As := [.int p1, .int p2]) (t := 18) (i := 0) (ci := 11) (T := TX8) (N := 47) (FS := fs8 (gl Γ) 0) (σ' := (qM σ u22 u23)) (c_X8_pauses (gL Γ) (gl Γ) hF σ  v (va_up m 10 (upd (m 10) p1.toNatClampNeg v9)) p1 p2  hc24) rfl rfl kw_1181 kw_1183 kp_56 kw_9 kw_1184 ⟨rfl, by decide, by decide, by decide +kernel⟩ (FMi hF (t := 18) (by decide)) (fun _ _ _ => rfl) rfl rfl rfl ⟨Nat.le_of_ble_eq_true rfl, Nat.le_of_ble_eq_true rfl⟩ rfl (Nat.le_of_ble_eq_true rfl) dX8_sees_291 ⟨_, rfl⟩ rfl ?_
                    exact K6 _ _ hf
                · rw [if_pos hc28] at hf
                  refine G_aload_n hΓ 0 dX8_sees_266 rfl ?_
                  refine G_iload_n hΓ 1 dX8_sees_267 rfl ?_
                  refine G_bipush (v := 6) hΓ dX8_sees_268 (by decide) ?_
                  refine G_iconst (v := 3) hΓ dX8_sees_270 (by decide) ?_
                  obtain ⟨u26, hc27, hf⟩ := bd_some hf
                  refine G_callV hΓ (n := 3) (As := [.int p1, .int 6, .int 3]) (t := 18) (i := 0) (ci := 11) (T := TX8) (N := 47) (FS := fs8 (gl Γ) 0) (σ' := (qM σ v u26)) (c_X8_go (gL Γ) (gl Γ) hF σ  v (va_up m 10 (upd (m 10) p1.toNatClampNeg v9)) p1 6 3  hc27) rfl rfl kw_1169 kw_1171 kp_53 kw_9 kw_1172 ⟨rfl, by decide, by decide, by decide +kernel⟩ (FMi hF (t := 18) (by decide)) (fun _ _ _ => rfl) rfl rfl rfl ⟨Nat.le_of_ble_eq_true rfl, Nat.le_of_ble_eq_true rfl⟩ rfl (Nat.le_of_ble_eq_true rfl) dX8_sees_271 ⟨_, rfl⟩ rfl ?_
                  refine G_goto hΓ (tgt := 294) dX8_sees_274 (by decide) ?_
                  exact K6 _ _ hf
            · rw [if_pos hc55] at hf
              refine G_iload_n hΓ 2 dX8_sees_221 rfl ?_
              refine G_if_ne hΓ (tgt := 247) dX8_sees_222 (by decide) (fun hc54 => ?_) (fun hc54 => ?_)
              · rw [if_neg hc54] at hf
                refine G_aload_n hΓ 0 dX8_sees_247 rfl ?_
                refine F_get hΓ (t := 18) (i := 0) (ci := 11) (C := RX8) (T := TX8) (N := 47) (fs8 (gl Γ) 0) (v := .ref (ya (gl Γ) 19 9)) (FMi hF (t := 18) (by decide)) (fun _ _ _ => rfl) rfl rfl rfl rfl inW8 14 (by decide) (TT_cons kw_894) rfl dX8_sees_248 ?_
                refine G_iload_n hΓ 1 dX8_sees_251 rfl ?_
                obtain ⟨hg30, hf⟩ := gd_some hf
                refine F_ald (G_iald hΓ) (t := 19) (i := 9) (f := (m 9)) (FMi hF (t := 19) (by decide)) (fun _ _ _ => rfl) rfl hg30 dX8_sees_252 ?_
                refine G_iconst (v := 5) hΓ dX8_sees_253 (by decide) ?_
                refine G_icmp_ne hΓ (tgt := 277) dX8_sees_254 (by decide) (fun hc45 => ?_) (fun hc45 => ?_)
                · rw [if_neg hc45] at hf
                  refine G_aload_n hΓ 0 dX8_sees_277 rfl ?_
                  refine F_get hΓ (t := 18) (i := 0) (ci := 11) (C := RX8) (T := TX8) (N := 47) (fs8 (gl Γ) 0) (v := .ref (ya (gl Γ) 19 9)) (FMi hF (t := 18) (by decide)) (fun _ _ _ => rfl) rfl rfl rfl rfl inW8 14 (by decide) (TT_cons kw_894) rfl dX8_sees_278 ?_
                  refine G_iload_n hΓ 1 dX8_sees_281 rfl ?_
                  obtain ⟨hg31, hf⟩ := gd_some hf
                  refine F_ald (G_iald hΓ) (t := 19) (i := 9) (f := (m 9)) (FMi hF (t := 19) (by decide)) (fun _ _ _ => rfl) rfl hg31 dX8_sees_282 ?_
                  refine G_bipush (v := 6) hΓ dX8_sees_283 (by decide) ?_
                  refine G_icmp_ne hΓ (tgt := 294) dX8_sees_285 (by decide) (fun hc35 => ?_) (fun hc35 => ?_)
                  · rw [if_neg hc35] at hf
                    exact K6 _ _ hf
                  · rw [if_pos hc35] at hf
                    refine G_aload_n hΓ 0 dX8_sees_288 rfl ?_
                    refine G_iload_n hΓ 1 dX8_sees_289 rfl ?_
                    refine G_iload_n hΓ 2 dX8_sees_290 rfl ?_
                    obtain ⟨⟨u32, u33⟩, hc34, hf⟩ := bd_some hf
                    try dsimp only at hf
                    refine G_callV hΓ (n := 2) (As := [.int p1, .int p2]) (t := 18) (i := 0) (ci := 11) (T := TX8) (N := 47) (FS := fs8 (gl Γ) 0) (σ' := (qM σ u32 u33)) (c_X8_pauses (gL Γ) (gl Γ) hF σ  v (va_up m 10 (upd (m 10) p1.toNatClampNeg v9)) p1 p2  hc34) rfl rfl kw_1181 kw_1183 kp_56 kw_9 kw_1184 ⟨rfl, by decide, by decide, by decide +kernel⟩ (FMi hF (t := 18) (by decide)) (fun _ _ _ => rfl) rfl rfl rfl ⟨Nat.le_of_ble_eq_true rfl, Nat.le_of_ble_eq_true rfl⟩ rfl (Nat.le_of_ble_eq_true rfl) dX8_sees_291 ⟨_, rfl⟩ rfl ?_
                    exact K6 _ _ hf
                · rw [if_pos hc45] at hf
                  refine G_aload_n hΓ 0 dX8_sees_257 rfl ?_
                  refine F_get hΓ (t := 18) (i := 0) (ci := 11) (C := RX8) (T := TX8) (N := 47) (fs8 (gl Γ) 0) (v := .ref (ya (gl Γ) 19 10)) (FMi hF (t := 18) (by decide)) (fun _ _ _ => rfl) rfl rfl rfl rfl inW8 15 (by decide) (TT_cons kw_895) rfl dX8_sees_258 ?_
                  refine G_iload_n hΓ 1 dX8_sees_261 rfl ?_
                  obtain ⟨hg36, hf⟩ := gd_some hf
                  refine F_ald (G_iald hΓ) (t := 19) (i := 10) (f := (upd (m 10) p1.toNatClampNeg v9)) (FMi hF (t := 19) (by decide)) (fun _ _ _ => rfl) rfl hg36 dX8_sees_262 ?_
                  refine G_if_ne hΓ (tgt := 277) dX8_sees_263 (by decide) (fun hc44 => ?_) (fun hc44 => ?_)
                  · rw [if_neg hc44] at hf
                    refine G_aload_n hΓ 0 dX8_sees_277 rfl ?_
                    refine F_get hΓ (t := 18) (i := 0) (ci := 11) (C := RX8) (T := TX8) (N := 47) (fs8 (gl Γ) 0) (v := .ref (ya (gl Γ) 19 9)) (FMi hF (t := 18) (by decide)) (fun _ _ _ => rfl) rfl rfl rfl rfl inW8 14 (by decide) (TT_cons kw_894) rfl dX8_sees_278 ?_
                    refine G_iload_n hΓ 1 dX8_sees_281 rfl ?_
                    obtain ⟨hg37, hf⟩ := gd_some hf
                    refine F_ald (G_iald hΓ) (t := 19) (i := 9) (f := (m 9)) (FMi hF (t := 19) (by decide)) (fun _ _ _ => rfl) rfl hg37 dX8_sees_282 ?_
                    refine G_bipush (v := 6) hΓ dX8_sees_283 (by decide) ?_
                    refine G_icmp_ne hΓ (tgt := 294) dX8_sees_285 (by decide) (fun hc41 => ?_) (fun hc41 => ?_)
                    · rw [if_neg hc41] at hf
                      exact K6 _ _ hf
                    · rw [if_pos hc41] at hf
                      refine G_aload_n hΓ 0 dX8_sees_288 rfl ?_
                      refine G_iload_n hΓ 1 dX8_sees_289 rfl ?_
                      refine G_iload_n hΓ 2 dX8_sees_290 rfl ?_
                      obtain ⟨⟨u38, u39⟩, hc40, hf⟩ := bd_some hf
                      try dsimp only at hf
                      refine G_callV hΓ (n := 2) (As := [.int p1, .int p2]) (t := 18) (i := 0) (ci := 11) (T := TX8) (N := 47) (FS := fs8 (gl Γ) 0) (σ' := (qM σ u38 u39)) (c_X8_pauses (gL Γ) (gl Γ) hF σ  v (va_up m 10 (upd (m 10) p1.toNatClampNeg v9)) p1 p2  hc40) rfl rfl kw_1181 kw_1183 kp_56 kw_9 kw_1184 ⟨rfl, by decide, by decide, by decide +kernel⟩ (FMi hF (t := 18) (by decide)) (fun _ _ _ => rfl) rfl rfl rfl ⟨Nat.le_of_ble_eq_true rfl, Nat.le_of_ble_eq_true rfl⟩ rfl (Nat.le_of_ble_eq_true rfl) dX8_sees_291 ⟨_, rfl⟩ rfl ?_
                      exact K6 _ _ hf
                  · rw [if_pos hc44] at hf
                    refine G_aload_n hΓ 0 dX8_sees_266 rfl ?_
                    refine G_iload_n hΓ 1 dX8_sees_267 rfl ?_
                    refine G_bipush (v := 6) hΓ dX8_sees_268 (by decide) ?_
                    refine G_iconst (v := 3) hΓ dX8_sees_270 (by decide) ?_
                    obtain ⟨u42, hc43, hf⟩ := bd_some hf
                    refine G_callV hΓ (n := 3) (As := [.int p1, .int 6, .int 3]) (t := 18) (i := 0) (ci := 11) (T := TX8) (N := 47) (FS := fs8 (gl Γ) 0) (σ' := (qM σ v u42)) (c_X8_go (gL Γ) (gl Γ) hF σ  v (va_up m 10 (upd (m 10) p1.toNatClampNeg v9)) p1 6 3  hc43) rfl rfl kw_1169 kw_1171 kp_53 kw_9 kw_1172 ⟨rfl, by decide, by decide, by decide +kernel⟩ (FMi hF (t := 18) (by decide)) (fun _ _ _ => rfl) rfl rfl rfl ⟨Nat.le_of_ble_eq_true rfl, Nat.le_of_ble_eq_true rfl⟩ rfl (Nat.le_of_ble_eq_true rfl) dX8_sees_271 ⟨_, rfl⟩ rfl ?_
                    refine G_goto hΓ (tgt := 294) dX8_sees_274 (by decide) ?_
                    exact K6 _ _ hf
              · rw [if_pos hc54] at hf
                refine G_aload_n hΓ 0 dX8_sees_225 rfl ?_
                refine G_iload_n hΓ 1 dX8_sees_226 rfl ?_
                refine G_aload_n hΓ 0 dX8_sees_227 rfl ?_
                refine F_get hΓ (t := 18) (i := 0) (ci := 11) (C := RX8) (T := TX8) (N := 47) (fs8 (gl Γ) 0) (v := .ref (ya (gl Γ) 19 10)) (FMi hF (t := 18) (by decide)) (fun _ _ _ => rfl) rfl rfl rfl rfl inW8 15 (by decide) (TT_cons kw_895) rfl dX8_sees_228 ?_
                refine G_iload_n hΓ 1 dX8_sees_231 rfl ?_
                obtain ⟨hg46, hf⟩ := gd_some hf
                refine F_ald (G_iald hΓ) (t := 19) (i := 10) (f := (upd (m 10) p1.toNatClampNeg v9)) (FMi hF (t := 19) (by decide)) (fun _ _ _ => rfl) rfl hg46 dX8_sees_232 ?_
                obtain ⟨x47, he50, hf⟩ := lt_eq hf
                have K48 : GG Γ (0, 0) (qM σ v (va_up m 10 (upd (m 10) p1.toNatClampNeg v9))) 241 [(0, .ref (ya (gl Γ) 18 0)), (1, .int p1), (2, .int p2)] [.int x47, .int p1, .ref (ya (gl Γ) 18 0)] := by
                  obtain ⟨⟨u51, u52⟩, hc53, hf⟩ := bd_some hf
                  try dsimp only at hf
                  refine G_callV hΓ (n := 2) (As := [.int p1, .int x47]) (t := 18) (i := 0) (ci := 11) (T := TX8) (N := 47) (FS := fs8 (gl Γ) 0) (σ' := (qM σ u51 u52)) (c_X8_wrong (gL Γ) (gl Γ) hF σ  v (va_up m 10 (upd (m 10) p1.toNatClampNeg v9)) p1 x47  hc53) rfl rfl kw_1165 kw_1167 kp_52 kw_9 kw_1168 ⟨rfl, by decide, by decide, by decide +kernel⟩ (FMi hF (t := 18) (by decide)) (fun _ _ _ => rfl) rfl rfl rfl ⟨Nat.le_of_ble_eq_true rfl, Nat.le_of_ble_eq_true rfl⟩ rfl (Nat.le_of_ble_eq_true rfl) dX8_sees_241 ⟨_, rfl⟩ rfl ?_
                  refine G_goto hΓ (tgt := 294) dX8_sees_244 (by decide) ?_
                  exact K6 _ _ hf
                have he := he50
                refine G_if_ne hΓ (tgt := 240) dX8_sees_233 (by decide) (fun hc49 => ?_) (fun hc49 => ?_)
                · rw [if_neg hc49] at he
                  refine G_iconst (v := 2) hΓ dX8_sees_240 (by decide) ?_
                  subst he
                  exact K48
                · rw [if_pos hc49] at he
                  refine G_iconst (v := 5) hΓ dX8_sees_236 (by decide) ?_
                  refine G_goto hΓ (tgt := 241) dX8_sees_237 (by decide) ?_
                  subst he
                  exact K48
          · rw [if_pos hc102] at hf
            refine G_iload_n hΓ 2 dX8_sees_195 rfl ?_
            refine G_iconst (v := 1) hΓ dX8_sees_196 (by decide) ?_
            refine G_icmp_ne hΓ (tgt := 211) dX8_sees_197 (by decide) (fun hc101 => ?_) (fun hc101 => ?_)
            · rw [if_neg hc101] at hf
              refine G_aload_n hΓ 0 dX8_sees_211 rfl ?_
              refine F_get hΓ (t := 18) (i := 0) (ci := 11) (C := RX8) (T := TX8) (N := 47) (fs8 (gl Γ) 0) (v := .ref (ya (gl Γ) 19 9)) (FMi hF (t := 18) (by decide)) (fun _ _ _ => rfl) rfl rfl rfl rfl inW8 14 (by decide) (TT_cons kw_894) rfl dX8_sees_212 ?_
              refine G_iload_n hΓ 1 dX8_sees_215 rfl ?_
              obtain ⟨hg56, hf⟩ := gd_some hf
              refine F_ald (G_iald hΓ) (t := 19) (i := 9) (f := (m 9)) (FMi hF (t := 19) (by decide)) (fun _ _ _ => rfl) rfl hg56 dX8_sees_216 ?_
              refine G_iconst (v := 5) hΓ dX8_sees_217 (by decide) ?_
              refine G_icmp_ne hΓ (tgt := 247) dX8_sees_218 (by decide) (fun hc98 => ?_) (fun hc98 => ?_)
              · rw [if_neg hc98] at hf
                refine G_aload_n hΓ 0 dX8_sees_247 rfl ?_
                refine F_get hΓ (t := 18) (i := 0) (ci := 11) (C := RX8) (T := TX8) (N := 47) (fs8 (gl Γ) 0) (v := .ref (ya (gl Γ) 19 9)) (FMi hF (t := 18) (by decide)) (fun _ _ _ => rfl) rfl rfl rfl rfl inW8 14 (by decide) (TT_cons kw_894) rfl dX8_sees_248 ?_
                refine G_iload_n hΓ 1 dX8_sees_251 rfl ?_
                obtain ⟨hg57, hf⟩ := gd_some hf
                refine F_ald (G_iald hΓ) (t := 19) (i := 9) (f := (m 9)) (FMi hF (t := 19) (by decide)) (fun _ _ _ => rfl) rfl hg57 dX8_sees_252 ?_
                refine G_iconst (v := 5) hΓ dX8_sees_253 (by decide) ?_
                refine G_icmp_ne hΓ (tgt := 277) dX8_sees_254 (by decide) (fun hc72 => ?_) (fun hc72 => ?_)
                · rw [if_neg hc72] at hf
                  refine G_aload_n hΓ 0 dX8_sees_277 rfl ?_
                  refine F_get hΓ (t := 18) (i := 0) (ci := 11) (C := RX8) (T := TX8) (N := 47) (fs8 (gl Γ) 0) (v := .ref (ya (gl Γ) 19 9)) (FMi hF (t := 18) (by decide)) (fun _ _ _ => rfl) rfl rfl rfl rfl inW8 14 (by decide) (TT_cons kw_894) rfl dX8_sees_278 ?_
                  refine G_iload_n hΓ 1 dX8_sees_281 rfl ?_
                  obtain ⟨hg58, hf⟩ := gd_some hf
                  refine F_ald (G_iald hΓ) (t := 19) (i := 9) (f := (m 9)) (FMi hF (t := 19) (by decide)) (fun _ _ _ => rfl) rfl hg58 dX8_sees_282 ?_
                  refine G_bipush (v := 6) hΓ dX8_sees_283 (by decide) ?_
                  refine G_icmp_ne hΓ (tgt := 294) dX8_sees_285 (by decide) (fun hc62 => ?_) (fun hc62 => ?_)
                  · rw [if_neg hc62] at hf
                    exact K6 _ _ hf
                  · rw [if_pos hc62] at hf
                    refine G_aload_n hΓ 0 dX8_sees_288 rfl ?_
                    refine G_iload_n hΓ 1 dX8_sees_289 rfl ?_
                    refine G_iload_n hΓ 2 dX8_sees_290 rfl ?_
                    obtain ⟨⟨u59, u60⟩, hc61, hf⟩ := bd_some hf
                    try dsimp only at hf
                    refine G_callV hΓ (n := 2) (As := [.int p1, .int p2]) (t := 18) (i := 0) (ci := 11) (T := TX8) (N := 47) (FS := fs8 (gl Γ) 0) (σ' := (qM σ u59 u60)) (c_X8_pauses (gL Γ) (gl Γ) hF σ  v (va_up m 10 (upd (m 10) p1.toNatClampNeg v9)) p1 p2  hc61) rfl rfl kw_1181 kw_1183 kp_56 kw_9 kw_1184 ⟨rfl, by decide, by decide, by decide +kernel⟩ (FMi hF (t := 18) (by decide)) (fun _ _ _ => rfl) rfl rfl rfl ⟨Nat.le_of_ble_eq_true rfl, Nat.le_of_ble_eq_true rfl⟩ rfl (Nat.le_of_ble_eq_true rfl) dX8_sees_291 ⟨_, rfl⟩ rfl ?_
                    exact K6 _ _ hf
                · rw [if_pos hc72] at hf
                  refine G_aload_n hΓ 0 dX8_sees_257 rfl ?_
                  refine F_get hΓ (t := 18) (i := 0) (ci := 11) (C := RX8) (T := TX8) (N := 47) (fs8 (gl Γ) 0) (v := .ref (ya (gl Γ) 19 10)) (FMi hF (t := 18) (by decide)) (fun _ _ _ => rfl) rfl rfl rfl rfl inW8 15 (by decide) (TT_cons kw_895) rfl dX8_sees_258 ?_
                  refine G_iload_n hΓ 1 dX8_sees_261 rfl ?_
                  obtain ⟨hg63, hf⟩ := gd_some hf
                  refine F_ald (G_iald hΓ) (t := 19) (i := 10) (f := (upd (m 10) p1.toNatClampNeg v9)) (FMi hF (t := 19) (by decide)) (fun _ _ _ => rfl) rfl hg63 dX8_sees_262 ?_
                  refine G_if_ne hΓ (tgt := 277) dX8_sees_263 (by decide) (fun hc71 => ?_) (fun hc71 => ?_)
                  · rw [if_neg hc71] at hf
                    refine G_aload_n hΓ 0 dX8_sees_277 rfl ?_
                    refine F_get hΓ (t := 18) (i := 0) (ci := 11) (C := RX8) (T := TX8) (N := 47) (fs8 (gl Γ) 0) (v := .ref (ya (gl Γ) 19 9)) (FMi hF (t := 18) (by decide)) (fun _ _ _ => rfl) rfl rfl rfl rfl inW8 14 (by decide) (TT_cons kw_894) rfl dX8_sees_278 ?_
                    refine G_iload_n hΓ 1 dX8_sees_281 rfl ?_
                    obtain ⟨hg64, hf⟩ := gd_some hf
                    refine F_ald (G_iald hΓ) (t := 19) (i := 9) (f := (m 9)) (FMi hF (t := 19) (by decide)) (fun _ _ _ => rfl) rfl hg64 dX8_sees_282 ?_
                    refine G_bipush (v := 6) hΓ dX8_sees_283 (by decide) ?_
                    refine G_icmp_ne hΓ (tgt := 294) dX8_sees_285 (by decide) (fun hc68 => ?_) (fun hc68 => ?_)
                    · rw [if_neg hc68] at hf
                      exact K6 _ _ hf
                    · rw [if_pos hc68] at hf
                      refine G_aload_n hΓ 0 dX8_sees_288 rfl ?_
                      refine G_iload_n hΓ 1 dX8_sees_289 rfl ?_
                      refine G_iload_n hΓ 2 dX8_sees_290 rfl ?_
                      obtain ⟨⟨u65, u66⟩, hc67, hf⟩ := bd_some hf
                      try dsimp only at hf
                      refine G_callV hΓ (n := 2) (As := [.int p1, .int p2]) (t := 18) (i := 0) (ci := 11) (T := TX8) (N := 47) (FS := fs8 (gl Γ) 0) (σ' := (qM σ u65 u66)) (c_X8_pauses (gL Γ) (gl Γ) hF σ  v (va_up m 10 (upd (m 10) p1.toNatClampNeg v9)) p1 p2  hc67) rfl rfl kw_1181 kw_1183 kp_56 kw_9 kw_1184 ⟨rfl, by decide, by decide, by decide +kernel⟩ (FMi hF (t := 18) (by decide)) (fun _ _ _ => rfl) rfl rfl rfl ⟨Nat.le_of_ble_eq_true rfl, Nat.le_of_ble_eq_true rfl⟩ rfl (Nat.le_of_ble_eq_true rfl) dX8_sees_291 ⟨_, rfl⟩ rfl ?_
                      exact K6 _ _ hf
                  · rw [if_pos hc71] at hf
                    refine G_aload_n hΓ 0 dX8_sees_266 rfl ?_
                    refine G_iload_n hΓ 1 dX8_sees_267 rfl ?_
                    refine G_bipush (v := 6) hΓ dX8_sees_268 (by decide) ?_
                    refine G_iconst (v := 3) hΓ dX8_sees_270 (by decide) ?_
                    obtain ⟨u69, hc70, hf⟩ := bd_some hf
                    refine G_callV hΓ (n := 3) (As := [.int p1, .int 6, .int 3]) (t := 18) (i := 0) (ci := 11) (T := TX8) (N := 47) (FS := fs8 (gl Γ) 0) (σ' := (qM σ v u69)) (c_X8_go (gL Γ) (gl Γ) hF σ  v (va_up m 10 (upd (m 10) p1.toNatClampNeg v9)) p1 6 3  hc70) rfl rfl kw_1169 kw_1171 kp_53 kw_9 kw_1172 ⟨rfl, by decide, by decide, by decide +kernel⟩ (FMi hF (t := 18) (by decide)) (fun _ _ _ => rfl) rfl rfl rfl ⟨Nat.le_of_ble_eq_true rfl, Nat.le_of_ble_eq_true rfl⟩ rfl (Nat.le_of_ble_eq_true rfl) dX8_sees_271 ⟨_, rfl⟩ rfl ?_
                    refine G_goto hΓ (tgt := 294) dX8_sees_274 (by decide) ?_
                    exact K6 _ _ hf
              · rw [if_pos hc98] at hf
                refine G_iload_n hΓ 2 dX8_sees_221 rfl ?_
                refine G_if_ne hΓ (tgt := 247) dX8_sees_222 (by decide) (fun hc97 => ?_) (fun hc97 => ?_)
                · rw [if_neg hc97] at hf
                  refine G_aload_n hΓ 0 dX8_sees_247 rfl ?_
                  refine F_get hΓ (t := 18) (i := 0) (ci := 11) (C := RX8) (T := TX8) (N := 47) (fs8 (gl Γ) 0) (v := .ref (ya (gl Γ) 19 9)) (FMi hF (t := 18) (by decide)) (fun _ _ _ => rfl) rfl rfl rfl rfl inW8 14 (by decide) (TT_cons kw_894) rfl dX8_sees_248 ?_
                  refine G_iload_n hΓ 1 dX8_sees_251 rfl ?_
                  obtain ⟨hg73, hf⟩ := gd_some hf
                  refine F_ald (G_iald hΓ) (t := 19) (i := 9) (f := (m 9)) (FMi hF (t := 19) (by decide)) (fun _ _ _ => rfl) rfl hg73 dX8_sees_252 ?_
                  refine G_iconst (v := 5) hΓ dX8_sees_253 (by decide) ?_
                  refine G_icmp_ne hΓ (tgt := 277) dX8_sees_254 (by decide) (fun hc88 => ?_) (fun hc88 => ?_)
                  · rw [if_neg hc88] at hf
                    refine G_aload_n hΓ 0 dX8_sees_277 rfl ?_
                    refine F_get hΓ (t := 18) (i := 0) (ci := 11) (C := RX8) (T := TX8) (N := 47) (fs8 (gl Γ) 0) (v := .ref (ya (gl Γ) 19 9)) (FMi hF (t := 18) (by decide)) (fun _ _ _ => rfl) rfl rfl rfl rfl inW8 14 (by decide) (TT_cons kw_894) rfl dX8_sees_278 ?_
                    refine G_iload_n hΓ 1 dX8_sees_281 rfl ?_
                    obtain ⟨hg74, hf⟩ := gd_some hf
                    refine F_ald (G_iald hΓ) (t := 19) (i := 9) (f := (m 9)) (FMi hF (t := 19) (by decide)) (fun _ _ _ => rfl) rfl hg74 dX8_sees_282 ?_
                    refine G_bipush (v := 6) hΓ dX8_sees_283 (by decide) ?_
                    refine G_icmp_ne hΓ (tgt := 294) dX8_sees_285 (by decide) (fun hc78 => ?_) (fun hc78 => ?_)
                    · rw [if_neg hc78] at hf
                      exact K6 _ _ hf
                    · rw [if_pos hc78] at hf
                      refine G_aload_n hΓ 0 dX8_sees_288 rfl ?_
                      refine G_iload_n hΓ 1 dX8_sees_289 rfl ?_
                      refine G_iload_n hΓ 2 dX8_sees_290 rfl ?_
                      obtain ⟨⟨u75, u76⟩, hc77, hf⟩ := bd_some hf
                      try dsimp only at hf
                      refine G_callV hΓ (n := 2) (As := [.int p1, .int p2]) (t := 18) (i := 0) (ci := 11) (T := TX8) (N := 47) (FS := fs8 (gl Γ) 0) (σ' := (qM σ u75 u76)) (c_X8_pauses (gL Γ) (gl Γ) hF σ  v (va_up m 10 (upd (m 10) p1.toNatClampNeg v9)) p1 p2  hc77) rfl rfl kw_1181 kw_1183 kp_56 kw_9 kw_1184 ⟨rfl, by decide, by decide, by decide +kernel⟩ (FMi hF (t := 18) (by decide)) (fun _ _ _ => rfl) rfl rfl rfl ⟨Nat.le_of_ble_eq_true rfl, Nat.le_of_ble_eq_true rfl⟩ rfl (Nat.le_of_ble_eq_true rfl) dX8_sees_291 ⟨_, rfl⟩ rfl ?_
                      exact K6 _ _ hf
                  · rw [if_pos hc88] at hf
                    refine G_aload_n hΓ 0 dX8_sees_257 rfl ?_
                    refine F_get hΓ (t := 18) (i := 0) (ci := 11) (C := RX8) (T := TX8) (N := 47) (fs8 (gl Γ) 0) (v := .ref (ya (gl Γ) 19 10)) (FMi hF (t := 18) (by decide)) (fun _ _ _ => rfl) rfl rfl rfl rfl inW8 15 (by decide) (TT_cons kw_895) rfl dX8_sees_258 ?_
                    refine G_iload_n hΓ 1 dX8_sees_261 rfl ?_
                    obtain ⟨hg79, hf⟩ := gd_some hf
                    refine F_ald (G_iald hΓ) (t := 19) (i := 10) (f := (upd (m 10) p1.toNatClampNeg v9)) (FMi hF (t := 19) (by decide)) (fun _ _ _ => rfl) rfl hg79 dX8_sees_262 ?_
                    refine G_if_ne hΓ (tgt := 277) dX8_sees_263 (by decide) (fun hc87 => ?_) (fun hc87 => ?_)
                    · rw [if_neg hc87] at hf
                      refine G_aload_n hΓ 0 dX8_sees_277 rfl ?_
                      refine F_get hΓ (t := 18) (i := 0) (ci := 11) (C := RX8) (T := TX8) (N := 47) (fs8 (gl Γ) 0) (v := .ref (ya (gl Γ) 19 9)) (FMi hF (t := 18) (by decide)) (fun _ _ _ => rfl) rfl rfl rfl rfl inW8 14 (by decide) (TT_cons kw_894) rfl dX8_sees_278 ?_
                      refine G_iload_n hΓ 1 dX8_sees_281 rfl ?_
                      obtain ⟨hg80, hf⟩ := gd_some hf
                      refine F_ald (G_iald hΓ) (t := 19) (i := 9) (f := (m 9)) (FMi hF (t := 19) (by decide)) (fun _ _ _ => rfl) rfl hg80 dX8_sees_282 ?_
                      refine G_bipush (v := 6) hΓ dX8_sees_283 (by decide) ?_
                      refine G_icmp_ne hΓ (tgt := 294) dX8_sees_285 (by decide) (fun hc84 => ?_) (fun hc84 => ?_)
                      · rw [if_neg hc84] at hf
                        exact K6 _ _ hf
                      · rw [if_pos hc84] at hf
                        refine G_aload_n hΓ 0 dX8_sees_288 rfl ?_
                        refine G_iload_n hΓ 1 dX8_sees_289 rfl ?_
                        refine G_iload_n hΓ 2 dX8_sees_290 rfl ?_
                        obtain ⟨⟨u81, u82⟩, hc83, hf⟩ := bd_some hf
                        try dsimp only at hf
                        refine G_callV hΓ (n := 2) (As := [.int p1, .int p2]) (t := 18) (i := 0) (ci := 11) (T := TX8) (N := 47) (FS := fs8 (gl Γ) 0) (σ' := (qM σ u81 u82)) (c_X8_pauses (gL Γ) (gl Γ) hF σ  v (va_up m 10 (upd (m 10) p1.toNatClampNeg v9)) p1 p2  hc83) rfl rfl kw_1181 kw_1183 kp_56 kw_9 kw_1184 ⟨rfl, by decide, by decide, by decide +kernel⟩ (FMi hF (t := 18) (by decide)) (fun _ _ _ => rfl) rfl rfl rfl ⟨Nat.le_of_ble_eq_true rfl, Nat.le_of_ble_eq_true rfl⟩ rfl (Nat.le_of_ble_eq_true rfl) dX8_sees_291 ⟨_, rfl⟩ rfl ?_
                        exact K6 _ _ hf
                    · rw [if_pos hc87] at hf
                      refine G_aload_n hΓ 0 dX8_sees_266 rfl ?_
                      refine G_iload_n hΓ 1 dX8_sees_267 rfl ?_
                      refine G_bipush (v := 6) hΓ dX8_sees_268 (by decide) ?_
                      refine G_iconst (v := 3) hΓ dX8_sees_270 (by decide) ?_
                      obtain ⟨u85, hc86, hf⟩ := bd_some hf
                      refine G_callV hΓ (n := 3) (As := [.int p1, .int 6, .int 3]) (t := 18) (i := 0) (ci := 11) (T := TX8) (N := 47) (FS := fs8 (gl Γ) 0) (σ' := (qM σ v u85)) (c_X8_go (gL Γ) (gl Γ) hF σ  v (va_up m 10 (upd (m 10) p1.toNatClampNeg v9)) p1 6 3  hc86) rfl rfl kw_1169 kw_1171 kp_53 kw_9 kw_1172 ⟨rfl, by decide, by decide, by decide +kernel⟩ (FMi hF (t := 18) (by decide)) (fun _ _ _ => rfl) rfl rfl rfl ⟨Nat.le_of_ble_eq_true rfl, Nat.le_of_ble_eq_true rfl⟩ rfl (Nat.le_of_ble_eq_true rfl) dX8_sees_271 ⟨_, rfl⟩ rfl ?_
                      refine G_goto hΓ (tgt := 294) dX8_sees_274 (by decide) ?_
                      exact K6 _ _ hf
                · rw [if_pos hc97] at hf
                  refine G_aload_n hΓ 0 dX8_sees_225 rfl ?_
                  refine G_iload_n hΓ 1 dX8_sees_226 rfl ?_
                  refine G_aload_n hΓ 0 dX8_sees_227 rfl ?_
                  refine F_get hΓ (t := 18) (i := 0) (ci := 11) (C := RX8) (T := TX8) (N := 47) (fs8 (gl Γ) 0) (v := .ref (ya (gl Γ) 19 10)) (FMi hF (t := 18) (by decide)) (fun _ _ _ => rfl) rfl rfl rfl rfl inW8 15 (by decide) (TT_cons kw_895) rfl dX8_sees_228 ?_
                  refine G_iload_n hΓ 1 dX8_sees_231 rfl ?_
                  obtain ⟨hg89, hf⟩ := gd_some hf
                  refine F_ald (G_iald hΓ) (t := 19) (i := 10) (f := (upd (m 10) p1.toNatClampNeg v9)) (FMi hF (t := 19) (by decide)) (fun _ _ _ => rfl) rfl hg89 dX8_sees_232 ?_
                  obtain ⟨x90, he93, hf⟩ := lt_eq hf
                  have K91 : GG Γ (0, 0) (qM σ v (va_up m 10 (upd (m 10) p1.toNatClampNeg v9))) 241 [(0, .ref (ya (gl Γ) 18 0)), (1, .int p1), (2, .int p2)] [.int x90, .int p1, .ref (ya (gl Γ) 18 0)] := by
                    obtain ⟨⟨u94, u95⟩, hc96, hf⟩ := bd_some hf
                    try dsimp only at hf
                    refine G_callV hΓ (n := 2) (As := [.int p1, .int x90]) (t := 18) (i := 0) (ci := 11) (T := TX8) (N := 47) (FS := fs8 (gl Γ) 0) (σ' := (qM σ u94 u95)) (c_X8_wrong (gL Γ) (gl Γ) hF σ  v (va_up m 10 (upd (m 10) p1.toNatClampNeg v9)) p1 x90  hc96) rfl rfl kw_1165 kw_1167 kp_52 kw_9 kw_1168 ⟨rfl, by decide, by decide, by decide +kernel⟩ (FMi hF (t := 18) (by decide)) (fun _ _ _ => rfl) rfl rfl rfl ⟨Nat.le_of_ble_eq_true rfl, Nat.le_of_ble_eq_true rfl⟩ rfl (Nat.le_of_ble_eq_true rfl) dX8_sees_241 ⟨_, rfl⟩ rfl ?_
                    refine G_goto hΓ (tgt := 294) dX8_sees_244 (by decide) ?_
                    exact K6 _ _ hf
                  have he := he93
                  refine G_if_ne hΓ (tgt := 240) dX8_sees_233 (by decide) (fun hc92 => ?_) (fun hc92 => ?_)
                  · rw [if_neg hc92] at he
                    refine G_iconst (v := 2) hΓ dX8_sees_240 (by decide) ?_
                    subst he
                    exact K91
                  · rw [if_pos hc92] at he
                    refine G_iconst (v := 5) hΓ dX8_sees_236 (by decide) ?_
                    refine G_goto hΓ (tgt := 241) dX8_sees_237 (by decide) ?_
                    subst he
                    exact K91
            · rw [if_pos hc101] at hf
              refine G_aload_n hΓ 0 dX8_sees_200 rfl ?_
              refine G_iload_n hΓ 1 dX8_sees_201 rfl ?_
              refine G_iconst (v := 5) hΓ dX8_sees_202 (by decide) ?_
              refine G_bipush (v := 7) hΓ dX8_sees_203 (by decide) ?_
              obtain ⟨u99, hc100, hf⟩ := bd_some hf
              refine G_callV hΓ (n := 3) (As := [.int p1, .int 5, .int 7]) (t := 18) (i := 0) (ci := 11) (T := TX8) (N := 47) (FS := fs8 (gl Γ) 0) (σ' := (qM σ v u99)) (c_X8_go (gL Γ) (gl Γ) hF σ  v (va_up m 10 (upd (m 10) p1.toNatClampNeg v9)) p1 5 7  hc100) rfl rfl kw_1169 kw_1171 kp_53 kw_9 kw_1172 ⟨rfl, by decide, by decide, by decide +kernel⟩ (FMi hF (t := 18) (by decide)) (fun _ _ _ => rfl) rfl rfl rfl ⟨Nat.le_of_ble_eq_true rfl, Nat.le_of_ble_eq_true rfl⟩ rfl (Nat.le_of_ble_eq_true rfl) dX8_sees_205 ⟨_, rfl⟩ rfl ?_
              refine G_goto hΓ (tgt := 294) dX8_sees_208 (by decide) ?_
              exact K6 _ _ hf
        · rw [if_pos hc109] at hf
          refine G_aload_n hΓ 0 dX8_sees_162 rfl ?_
          refine F_get hΓ (t := 18) (i := 0) (ci := 11) (C := RX8) (T := TX8) (N := 47) (fs8 (gl Γ) 0) (v := .ref (ya (gl Γ) 19 9)) (FMi hF (t := 18) (by decide)) (fun _ _ _ => rfl) rfl rfl rfl rfl inW8 14 (by decide) (TT_cons kw_894) rfl dX8_sees_163 ?_
          refine G_iload_n hΓ 1 dX8_sees_166 rfl ?_
          refine G_aload_n hΓ 0 dX8_sees_167 rfl ?_
          refine F_get hΓ (t := 18) (i := 0) (ci := 11) (C := RX8) (T := TX8) (N := 47) (fs8 (gl Γ) 0) (v := .ref (ya (gl Γ) 19 10)) (FMi hF (t := 18) (by decide)) (fun _ _ _ => rfl) rfl rfl rfl rfl inW8 15 (by decide) (TT_cons kw_895) rfl dX8_sees_168 ?_
          refine G_iload_n hΓ 1 dX8_sees_171 rfl ?_
          obtain ⟨hg103, hf⟩ := gd_some hf
          refine F_ald (G_iald hΓ) (t := 19) (i := 10) (f := (upd (m 10) p1.toNatClampNeg v9)) (FMi hF (t := 19) (by decide)) (fun _ _ _ => rfl) rfl hg103 dX8_sees_172 ?_
          obtain ⟨x104, he107, hf⟩ := lt_eq hf
          have K105 : GG Γ (0, 0) (qM σ v (va_up m 10 (upd (m 10) p1.toNatClampNeg v9))) 181 [(0, .ref (ya (gl Γ) 18 0)), (1, .int p1), (2, .int p2)] [.int x104, .int p1, .ref (ya (gl Γ) 19 9)] := by
            obtain ⟨hg108, hf⟩ := gd_some hf
            refine F_iast hΓ (t := 19) (i := 9) (f := (m 9)) (σ' := (qM σ v (va_up (va_up m 10 (upd (m 10) p1.toNatClampNeg v9)) 9 (upd (m 9) p1.toNatClampNeg x104)))) (FMi hF (t := 19) (by decide)) (fun _ _ _ => rfl) rfl qM_m hg108 dX8_sees_181 ?_
            refine G_goto hΓ (tgt := 294) dX8_sees_182 (by decide) ?_
            exact K6 _ _ hf
          have he := he107
          refine G_if_ne hΓ (tgt := 180) dX8_sees_173 (by decide) (fun hc106 => ?_) (fun hc106 => ?_)
          · rw [if_neg hc106] at he
            refine G_iconst (v := 3) hΓ dX8_sees_180 (by decide) ?_
            subst he
            exact K105
          · rw [if_pos hc106] at he
            refine G_iconst (v := 4) hΓ dX8_sees_176 (by decide) ?_
            refine G_goto hΓ (tgt := 181) dX8_sees_177 (by decide) ?_
            subst he
            exact K105
      · rw [if_pos hc131] at hf
        refine G_aload_n hΓ 0 dX8_sees_85 rfl ?_
        refine G_iload_n hΓ 1 dX8_sees_86 rfl ?_
        refine G_iload_n hΓ 2 dX8_sees_87 rfl ?_
        obtain ⟨u110, hc111, hf⟩ := bd_some hf
        refine G_callV hΓ (n := 2) (As := [.int p1, .int p2]) (t := 18) (i := 0) (ci := 11) (T := TX8) (N := 47) (FS := fs8 (gl Γ) 0) (σ' := (qM σ v u110)) (c_X8_see (gL Γ) (gl Γ) hF σ  v m p1 p2  hc111) rfl rfl kw_1161 kw_1163 kp_51 kw_9 kw_1164 ⟨rfl, by decide, by decide, by decide +kernel⟩ (FMi hF (t := 18) (by decide)) (fun _ _ _ => rfl) rfl rfl rfl ⟨Nat.le_of_ble_eq_true rfl, Nat.le_of_ble_eq_true rfl⟩ rfl (Nat.le_of_ble_eq_true rfl) dX8_sees_88 ⟨_, rfl⟩ rfl ?_
        refine G_aload_n hΓ 0 dX8_sees_91 rfl ?_
        refine G_iload_n hΓ 1 dX8_sees_92 rfl ?_
        obtain ⟨⟨u112, u113, u114⟩, hc115, hf⟩ := bd_some hf
        try dsimp only at hf
        refine G_callV hΓ (n := 1) (As := [.int p1]) (t := 18) (i := 0) (ci := 11) (T := TX8) (N := 47) (FS := fs8 (gl Γ) 0) (σ' := (qM σ u112 u113)) (c_X8_read (gL Γ) (gl Γ) hF σ  v u110 p1  hc115) rfl rfl kw_1173 kw_1175 kp_54 kw_9 kw_1176 ⟨rfl, by decide, by decide, by decide +kernel⟩ (FMi hF (t := 18) (by decide)) (fun _ _ _ => rfl) rfl rfl rfl ⟨Nat.le_of_ble_eq_true rfl, Nat.le_of_ble_eq_true rfl⟩ rfl (Nat.le_of_ble_eq_true rfl) dX8_sees_93 ⟨_, rfl⟩ rfl ?_
        refine G_istore_n hΓ [(3, .int u114), (0, .ref (ya (gl Γ) 18 0)), (1, .int p1), (2, .int p2)] dX8_sees_96 (by decide) rfl ?_
        refine G_iload_n hΓ 0 dX8_sees_97 rfl ?_
        refine G_bipush (v := 10) hΓ dX8_sees_98 (by decide) ?_
        obtain ⟨k118, hk_k118, hf⟩ := jn_eq hf
        try dsimp only at hf
        have K119 : ∀ x116 x117, k118 (x116, x117) = some (v', m') → GG Γ (0, 0) (qM σ x116 x117) 139 [(3, .int u114), (0, .ref (ya (gl Γ) 18 0)), (1, .int p1), (2, .int p2)] [] := by
          intro x116 x117 hf
          subst hk_k118
          try dsimp only at hf
          refine G_goto hΓ (tgt := 294) dX8_sees_139 (by decide) ?_
          exact G_loc [1, 2, 3] rfl (K6 _ _ hf)
        clear hk_k118
        refine G_icmp_ne hΓ (tgt := 111) dX8_sees_100 (by decide) (fun hc130 => ?_) (fun hc130 => ?_)
        · rw [if_neg hc130] at hf
          refine G_iload_n hΓ 0 dX8_sees_111 rfl ?_
          refine G_bipush (v := 11) hΓ dX8_sees_112 (by decide) ?_
          refine G_icmp_ne hΓ (tgt := 128) dX8_sees_114 (by decide) (fun hc126 => ?_) (fun hc126 => ?_)
          · rw [if_neg hc126] at hf
            refine G_iload_n hΓ 0 dX8_sees_128 rfl ?_
            refine G_iconst (v := (-1)) hΓ dX8_sees_129 (by decide) ?_
            refine G_icmp_eq hΓ (tgt := 139) dX8_sees_130 (by decide) (fun hc123 => ?_) (fun hc123 => ?_)
            · rw [if_pos hc123] at hf
              exact K119 _ _ hf
            · rw [if_neg hc123] at hf
              refine G_aload_n hΓ 1 dX8_sees_133 rfl ?_
              refine G_iload_n hΓ 2 dX8_sees_134 rfl ?_
              refine G_iload_n hΓ 0 dX8_sees_135 rfl ?_
              obtain ⟨⟨u120, u121⟩, hc122, hf⟩ := bd_some hf
              try dsimp only at hf
              refine G_callV hΓ (n := 2) (As := [.int p1, .int u114]) (t := 18) (i := 0) (ci := 11) (T := TX8) (N := 47) (FS := fs8 (gl Γ) 0) (σ' := (qM σ u120 u121)) (c_X8_wrong (gL Γ) (gl Γ) hF σ  u112 u113 p1 u114  hc122) rfl rfl kw_1165 kw_1167 kp_52 kw_9 kw_1168 ⟨rfl, by decide, by decide, by decide +kernel⟩ (FMi hF (t := 18) (by decide)) (fun _ _ _ => rfl) rfl rfl rfl ⟨Nat.le_of_ble_eq_true rfl, Nat.le_of_ble_eq_true rfl⟩ rfl (Nat.le_of_ble_eq_true rfl) dX8_sees_136 ⟨_, rfl⟩ rfl ?_
              exact K119 _ _ hf
          · rw [if_pos hc126] at hf
            refine G_aload_n hΓ 1 dX8_sees_117 rfl ?_
            refine G_iload_n hΓ 2 dX8_sees_118 rfl ?_
            refine G_bipush (v := 6) hΓ dX8_sees_119 (by decide) ?_
            refine G_iconst (v := 3) hΓ dX8_sees_121 (by decide) ?_
            obtain ⟨u124, hc125, hf⟩ := bd_some hf
            refine G_callV hΓ (n := 3) (As := [.int p1, .int 6, .int 3]) (t := 18) (i := 0) (ci := 11) (T := TX8) (N := 47) (FS := fs8 (gl Γ) 0) (σ' := (qM σ u112 u124)) (c_X8_go (gL Γ) (gl Γ) hF σ  u112 u113 p1 6 3  hc125) rfl rfl kw_1169 kw_1171 kp_53 kw_9 kw_1172 ⟨rfl, by decide, by decide, by decide +kernel⟩ (FMi hF (t := 18) (by decide)) (fun _ _ _ => rfl) rfl rfl rfl ⟨Nat.le_of_ble_eq_true rfl, Nat.le_of_ble_eq_true rfl⟩ rfl (Nat.le_of_ble_eq_true rfl) dX8_sees_122 ⟨_, rfl⟩ rfl ?_
            refine G_goto hΓ (tgt := 139) dX8_sees_125 (by decide) ?_
            exact K119 _ _ hf
        · rw [if_pos hc130] at hf
          refine G_aload_n hΓ 1 dX8_sees_103 rfl ?_
          refine G_iload_n hΓ 2 dX8_sees_104 rfl ?_
          obtain ⟨⟨u127, u128⟩, hc129, hf⟩ := bd_some hf
          try dsimp only at hf
          refine G_callV hΓ (n := 1) (As := [.int p1]) (t := 18) (i := 0) (ci := 11) (T := TX8) (N := 47) (FS := fs8 (gl Γ) 0) (σ' := (qM σ u127 u128)) (c_X8_take (gL Γ) (gl Γ) hF σ  u112 u113 p1  hc129) rfl rfl kw_1177 kw_1179 kp_55 kw_9 kw_1180 ⟨rfl, by decide, by decide, by decide +kernel⟩ (FMi hF (t := 18) (by decide)) (fun _ _ _ => rfl) rfl rfl rfl ⟨Nat.le_of_ble_eq_true rfl, Nat.le_of_ble_eq_true rfl⟩ rfl (Nat.le_of_ble_eq_true rfl) dX8_sees_105 ⟨_, rfl⟩ rfl ?_
          refine G_goto hΓ (tgt := 139) dX8_sees_108 (by decide) ?_
          exact K119 _ _ hf
    · rw [if_pos hc135] at hf
      refine G_aload_n hΓ 0 dX8_sees_66 rfl ?_
      refine G_iload_n hΓ 1 dX8_sees_67 rfl ?_
      refine G_iload_n hΓ 2 dX8_sees_68 rfl ?_
      obtain ⟨⟨u132, u133⟩, hc134, hf⟩ := bd_some hf
      try dsimp only at hf
      refine G_callV hΓ (n := 2) (As := [.int p1, .int p2]) (t := 18) (i := 0) (ci := 11) (T := TX8) (N := 47) (FS := fs8 (gl Γ) 0) (σ' := (qM σ u132 u133)) (c_X8_sent (gL Γ) (gl Γ) hF σ  v m p1 p2  hc134) rfl rfl kw_1157 kw_1159 kp_50 kw_9 kw_1160 ⟨rfl, by decide, by decide, by decide +kernel⟩ (FMi hF (t := 18) (by decide)) (fun _ _ _ => rfl) rfl rfl rfl ⟨Nat.le_of_ble_eq_true rfl, Nat.le_of_ble_eq_true rfl⟩ rfl (Nat.le_of_ble_eq_true rfl) dX8_sees_69 ⟨_, rfl⟩ rfl ?_
      refine G_goto hΓ (tgt := 294) dX8_sees_72 (by decide) ?_
      exact K6 _ _ hf
  · rw [if_pos hc425] at hf
    refine G_aload_n hΓ 0 dX8_sees_9 rfl ?_
    refine F_get hΓ (t := 18) (i := 0) (ci := 11) (C := RX8) (T := TX8) (N := 47) (fs8 (gl Γ) 0) (v := .ref (ya (gl Γ) 19 14)) (FMi hF (t := 18) (by decide)) (fun _ _ _ => rfl) rfl rfl rfl rfl inW8 19 (by decide) (TT_cons kw_899) rfl dX8_sees_10 ?_
    refine G_iload_n hΓ 1 dX8_sees_13 rfl ?_
    refine G_iconst (v := 0) hΓ dX8_sees_14 (by decide) ?_
    obtain ⟨hg136, hf⟩ := gd_some hf
    refine F_iast hΓ (t := 19) (i := 14) (f := (m 14)) (σ' := (qM σ v (va_up m 14 (upd (m 14) p1.toNatClampNeg 0)))) (FMi hF (t := 19) (by decide)) (fun _ _ _ => rfl) rfl qM_m hg136 dX8_sees_15 ?_
    refine G_aload_n hΓ 0 dX8_sees_16 rfl ?_
    refine G_iload_n hΓ 1 dX8_sees_17 rfl ?_
    obtain ⟨⟨u137, u138, u139⟩, hc140, hf⟩ := bd_some hf
    try dsimp only at hf
    refine G_callV hΓ (n := 1) (As := [.int p1]) (t := 18) (i := 0) (ci := 11) (T := TX8) (N := 47) (FS := fs8 (gl Γ) 0) (σ' := (qM σ u137 u138)) (c_X8_first (gL Γ) (gl Γ) hF σ  v (va_up m 14 (upd (m 14) p1.toNatClampNeg 0)) p1  hc140) rfl rfl kw_1116 kw_1118 kp_40 kw_9 kw_1119 ⟨rfl, by decide, by decide, by decide +kernel⟩ (FMi hF (t := 18) (by decide)) (fun _ _ _ => rfl) rfl rfl rfl ⟨Nat.le_of_ble_eq_true rfl, Nat.le_of_ble_eq_true rfl⟩ rfl (Nat.le_of_ble_eq_true rfl) dX8_sees_18 ⟨_, rfl⟩ rfl ?_
    refine G_istore_n hΓ [(3, .int u139), (0, .ref (ya (gl Γ) 18 0)), (1, .int p1), (2, .int p2)] dX8_sees_21 (by decide) rfl ?_
    refine G_iload_n hΓ 0 dX8_sees_22 rfl ?_
    refine G_iconst (v := (-1)) hΓ dX8_sees_23 (by decide) ?_
    refine G_icmp_ne hΓ (tgt := 33) dX8_sees_24 (by decide) (fun hc424 => ?_) (fun hc424 => ?_)
    · rw [if_neg hc424] at hf
      refine G_aload_n hΓ 1 dX8_sees_33 rfl ?_
      refine F_get hΓ (t := 18) (i := 0) (ci := 11) (C := RX8) (T := TX8) (N := 47) (fs8 (gl Γ) 0) (v := .ref (ya (gl Γ) 19 9)) (FMi hF (t := 18) (by decide)) (fun _ _ _ => rfl) rfl rfl rfl rfl inW8 14 (by decide) (TT_cons kw_894) rfl dX8_sees_34 ?_
      refine G_iload_n hΓ 2 dX8_sees_37 rfl ?_
      refine G_iload_n hΓ 0 dX8_sees_38 rfl ?_
      refine G_iconst (v := (-1)) hΓ dX8_sees_39 (by decide) ?_
      obtain ⟨x141, he144, hf⟩ := lt_eq hf
      have K142 : GG Γ (0, 0) (qM σ u137 u138) 48 [(3, .int u139), (0, .ref (ya (gl Γ) 18 0)), (1, .int p1), (2, .int p2)] [.int x141, .int p1, .ref (ya (gl Γ) 19 9)] := by
        obtain ⟨hg145, hf⟩ := gd_some hf
        refine F_iast hΓ (t := 19) (i := 9) (f := (u138 9)) (σ' := (qM σ u137 (va_up u138 9 (upd (u138 9) p1.toNatClampNeg x141)))) (FMi hF (t := 19) (by decide)) (fun _ _ _ => rfl) rfl qM_m hg145 dX8_sees_48 ?_
        refine G_aload_n hΓ 1 dX8_sees_49 rfl ?_
        refine F_get hΓ (t := 18) (i := 0) (ci := 11) (C := RX8) (T := TX8) (N := 47) (fs8 (gl Γ) 0) (v := .ref (ya (gl Γ) 19 11)) (FMi hF (t := 18) (by decide)) (fun _ _ _ => rfl) rfl rfl rfl rfl inW8 16 (by decide) (TT_cons kw_896) rfl dX8_sees_50 ?_
        refine G_iload_n hΓ 2 dX8_sees_53 rfl ?_
        refine G_iload_n hΓ 0 dX8_sees_54 rfl ?_
        obtain ⟨hg146, hf⟩ := gd_some hf
        refine F_iast hΓ (t := 19) (i := 11) (f := (u138 11)) (σ' := (qM σ u137 (va_up (va_up u138 9 (upd (u138 9) p1.toNatClampNeg x141)) 11 (upd (u138 11) p1.toNatClampNeg u139)))) (FMi hF (t := 19) (by decide)) (fun _ _ _ => rfl) rfl qM_m hg146 dX8_sees_55 ?_
        refine G_aload_n hΓ 1 dX8_sees_56 rfl ?_
        refine F_get hΓ (t := 18) (i := 0) (ci := 11) (C := RX8) (T := TX8) (N := 47) (fs8 (gl Γ) 0) (v := .ref (ya (gl Γ) 19 9)) (FMi hF (t := 18) (by decide)) (fun _ _ _ => rfl) rfl rfl rfl rfl inW8 14 (by decide) (TT_cons kw_894) rfl dX8_sees_57 ?_
        refine G_iload_n hΓ 2 dX8_sees_60 rfl ?_
        obtain ⟨hg147, hf⟩ := gd_some hf
        refine F_ald (G_iald hΓ) (t := 19) (i := 9) (f := (upd (u138 9) p1.toNatClampNeg x141)) (FMi hF (t := 19) (by decide)) (fun _ _ _ => rfl) rfl hg147 dX8_sees_61 ?_
        refine G_iconst (v := 1) hΓ dX8_sees_62 (by decide) ?_
        obtain ⟨k151, hk_k151, hf⟩ := jn_eq hf
        try dsimp only at hf
        have K152 : ∀ x148 x149 x150, k151 (x148, x149, x150) = some (v', m') → GG Γ (0, 0) (qM σ x148 x149) 294 [(3, .int x150), (0, .ref (ya (gl Γ) 18 0)), (1, .int p1), (2, .int p2)] [] := by
          intro x148 x149 x150 hf
          subst hk_k151
          try dsimp only at hf
          cases hf
          exact G_vret hΓ hE dX8_sees_294
        clear hk_k151
        refine G_icmp_ne hΓ (tgt := 75) dX8_sees_63 (by decide) (fun hc281 => ?_) (fun hc281 => ?_)
        · rw [if_neg hc281] at hf
          refine G_aload_n hΓ 1 dX8_sees_75 rfl ?_
          refine F_get hΓ (t := 18) (i := 0) (ci := 11) (C := RX8) (T := TX8) (N := 47) (fs8 (gl Γ) 0) (v := .ref (ya (gl Γ) 19 9)) (FMi hF (t := 18) (by decide)) (fun _ _ _ => rfl) rfl rfl rfl rfl inW8 14 (by decide) (TT_cons kw_894) rfl dX8_sees_76 ?_
          refine G_iload_n hΓ 2 dX8_sees_79 rfl ?_
          obtain ⟨hg153, hf⟩ := gd_some hf
          refine F_ald (G_iald hΓ) (t := 19) (i := 9) (f := (upd (u138 9) p1.toNatClampNeg x141)) (FMi hF (t := 19) (by decide)) (fun _ _ _ => rfl) rfl hg153 dX8_sees_80 ?_
          refine G_iconst (v := 2) hΓ dX8_sees_81 (by decide) ?_
          refine G_icmp_ne hΓ (tgt := 142) dX8_sees_82 (by decide) (fun hc277 => ?_) (fun hc277 => ?_)
          · rw [if_neg hc277] at hf
            refine G_aload_n hΓ 1 dX8_sees_142 rfl ?_
            refine F_get hΓ (t := 18) (i := 0) (ci := 11) (C := RX8) (T := TX8) (N := 47) (fs8 (gl Γ) 0) (v := .ref (ya (gl Γ) 19 10)) (FMi hF (t := 18) (by decide)) (fun _ _ _ => rfl) rfl rfl rfl rfl inW8 15 (by decide) (TT_cons kw_895) rfl dX8_sees_143 ?_
            refine G_iload_n hΓ 2 dX8_sees_146 rfl ?_
            refine G_dup2 hΓ dX8_sees_147 rfl rfl ?_
            obtain ⟨hg154, hf⟩ := gd_some hf
            refine F_ald (G_iald hΓ) (t := 19) (i := 10) (f := (u138 10)) (FMi hF (t := 19) (by decide)) (fun _ _ _ => rfl) rfl hg154 dX8_sees_148 ?_
            refine G_iconst (v := 1) hΓ dX8_sees_149 (by decide) ?_
            refine G_isub hΓ dX8_sees_150 ?_
            obtain ⟨v155, hv_v155, hf⟩ := lt_eq hf
            refine G_topi hv_v155 ?_
            obtain ⟨hg156, hf⟩ := gd_some hf
            refine F_iast hΓ (t := 19) (i := 10) (f := (u138 10)) (σ' := (qM σ u137 (va_up (va_up (va_up u138 9 (upd (u138 9) p1.toNatClampNeg x141)) 11 (upd (u138 11) p1.toNatClampNeg u139)) 10 (upd (u138 10) p1.toNatClampNeg v155)))) (FMi hF (t := 19) (by decide)) (fun _ _ _ => rfl) rfl qM_m hg156 dX8_sees_151 ?_
            refine G_aload_n hΓ 1 dX8_sees_152 rfl ?_
            refine F_get hΓ (t := 18) (i := 0) (ci := 11) (C := RX8) (T := TX8) (N := 47) (fs8 (gl Γ) 0) (v := .ref (ya (gl Γ) 19 9)) (FMi hF (t := 18) (by decide)) (fun _ _ _ => rfl) rfl rfl rfl rfl inW8 14 (by decide) (TT_cons kw_894) rfl dX8_sees_153 ?_
            refine G_iload_n hΓ 2 dX8_sees_156 rfl ?_
            obtain ⟨hg157, hf⟩ := gd_some hf
            refine F_ald (G_iald hΓ) (t := 19) (i := 9) (f := (upd (u138 9) p1.toNatClampNeg x141)) (FMi hF (t := 19) (by decide)) (fun _ _ _ => rfl) rfl hg157 dX8_sees_157 ?_
            refine G_iconst (v := 3) hΓ dX8_sees_158 (by decide) ?_
            refine G_icmp_ne hΓ (tgt := 185) dX8_sees_159 (by decide) (fun hc255 => ?_) (fun hc255 => ?_)
            · rw [if_neg hc255] at hf
              refine G_aload_n hΓ 1 dX8_sees_185 rfl ?_
              refine F_get hΓ (t := 18) (i := 0) (ci := 11) (C := RX8) (T := TX8) (N := 47) (fs8 (gl Γ) 0) (v := .ref (ya (gl Γ) 19 9)) (FMi hF (t := 18) (by decide)) (fun _ _ _ => rfl) rfl rfl rfl rfl inW8 14 (by decide) (TT_cons kw_894) rfl dX8_sees_186 ?_
              refine G_iload_n hΓ 2 dX8_sees_189 rfl ?_
              obtain ⟨hg158, hf⟩ := gd_some hf
              refine F_ald (G_iald hΓ) (t := 19) (i := 9) (f := (upd (u138 9) p1.toNatClampNeg x141)) (FMi hF (t := 19) (by decide)) (fun _ _ _ => rfl) rfl hg158 dX8_sees_190 ?_
              refine G_iconst (v := 4) hΓ dX8_sees_191 (by decide) ?_
              refine G_icmp_ne hΓ (tgt := 211) dX8_sees_192 (by decide) (fun hc248 => ?_) (fun hc248 => ?_)
              · rw [if_neg hc248] at hf
                refine G_aload_n hΓ 1 dX8_sees_211 rfl ?_
                refine F_get hΓ (t := 18) (i := 0) (ci := 11) (C := RX8) (T := TX8) (N := 47) (fs8 (gl Γ) 0) (v := .ref (ya (gl Γ) 19 9)) (FMi hF (t := 18) (by decide)) (fun _ _ _ => rfl) rfl rfl rfl rfl inW8 14 (by decide) (TT_cons kw_894) rfl dX8_sees_212 ?_
                refine G_iload_n hΓ 2 dX8_sees_215 rfl ?_
                obtain ⟨hg159, hf⟩ := gd_some hf
                refine F_ald (G_iald hΓ) (t := 19) (i := 9) (f := (upd (u138 9) p1.toNatClampNeg x141)) (FMi hF (t := 19) (by decide)) (fun _ _ _ => rfl) rfl hg159 dX8_sees_216 ?_
                refine G_iconst (v := 5) hΓ dX8_sees_217 (by decide) ?_
                refine G_icmp_ne hΓ (tgt := 247) dX8_sees_218 (by decide) (fun hc201 => ?_) (fun hc201 => ?_)
                · rw [if_neg hc201] at hf
                  refine G_aload_n hΓ 1 dX8_sees_247 rfl ?_
                  refine F_get hΓ (t := 18) (i := 0) (ci := 11) (C := RX8) (T := TX8) (N := 47) (fs8 (gl Γ) 0) (v := .ref (ya (gl Γ) 19 9)) (FMi hF (t := 18) (by decide)) (fun _ _ _ => rfl) rfl rfl rfl rfl inW8 14 (by decide) (TT_cons kw_894) rfl dX8_sees_248 ?_
                  refine G_iload_n hΓ 2 dX8_sees_251 rfl ?_
                  obtain ⟨hg160, hf⟩ := gd_some hf
                  refine F_ald (G_iald hΓ) (t := 19) (i := 9) (f := (upd (u138 9) p1.toNatClampNeg x141)) (FMi hF (t := 19) (by decide)) (fun _ _ _ => rfl) rfl hg160 dX8_sees_252 ?_
                  refine G_iconst (v := 5) hΓ dX8_sees_253 (by decide) ?_
                  refine G_icmp_ne hΓ (tgt := 277) dX8_sees_254 (by decide) (fun hc175 => ?_) (fun hc175 => ?_)
                  · rw [if_neg hc175] at hf
                    refine G_aload_n hΓ 1 dX8_sees_277 rfl ?_
                    refine F_get hΓ (t := 18) (i := 0) (ci := 11) (C := RX8) (T := TX8) (N := 47) (fs8 (gl Γ) 0) (v := .ref (ya (gl Γ) 19 9)) (FMi hF (t := 18) (by decide)) (fun _ _ _ => rfl) rfl rfl rfl rfl inW8 14 (by decide) (TT_cons kw_894) rfl dX8_sees_278 ?_
                    refine G_iload_n hΓ 2 dX8_sees_281 rfl ?_
                    obtain ⟨hg161, hf⟩ := gd_some hf
                    refine F_ald (G_iald hΓ) (t := 19) (i := 9) (f := (upd (u138 9) p1.toNatClampNeg x141)) (FMi hF (t := 19) (by decide)) (fun _ _ _ => rfl) rfl hg161 dX8_sees_282 ?_
                    refine G_bipush (v := 6) hΓ dX8_sees_283 (by decide) ?_
                    refine G_icmp_ne hΓ (tgt := 294) dX8_sees_285 (by decide) (fun hc165 => ?_) (fun hc165 => ?_)
                    · rw [if_neg hc165] at hf
                      exact K152 _ _ _ hf
                    · rw [if_pos hc165] at hf
                      refine G_aload_n hΓ 1 dX8_sees_288 rfl ?_
                      refine G_iload_n hΓ 2 dX8_sees_289 rfl ?_
                      refine G_iload_n hΓ 3 dX8_sees_290 rfl ?_
                      obtain ⟨⟨u162, u163⟩, hc164, hf⟩ := bd_some hf
                      try dsimp only at hf
                      refine G_callV hΓ (n := 2) (As := [.int p1, .int p2]) (t := 18) (i := 0) (ci := 11) (T := TX8) (N := 47) (FS := fs8 (gl Γ) 0) (σ' := (qM σ u162 u163)) (c_X8_pauses (gL Γ) (gl Γ) hF σ  u137 (va_up (va_up (va_up u138 9 (upd (u138 9) p1.toNatClampNeg x141)) 11 (upd (u138 11) p1.toNatClampNeg u139)) 10 (upd (u138 10) p1.toNatClampNeg v155)) p1 p2  hc164) rfl rfl kw_1181 kw_1183 kp_56 kw_9 kw_1184 ⟨rfl, by decide, by decide, by decide +kernel⟩ (FMi hF (t := 18) (by decide)) (fun _ _ _ => rfl) rfl rfl rfl ⟨Nat.le_of_ble_eq_true rfl, Nat.le_of_ble_eq_true rfl⟩ rfl (Nat.le_of_ble_eq_true rfl) dX8_sees_291 ⟨_, rfl⟩ rfl ?_
                      exact K152 _ _ _ hf
                  · rw [if_pos hc175] at hf
                    refine G_aload_n hΓ 1 dX8_sees_257 rfl ?_
                    refine F_get hΓ (t := 18) (i := 0) (ci := 11) (C := RX8) (T := TX8) (N := 47) (fs8 (gl Γ) 0) (v := .ref (ya (gl Γ) 19 10)) (FMi hF (t := 18) (by decide)) (fun _ _ _ => rfl) rfl rfl rfl rfl inW8 15 (by decide) (TT_cons kw_895) rfl dX8_sees_258 ?_
                    refine G_iload_n hΓ 2 dX8_sees_261 rfl ?_
                    obtain ⟨hg166, hf⟩ := gd_some hf
                    refine F_ald (G_iald hΓ) (t := 19) (i := 10) (f := (upd (u138 10) p1.toNatClampNeg v155)) (FMi hF (t := 19) (by decide)) (fun _ _ _ => rfl) rfl hg166 dX8_sees_262 ?_
                    refine G_if_ne hΓ (tgt := 277) dX8_sees_263 (by decide) (fun hc174 => ?_) (fun hc174 => ?_)
                    · rw [if_neg hc174] at hf
                      refine G_aload_n hΓ 1 dX8_sees_277 rfl ?_
                      refine F_get hΓ (t := 18) (i := 0) (ci := 11) (C := RX8) (T := TX8) (N := 47) (fs8 (gl Γ) 0) (v := .ref (ya (gl Γ) 19 9)) (FMi hF (t := 18) (by decide)) (fun _ _ _ => rfl) rfl rfl rfl rfl inW8 14 (by decide) (TT_cons kw_894) rfl dX8_sees_278 ?_
                      refine G_iload_n hΓ 2 dX8_sees_281 rfl ?_
                      obtain ⟨hg167, hf⟩ := gd_some hf
                      refine F_ald (G_iald hΓ) (t := 19) (i := 9) (f := (upd (u138 9) p1.toNatClampNeg x141)) (FMi hF (t := 19) (by decide)) (fun _ _ _ => rfl) rfl hg167 dX8_sees_282 ?_
                      refine G_bipush (v := 6) hΓ dX8_sees_283 (by decide) ?_
                      refine G_icmp_ne hΓ (tgt := 294) dX8_sees_285 (by decide) (fun hc171 => ?_) (fun hc171 => ?_)
                      · rw [if_neg hc171] at hf
                        exact K152 _ _ _ hf
                      · rw [if_pos hc171] at hf
                        refine G_aload_n hΓ 1 dX8_sees_288 rfl ?_
                        refine G_iload_n hΓ 2 dX8_sees_289 rfl ?_
                        refine G_iload_n hΓ 3 dX8_sees_290 rfl ?_
                        obtain ⟨⟨u168, u169⟩, hc170, hf⟩ := bd_some hf
                        try dsimp only at hf
                        refine G_callV hΓ (n := 2) (As := [.int p1, .int p2]) (t := 18) (i := 0) (ci := 11) (T := TX8) (N := 47) (FS := fs8 (gl Γ) 0) (σ' := (qM σ u168 u169)) (c_X8_pauses (gL Γ) (gl Γ) hF σ  u137 (va_up (va_up (va_up u138 9 (upd (u138 9) p1.toNatClampNeg x141)) 11 (upd (u138 11) p1.toNatClampNeg u139)) 10 (upd (u138 10) p1.toNatClampNeg v155)) p1 p2  hc170) rfl rfl kw_1181 kw_1183 kp_56 kw_9 kw_1184 ⟨rfl, by decide, by decide, by decide +kernel⟩ (FMi hF (t := 18) (by decide)) (fun _ _ _ => rfl) rfl rfl rfl ⟨Nat.le_of_ble_eq_true rfl, Nat.le_of_ble_eq_true rfl⟩ rfl (Nat.le_of_ble_eq_true rfl) dX8_sees_291 ⟨_, rfl⟩ rfl ?_
                        exact K152 _ _ _ hf
                    · rw [if_pos hc174] at hf
                      refine G_aload_n hΓ 1 dX8_sees_266 rfl ?_
                      refine G_iload_n hΓ 2 dX8_sees_267 rfl ?_
                      refine G_bipush (v := 6) hΓ dX8_sees_268 (by decide) ?_
                      refine G_iconst (v := 3) hΓ dX8_sees_270 (by decide) ?_
                      obtain ⟨u172, hc173, hf⟩ := bd_some hf
                      refine G_callV hΓ (n := 3) (As := [.int p1, .int 6, .int 3]) (t := 18) (i := 0) (ci := 11) (T := TX8) (N := 47) (FS := fs8 (gl Γ) 0) (σ' := (qM σ u137 u172)) (c_X8_go (gL Γ) (gl Γ) hF σ  u137 (va_up (va_up (va_up u138 9 (upd (u138 9) p1.toNatClampNeg x141)) 11 (upd (u138 11) p1.toNatClampNeg u139)) 10 (upd (u138 10) p1.toNatClampNeg v155)) p1 6 3  hc173) rfl rfl kw_1169 kw_1171 kp_53 kw_9 kw_1172 ⟨rfl, by decide, by decide, by decide +kernel⟩ (FMi hF (t := 18) (by decide)) (fun _ _ _ => rfl) rfl rfl rfl ⟨Nat.le_of_ble_eq_true rfl, Nat.le_of_ble_eq_true rfl⟩ rfl (Nat.le_of_ble_eq_true rfl) dX8_sees_271 ⟨_, rfl⟩ rfl ?_
                      refine G_goto hΓ (tgt := 294) dX8_sees_274 (by decide) ?_
                      exact K152 _ _ _ hf
                · rw [if_pos hc201] at hf
                  refine G_iload_n hΓ 3 dX8_sees_221 rfl ?_
                  refine G_if_ne hΓ (tgt := 247) dX8_sees_222 (by decide) (fun hc200 => ?_) (fun hc200 => ?_)
                  · rw [if_neg hc200] at hf
                    refine G_aload_n hΓ 1 dX8_sees_247 rfl ?_
                    refine F_get hΓ (t := 18) (i := 0) (ci := 11) (C := RX8) (T := TX8) (N := 47) (fs8 (gl Γ) 0) (v := .ref (ya (gl Γ) 19 9)) (FMi hF (t := 18) (by decide)) (fun _ _ _ => rfl) rfl rfl rfl rfl inW8 14 (by decide) (TT_cons kw_894) rfl dX8_sees_248 ?_
                    refine G_iload_n hΓ 2 dX8_sees_251 rfl ?_
                    obtain ⟨hg176, hf⟩ := gd_some hf
                    refine F_ald (G_iald hΓ) (t := 19) (i := 9) (f := (upd (u138 9) p1.toNatClampNeg x141)) (FMi hF (t := 19) (by decide)) (fun _ _ _ => rfl) rfl hg176 dX8_sees_252 ?_
                    refine G_iconst (v := 5) hΓ dX8_sees_253 (by decide) ?_
                    refine G_icmp_ne hΓ (tgt := 277) dX8_sees_254 (by decide) (fun hc191 => ?_) (fun hc191 => ?_)
                    · rw [if_neg hc191] at hf
                      refine G_aload_n hΓ 1 dX8_sees_277 rfl ?_
                      refine F_get hΓ (t := 18) (i := 0) (ci := 11) (C := RX8) (T := TX8) (N := 47) (fs8 (gl Γ) 0) (v := .ref (ya (gl Γ) 19 9)) (FMi hF (t := 18) (by decide)) (fun _ _ _ => rfl) rfl rfl rfl rfl inW8 14 (by decide) (TT_cons kw_894) rfl dX8_sees_278 ?_
                      refine G_iload_n hΓ 2 dX8_sees_281 rfl ?_
                      obtain ⟨hg177, hf⟩ := gd_some hf
                      refine F_ald (G_iald hΓ) (t := 19) (i := 9) (f := (upd (u138 9) p1.toNatClampNeg x141)) (FMi hF (t := 19) (by decide)) (fun _ _ _ => rfl) rfl hg177 dX8_sees_282 ?_
                      refine G_bipush (v := 6) hΓ dX8_sees_283 (by decide) ?_
                      refine G_icmp_ne hΓ (tgt := 294) dX8_sees_285 (by decide) (fun hc181 => ?_) (fun hc181 => ?_)
                      · rw [if_neg hc181] at hf
                        exact K152 _ _ _ hf
                      · rw [if_pos hc181] at hf
                        refine G_aload_n hΓ 1 dX8_sees_288 rfl ?_
                        refine G_iload_n hΓ 2 dX8_sees_289 rfl ?_
                        refine G_iload_n hΓ 3 dX8_sees_290 rfl ?_
                        obtain ⟨⟨u178, u179⟩, hc180, hf⟩ := bd_some hf
                        try dsimp only at hf
                        refine G_callV hΓ (n := 2) (As := [.int p1, .int p2]) (t := 18) (i := 0) (ci := 11) (T := TX8) (N := 47) (FS := fs8 (gl Γ) 0) (σ' := (qM σ u178 u179)) (c_X8_pauses (gL Γ) (gl Γ) hF σ  u137 (va_up (va_up (va_up u138 9 (upd (u138 9) p1.toNatClampNeg x141)) 11 (upd (u138 11) p1.toNatClampNeg u139)) 10 (upd (u138 10) p1.toNatClampNeg v155)) p1 p2  hc180) rfl rfl kw_1181 kw_1183 kp_56 kw_9 kw_1184 ⟨rfl, by decide, by decide, by decide +kernel⟩ (FMi hF (t := 18) (by decide)) (fun _ _ _ => rfl) rfl rfl rfl ⟨Nat.le_of_ble_eq_true rfl, Nat.le_of_ble_eq_true rfl⟩ rfl (Nat.le_of_ble_eq_true rfl) dX8_sees_291 ⟨_, rfl⟩ rfl ?_
                        exact K152 _ _ _ hf
                    · rw [if_pos hc191] at hf
                      refine G_aload_n hΓ 1 dX8_sees_257 rfl ?_
                      refine F_get hΓ (t := 18) (i := 0) (ci := 11) (C := RX8) (T := TX8) (N := 47) (fs8 (gl Γ) 0) (v := .ref (ya (gl Γ) 19 10)) (FMi hF (t := 18) (by decide)) (fun _ _ _ => rfl) rfl rfl rfl rfl inW8 15 (by decide) (TT_cons kw_895) rfl dX8_sees_258 ?_
                      refine G_iload_n hΓ 2 dX8_sees_261 rfl ?_
                      obtain ⟨hg182, hf⟩ := gd_some hf
                      refine F_ald (G_iald hΓ) (t := 19) (i := 10) (f := (upd (u138 10) p1.toNatClampNeg v155)) (FMi hF (t := 19) (by decide)) (fun _ _ _ => rfl) rfl hg182 dX8_sees_262 ?_
                      refine G_if_ne hΓ (tgt := 277) dX8_sees_263 (by decide) (fun hc190 => ?_) (fun hc190 => ?_)
                      · rw [if_neg hc190] at hf
                        refine G_aload_n hΓ 1 dX8_sees_277 rfl ?_
                        refine F_get hΓ (t := 18) (i := 0) (ci := 11) (C := RX8) (T := TX8) (N := 47) (fs8 (gl Γ) 0) (v := .ref (ya (gl Γ) 19 9)) (FMi hF (t := 18) (by decide)) (fun _ _ _ => rfl) rfl rfl rfl rfl inW8 14 (by decide) (TT_cons kw_894) rfl dX8_sees_278 ?_
                        refine G_iload_n hΓ 2 dX8_sees_281 rfl ?_
                        obtain ⟨hg183, hf⟩ := gd_some hf
                        refine F_ald (G_iald hΓ) (t := 19) (i := 9) (f := (upd (u138 9) p1.toNatClampNeg x141)) (FMi hF (t := 19) (by decide)) (fun _ _ _ => rfl) rfl hg183 dX8_sees_282 ?_
                        refine G_bipush (v := 6) hΓ dX8_sees_283 (by decide) ?_
                        refine G_icmp_ne hΓ (tgt := 294) dX8_sees_285 (by decide) (fun hc187 => ?_) (fun hc187 => ?_)
                        · rw [if_neg hc187] at hf
                          exact K152 _ _ _ hf
                        · rw [if_pos hc187] at hf
                          refine G_aload_n hΓ 1 dX8_sees_288 rfl ?_
                          refine G_iload_n hΓ 2 dX8_sees_289 rfl ?_
                          refine G_iload_n hΓ 3 dX8_sees_290 rfl ?_
                          obtain ⟨⟨u184, u185⟩, hc186, hf⟩ := bd_some hf
                          try dsimp only at hf
                          refine G_callV hΓ (n := 2) (As := [.int p1, .int p2]) (t := 18) (i := 0) (ci := 11) (T := TX8) (N := 47) (FS := fs8 (gl Γ) 0) (σ' := (qM σ u184 u185)) (c_X8_pauses (gL Γ) (gl Γ) hF σ  u137 (va_up (va_up (va_up u138 9 (upd (u138 9) p1.toNatClampNeg x141)) 11 (upd (u138 11) p1.toNatClampNeg u139)) 10 (upd (u138 10) p1.toNatClampNeg v155)) p1 p2  hc186) rfl rfl kw_1181 kw_1183 kp_56 kw_9 kw_1184 ⟨rfl, by decide, by decide, by decide +kernel⟩ (FMi hF (t := 18) (by decide)) (fun _ _ _ => rfl) rfl rfl rfl ⟨Nat.le_of_ble_eq_true rfl, Nat.le_of_ble_eq_true rfl⟩ rfl (Nat.le_of_ble_eq_true rfl) dX8_sees_291 ⟨_, rfl⟩ rfl ?_
                          exact K152 _ _ _ hf
                      · rw [if_pos hc190] at hf
                        refine G_aload_n hΓ 1 dX8_sees_266 rfl ?_
                        refine G_iload_n hΓ 2 dX8_sees_267 rfl ?_
                        refine G_bipush (v := 6) hΓ dX8_sees_268 (by decide) ?_
                        refine G_iconst (v := 3) hΓ dX8_sees_270 (by decide) ?_
                        obtain ⟨u188, hc189, hf⟩ := bd_some hf
                        refine G_callV hΓ (n := 3) (As := [.int p1, .int 6, .int 3]) (t := 18) (i := 0) (ci := 11) (T := TX8) (N := 47) (FS := fs8 (gl Γ) 0) (σ' := (qM σ u137 u188)) (c_X8_go (gL Γ) (gl Γ) hF σ  u137 (va_up (va_up (va_up u138 9 (upd (u138 9) p1.toNatClampNeg x141)) 11 (upd (u138 11) p1.toNatClampNeg u139)) 10 (upd (u138 10) p1.toNatClampNeg v155)) p1 6 3  hc189) rfl rfl kw_1169 kw_1171 kp_53 kw_9 kw_1172 ⟨rfl, by decide, by decide, by decide +kernel⟩ (FMi hF (t := 18) (by decide)) (fun _ _ _ => rfl) rfl rfl rfl ⟨Nat.le_of_ble_eq_true rfl, Nat.le_of_ble_eq_true rfl⟩ rfl (Nat.le_of_ble_eq_true rfl) dX8_sees_271 ⟨_, rfl⟩ rfl ?_
                        refine G_goto hΓ (tgt := 294) dX8_sees_274 (by decide) ?_
                        exact K152 _ _ _ hf
                  · rw [if_pos hc200] at hf
                    refine G_aload_n hΓ 1 dX8_sees_225 rfl ?_
                    refine G_iload_n hΓ 2 dX8_sees_226 rfl ?_
                    refine G_aload_n hΓ 1 dX8_sees_227 rfl ?_
                    refine F_get hΓ (t := 18) (i := 0) (ci := 11) (C := RX8) (T := TX8) (N := 47) (fs8 (gl Γ) 0) (v := .ref (ya (gl Γ) 19 10)) (FMi hF (t := 18) (by decide)) (fun _ _ _ => rfl) rfl rfl rfl rfl inW8 15 (by decide) (TT_cons kw_895) rfl dX8_sees_228 ?_
                    refine G_iload_n hΓ 2 dX8_sees_231 rfl ?_
                    obtain ⟨hg192, hf⟩ := gd_some hf
                    refine F_ald (G_iald hΓ) (t := 19) (i := 10) (f := (upd (u138 10) p1.toNatClampNeg v155)) (FMi hF (t := 19) (by decide)) (fun _ _ _ => rfl) rfl hg192 dX8_sees_232 ?_
                    obtain ⟨x193, he196, hf⟩ := lt_eq hf
                    have K194 : GG Γ (0, 0) (qM σ u137 (va_up (va_up (va_up u138 9 (upd (u138 9) p1.toNatClampNeg x141)) 11 (upd (u138 11) p1.toNatClampNeg u139)) 10 (upd (u138 10) p1.toNatClampNeg v155))) 241 [(3, .int u139), (0, .ref (ya (gl Γ) 18 0)), (1, .int p1), (2, .int p2)] [.int x193, .int p1, .ref (ya (gl Γ) 18 0)] := by
                      obtain ⟨⟨u197, u198⟩, hc199, hf⟩ := bd_some hf
                      try dsimp only at hf
                      refine G_callV hΓ (n := 2) (As := [.int p1, .int x193]) (t := 18) (i := 0) (ci := 11) (T := TX8) (N := 47) (FS := fs8 (gl Γ) 0) (σ' := (qM σ u197 u198)) (c_X8_wrong (gL Γ) (gl Γ) hF σ  u137 (va_up (va_up (va_up u138 9 (upd (u138 9) p1.toNatClampNeg x141)) 11 (upd (u138 11) p1.toNatClampNeg u139)) 10 (upd (u138 10) p1.toNatClampNeg v155)) p1 x193  hc199) rfl rfl kw_1165 kw_1167 kp_52 kw_9 kw_1168 ⟨rfl, by decide, by decide, by decide +kernel⟩ (FMi hF (t := 18) (by decide)) (fun _ _ _ => rfl) rfl rfl rfl ⟨Nat.le_of_ble_eq_true rfl, Nat.le_of_ble_eq_true rfl⟩ rfl (Nat.le_of_ble_eq_true rfl) dX8_sees_241 ⟨_, rfl⟩ rfl ?_
                      refine G_goto hΓ (tgt := 294) dX8_sees_244 (by decide) ?_
                      exact K152 _ _ _ hf
                    have he := he196
                    refine G_if_ne hΓ (tgt := 240) dX8_sees_233 (by decide) (fun hc195 => ?_) (fun hc195 => ?_)
                    · rw [if_neg hc195] at he
                      refine G_iconst (v := 2) hΓ dX8_sees_240 (by decide) ?_
                      subst he
                      exact K194
                    · rw [if_pos hc195] at he
                      refine G_iconst (v := 5) hΓ dX8_sees_236 (by decide) ?_
                      refine G_goto hΓ (tgt := 241) dX8_sees_237 (by decide) ?_
                      subst he
                      exact K194
              · rw [if_pos hc248] at hf
                refine G_iload_n hΓ 3 dX8_sees_195 rfl ?_
                refine G_iconst (v := 1) hΓ dX8_sees_196 (by decide) ?_
                refine G_icmp_ne hΓ (tgt := 211) dX8_sees_197 (by decide) (fun hc247 => ?_) (fun hc247 => ?_)
                · rw [if_neg hc247] at hf
                  refine G_aload_n hΓ 1 dX8_sees_211 rfl ?_
                  refine F_get hΓ (t := 18) (i := 0) (ci := 11) (C := RX8) (T := TX8) (N := 47) (fs8 (gl Γ) 0) (v := .ref (ya (gl Γ) 19 9)) (FMi hF (t := 18) (by decide)) (fun _ _ _ => rfl) rfl rfl rfl rfl inW8 14 (by decide) (TT_cons kw_894) rfl dX8_sees_212 ?_
                  refine G_iload_n hΓ 2 dX8_sees_215 rfl ?_
                  obtain ⟨hg202, hf⟩ := gd_some hf
                  refine F_ald (G_iald hΓ) (t := 19) (i := 9) (f := (upd (u138 9) p1.toNatClampNeg x141)) (FMi hF (t := 19) (by decide)) (fun _ _ _ => rfl) rfl hg202 dX8_sees_216 ?_
                  refine G_iconst (v := 5) hΓ dX8_sees_217 (by decide) ?_
                  refine G_icmp_ne hΓ (tgt := 247) dX8_sees_218 (by decide) (fun hc244 => ?_) (fun hc244 => ?_)
                  · rw [if_neg hc244] at hf
                    refine G_aload_n hΓ 1 dX8_sees_247 rfl ?_
                    refine F_get hΓ (t := 18) (i := 0) (ci := 11) (C := RX8) (T := TX8) (N := 47) (fs8 (gl Γ) 0) (v := .ref (ya (gl Γ) 19 9)) (FMi hF (t := 18) (by decide)) (fun _ _ _ => rfl) rfl rfl rfl rfl inW8 14 (by decide) (TT_cons kw_894) rfl dX8_sees_248 ?_
                    refine G_iload_n hΓ 2 dX8_sees_251 rfl ?_
                    obtain ⟨hg203, hf⟩ := gd_some hf
                    refine F_ald (G_iald hΓ) (t := 19) (i := 9) (f := (upd (u138 9) p1.toNatClampNeg x141)) (FMi hF (t := 19) (by decide)) (fun _ _ _ => rfl) rfl hg203 dX8_sees_252 ?_
                    refine G_iconst (v := 5) hΓ dX8_sees_253 (by decide) ?_
                    refine G_icmp_ne hΓ (tgt := 277) dX8_sees_254 (by decide) (fun hc218 => ?_) (fun hc218 => ?_)
                    · rw [if_neg hc218] at hf
                      refine G_aload_n hΓ 1 dX8_sees_277 rfl ?_
                      refine F_get hΓ (t := 18) (i := 0) (ci := 11) (C := RX8) (T := TX8) (N := 47) (fs8 (gl Γ) 0) (v := .ref (ya (gl Γ) 19 9)) (FMi hF (t := 18) (by decide)) (fun _ _ _ => rfl) rfl rfl rfl rfl inW8 14 (by decide) (TT_cons kw_894) rfl dX8_sees_278 ?_
                      refine G_iload_n hΓ 2 dX8_sees_281 rfl ?_
                      obtain ⟨hg204, hf⟩ := gd_some hf
                      refine F_ald (G_iald hΓ) (t := 19) (i := 9) (f := (upd (u138 9) p1.toNatClampNeg x141)) (FMi hF (t := 19) (by decide)) (fun _ _ _ => rfl) rfl hg204 dX8_sees_282 ?_
                      refine G_bipush (v := 6) hΓ dX8_sees_283 (by decide) ?_
                      refine G_icmp_ne hΓ (tgt := 294) dX8_sees_285 (by decide) (fun hc208 => ?_) (fun hc208 => ?_)
                      · rw [if_neg hc208] at hf
                        exact K152 _ _ _ hf
                      · rw [if_pos hc208] at hf
                        refine G_aload_n hΓ 1 dX8_sees_288 rfl ?_
                        refine G_iload_n hΓ 2 dX8_sees_289 rfl ?_
                        refine G_iload_n hΓ 3 dX8_sees_290 rfl ?_
                        obtain ⟨⟨u205, u206⟩, hc207, hf⟩ := bd_some hf
                        try dsimp only at hf
                        refine G_callV hΓ (n := 2) (As := [.int p1, .int p2]) (t := 18) (i := 0) (ci := 11) (T := TX8) (N := 47) (FS := fs8 (gl Γ) 0) (σ' := (qM σ u205 u206)) (c_X8_pauses (gL Γ) (gl Γ) hF σ  u137 (va_up (va_up (va_up u138 9 (upd (u138 9) p1.toNatClampNeg x141)) 11 (upd (u138 11) p1.toNatClampNeg u139)) 10 (upd (u138 10) p1.toNatClampNeg v155)) p1 p2  hc207) rfl rfl kw_1181 kw_1183 kp_56 kw_9 kw_1184 ⟨rfl, by decide, by decide, by decide +kernel⟩ (FMi hF (t := 18) (by decide)) (fun _ _ _ => rfl) rfl rfl rfl ⟨Nat.le_of_ble_eq_true rfl, Nat.le_of_ble_eq_true rfl⟩ rfl (Nat.le_of_ble_eq_true rfl) dX8_sees_291 ⟨_, rfl⟩ rfl ?_
                        exact K152 _ _ _ hf
                    · rw [if_pos hc218] at hf
                      refine G_aload_n hΓ 1 dX8_sees_257 rfl ?_
                      refine F_get hΓ (t := 18) (i := 0) (ci := 11) (C := RX8) (T := TX8) (N := 47) (fs8 (gl Γ) 0) (v := .ref (ya (gl Γ) 19 10)) (FMi hF (t := 18) (by decide)) (fun _ _ _ => rfl) rfl rfl rfl rfl inW8 15 (by decide) (TT_cons kw_895) rfl dX8_sees_258 ?_
                      refine G_iload_n hΓ 2 dX8_sees_261 rfl ?_
                      obtain ⟨hg209, hf⟩ := gd_some hf
                      refine F_ald (G_iald hΓ) (t := 19) (i := 10) (f := (upd (u138 10) p1.toNatClampNeg v155)) (FMi hF (t := 19) (by decide)) (fun _ _ _ => rfl) rfl hg209 dX8_sees_262 ?_
                      refine G_if_ne hΓ (tgt := 277) dX8_sees_263 (by decide) (fun hc217 => ?_) (fun hc217 => ?_)
                      · rw [if_neg hc217] at hf
                        refine G_aload_n hΓ 1 dX8_sees_277 rfl ?_
                        refine F_get hΓ (t := 18) (i := 0) (ci := 11) (C := RX8) (T := TX8) (N := 47) (fs8 (gl Γ) 0) (v := .ref (ya (gl Γ) 19 9)) (FMi hF (t := 18) (by decide)) (fun _ _ _ => rfl) rfl rfl rfl rfl inW8 14 (by decide) (TT_cons kw_894) rfl dX8_sees_278 ?_
                        refine G_iload_n hΓ 2 dX8_sees_281 rfl ?_
                        obtain ⟨hg210, hf⟩ := gd_some hf
                        refine F_ald (G_iald hΓ) (t := 19) (i := 9) (f := (upd (u138 9) p1.toNatClampNeg x141)) (FMi hF (t := 19) (by decide)) (fun _ _ _ => rfl) rfl hg210 dX8_sees_282 ?_
                        refine G_bipush (v := 6) hΓ dX8_sees_283 (by decide) ?_
                        refine G_icmp_ne hΓ (tgt := 294) dX8_sees_285 (by decide) (fun hc214 => ?_) (fun hc214 => ?_)
                        · rw [if_neg hc214] at hf
                          exact K152 _ _ _ hf
                        · rw [if_pos hc214] at hf
                          refine G_aload_n hΓ 1 dX8_sees_288 rfl ?_
                          refine G_iload_n hΓ 2 dX8_sees_289 rfl ?_
                          refine G_iload_n hΓ 3 dX8_sees_290 rfl ?_
                          obtain ⟨⟨u211, u212⟩, hc213, hf⟩ := bd_some hf
                          try dsimp only at hf
                          refine G_callV hΓ (n := 2) (As := [.int p1, .int p2]) (t := 18) (i := 0) (ci := 11) (T := TX8) (N := 47) (FS := fs8 (gl Γ) 0) (σ' := (qM σ u211 u212)) (c_X8_pauses (gL Γ) (gl Γ) hF σ  u137 (va_up (va_up (va_up u138 9 (upd (u138 9) p1.toNatClampNeg x141)) 11 (upd (u138 11) p1.toNatClampNeg u139)) 10 (upd (u138 10) p1.toNatClampNeg v155)) p1 p2  hc213) rfl rfl kw_1181 kw_1183 kp_56 kw_9 kw_1184 ⟨rfl, by decide, by decide, by decide +kernel⟩ (FMi hF (t := 18) (by decide)) (fun _ _ _ => rfl) rfl rfl rfl ⟨Nat.le_of_ble_eq_true rfl, Nat.le_of_ble_eq_true rfl⟩ rfl (Nat.le_of_ble_eq_true rfl) dX8_sees_291 ⟨_, rfl⟩ rfl ?_
                          exact K152 _ _ _ hf
                      · rw [if_pos hc217] at hf
                        refine G_aload_n hΓ 1 dX8_sees_266 rfl ?_
                        refine G_iload_n hΓ 2 dX8_sees_267 rfl ?_
                        refine G_bipush (v := 6) hΓ dX8_sees_268 (by decide) ?_
                        refine G_iconst (v := 3) hΓ dX8_sees_270 (by decide) ?_
                        obtain ⟨u215, hc216, hf⟩ := bd_some hf
                        refine G_callV hΓ (n := 3) (As := [.int p1, .int 6, .int 3]) (t := 18) (i := 0) (ci := 11) (T := TX8) (N := 47) (FS := fs8 (gl Γ) 0) (σ' := (qM σ u137 u215)) (c_X8_go (gL Γ) (gl Γ) hF σ  u137 (va_up (va_up (va_up u138 9 (upd (u138 9) p1.toNatClampNeg x141)) 11 (upd (u138 11) p1.toNatClampNeg u139)) 10 (upd (u138 10) p1.toNatClampNeg v155)) p1 6 3  hc216) rfl rfl kw_1169 kw_1171 kp_53 kw_9 kw_1172 ⟨rfl, by decide, by decide, by decide +kernel⟩ (FMi hF (t := 18) (by decide)) (fun _ _ _ => rfl) rfl rfl rfl ⟨Nat.le_of_ble_eq_true rfl, Nat.le_of_ble_eq_true rfl⟩ rfl (Nat.le_of_ble_eq_true rfl) dX8_sees_271 ⟨_, rfl⟩ rfl ?_
                        refine G_goto hΓ (tgt := 294) dX8_sees_274 (by decide) ?_
                        exact K152 _ _ _ hf
                  · rw [if_pos hc244] at hf
                    refine G_iload_n hΓ 3 dX8_sees_221 rfl ?_
                    refine G_if_ne hΓ (tgt := 247) dX8_sees_222 (by decide) (fun hc243 => ?_) (fun hc243 => ?_)
                    · rw [if_neg hc243] at hf
                      refine G_aload_n hΓ 1 dX8_sees_247 rfl ?_
                      refine F_get hΓ (t := 18) (i := 0) (ci := 11) (C := RX8) (T := TX8) (N := 47) (fs8 (gl Γ) 0) (v := .ref (ya (gl Γ) 19 9)) (FMi hF (t := 18) (by decide)) (fun _ _ _ => rfl) rfl rfl rfl rfl inW8 14 (by decide) (TT_cons kw_894) rfl dX8_sees_248 ?_
                      refine G_iload_n hΓ 2 dX8_sees_251 rfl ?_
                      obtain ⟨hg219, hf⟩ := gd_some hf
                      refine F_ald (G_iald hΓ) (t := 19) (i := 9) (f := (upd (u138 9) p1.toNatClampNeg x141)) (FMi hF (t := 19) (by decide)) (fun _ _ _ => rfl) rfl hg219 dX8_sees_252 ?_
                      refine G_iconst (v := 5) hΓ dX8_sees_253 (by decide) ?_
                      refine G_icmp_ne hΓ (tgt := 277) dX8_sees_254 (by decide) (fun hc234 => ?_) (fun hc234 => ?_)
                      · rw [if_neg hc234] at hf
                        refine G_aload_n hΓ 1 dX8_sees_277 rfl ?_
                        refine F_get hΓ (t := 18) (i := 0) (ci := 11) (C := RX8) (T := TX8) (N := 47) (fs8 (gl Γ) 0) (v := .ref (ya (gl Γ) 19 9)) (FMi hF (t := 18) (by decide)) (fun _ _ _ => rfl) rfl rfl rfl rfl inW8 14 (by decide) (TT_cons kw_894) rfl dX8_sees_278 ?_
                        refine G_iload_n hΓ 2 dX8_sees_281 rfl ?_
                        obtain ⟨hg220, hf⟩ := gd_some hf
                        refine F_ald (G_iald hΓ) (t := 19) (i := 9) (f := (upd (u138 9) p1.toNatClampNeg x141)) (FMi hF (t := 19) (by decide)) (fun _ _ _ => rfl) rfl hg220 dX8_sees_282 ?_
                        refine G_bipush (v := 6) hΓ dX8_sees_283 (by decide) ?_
                        refine G_icmp_ne hΓ (tgt := 294) dX8_sees_285 (by decide) (fun hc224 => ?_) (fun hc224 => ?_)
                        · rw [if_neg hc224] at hf
                          exact K152 _ _ _ hf
                        · rw [if_pos hc224] at hf
                          refine G_aload_n hΓ 1 dX8_sees_288 rfl ?_
                          refine G_iload_n hΓ 2 dX8_sees_289 rfl ?_
                          refine G_iload_n hΓ 3 dX8_sees_290 rfl ?_
                          obtain ⟨⟨u221, u222⟩, hc223, hf⟩ := bd_some hf
                          try dsimp only at hf
                          refine G_callV hΓ (n := 2) (As := [.int p1, .int p2]) (t := 18) (i := 0) (ci := 11) (T := TX8) (N := 47) (FS := fs8 (gl Γ) 0) (σ' := (qM σ u221 u222)) (c_X8_pauses (gL Γ) (gl Γ) hF σ  u137 (va_up (va_up (va_up u138 9 (upd (u138 9) p1.toNatClampNeg x141)) 11 (upd (u138 11) p1.toNatClampNeg u139)) 10 (upd (u138 10) p1.toNatClampNeg v155)) p1 p2  hc223) rfl rfl kw_1181 kw_1183 kp_56 kw_9 kw_1184 ⟨rfl, by decide, by decide, by decide +kernel⟩ (FMi hF (t := 18) (by decide)) (fun _ _ _ => rfl) rfl rfl rfl ⟨Nat.le_of_ble_eq_true rfl, Nat.le_of_ble_eq_true rfl⟩ rfl (Nat.le_of_ble_eq_true rfl) dX8_sees_291 ⟨_, rfl⟩ rfl ?_
                          exact K152 _ _ _ hf
                      · rw [if_pos hc234] at hf
                        refine G_aload_n hΓ 1 dX8_sees_257 rfl ?_
                        refine F_get hΓ (t := 18) (i := 0) (ci := 11) (C := RX8) (T := TX8) (N := 47) (fs8 (gl Γ) 0) (v := .ref (ya (gl Γ) 19 10)) (FMi hF (t := 18) (by decide)) (fun _ _ _ => rfl) rfl rfl rfl rfl inW8 15 (by decide) (TT_cons kw_895) rfl dX8_sees_258 ?_
                        refine G_iload_n hΓ 2 dX8_sees_261 rfl ?_
                        obtain ⟨hg225, hf⟩ := gd_some hf
                        refine F_ald (G_iald hΓ) (t := 19) (i := 10) (f := (upd (u138 10) p1.toNatClampNeg v155)) (FMi hF (t := 19) (by decide)) (fun _ _ _ => rfl) rfl hg225 dX8_sees_262 ?_
                        refine G_if_ne hΓ (tgt := 277) dX8_sees_263 (by decide) (fun hc233 => ?_) (fun hc233 => ?_)
                        · rw [if_neg hc233] at hf
                          refine G_aload_n hΓ 1 dX8_sees_277 rfl ?_
                          refine F_get hΓ (t := 18) (i := 0) (ci := 11) (C := RX8) (T := TX8) (N := 47) (fs8 (gl Γ) 0) (v := .ref (ya (gl Γ) 19 9)) (FMi hF (t := 18) (by decide)) (fun _ _ _ => rfl) rfl rfl rfl rfl inW8 14 (by decide) (TT_cons kw_894) rfl dX8_sees_278 ?_
                          refine G_iload_n hΓ 2 dX8_sees_281 rfl ?_
                          obtain ⟨hg226, hf⟩ := gd_some hf
                          refine F_ald (G_iald hΓ) (t := 19) (i := 9) (f := (upd (u138 9) p1.toNatClampNeg x141)) (FMi hF (t := 19) (by decide)) (fun _ _ _ => rfl) rfl hg226 dX8_sees_282 ?_
                          refine G_bipush (v := 6) hΓ dX8_sees_283 (by decide) ?_
                          refine G_icmp_ne hΓ (tgt := 294) dX8_sees_285 (by decide) (fun hc230 => ?_) (fun hc230 => ?_)
                          · rw [if_neg hc230] at hf
                            exact K152 _ _ _ hf
                          · rw [if_pos hc230] at hf
                            refine G_aload_n hΓ 1 dX8_sees_288 rfl ?_
                            refine G_iload_n hΓ 2 dX8_sees_289 rfl ?_
                            refine G_iload_n hΓ 3 dX8_sees_290 rfl ?_
                            obtain ⟨⟨u227, u228⟩, hc229, hf⟩ := bd_some hf
                            try dsimp only at hf
                            refine G_callV hΓ (n := 2) (As := [.int p1, .int p2]) (t := 18) (i := 0) (ci := 11) (T := TX8) (N := 47) (FS := fs8 (gl Γ) 0) (σ' := (qM σ u227 u228)) (c_X8_pauses (gL Γ) (gl Γ) hF σ  u137 (va_up (va_up (va_up u138 9 (upd (u138 9) p1.toNatClampNeg x141)) 11 (upd (u138 11) p1.toNatClampNeg u139)) 10 (upd (u138 10) p1.toNatClampNeg v155)) p1 p2  hc229) rfl rfl kw_1181 kw_1183 kp_56 kw_9 kw_1184 ⟨rfl, by decide, by decide, by decide +kernel⟩ (FMi hF (t := 18) (by decide)) (fun _ _ _ => rfl) rfl rfl rfl ⟨Nat.le_of_ble_eq_true rfl, Nat.le_of_ble_eq_true rfl⟩ rfl (Nat.le_of_ble_eq_true rfl) dX8_sees_291 ⟨_, rfl⟩ rfl ?_
                            exact K152 _ _ _ hf
                        · rw [if_pos hc233] at hf
                          refine G_aload_n hΓ 1 dX8_sees_266 rfl ?_
                          refine G_iload_n hΓ 2 dX8_sees_267 rfl ?_
                          refine G_bipush (v := 6) hΓ dX8_sees_268 (by decide) ?_
                          refine G_iconst (v := 3) hΓ dX8_sees_270 (by decide) ?_
                          obtain ⟨u231, hc232, hf⟩ := bd_some hf
                          refine G_callV hΓ (n := 3) (As := [.int p1, .int 6, .int 3]) (t := 18) (i := 0) (ci := 11) (T := TX8) (N := 47) (FS := fs8 (gl Γ) 0) (σ' := (qM σ u137 u231)) (c_X8_go (gL Γ) (gl Γ) hF σ  u137 (va_up (va_up (va_up u138 9 (upd (u138 9) p1.toNatClampNeg x141)) 11 (upd (u138 11) p1.toNatClampNeg u139)) 10 (upd (u138 10) p1.toNatClampNeg v155)) p1 6 3  hc232) rfl rfl kw_1169 kw_1171 kp_53 kw_9 kw_1172 ⟨rfl, by decide, by decide, by decide +kernel⟩ (FMi hF (t := 18) (by decide)) (fun _ _ _ => rfl) rfl rfl rfl ⟨Nat.le_of_ble_eq_true rfl, Nat.le_of_ble_eq_true rfl⟩ rfl (Nat.le_of_ble_eq_true rfl) dX8_sees_271 ⟨_, rfl⟩ rfl ?_
                          refine G_goto hΓ (tgt := 294) dX8_sees_274 (by decide) ?_
                          exact K152 _ _ _ hf
                    · rw [if_pos hc243] at hf
                      refine G_aload_n hΓ 1 dX8_sees_225 rfl ?_
                      refine G_iload_n hΓ 2 dX8_sees_226 rfl ?_
                      refine G_aload_n hΓ 1 dX8_sees_227 rfl ?_
                      refine F_get hΓ (t := 18) (i := 0) (ci := 11) (C := RX8) (T := TX8) (N := 47) (fs8 (gl Γ) 0) (v := .ref (ya (gl Γ) 19 10)) (FMi hF (t := 18) (by decide)) (fun _ _ _ => rfl) rfl rfl rfl rfl inW8 15 (by decide) (TT_cons kw_895) rfl dX8_sees_228 ?_
                      refine G_iload_n hΓ 2 dX8_sees_231 rfl ?_
                      obtain ⟨hg235, hf⟩ := gd_some hf
                      refine F_ald (G_iald hΓ) (t := 19) (i := 10) (f := (upd (u138 10) p1.toNatClampNeg v155)) (FMi hF (t := 19) (by decide)) (fun _ _ _ => rfl) rfl hg235 dX8_sees_232 ?_
                      obtain ⟨x236, he239, hf⟩ := lt_eq hf
                      have K237 : GG Γ (0, 0) (qM σ u137 (va_up (va_up (va_up u138 9 (upd (u138 9) p1.toNatClampNeg x141)) 11 (upd (u138 11) p1.toNatClampNeg u139)) 10 (upd (u138 10) p1.toNatClampNeg v155))) 241 [(3, .int u139), (0, .ref (ya (gl Γ) 18 0)), (1, .int p1), (2, .int p2)] [.int x236, .int p1, .ref (ya (gl Γ) 18 0)] := by
                        obtain ⟨⟨u240, u241⟩, hc242, hf⟩ := bd_some hf
                        try dsimp only at hf
                        refine G_callV hΓ (n := 2) (As := [.int p1, .int x236]) (t := 18) (i := 0) (ci := 11) (T := TX8) (N := 47) (FS := fs8 (gl Γ) 0) (σ' := (qM σ u240 u241)) (c_X8_wrong (gL Γ) (gl Γ) hF σ  u137 (va_up (va_up (va_up u138 9 (upd (u138 9) p1.toNatClampNeg x141)) 11 (upd (u138 11) p1.toNatClampNeg u139)) 10 (upd (u138 10) p1.toNatClampNeg v155)) p1 x236  hc242) rfl rfl kw_1165 kw_1167 kp_52 kw_9 kw_1168 ⟨rfl, by decide, by decide, by decide +kernel⟩ (FMi hF (t := 18) (by decide)) (fun _ _ _ => rfl) rfl rfl rfl ⟨Nat.le_of_ble_eq_true rfl, Nat.le_of_ble_eq_true rfl⟩ rfl (Nat.le_of_ble_eq_true rfl) dX8_sees_241 ⟨_, rfl⟩ rfl ?_
                        refine G_goto hΓ (tgt := 294) dX8_sees_244 (by decide) ?_
                        exact K152 _ _ _ hf
                      have he := he239
                      refine G_if_ne hΓ (tgt := 240) dX8_sees_233 (by decide) (fun hc238 => ?_) (fun hc238 => ?_)
                      · rw [if_neg hc238] at he
                        refine G_iconst (v := 2) hΓ dX8_sees_240 (by decide) ?_
                        subst he
                        exact K237
                      · rw [if_pos hc238] at he
                        refine G_iconst (v := 5) hΓ dX8_sees_236 (by decide) ?_
                        refine G_goto hΓ (tgt := 241) dX8_sees_237 (by decide) ?_
                        subst he
                        exact K237
                · rw [if_pos hc247] at hf
                  refine G_aload_n hΓ 1 dX8_sees_200 rfl ?_
                  refine G_iload_n hΓ 2 dX8_sees_201 rfl ?_
                  refine G_iconst (v := 5) hΓ dX8_sees_202 (by decide) ?_
                  refine G_bipush (v := 7) hΓ dX8_sees_203 (by decide) ?_
                  obtain ⟨u245, hc246, hf⟩ := bd_some hf
                  refine G_callV hΓ (n := 3) (As := [.int p1, .int 5, .int 7]) (t := 18) (i := 0) (ci := 11) (T := TX8) (N := 47) (FS := fs8 (gl Γ) 0) (σ' := (qM σ u137 u245)) (c_X8_go (gL Γ) (gl Γ) hF σ  u137 (va_up (va_up (va_up u138 9 (upd (u138 9) p1.toNatClampNeg x141)) 11 (upd (u138 11) p1.toNatClampNeg u139)) 10 (upd (u138 10) p1.toNatClampNeg v155)) p1 5 7  hc246) rfl rfl kw_1169 kw_1171 kp_53 kw_9 kw_1172 ⟨rfl, by decide, by decide, by decide +kernel⟩ (FMi hF (t := 18) (by decide)) (fun _ _ _ => rfl) rfl rfl rfl ⟨Nat.le_of_ble_eq_true rfl, Nat.le_of_ble_eq_true rfl⟩ rfl (Nat.le_of_ble_eq_true rfl) dX8_sees_205 ⟨_, rfl⟩ rfl ?_
                  refine G_goto hΓ (tgt := 294) dX8_sees_208 (by decide) ?_
                  exact K152 _ _ _ hf
            · rw [if_pos hc255] at hf
              refine G_aload_n hΓ 1 dX8_sees_162 rfl ?_
              refine F_get hΓ (t := 18) (i := 0) (ci := 11) (C := RX8) (T := TX8) (N := 47) (fs8 (gl Γ) 0) (v := .ref (ya (gl Γ) 19 9)) (FMi hF (t := 18) (by decide)) (fun _ _ _ => rfl) rfl rfl rfl rfl inW8 14 (by decide) (TT_cons kw_894) rfl dX8_sees_163 ?_
              refine G_iload_n hΓ 2 dX8_sees_166 rfl ?_
              refine G_aload_n hΓ 1 dX8_sees_167 rfl ?_
              refine F_get hΓ (t := 18) (i := 0) (ci := 11) (C := RX8) (T := TX8) (N := 47) (fs8 (gl Γ) 0) (v := .ref (ya (gl Γ) 19 10)) (FMi hF (t := 18) (by decide)) (fun _ _ _ => rfl) rfl rfl rfl rfl inW8 15 (by decide) (TT_cons kw_895) rfl dX8_sees_168 ?_
              refine G_iload_n hΓ 2 dX8_sees_171 rfl ?_
              obtain ⟨hg249, hf⟩ := gd_some hf
              refine F_ald (G_iald hΓ) (t := 19) (i := 10) (f := (upd (u138 10) p1.toNatClampNeg v155)) (FMi hF (t := 19) (by decide)) (fun _ _ _ => rfl) rfl hg249 dX8_sees_172 ?_
              obtain ⟨x250, he253, hf⟩ := lt_eq hf
              have K251 : GG Γ (0, 0) (qM σ u137 (va_up (va_up (va_up u138 9 (upd (u138 9) p1.toNatClampNeg x141)) 11 (upd (u138 11) p1.toNatClampNeg u139)) 10 (upd (u138 10) p1.toNatClampNeg v155))) 181 [(3, .int u139), (0, .ref (ya (gl Γ) 18 0)), (1, .int p1), (2, .int p2)] [.int x250, .int p1, .ref (ya (gl Γ) 19 9)] := by
                obtain ⟨hg254, hf⟩ := gd_some hf
                refine F_iast hΓ (t := 19) (i := 9) (f := (upd (u138 9) p1.toNatClampNeg x141)) (σ' := (qM σ u137 (va_up (va_up (va_up (va_up u138 9 (upd (u138 9) p1.toNatClampNeg x141)) 11 (upd (u138 11) p1.toNatClampNeg u139)) 10 (upd (u138 10) p1.toNatClampNeg v155)) 9 (upd (upd (u138 9) p1.toNatClampNeg x141) p1.toNatClampNeg x250)))) (FMi hF (t := 19) (by decide)) (fun _ _ _ => rfl) rfl qM_m hg254 dX8_sees_181 ?_
                refine G_goto hΓ (tgt := 294) dX8_sees_182 (by decide) ?_
                exact K152 _ _ _ hf
              have he := he253
              refine G_if_ne hΓ (tgt := 180) dX8_sees_173 (by decide) (fun hc252 => ?_) (fun hc252 => ?_)
              · rw [if_neg hc252] at he
                refine G_iconst (v := 3) hΓ dX8_sees_180 (by decide) ?_
                subst he
                exact K251
              · rw [if_pos hc252] at he
                refine G_iconst (v := 4) hΓ dX8_sees_176 (by decide) ?_
                refine G_goto hΓ (tgt := 181) dX8_sees_177 (by decide) ?_
                subst he
                exact K251
          · rw [if_pos hc277] at hf
            refine G_aload_n hΓ 1 dX8_sees_85 rfl ?_
            refine G_iload_n hΓ 2 dX8_sees_86 rfl ?_
            refine G_iload_n hΓ 3 dX8_sees_87 rfl ?_
            obtain ⟨u256, hc257, hf⟩ := bd_some hf
            refine G_callV hΓ (n := 2) (As := [.int p1, .int p2]) (t := 18) (i := 0) (ci := 11) (T := TX8) (N := 47) (FS := fs8 (gl Γ) 0) (σ' := (qM σ u137 u256)) (c_X8_see (gL Γ) (gl Γ) hF σ  u137 (va_up (va_up u138 9 (upd (u138 9) p1.toNatClampNeg x141)) 11 (upd (u138 11) p1.toNatClampNeg u139)) p1 p2  hc257) rfl rfl kw_1161 kw_1163 kp_51 kw_9 kw_1164 ⟨rfl, by decide, by decide, by decide +kernel⟩ (FMi hF (t := 18) (by decide)) (fun _ _ _ => rfl) rfl rfl rfl ⟨Nat.le_of_ble_eq_true rfl, Nat.le_of_ble_eq_true rfl⟩ rfl (Nat.le_of_ble_eq_true rfl) dX8_sees_88 ⟨_, rfl⟩ rfl ?_
            refine G_aload_n hΓ 1 dX8_sees_91 rfl ?_
            refine G_iload_n hΓ 2 dX8_sees_92 rfl ?_
            obtain ⟨⟨u258, u259, u260⟩, hc261, hf⟩ := bd_some hf
            try dsimp only at hf
            refine G_callV hΓ (n := 1) (As := [.int p1]) (t := 18) (i := 0) (ci := 11) (T := TX8) (N := 47) (FS := fs8 (gl Γ) 0) (σ' := (qM σ u258 u259)) (c_X8_read (gL Γ) (gl Γ) hF σ  u137 u256 p1  hc261) rfl rfl kw_1173 kw_1175 kp_54 kw_9 kw_1176 ⟨rfl, by decide, by decide, by decide +kernel⟩ (FMi hF (t := 18) (by decide)) (fun _ _ _ => rfl) rfl rfl rfl ⟨Nat.le_of_ble_eq_true rfl, Nat.le_of_ble_eq_true rfl⟩ rfl (Nat.le_of_ble_eq_true rfl) dX8_sees_93 ⟨_, rfl⟩ rfl ?_
            refine G_istore_n hΓ [(3, .int u260), (0, .ref (ya (gl Γ) 18 0)), (1, .int p1), (2, .int p2)] dX8_sees_96 (by decide) rfl ?_
            refine G_iload_n hΓ 0 dX8_sees_97 rfl ?_
            refine G_bipush (v := 10) hΓ dX8_sees_98 (by decide) ?_
            obtain ⟨k264, hk_k264, hf⟩ := jn_eq hf
            try dsimp only at hf
            have K265 : ∀ x262 x263, k264 (x262, x263) = some (v', m') → GG Γ (0, 0) (qM σ x262 x263) 139 [(3, .int u260), (0, .ref (ya (gl Γ) 18 0)), (1, .int p1), (2, .int p2)] [] := by
              intro x262 x263 hf
              subst hk_k264
              try dsimp only at hf
              refine G_goto hΓ (tgt := 294) dX8_sees_139 (by decide) ?_
              exact K152 _ _ _ hf
            clear hk_k264
            refine G_icmp_ne hΓ (tgt := 111) dX8_sees_100 (by decide) (fun hc276 => ?_) (fun hc276 => ?_)
            · rw [if_neg hc276] at hf
              refine G_iload_n hΓ 0 dX8_sees_111 rfl ?_
              refine G_bipush (v := 11) hΓ dX8_sees_112 (by decide) ?_
              refine G_icmp_ne hΓ (tgt := 128) dX8_sees_114 (by decide) (fun hc272 => ?_) (fun hc272 => ?_)
              · rw [if_neg hc272] at hf
                refine G_iload_n hΓ 0 dX8_sees_128 rfl ?_
                refine G_iconst (v := (-1)) hΓ dX8_sees_129 (by decide) ?_
                refine G_icmp_eq hΓ (tgt := 139) dX8_sees_130 (by decide) (fun hc269 => ?_) (fun hc269 => ?_)
                · rw [if_pos hc269] at hf
                  exact K265 _ _ hf
                · rw [if_neg hc269] at hf
                  refine G_aload_n hΓ 1 dX8_sees_133 rfl ?_
                  refine G_iload_n hΓ 2 dX8_sees_134 rfl ?_
                  refine G_iload_n hΓ 0 dX8_sees_135 rfl ?_
                  obtain ⟨⟨u266, u267⟩, hc268, hf⟩ := bd_some hf
                  try dsimp only at hf
                  refine G_callV hΓ (n := 2) (As := [.int p1, .int u260]) (t := 18) (i := 0) (ci := 11) (T := TX8) (N := 47) (FS := fs8 (gl Γ) 0) (σ' := (qM σ u266 u267)) (c_X8_wrong (gL Γ) (gl Γ) hF σ  u258 u259 p1 u260  hc268) rfl rfl kw_1165 kw_1167 kp_52 kw_9 kw_1168 ⟨rfl, by decide, by decide, by decide +kernel⟩ (FMi hF (t := 18) (by decide)) (fun _ _ _ => rfl) rfl rfl rfl ⟨Nat.le_of_ble_eq_true rfl, Nat.le_of_ble_eq_true rfl⟩ rfl (Nat.le_of_ble_eq_true rfl) dX8_sees_136 ⟨_, rfl⟩ rfl ?_
                  exact K265 _ _ hf
              · rw [if_pos hc272] at hf
                refine G_aload_n hΓ 1 dX8_sees_117 rfl ?_
                refine G_iload_n hΓ 2 dX8_sees_118 rfl ?_
                refine G_bipush (v := 6) hΓ dX8_sees_119 (by decide) ?_
                refine G_iconst (v := 3) hΓ dX8_sees_121 (by decide) ?_
                obtain ⟨u270, hc271, hf⟩ := bd_some hf
                refine G_callV hΓ (n := 3) (As := [.int p1, .int 6, .int 3]) (t := 18) (i := 0) (ci := 11) (T := TX8) (N := 47) (FS := fs8 (gl Γ) 0) (σ' := (qM σ u258 u270)) (c_X8_go (gL Γ) (gl Γ) hF σ  u258 u259 p1 6 3  hc271) rfl rfl kw_1169 kw_1171 kp_53 kw_9 kw_1172 ⟨rfl, by decide, by decide, by decide +kernel⟩ (FMi hF (t := 18) (by decide)) (fun _ _ _ => rfl) rfl rfl rfl ⟨Nat.le_of_ble_eq_true rfl, Nat.le_of_ble_eq_true rfl⟩ rfl (Nat.le_of_ble_eq_true rfl) dX8_sees_122 ⟨_, rfl⟩ rfl ?_
                refine G_goto hΓ (tgt := 139) dX8_sees_125 (by decide) ?_
                exact K265 _ _ hf
            · rw [if_pos hc276] at hf
              refine G_aload_n hΓ 1 dX8_sees_103 rfl ?_
              refine G_iload_n hΓ 2 dX8_sees_104 rfl ?_
              obtain ⟨⟨u273, u274⟩, hc275, hf⟩ := bd_some hf
              try dsimp only at hf
              refine G_callV hΓ (n := 1) (As := [.int p1]) (t := 18) (i := 0) (ci := 11) (T := TX8) (N := 47) (FS := fs8 (gl Γ) 0) (σ' := (qM σ u273 u274)) (c_X8_take (gL Γ) (gl Γ) hF σ  u258 u259 p1  hc275) rfl rfl kw_1177 kw_1179 kp_55 kw_9 kw_1180 ⟨rfl, by decide, by decide, by decide +kernel⟩ (FMi hF (t := 18) (by decide)) (fun _ _ _ => rfl) rfl rfl rfl ⟨Nat.le_of_ble_eq_true rfl, Nat.le_of_ble_eq_true rfl⟩ rfl (Nat.le_of_ble_eq_true rfl) dX8_sees_105 ⟨_, rfl⟩ rfl ?_
              refine G_goto hΓ (tgt := 139) dX8_sees_108 (by decide) ?_
              exact K265 _ _ hf
        · rw [if_pos hc281] at hf
          refine G_aload_n hΓ 1 dX8_sees_66 rfl ?_
          refine G_iload_n hΓ 2 dX8_sees_67 rfl ?_
          refine G_iload_n hΓ 3 dX8_sees_68 rfl ?_
          obtain ⟨⟨u278, u279⟩, hc280, hf⟩ := bd_some hf
          try dsimp only at hf
          refine G_callV hΓ (n := 2) (As := [.int p1, .int p2]) (t := 18) (i := 0) (ci := 11) (T := TX8) (N := 47) (FS := fs8 (gl Γ) 0) (σ' := (qM σ u278 u279)) (c_X8_sent (gL Γ) (gl Γ) hF σ  u137 (va_up (va_up u138 9 (upd (u138 9) p1.toNatClampNeg x141)) 11 (upd (u138 11) p1.toNatClampNeg u139)) p1 p2  hc280) rfl rfl kw_1157 kw_1159 kp_50 kw_9 kw_1160 ⟨rfl, by decide, by decide, by decide +kernel⟩ (FMi hF (t := 18) (by decide)) (fun _ _ _ => rfl) rfl rfl rfl ⟨Nat.le_of_ble_eq_true rfl, Nat.le_of_ble_eq_true rfl⟩ rfl (Nat.le_of_ble_eq_true rfl) dX8_sees_69 ⟨_, rfl⟩ rfl ?_
          refine G_goto hΓ (tgt := 294) dX8_sees_72 (by decide) ?_
          exact K152 _ _ _ hf
      have he := he144
      refine G_icmp_ne hΓ (tgt := 47) dX8_sees_40 (by decide) (fun hc143 => ?_) (fun hc143 => ?_)
      · rw [if_neg hc143] at he
        refine G_iconst (v := 1) hΓ dX8_sees_47 (by decide) ?_
        subst he
        exact K142
      · rw [if_pos hc143] at he
        refine G_iconst (v := 2) hΓ dX8_sees_43 (by decide) ?_
        refine G_goto hΓ (tgt := 48) dX8_sees_44 (by decide) ?_
        subst he
        exact K142
    · rw [if_pos hc424] at hf
      refine G_iload_n hΓ 3 dX8_sees_27 rfl ?_
      refine G_iconst (v := 1) hΓ dX8_sees_28 (by decide) ?_
      refine G_icmp_ne hΓ (tgt := 33) dX8_sees_29 (by decide) (fun hc423 => ?_) (fun hc423 => ?_)
      · rw [if_neg hc423] at hf
        refine G_aload_n hΓ 1 dX8_sees_33 rfl ?_
        refine F_get hΓ (t := 18) (i := 0) (ci := 11) (C := RX8) (T := TX8) (N := 47) (fs8 (gl Γ) 0) (v := .ref (ya (gl Γ) 19 9)) (FMi hF (t := 18) (by decide)) (fun _ _ _ => rfl) rfl rfl rfl rfl inW8 14 (by decide) (TT_cons kw_894) rfl dX8_sees_34 ?_
        refine G_iload_n hΓ 2 dX8_sees_37 rfl ?_
        refine G_iload_n hΓ 0 dX8_sees_38 rfl ?_
        refine G_iconst (v := (-1)) hΓ dX8_sees_39 (by decide) ?_
        obtain ⟨x282, he285, hf⟩ := lt_eq hf
        have K283 : GG Γ (0, 0) (qM σ u137 u138) 48 [(3, .int u139), (0, .ref (ya (gl Γ) 18 0)), (1, .int p1), (2, .int p2)] [.int x282, .int p1, .ref (ya (gl Γ) 19 9)] := by
          obtain ⟨hg286, hf⟩ := gd_some hf
          refine F_iast hΓ (t := 19) (i := 9) (f := (u138 9)) (σ' := (qM σ u137 (va_up u138 9 (upd (u138 9) p1.toNatClampNeg x282)))) (FMi hF (t := 19) (by decide)) (fun _ _ _ => rfl) rfl qM_m hg286 dX8_sees_48 ?_
          refine G_aload_n hΓ 1 dX8_sees_49 rfl ?_
          refine F_get hΓ (t := 18) (i := 0) (ci := 11) (C := RX8) (T := TX8) (N := 47) (fs8 (gl Γ) 0) (v := .ref (ya (gl Γ) 19 11)) (FMi hF (t := 18) (by decide)) (fun _ _ _ => rfl) rfl rfl rfl rfl inW8 16 (by decide) (TT_cons kw_896) rfl dX8_sees_50 ?_
          refine G_iload_n hΓ 2 dX8_sees_53 rfl ?_
          refine G_iload_n hΓ 0 dX8_sees_54 rfl ?_
          obtain ⟨hg287, hf⟩ := gd_some hf
          refine F_iast hΓ (t := 19) (i := 11) (f := (u138 11)) (σ' := (qM σ u137 (va_up (va_up u138 9 (upd (u138 9) p1.toNatClampNeg x282)) 11 (upd (u138 11) p1.toNatClampNeg u139)))) (FMi hF (t := 19) (by decide)) (fun _ _ _ => rfl) rfl qM_m hg287 dX8_sees_55 ?_
          refine G_aload_n hΓ 1 dX8_sees_56 rfl ?_
          refine F_get hΓ (t := 18) (i := 0) (ci := 11) (C := RX8) (T := TX8) (N := 47) (fs8 (gl Γ) 0) (v := .ref (ya (gl Γ) 19 9)) (FMi hF (t := 18) (by decide)) (fun _ _ _ => rfl) rfl rfl rfl rfl inW8 14 (by decide) (TT_cons kw_894) rfl dX8_sees_57 ?_
          refine G_iload_n hΓ 2 dX8_sees_60 rfl ?_
          obtain ⟨hg288, hf⟩ := gd_some hf
          refine F_ald (G_iald hΓ) (t := 19) (i := 9) (f := (upd (u138 9) p1.toNatClampNeg x282)) (FMi hF (t := 19) (by decide)) (fun _ _ _ => rfl) rfl hg288 dX8_sees_61 ?_
          refine G_iconst (v := 1) hΓ dX8_sees_62 (by decide) ?_
          obtain ⟨k292, hk_k292, hf⟩ := jn_eq hf
          try dsimp only at hf
          have K293 : ∀ x289 x290 x291, k292 (x289, x290, x291) = some (v', m') → GG Γ (0, 0) (qM σ x289 x290) 294 [(3, .int x291), (0, .ref (ya (gl Γ) 18 0)), (1, .int p1), (2, .int p2)] [] := by
            intro x289 x290 x291 hf
            subst hk_k292
            try dsimp only at hf
            cases hf
            exact G_vret hΓ hE dX8_sees_294
          clear hk_k292
          refine G_icmp_ne hΓ (tgt := 75) dX8_sees_63 (by decide) (fun hc422 => ?_) (fun hc422 => ?_)
          · rw [if_neg hc422] at hf
            refine G_aload_n hΓ 1 dX8_sees_75 rfl ?_
            refine F_get hΓ (t := 18) (i := 0) (ci := 11) (C := RX8) (T := TX8) (N := 47) (fs8 (gl Γ) 0) (v := .ref (ya (gl Γ) 19 9)) (FMi hF (t := 18) (by decide)) (fun _ _ _ => rfl) rfl rfl rfl rfl inW8 14 (by decide) (TT_cons kw_894) rfl dX8_sees_76 ?_
            refine G_iload_n hΓ 2 dX8_sees_79 rfl ?_
            obtain ⟨hg294, hf⟩ := gd_some hf
            refine F_ald (G_iald hΓ) (t := 19) (i := 9) (f := (upd (u138 9) p1.toNatClampNeg x282)) (FMi hF (t := 19) (by decide)) (fun _ _ _ => rfl) rfl hg294 dX8_sees_80 ?_
            refine G_iconst (v := 2) hΓ dX8_sees_81 (by decide) ?_
            refine G_icmp_ne hΓ (tgt := 142) dX8_sees_82 (by decide) (fun hc418 => ?_) (fun hc418 => ?_)
            · rw [if_neg hc418] at hf
              refine G_aload_n hΓ 1 dX8_sees_142 rfl ?_
              refine F_get hΓ (t := 18) (i := 0) (ci := 11) (C := RX8) (T := TX8) (N := 47) (fs8 (gl Γ) 0) (v := .ref (ya (gl Γ) 19 10)) (FMi hF (t := 18) (by decide)) (fun _ _ _ => rfl) rfl rfl rfl rfl inW8 15 (by decide) (TT_cons kw_895) rfl dX8_sees_143 ?_
              refine G_iload_n hΓ 2 dX8_sees_146 rfl ?_
              refine G_dup2 hΓ dX8_sees_147 rfl rfl ?_
              obtain ⟨hg295, hf⟩ := gd_some hf
              refine F_ald (G_iald hΓ) (t := 19) (i := 10) (f := (u138 10)) (FMi hF (t := 19) (by decide)) (fun _ _ _ => rfl) rfl hg295 dX8_sees_148 ?_
              refine G_iconst (v := 1) hΓ dX8_sees_149 (by decide) ?_
              refine G_isub hΓ dX8_sees_150 ?_
              obtain ⟨v296, hv_v296, hf⟩ := lt_eq hf
              refine G_topi hv_v296 ?_
              obtain ⟨hg297, hf⟩ := gd_some hf
              refine F_iast hΓ (t := 19) (i := 10) (f := (u138 10)) (σ' := (qM σ u137 (va_up (va_up (va_up u138 9 (upd (u138 9) p1.toNatClampNeg x282)) 11 (upd (u138 11) p1.toNatClampNeg u139)) 10 (upd (u138 10) p1.toNatClampNeg v296)))) (FMi hF (t := 19) (by decide)) (fun _ _ _ => rfl) rfl qM_m hg297 dX8_sees_151 ?_
              refine G_aload_n hΓ 1 dX8_sees_152 rfl ?_
              refine F_get hΓ (t := 18) (i := 0) (ci := 11) (C := RX8) (T := TX8) (N := 47) (fs8 (gl Γ) 0) (v := .ref (ya (gl Γ) 19 9)) (FMi hF (t := 18) (by decide)) (fun _ _ _ => rfl) rfl rfl rfl rfl inW8 14 (by decide) (TT_cons kw_894) rfl dX8_sees_153 ?_
              refine G_iload_n hΓ 2 dX8_sees_156 rfl ?_
              obtain ⟨hg298, hf⟩ := gd_some hf
              refine F_ald (G_iald hΓ) (t := 19) (i := 9) (f := (upd (u138 9) p1.toNatClampNeg x282)) (FMi hF (t := 19) (by decide)) (fun _ _ _ => rfl) rfl hg298 dX8_sees_157 ?_
              refine G_iconst (v := 3) hΓ dX8_sees_158 (by decide) ?_
              refine G_icmp_ne hΓ (tgt := 185) dX8_sees_159 (by decide) (fun hc396 => ?_) (fun hc396 => ?_)
              · rw [if_neg hc396] at hf
                refine G_aload_n hΓ 1 dX8_sees_185 rfl ?_
                refine F_get hΓ (t := 18) (i := 0) (ci := 11) (C := RX8) (T := TX8) (N := 47) (fs8 (gl Γ) 0) (v := .ref (ya (gl Γ) 19 9)) (FMi hF (t := 18) (by decide)) (fun _ _ _ => rfl) rfl rfl rfl rfl inW8 14 (by decide) (TT_cons kw_894) rfl dX8_sees_186 ?_
                refine G_iload_n hΓ 2 dX8_sees_189 rfl ?_
                obtain ⟨hg299, hf⟩ := gd_some hf
                refine F_ald (G_iald hΓ) (t := 19) (i := 9) (f := (upd (u138 9) p1.toNatClampNeg x282)) (FMi hF (t := 19) (by decide)) (fun _ _ _ => rfl) rfl hg299 dX8_sees_190 ?_
                refine G_iconst (v := 4) hΓ dX8_sees_191 (by decide) ?_
                refine G_icmp_ne hΓ (tgt := 211) dX8_sees_192 (by decide) (fun hc389 => ?_) (fun hc389 => ?_)
                · rw [if_neg hc389] at hf
                  refine G_aload_n hΓ 1 dX8_sees_211 rfl ?_
                  refine F_get hΓ (t := 18) (i := 0) (ci := 11) (C := RX8) (T := TX8) (N := 47) (fs8 (gl Γ) 0) (v := .ref (ya (gl Γ) 19 9)) (FMi hF (t := 18) (by decide)) (fun _ _ _ => rfl) rfl rfl rfl rfl inW8 14 (by decide) (TT_cons kw_894) rfl dX8_sees_212 ?_
                  refine G_iload_n hΓ 2 dX8_sees_215 rfl ?_
                  obtain ⟨hg300, hf⟩ := gd_some hf
                  refine F_ald (G_iald hΓ) (t := 19) (i := 9) (f := (upd (u138 9) p1.toNatClampNeg x282)) (FMi hF (t := 19) (by decide)) (fun _ _ _ => rfl) rfl hg300 dX8_sees_216 ?_
                  refine G_iconst (v := 5) hΓ dX8_sees_217 (by decide) ?_
                  refine G_icmp_ne hΓ (tgt := 247) dX8_sees_218 (by decide) (fun hc342 => ?_) (fun hc342 => ?_)
                  · rw [if_neg hc342] at hf
                    refine G_aload_n hΓ 1 dX8_sees_247 rfl ?_
                    refine F_get hΓ (t := 18) (i := 0) (ci := 11) (C := RX8) (T := TX8) (N := 47) (fs8 (gl Γ) 0) (v := .ref (ya (gl Γ) 19 9)) (FMi hF (t := 18) (by decide)) (fun _ _ _ => rfl) rfl rfl rfl rfl inW8 14 (by decide) (TT_cons kw_894) rfl dX8_sees_248 ?_
                    refine G_iload_n hΓ 2 dX8_sees_251 rfl ?_
                    obtain ⟨hg301, hf⟩ := gd_some hf
                    refine F_ald (G_iald hΓ) (t := 19) (i := 9) (f := (upd (u138 9) p1.toNatClampNeg x282)) (FMi hF (t := 19) (by decide)) (fun _ _ _ => rfl) rfl hg301 dX8_sees_252 ?_
                    refine G_iconst (v := 5) hΓ dX8_sees_253 (by decide) ?_
                    refine G_icmp_ne hΓ (tgt := 277) dX8_sees_254 (by decide) (fun hc316 => ?_) (fun hc316 => ?_)
                    · rw [if_neg hc316] at hf
                      refine G_aload_n hΓ 1 dX8_sees_277 rfl ?_
                      refine F_get hΓ (t := 18) (i := 0) (ci := 11) (C := RX8) (T := TX8) (N := 47) (fs8 (gl Γ) 0) (v := .ref (ya (gl Γ) 19 9)) (FMi hF (t := 18) (by decide)) (fun _ _ _ => rfl) rfl rfl rfl rfl inW8 14 (by decide) (TT_cons kw_894) rfl dX8_sees_278 ?_
                      refine G_iload_n hΓ 2 dX8_sees_281 rfl ?_
                      obtain ⟨hg302, hf⟩ := gd_some hf
                      refine F_ald (G_iald hΓ) (t := 19) (i := 9) (f := (upd (u138 9) p1.toNatClampNeg x282)) (FMi hF (t := 19) (by decide)) (fun _ _ _ => rfl) rfl hg302 dX8_sees_282 ?_
                      refine G_bipush (v := 6) hΓ dX8_sees_283 (by decide) ?_
                      refine G_icmp_ne hΓ (tgt := 294) dX8_sees_285 (by decide) (fun hc306 => ?_) (fun hc306 => ?_)
                      · rw [if_neg hc306] at hf
                        exact K293 _ _ _ hf
                      · rw [if_pos hc306] at hf
                        refine G_aload_n hΓ 1 dX8_sees_288 rfl ?_
                        refine G_iload_n hΓ 2 dX8_sees_289 rfl ?_
                        refine G_iload_n hΓ 3 dX8_sees_290 rfl ?_
                        obtain ⟨⟨u303, u304⟩, hc305, hf⟩ := bd_some hf
                        try dsimp only at hf
                        refine G_callV hΓ (n := 2) (As := [.int p1, .int p2]) (t := 18) (i := 0) (ci := 11) (T := TX8) (N := 47) (FS := fs8 (gl Γ) 0) (σ' := (qM σ u303 u304)) (c_X8_pauses (gL Γ) (gl Γ) hF σ  u137 (va_up (va_up (va_up u138 9 (upd (u138 9) p1.toNatClampNeg x282)) 11 (upd (u138 11) p1.toNatClampNeg u139)) 10 (upd (u138 10) p1.toNatClampNeg v296)) p1 p2  hc305) rfl rfl kw_1181 kw_1183 kp_56 kw_9 kw_1184 ⟨rfl, by decide, by decide, by decide +kernel⟩ (FMi hF (t := 18) (by decide)) (fun _ _ _ => rfl) rfl rfl rfl ⟨Nat.le_of_ble_eq_true rfl, Nat.le_of_ble_eq_true rfl⟩ rfl (Nat.le_of_ble_eq_true rfl) dX8_sees_291 ⟨_, rfl⟩ rfl ?_
                        exact K293 _ _ _ hf
                    · rw [if_pos hc316] at hf
                      refine G_aload_n hΓ 1 dX8_sees_257 rfl ?_
                      refine F_get hΓ (t := 18) (i := 0) (ci := 11) (C := RX8) (T := TX8) (N := 47) (fs8 (gl Γ) 0) (v := .ref (ya (gl Γ) 19 10)) (FMi hF (t := 18) (by decide)) (fun _ _ _ => rfl) rfl rfl rfl rfl inW8 15 (by decide) (TT_cons kw_895) rfl dX8_sees_258 ?_
                      refine G_iload_n hΓ 2 dX8_sees_261 rfl ?_
                      obtain ⟨hg307, hf⟩ := gd_some hf
                      refine F_ald (G_iald hΓ) (t := 19) (i := 10) (f := (upd (u138 10) p1.toNatClampNeg v296)) (FMi hF (t := 19) (by decide)) (fun _ _ _ => rfl) rfl hg307 dX8_sees_262 ?_
                      refine G_if_ne hΓ (tgt := 277) dX8_sees_263 (by decide) (fun hc315 => ?_) (fun hc315 => ?_)
                      · rw [if_neg hc315] at hf
                        refine G_aload_n hΓ 1 dX8_sees_277 rfl ?_
                        refine F_get hΓ (t := 18) (i := 0) (ci := 11) (C := RX8) (T := TX8) (N := 47) (fs8 (gl Γ) 0) (v := .ref (ya (gl Γ) 19 9)) (FMi hF (t := 18) (by decide)) (fun _ _ _ => rfl) rfl rfl rfl rfl inW8 14 (by decide) (TT_cons kw_894) rfl dX8_sees_278 ?_
                        refine G_iload_n hΓ 2 dX8_sees_281 rfl ?_
                        obtain ⟨hg308, hf⟩ := gd_some hf
                        refine F_ald (G_iald hΓ) (t := 19) (i := 9) (f := (upd (u138 9) p1.toNatClampNeg x282)) (FMi hF (t := 19) (by decide)) (fun _ _ _ => rfl) rfl hg308 dX8_sees_282 ?_
                        refine G_bipush (v := 6) hΓ dX8_sees_283 (by decide) ?_
                        refine G_icmp_ne hΓ (tgt := 294) dX8_sees_285 (by decide) (fun hc312 => ?_) (fun hc312 => ?_)
                        · rw [if_neg hc312] at hf
                          exact K293 _ _ _ hf
                        · rw [if_pos hc312] at hf
                          refine G_aload_n hΓ 1 dX8_sees_288 rfl ?_
                          refine G_iload_n hΓ 2 dX8_sees_289 rfl ?_
                          refine G_iload_n hΓ 3 dX8_sees_290 rfl ?_
                          obtain ⟨⟨u309, u310⟩, hc311, hf⟩ := bd_some hf
                          try dsimp only at hf
                          refine G_callV hΓ (n := 2) (As := [.int p1, .int p2]) (t := 18) (i := 0) (ci := 11) (T := TX8) (N := 47) (FS := fs8 (gl Γ) 0) (σ' := (qM σ u309 u310)) (c_X8_pauses (gL Γ) (gl Γ) hF σ  u137 (va_up (va_up (va_up u138 9 (upd (u138 9) p1.toNatClampNeg x282)) 11 (upd (u138 11) p1.toNatClampNeg u139)) 10 (upd (u138 10) p1.toNatClampNeg v296)) p1 p2  hc311) rfl rfl kw_1181 kw_1183 kp_56 kw_9 kw_1184 ⟨rfl, by decide, by decide, by decide +kernel⟩ (FMi hF (t := 18) (by decide)) (fun _ _ _ => rfl) rfl rfl rfl ⟨Nat.le_of_ble_eq_true rfl, Nat.le_of_ble_eq_true rfl⟩ rfl (Nat.le_of_ble_eq_true rfl) dX8_sees_291 ⟨_, rfl⟩ rfl ?_
                          exact K293 _ _ _ hf
                      · rw [if_pos hc315] at hf
                        refine G_aload_n hΓ 1 dX8_sees_266 rfl ?_
                        refine G_iload_n hΓ 2 dX8_sees_267 rfl ?_
                        refine G_bipush (v := 6) hΓ dX8_sees_268 (by decide) ?_
                        refine G_iconst (v := 3) hΓ dX8_sees_270 (by decide) ?_
                        obtain ⟨u313, hc314, hf⟩ := bd_some hf
                        refine G_callV hΓ (n := 3) (As := [.int p1, .int 6, .int 3]) (t := 18) (i := 0) (ci := 11) (T := TX8) (N := 47) (FS := fs8 (gl Γ) 0) (σ' := (qM σ u137 u313)) (c_X8_go (gL Γ) (gl Γ) hF σ  u137 (va_up (va_up (va_up u138 9 (upd (u138 9) p1.toNatClampNeg x282)) 11 (upd (u138 11) p1.toNatClampNeg u139)) 10 (upd (u138 10) p1.toNatClampNeg v296)) p1 6 3  hc314) rfl rfl kw_1169 kw_1171 kp_53 kw_9 kw_1172 ⟨rfl, by decide, by decide, by decide +kernel⟩ (FMi hF (t := 18) (by decide)) (fun _ _ _ => rfl) rfl rfl rfl ⟨Nat.le_of_ble_eq_true rfl, Nat.le_of_ble_eq_true rfl⟩ rfl (Nat.le_of_ble_eq_true rfl) dX8_sees_271 ⟨_, rfl⟩ rfl ?_
                        refine G_goto hΓ (tgt := 294) dX8_sees_274 (by decide) ?_
                        exact K293 _ _ _ hf
                  · rw [if_pos hc342] at hf
                    refine G_iload_n hΓ 3 dX8_sees_221 rfl ?_
                    refine G_if_ne hΓ (tgt := 247) dX8_sees_222 (by decide) (fun hc341 => ?_) (fun hc341 => ?_)
                    · rw [if_neg hc341] at hf
                      refine G_aload_n hΓ 1 dX8_sees_247 rfl ?_
                      refine F_get hΓ (t := 18) (i := 0) (ci := 11) (C := RX8) (T := TX8) (N := 47) (fs8 (gl Γ) 0) (v := .ref (ya (gl Γ) 19 9)) (FMi hF (t := 18) (by decide)) (fun _ _ _ => rfl) rfl rfl rfl rfl inW8 14 (by decide) (TT_cons kw_894) rfl dX8_sees_248 ?_
                      refine G_iload_n hΓ 2 dX8_sees_251 rfl ?_
                      obtain ⟨hg317, hf⟩ := gd_some hf
                      refine F_ald (G_iald hΓ) (t := 19) (i := 9) (f := (upd (u138 9) p1.toNatClampNeg x282)) (FMi hF (t := 19) (by decide)) (fun _ _ _ => rfl) rfl hg317 dX8_sees_252 ?_
                      refine G_iconst (v := 5) hΓ dX8_sees_253 (by decide) ?_
                      refine G_icmp_ne hΓ (tgt := 277) dX8_sees_254 (by decide) (fun hc332 => ?_) (fun hc332 => ?_)
                      · rw [if_neg hc332] at hf
                        refine G_aload_n hΓ 1 dX8_sees_277 rfl ?_
                        refine F_get hΓ (t := 18) (i := 0) (ci := 11) (C := RX8) (T := TX8) (N := 47) (fs8 (gl Γ) 0) (v := .ref (ya (gl Γ) 19 9)) (FMi hF (t := 18) (by decide)) (fun _ _ _ => rfl) rfl rfl rfl rfl inW8 14 (by decide) (TT_cons kw_894) rfl dX8_sees_278 ?_
                        refine G_iload_n hΓ 2 dX8_sees_281 rfl ?_
                        obtain ⟨hg318, hf⟩ := gd_some hf
                        refine F_ald (G_iald hΓ) (t := 19) (i := 9) (f := (upd (u138 9) p1.toNatClampNeg x282)) (FMi hF (t := 19) (by decide)) (fun _ _ _ => rfl) rfl hg318 dX8_sees_282 ?_
                        refine G_bipush (v := 6) hΓ dX8_sees_283 (by decide) ?_
                        refine G_icmp_ne hΓ (tgt := 294) dX8_sees_285 (by decide) (fun hc322 => ?_) (fun hc322 => ?_)
                        · rw [if_neg hc322] at hf
                          exact K293 _ _ _ hf
                        · rw [if_pos hc322] at hf
                          refine G_aload_n hΓ 1 dX8_sees_288 rfl ?_
                          refine G_iload_n hΓ 2 dX8_sees_289 rfl ?_
                          refine G_iload_n hΓ 3 dX8_sees_290 rfl ?_
                          obtain ⟨⟨u319, u320⟩, hc321, hf⟩ := bd_some hf
                          try dsimp only at hf
                          refine G_callV hΓ (n := 2) (As := [.int p1, .int p2]) (t := 18) (i := 0) (ci := 11) (T := TX8) (N := 47) (FS := fs8 (gl Γ) 0) (σ' := (qM σ u319 u320)) (c_X8_pauses (gL Γ) (gl Γ) hF σ  u137 (va_up (va_up (va_up u138 9 (upd (u138 9) p1.toNatClampNeg x282)) 11 (upd (u138 11) p1.toNatClampNeg u139)) 10 (upd (u138 10) p1.toNatClampNeg v296)) p1 p2  hc321) rfl rfl kw_1181 kw_1183 kp_56 kw_9 kw_1184 ⟨rfl, by decide, by decide, by decide +kernel⟩ (FMi hF (t := 18) (by decide)) (fun _ _ _ => rfl) rfl rfl rfl ⟨Nat.le_of_ble_eq_true rfl, Nat.le_of_ble_eq_true rfl⟩ rfl (Nat.le_of_ble_eq_true rfl) dX8_sees_291 ⟨_, rfl⟩ rfl ?_
                          exact K293 _ _ _ hf
                      · rw [if_pos hc332] at hf
                        refine G_aload_n hΓ 1 dX8_sees_257 rfl ?_
                        refine F_get hΓ (t := 18) (i := 0) (ci := 11) (C := RX8) (T := TX8) (N := 47) (fs8 (gl Γ) 0) (v := .ref (ya (gl Γ) 19 10)) (FMi hF (t := 18) (by decide)) (fun _ _ _ => rfl) rfl rfl rfl rfl inW8 15 (by decide) (TT_cons kw_895) rfl dX8_sees_258 ?_
                        refine G_iload_n hΓ 2 dX8_sees_261 rfl ?_
                        obtain ⟨hg323, hf⟩ := gd_some hf
                        refine F_ald (G_iald hΓ) (t := 19) (i := 10) (f := (upd (u138 10) p1.toNatClampNeg v296)) (FMi hF (t := 19) (by decide)) (fun _ _ _ => rfl) rfl hg323 dX8_sees_262 ?_
                        refine G_if_ne hΓ (tgt := 277) dX8_sees_263 (by decide) (fun hc331 => ?_) (fun hc331 => ?_)
                        · rw [if_neg hc331] at hf
                          refine G_aload_n hΓ 1 dX8_sees_277 rfl ?_
                          refine F_get hΓ (t := 18) (i := 0) (ci := 11) (C := RX8) (T := TX8) (N := 47) (fs8 (gl Γ) 0) (v := .ref (ya (gl Γ) 19 9)) (FMi hF (t := 18) (by decide)) (fun _ _ _ => rfl) rfl rfl rfl rfl inW8 14 (by decide) (TT_cons kw_894) rfl dX8_sees_278 ?_
                          refine G_iload_n hΓ 2 dX8_sees_281 rfl ?_
                          obtain ⟨hg324, hf⟩ := gd_some hf
                          refine F_ald (G_iald hΓ) (t := 19) (i := 9) (f := (upd (u138 9) p1.toNatClampNeg x282)) (FMi hF (t := 19) (by decide)) (fun _ _ _ => rfl) rfl hg324 dX8_sees_282 ?_
                          refine G_bipush (v := 6) hΓ dX8_sees_283 (by decide) ?_
                          refine G_icmp_ne hΓ (tgt := 294) dX8_sees_285 (by decide) (fun hc328 => ?_) (fun hc328 => ?_)
                          · rw [if_neg hc328] at hf
                            exact K293 _ _ _ hf
                          · rw [if_pos hc328] at hf
                            refine G_aload_n hΓ 1 dX8_sees_288 rfl ?_
                            refine G_iload_n hΓ 2 dX8_sees_289 rfl ?_
                            refine G_iload_n hΓ 3 dX8_sees_290 rfl ?_
                            obtain ⟨⟨u325, u326⟩, hc327, hf⟩ := bd_some hf
                            try dsimp only at hf
                            refine G_callV hΓ (n := 2) (As := [.int p1, .int p2]) (t := 18) (i := 0) (ci := 11) (T := TX8) (N := 47) (FS := fs8 (gl Γ) 0) (σ' := (qM σ u325 u326)) (c_X8_pauses (gL Γ) (gl Γ) hF σ  u137 (va_up (va_up (va_up u138 9 (upd (u138 9) p1.toNatClampNeg x282)) 11 (upd (u138 11) p1.toNatClampNeg u139)) 10 (upd (u138 10) p1.toNatClampNeg v296)) p1 p2  hc327) rfl rfl kw_1181 kw_1183 kp_56 kw_9 kw_1184 ⟨rfl, by decide, by decide, by decide +kernel⟩ (FMi hF (t := 18) (by decide)) (fun _ _ _ => rfl) rfl rfl rfl ⟨Nat.le_of_ble_eq_true rfl, Nat.le_of_ble_eq_true rfl⟩ rfl (Nat.le_of_ble_eq_true rfl) dX8_sees_291 ⟨_, rfl⟩ rfl ?_
                            exact K293 _ _ _ hf
                        · rw [if_pos hc331] at hf
                          refine G_aload_n hΓ 1 dX8_sees_266 rfl ?_
                          refine G_iload_n hΓ 2 dX8_sees_267 rfl ?_
                          refine G_bipush (v := 6) hΓ dX8_sees_268 (by decide) ?_
                          refine G_iconst (v := 3) hΓ dX8_sees_270 (by decide) ?_
                          obtain ⟨u329, hc330, hf⟩ := bd_some hf
                          refine G_callV hΓ (n := 3) (As := [.int p1, .int 6, .int 3]) (t := 18) (i := 0) (ci := 11) (T := TX8) (N := 47) (FS := fs8 (gl Γ) 0) (σ' := (qM σ u137 u329)) (c_X8_go (gL Γ) (gl Γ) hF σ  u137 (va_up (va_up (va_up u138 9 (upd (u138 9) p1.toNatClampNeg x282)) 11 (upd (u138 11) p1.toNatClampNeg u139)) 10 (upd (u138 10) p1.toNatClampNeg v296)) p1 6 3  hc330) rfl rfl kw_1169 kw_1171 kp_53 kw_9 kw_1172 ⟨rfl, by decide, by decide, by decide +kernel⟩ (FMi hF (t := 18) (by decide)) (fun _ _ _ => rfl) rfl rfl rfl ⟨Nat.le_of_ble_eq_true rfl, Nat.le_of_ble_eq_true rfl⟩ rfl (Nat.le_of_ble_eq_true rfl) dX8_sees_271 ⟨_, rfl⟩ rfl ?_
                          refine G_goto hΓ (tgt := 294) dX8_sees_274 (by decide) ?_
                          exact K293 _ _ _ hf
                    · rw [if_pos hc341] at hf
                      refine G_aload_n hΓ 1 dX8_sees_225 rfl ?_
                      refine G_iload_n hΓ 2 dX8_sees_226 rfl ?_
                      refine G_aload_n hΓ 1 dX8_sees_227 rfl ?_
                      refine F_get hΓ (t := 18) (i := 0) (ci := 11) (C := RX8) (T := TX8) (N := 47) (fs8 (gl Γ) 0) (v := .ref (ya (gl Γ) 19 10)) (FMi hF (t := 18) (by decide)) (fun _ _ _ => rfl) rfl rfl rfl rfl inW8 15 (by decide) (TT_cons kw_895) rfl dX8_sees_228 ?_
                      refine G_iload_n hΓ 2 dX8_sees_231 rfl ?_
                      obtain ⟨hg333, hf⟩ := gd_some hf
                      refine F_ald (G_iald hΓ) (t := 19) (i := 10) (f := (upd (u138 10) p1.toNatClampNeg v296)) (FMi hF (t := 19) (by decide)) (fun _ _ _ => rfl) rfl hg333 dX8_sees_232 ?_
                      obtain ⟨x334, he337, hf⟩ := lt_eq hf
                      have K335 : GG Γ (0, 0) (qM σ u137 (va_up (va_up (va_up u138 9 (upd (u138 9) p1.toNatClampNeg x282)) 11 (upd (u138 11) p1.toNatClampNeg u139)) 10 (upd (u138 10) p1.toNatClampNeg v296))) 241 [(3, .int u139), (0, .ref (ya (gl Γ) 18 0)), (1, .int p1), (2, .int p2)] [.int x334, .int p1, .ref (ya (gl Γ) 18 0)] := by
                        obtain ⟨⟨u338, u339⟩, hc340, hf⟩ := bd_some hf
                        try dsimp only at hf
                        refine G_callV hΓ (n := 2) (As := [.int p1, .int x334]) (t := 18) (i := 0) (ci := 11) (T := TX8) (N := 47) (FS := fs8 (gl Γ) 0) (σ' := (qM σ u338 u339)) (c_X8_wrong (gL Γ) (gl Γ) hF σ  u137 (va_up (va_up (va_up u138 9 (upd (u138 9) p1.toNatClampNeg x282)) 11 (upd (u138 11) p1.toNatClampNeg u139)) 10 (upd (u138 10) p1.toNatClampNeg v296)) p1 x334  hc340) rfl rfl kw_1165 kw_1167 kp_52 kw_9 kw_1168 ⟨rfl, by decide, by decide, by decide +kernel⟩ (FMi hF (t := 18) (by decide)) (fun _ _ _ => rfl) rfl rfl rfl ⟨Nat.le_of_ble_eq_true rfl, Nat.le_of_ble_eq_true rfl⟩ rfl (Nat.le_of_ble_eq_true rfl) dX8_sees_241 ⟨_, rfl⟩ rfl ?_
                        refine G_goto hΓ (tgt := 294) dX8_sees_244 (by decide) ?_
                        exact K293 _ _ _ hf
                      have he := he337
                      refine G_if_ne hΓ (tgt := 240) dX8_sees_233 (by decide) (fun hc336 => ?_) (fun hc336 => ?_)
                      · rw [if_neg hc336] at he
                        refine G_iconst (v := 2) hΓ dX8_sees_240 (by decide) ?_
                        subst he
                        exact K335
                      · rw [if_pos hc336] at he
                        refine G_iconst (v := 5) hΓ dX8_sees_236 (by decide) ?_
                        refine G_goto hΓ (tgt := 241) dX8_sees_237 (by decide) ?_
                        subst he
                        exact K335
                · rw [if_pos hc389] at hf
                  refine G_iload_n hΓ 3 dX8_sees_195 rfl ?_
                  refine G_iconst (v := 1) hΓ dX8_sees_196 (by decide) ?_
                  refine G_icmp_ne hΓ (tgt := 211) dX8_sees_197 (by decide) (fun hc388 => ?_) (fun hc388 => ?_)
                  · rw [if_neg hc388] at hf
                    refine G_aload_n hΓ 1 dX8_sees_211 rfl ?_
                    refine F_get hΓ (t := 18) (i := 0) (ci := 11) (C := RX8) (T := TX8) (N := 47) (fs8 (gl Γ) 0) (v := .ref (ya (gl Γ) 19 9)) (FMi hF (t := 18) (by decide)) (fun _ _ _ => rfl) rfl rfl rfl rfl inW8 14 (by decide) (TT_cons kw_894) rfl dX8_sees_212 ?_
                    refine G_iload_n hΓ 2 dX8_sees_215 rfl ?_
                    obtain ⟨hg343, hf⟩ := gd_some hf
                    refine F_ald (G_iald hΓ) (t := 19) (i := 9) (f := (upd (u138 9) p1.toNatClampNeg x282)) (FMi hF (t := 19) (by decide)) (fun _ _ _ => rfl) rfl hg343 dX8_sees_216 ?_
                    refine G_iconst (v := 5) hΓ dX8_sees_217 (by decide) ?_
                    refine G_icmp_ne hΓ (tgt := 247) dX8_sees_218 (by decide) (fun hc385 => ?_) (fun hc385 => ?_)
                    · rw [if_neg hc385] at hf
                      refine G_aload_n hΓ 1 dX8_sees_247 rfl ?_
                      refine F_get hΓ (t := 18) (i := 0) (ci := 11) (C := RX8) (T := TX8) (N := 47) (fs8 (gl Γ) 0) (v := .ref (ya (gl Γ) 19 9)) (FMi hF (t := 18) (by decide)) (fun _ _ _ => rfl) rfl rfl rfl rfl inW8 14 (by decide) (TT_cons kw_894) rfl dX8_sees_248 ?_
                      refine G_iload_n hΓ 2 dX8_sees_251 rfl ?_
                      obtain ⟨hg344, hf⟩ := gd_some hf
                      refine F_ald (G_iald hΓ) (t := 19) (i := 9) (f := (upd (u138 9) p1.toNatClampNeg x282)) (FMi hF (t := 19) (by decide)) (fun _ _ _ => rfl) rfl hg344 dX8_sees_252 ?_
                      refine G_iconst (v := 5) hΓ dX8_sees_253 (by decide) ?_
                      refine G_icmp_ne hΓ (tgt := 277) dX8_sees_254 (by decide) (fun hc359 => ?_) (fun hc359 => ?_)
                      · rw [if_neg hc359] at hf
                        refine G_aload_n hΓ 1 dX8_sees_277 rfl ?_
                        refine F_get hΓ (t := 18) (i := 0) (ci := 11) (C := RX8) (T := TX8) (N := 47) (fs8 (gl Γ) 0) (v := .ref (ya (gl Γ) 19 9)) (FMi hF (t := 18) (by decide)) (fun _ _ _ => rfl) rfl rfl rfl rfl inW8 14 (by decide) (TT_cons kw_894) rfl dX8_sees_278 ?_
                        refine G_iload_n hΓ 2 dX8_sees_281 rfl ?_
                        obtain ⟨hg345, hf⟩ := gd_some hf
                        refine F_ald (G_iald hΓ) (t := 19) (i := 9) (f := (upd (u138 9) p1.toNatClampNeg x282)) (FMi hF (t := 19) (by decide)) (fun _ _ _ => rfl) rfl hg345 dX8_sees_282 ?_
                        refine G_bipush (v := 6) hΓ dX8_sees_283 (by decide) ?_
                        refine G_icmp_ne hΓ (tgt := 294) dX8_sees_285 (by decide) (fun hc349 => ?_) (fun hc349 => ?_)
                        · rw [if_neg hc349] at hf
                          exact K293 _ _ _ hf
                        · rw [if_pos hc349] at hf
                          refine G_aload_n hΓ 1 dX8_sees_288 rfl ?_
                          refine G_iload_n hΓ 2 dX8_sees_289 rfl ?_
                          refine G_iload_n hΓ 3 dX8_sees_290 rfl ?_
                          obtain ⟨⟨u346, u347⟩, hc348, hf⟩ := bd_some hf
                          try dsimp only at hf
                          refine G_callV hΓ (n := 2) (As := [.int p1, .int p2]) (t := 18) (i := 0) (ci := 11) (T := TX8) (N := 47) (FS := fs8 (gl Γ) 0) (σ' := (qM σ u346 u347)) (c_X8_pauses (gL Γ) (gl Γ) hF σ  u137 (va_up (va_up (va_up u138 9 (upd (u138 9) p1.toNatClampNeg x282)) 11 (upd (u138 11) p1.toNatClampNeg u139)) 10 (upd (u138 10) p1.toNatClampNeg v296)) p1 p2  hc348) rfl rfl kw_1181 kw_1183 kp_56 kw_9 kw_1184 ⟨rfl, by decide, by decide, by decide +kernel⟩ (FMi hF (t := 18) (by decide)) (fun _ _ _ => rfl) rfl rfl rfl ⟨Nat.le_of_ble_eq_true rfl, Nat.le_of_ble_eq_true rfl⟩ rfl (Nat.le_of_ble_eq_true rfl) dX8_sees_291 ⟨_, rfl⟩ rfl ?_
                          exact K293 _ _ _ hf
                      · rw [if_pos hc359] at hf
                        refine G_aload_n hΓ 1 dX8_sees_257 rfl ?_
                        refine F_get hΓ (t := 18) (i := 0) (ci := 11) (C := RX8) (T := TX8) (N := 47) (fs8 (gl Γ) 0) (v := .ref (ya (gl Γ) 19 10)) (FMi hF (t := 18) (by decide)) (fun _ _ _ => rfl) rfl rfl rfl rfl inW8 15 (by decide) (TT_cons kw_895) rfl dX8_sees_258 ?_
                        refine G_iload_n hΓ 2 dX8_sees_261 rfl ?_
                        obtain ⟨hg350, hf⟩ := gd_some hf
                        refine F_ald (G_iald hΓ) (t := 19) (i := 10) (f := (upd (u138 10) p1.toNatClampNeg v296)) (FMi hF (t := 19) (by decide)) (fun _ _ _ => rfl) rfl hg350 dX8_sees_262 ?_
                        refine G_if_ne hΓ (tgt := 277) dX8_sees_263 (by decide) (fun hc358 => ?_) (fun hc358 => ?_)
                        · rw [if_neg hc358] at hf
                          refine G_aload_n hΓ 1 dX8_sees_277 rfl ?_
                          refine F_get hΓ (t := 18) (i := 0) (ci := 11) (C := RX8) (T := TX8) (N := 47) (fs8 (gl Γ) 0) (v := .ref (ya (gl Γ) 19 9)) (FMi hF (t := 18) (by decide)) (fun _ _ _ => rfl) rfl rfl rfl rfl inW8 14 (by decide) (TT_cons kw_894) rfl dX8_sees_278 ?_
                          refine G_iload_n hΓ 2 dX8_sees_281 rfl ?_
                          obtain ⟨hg351, hf⟩ := gd_some hf
                          refine F_ald (G_iald hΓ) (t := 19) (i := 9) (f := (upd (u138 9) p1.toNatClampNeg x282)) (FMi hF (t := 19) (by decide)) (fun _ _ _ => rfl) rfl hg351 dX8_sees_282 ?_
                          refine G_bipush (v := 6) hΓ dX8_sees_283 (by decide) ?_
                          refine G_icmp_ne hΓ (tgt := 294) dX8_sees_285 (by decide) (fun hc355 => ?_) (fun hc355 => ?_)
                          · rw [if_neg hc355] at hf
                            exact K293 _ _ _ hf
                          · rw [if_pos hc355] at hf
                            refine G_aload_n hΓ 1 dX8_sees_288 rfl ?_
                            refine G_iload_n hΓ 2 dX8_sees_289 rfl ?_
                            refine G_iload_n hΓ 3 dX8_sees_290 rfl ?_
                            obtain ⟨⟨u352, u353⟩, hc354, hf⟩ := bd_some hf
                            try dsimp only at hf
                            refine G_callV hΓ (n := 2) (As := [.int p1, .int p2]) (t := 18) (i := 0) (ci := 11) (T := TX8) (N := 47) (FS := fs8 (gl Γ) 0) (σ' := (qM σ u352 u353)) (c_X8_pauses (gL Γ) (gl Γ) hF σ  u137 (va_up (va_up (va_up u138 9 (upd (u138 9) p1.toNatClampNeg x282)) 11 (upd (u138 11) p1.toNatClampNeg u139)) 10 (upd (u138 10) p1.toNatClampNeg v296)) p1 p2  hc354) rfl rfl kw_1181 kw_1183 kp_56 kw_9 kw_1184 ⟨rfl, by decide, by decide, by decide +kernel⟩ (FMi hF (t := 18) (by decide)) (fun _ _ _ => rfl) rfl rfl rfl ⟨Nat.le_of_ble_eq_true rfl, Nat.le_of_ble_eq_true rfl⟩ rfl (Nat.le_of_ble_eq_true rfl) dX8_sees_291 ⟨_, rfl⟩ rfl ?_
                            exact K293 _ _ _ hf
                        · rw [if_pos hc358] at hf
                          refine G_aload_n hΓ 1 dX8_sees_266 rfl ?_
                          refine G_iload_n hΓ 2 dX8_sees_267 rfl ?_
                          refine G_bipush (v := 6) hΓ dX8_sees_268 (by decide) ?_
                          refine G_iconst (v := 3) hΓ dX8_sees_270 (by decide) ?_
                          obtain ⟨u356, hc357, hf⟩ := bd_some hf
                          refine G_callV hΓ (n := 3) (As := [.int p1, .int 6, .int 3]) (t := 18) (i := 0) (ci := 11) (T := TX8) (N := 47) (FS := fs8 (gl Γ) 0) (σ' := (qM σ u137 u356)) (c_X8_go (gL Γ) (gl Γ) hF σ  u137 (va_up (va_up (va_up u138 9 (upd (u138 9) p1.toNatClampNeg x282)) 11 (upd (u138 11) p1.toNatClampNeg u139)) 10 (upd (u138 10) p1.toNatClampNeg v296)) p1 6 3  hc357) rfl rfl kw_1169 kw_1171 kp_53 kw_9 kw_1172 ⟨rfl, by decide, by decide, by decide +kernel⟩ (FMi hF (t := 18) (by decide)) (fun _ _ _ => rfl) rfl rfl rfl ⟨Nat.le_of_ble_eq_true rfl, Nat.le_of_ble_eq_true rfl⟩ rfl (Nat.le_of_ble_eq_true rfl) dX8_sees_271 ⟨_, rfl⟩ rfl ?_
                          refine G_goto hΓ (tgt := 294) dX8_sees_274 (by decide) ?_
                          exact K293 _ _ _ hf
                    · rw [if_pos hc385] at hf
                      refine G_iload_n hΓ 3 dX8_sees_221 rfl ?_
                      refine G_if_ne hΓ (tgt := 247) dX8_sees_222 (by decide) (fun hc384 => ?_) (fun hc384 => ?_)
                      · rw [if_neg hc384] at hf
                        refine G_aload_n hΓ 1 dX8_sees_247 rfl ?_
                        refine F_get hΓ (t := 18) (i := 0) (ci := 11) (C := RX8) (T := TX8) (N := 47) (fs8 (gl Γ) 0) (v := .ref (ya (gl Γ) 19 9)) (FMi hF (t := 18) (by decide)) (fun _ _ _ => rfl) rfl rfl rfl rfl inW8 14 (by decide) (TT_cons kw_894) rfl dX8_sees_248 ?_
                        refine G_iload_n hΓ 2 dX8_sees_251 rfl ?_
                        obtain ⟨hg360, hf⟩ := gd_some hf
                        refine F_ald (G_iald hΓ) (t := 19) (i := 9) (f := (upd (u138 9) p1.toNatClampNeg x282)) (FMi hF (t := 19) (by decide)) (fun _ _ _ => rfl) rfl hg360 dX8_sees_252 ?_
                        refine G_iconst (v := 5) hΓ dX8_sees_253 (by decide) ?_
                        refine G_icmp_ne hΓ (tgt := 277) dX8_sees_254 (by decide) (fun hc375 => ?_) (fun hc375 => ?_)
                        · rw [if_neg hc375] at hf
                          refine G_aload_n hΓ 1 dX8_sees_277 rfl ?_
                          refine F_get hΓ (t := 18) (i := 0) (ci := 11) (C := RX8) (T := TX8) (N := 47) (fs8 (gl Γ) 0) (v := .ref (ya (gl Γ) 19 9)) (FMi hF (t := 18) (by decide)) (fun _ _ _ => rfl) rfl rfl rfl rfl inW8 14 (by decide) (TT_cons kw_894) rfl dX8_sees_278 ?_
                          refine G_iload_n hΓ 2 dX8_sees_281 rfl ?_
                          obtain ⟨hg361, hf⟩ := gd_some hf
                          refine F_ald (G_iald hΓ) (t := 19) (i := 9) (f := (upd (u138 9) p1.toNatClampNeg x282)) (FMi hF (t := 19) (by decide)) (fun _ _ _ => rfl) rfl hg361 dX8_sees_282 ?_
                          refine G_bipush (v := 6) hΓ dX8_sees_283 (by decide) ?_
                          refine G_icmp_ne hΓ (tgt := 294) dX8_sees_285 (by decide) (fun hc365 => ?_) (fun hc365 => ?_)
                          · rw [if_neg hc365] at hf
                            exact K293 _ _ _ hf
                          · rw [if_pos hc365] at hf
                            refine G_aload_n hΓ 1 dX8_sees_288 rfl ?_
                            refine G_iload_n hΓ 2 dX8_sees_289 rfl ?_
                            refine G_iload_n hΓ 3 dX8_sees_290 rfl ?_
                            obtain ⟨⟨u362, u363⟩, hc364, hf⟩ := bd_some hf
                            try dsimp only at hf
                            refine G_callV hΓ (n := 2) (As := [.int p1, .int p2]) (t := 18) (i := 0) (ci := 11) (T := TX8) (N := 47) (FS := fs8 (gl Γ) 0) (σ' := (qM σ u362 u363)) (c_X8_pauses (gL Γ) (gl Γ) hF σ  u137 (va_up (va_up (va_up u138 9 (upd (u138 9) p1.toNatClampNeg x282)) 11 (upd (u138 11) p1.toNatClampNeg u139)) 10 (upd (u138 10) p1.toNatClampNeg v296)) p1 p2  hc364) rfl rfl kw_1181 kw_1183 kp_56 kw_9 kw_1184 ⟨rfl, by decide, by decide, by decide +kernel⟩ (FMi hF (t := 18) (by decide)) (fun _ _ _ => rfl) rfl rfl rfl ⟨Nat.le_of_ble_eq_true rfl, Nat.le_of_ble_eq_true rfl⟩ rfl (Nat.le_of_ble_eq_true rfl) dX8_sees_291 ⟨_, rfl⟩ rfl ?_
                            exact K293 _ _ _ hf
                        · rw [if_pos hc375] at hf
                          refine G_aload_n hΓ 1 dX8_sees_257 rfl ?_
                          refine F_get hΓ (t := 18) (i := 0) (ci := 11) (C := RX8) (T := TX8) (N := 47) (fs8 (gl Γ) 0) (v := .ref (ya (gl Γ) 19 10)) (FMi hF (t := 18) (by decide)) (fun _ _ _ => rfl) rfl rfl rfl rfl inW8 15 (by decide) (TT_cons kw_895) rfl dX8_sees_258 ?_
                          refine G_iload_n hΓ 2 dX8_sees_261 rfl ?_
                          obtain ⟨hg366, hf⟩ := gd_some hf
                          refine F_ald (G_iald hΓ) (t := 19) (i := 10) (f := (upd (u138 10) p1.toNatClampNeg v296)) (FMi hF (t := 19) (by decide)) (fun _ _ _ => rfl) rfl hg366 dX8_sees_262 ?_
                          refine G_if_ne hΓ (tgt := 277) dX8_sees_263 (by decide) (fun hc374 => ?_) (fun hc374 => ?_)
                          · rw [if_neg hc374] at hf
                            refine G_aload_n hΓ 1 dX8_sees_277 rfl ?_
                            refine F_get hΓ (t := 18) (i := 0) (ci := 11) (C := RX8) (T := TX8) (N := 47) (fs8 (gl Γ) 0) (v := .ref (ya (gl Γ) 19 9)) (FMi hF (t := 18) (by decide)) (fun _ _ _ => rfl) rfl rfl rfl rfl inW8 14 (by decide) (TT_cons kw_894) rfl dX8_sees_278 ?_
                            refine G_iload_n hΓ 2 dX8_sees_281 rfl ?_
                            obtain ⟨hg367, hf⟩ := gd_some hf
                            refine F_ald (G_iald hΓ) (t := 19) (i := 9) (f := (upd (u138 9) p1.toNatClampNeg x282)) (FMi hF (t := 19) (by decide)) (fun _ _ _ => rfl) rfl hg367 dX8_sees_282 ?_
                            refine G_bipush (v := 6) hΓ dX8_sees_283 (by decide) ?_
                            refine G_icmp_ne hΓ (tgt := 294) dX8_sees_285 (by decide) (fun hc371 => ?_) (fun hc371 => ?_)
                            · rw [if_neg hc371] at hf
                              exact K293 _ _ _ hf
                            · rw [if_pos hc371] at hf
                              refine G_aload_n hΓ 1 dX8_sees_288 rfl ?_
                              refine G_iload_n hΓ 2 dX8_sees_289 rfl ?_
                              refine G_iload_n hΓ 3 dX8_sees_290 rfl ?_
                              obtain ⟨⟨u368, u369⟩, hc370, hf⟩ := bd_some hf
                              try dsimp only at hf
                              refine G_callV hΓ (n := 2) (As := [.int p1, .int p2]) (t := 18) (i := 0) (ci := 11) (T := TX8) (N := 47) (FS := fs8 (gl Γ) 0) (σ' := (qM σ u368 u369)) (c_X8_pauses (gL Γ) (gl Γ) hF σ  u137 (va_up (va_up (va_up u138 9 (upd (u138 9) p1.toNatClampNeg x282)) 11 (upd (u138 11) p1.toNatClampNeg u139)) 10 (upd (u138 10) p1.toNatClampNeg v296)) p1 p2  hc370) rfl rfl kw_1181 kw_1183 kp_56 kw_9 kw_1184 ⟨rfl, by decide, by decide, by decide +kernel⟩ (FMi hF (t := 18) (by decide)) (fun _ _ _ => rfl) rfl rfl rfl ⟨Nat.le_of_ble_eq_true rfl, Nat.le_of_ble_eq_true rfl⟩ rfl (Nat.le_of_ble_eq_true rfl) dX8_sees_291 ⟨_, rfl⟩ rfl ?_
                              exact K293 _ _ _ hf
                          · rw [if_pos hc374] at hf
                            refine G_aload_n hΓ 1 dX8_sees_266 rfl ?_
                            refine G_iload_n hΓ 2 dX8_sees_267 rfl ?_
                            refine G_bipush (v := 6) hΓ dX8_sees_268 (by decide) ?_
                            refine G_iconst (v := 3) hΓ dX8_sees_270 (by decide) ?_
                            obtain ⟨u372, hc373, hf⟩ := bd_some hf
                            refine G_callV hΓ (n := 3) (As := [.int p1, .int 6, .int 3]) (t := 18) (i := 0) (ci := 11) (T := TX8) (N := 47) (FS := fs8 (gl Γ) 0) (σ' := (qM σ u137 u372)) (c_X8_go (gL Γ) (gl Γ) hF σ  u137 (va_up (va_up (va_up u138 9 (upd (u138 9) p1.toNatClampNeg x282)) 11 (upd (u138 11) p1.toNatClampNeg u139)) 10 (upd (u138 10) p1.toNatClampNeg v296)) p1 6 3  hc373) rfl rfl kw_1169 kw_1171 kp_53 kw_9 kw_1172 ⟨rfl, by decide, by decide, by decide +kernel⟩ (FMi hF (t := 18) (by decide)) (fun _ _ _ => rfl) rfl rfl rfl ⟨Nat.le_of_ble_eq_true rfl, Nat.le_of_ble_eq_true rfl⟩ rfl (Nat.le_of_ble_eq_true rfl) dX8_sees_271 ⟨_, rfl⟩ rfl ?_
                            refine G_goto hΓ (tgt := 294) dX8_sees_274 (by decide) ?_
                            exact K293 _ _ _ hf
                      · rw [if_pos hc384] at hf
                        refine G_aload_n hΓ 1 dX8_sees_225 rfl ?_
                        refine G_iload_n hΓ 2 dX8_sees_226 rfl ?_
                        refine G_aload_n hΓ 1 dX8_sees_227 rfl ?_
                        refine F_get hΓ (t := 18) (i := 0) (ci := 11) (C := RX8) (T := TX8) (N := 47) (fs8 (gl Γ) 0) (v := .ref (ya (gl Γ) 19 10)) (FMi hF (t := 18) (by decide)) (fun _ _ _ => rfl) rfl rfl rfl rfl inW8 15 (by decide) (TT_cons kw_895) rfl dX8_sees_228 ?_
                        refine G_iload_n hΓ 2 dX8_sees_231 rfl ?_
                        obtain ⟨hg376, hf⟩ := gd_some hf
                        refine F_ald (G_iald hΓ) (t := 19) (i := 10) (f := (upd (u138 10) p1.toNatClampNeg v296)) (FMi hF (t := 19) (by decide)) (fun _ _ _ => rfl) rfl hg376 dX8_sees_232 ?_
                        obtain ⟨x377, he380, hf⟩ := lt_eq hf
                        have K378 : GG Γ (0, 0) (qM σ u137 (va_up (va_up (va_up u138 9 (upd (u138 9) p1.toNatClampNeg x282)) 11 (upd (u138 11) p1.toNatClampNeg u139)) 10 (upd (u138 10) p1.toNatClampNeg v296))) 241 [(3, .int u139), (0, .ref (ya (gl Γ) 18 0)), (1, .int p1), (2, .int p2)] [.int x377, .int p1, .ref (ya (gl Γ) 18 0)] := by
                          obtain ⟨⟨u381, u382⟩, hc383, hf⟩ := bd_some hf
                          try dsimp only at hf
                          refine G_callV hΓ (n := 2) (As := [.int p1, .int x377]) (t := 18) (i := 0) (ci := 11) (T := TX8) (N := 47) (FS := fs8 (gl Γ) 0) (σ' := (qM σ u381 u382)) (c_X8_wrong (gL Γ) (gl Γ) hF σ  u137 (va_up (va_up (va_up u138 9 (upd (u138 9) p1.toNatClampNeg x282)) 11 (upd (u138 11) p1.toNatClampNeg u139)) 10 (upd (u138 10) p1.toNatClampNeg v296)) p1 x377  hc383) rfl rfl kw_1165 kw_1167 kp_52 kw_9 kw_1168 ⟨rfl, by decide, by decide, by decide +kernel⟩ (FMi hF (t := 18) (by decide)) (fun _ _ _ => rfl) rfl rfl rfl ⟨Nat.le_of_ble_eq_true rfl, Nat.le_of_ble_eq_true rfl⟩ rfl (Nat.le_of_ble_eq_true rfl) dX8_sees_241 ⟨_, rfl⟩ rfl ?_
                          refine G_goto hΓ (tgt := 294) dX8_sees_244 (by decide) ?_
                          exact K293 _ _ _ hf
                        have he := he380
                        refine G_if_ne hΓ (tgt := 240) dX8_sees_233 (by decide) (fun hc379 => ?_) (fun hc379 => ?_)
                        · rw [if_neg hc379] at he
                          refine G_iconst (v := 2) hΓ dX8_sees_240 (by decide) ?_
                          subst he
                          exact K378
                        · rw [if_pos hc379] at he
                          refine G_iconst (v := 5) hΓ dX8_sees_236 (by decide) ?_
                          refine G_goto hΓ (tgt := 241) dX8_sees_237 (by decide) ?_
                          subst he
                          exact K378
                  · rw [if_pos hc388] at hf
                    refine G_aload_n hΓ 1 dX8_sees_200 rfl ?_
                    refine G_iload_n hΓ 2 dX8_sees_201 rfl ?_
                    refine G_iconst (v := 5) hΓ dX8_sees_202 (by decide) ?_
                    refine G_bipush (v := 7) hΓ dX8_sees_203 (by decide) ?_
                    obtain ⟨u386, hc387, hf⟩ := bd_some hf
                    refine G_callV hΓ (n := 3) (As := [.int p1, .int 5, .int 7]) (t := 18) (i := 0) (ci := 11) (T := TX8) (N := 47) (FS := fs8 (gl Γ) 0) (σ' := (qM σ u137 u386)) (c_X8_go (gL Γ) (gl Γ) hF σ  u137 (va_up (va_up (va_up u138 9 (upd (u138 9) p1.toNatClampNeg x282)) 11 (upd (u138 11) p1.toNatClampNeg u139)) 10 (upd (u138 10) p1.toNatClampNeg v296)) p1 5 7  hc387) rfl rfl kw_1169 kw_1171 kp_53 kw_9 kw_1172 ⟨rfl, by decide, by decide, by decide +kernel⟩ (FMi hF (t := 18) (by decide)) (fun _ _ _ => rfl) rfl rfl rfl ⟨Nat.le_of_ble_eq_true rfl, Nat.le_of_ble_eq_true rfl⟩ rfl (Nat.le_of_ble_eq_true rfl) dX8_sees_205 ⟨_, rfl⟩ rfl ?_
                    refine G_goto hΓ (tgt := 294) dX8_sees_208 (by decide) ?_
                    exact K293 _ _ _ hf
              · rw [if_pos hc396] at hf
                refine G_aload_n hΓ 1 dX8_sees_162 rfl ?_
                refine F_get hΓ (t := 18) (i := 0) (ci := 11) (C := RX8) (T := TX8) (N := 47) (fs8 (gl Γ) 0) (v := .ref (ya (gl Γ) 19 9)) (FMi hF (t := 18) (by decide)) (fun _ _ _ => rfl) rfl rfl rfl rfl inW8 14 (by decide) (TT_cons kw_894) rfl dX8_sees_163 ?_
                refine G_iload_n hΓ 2 dX8_sees_166 rfl ?_
                refine G_aload_n hΓ 1 dX8_sees_167 rfl ?_
                refine F_get hΓ (t := 18) (i := 0) (ci := 11) (C := RX8) (T := TX8) (N := 47) (fs8 (gl Γ) 0) (v := .ref (ya (gl Γ) 19 10)) (FMi hF (t := 18) (by decide)) (fun _ _ _ => rfl) rfl rfl rfl rfl inW8 15 (by decide) (TT_cons kw_895) rfl dX8_sees_168 ?_
                refine G_iload_n hΓ 2 dX8_sees_171 rfl ?_
                obtain ⟨hg390, hf⟩ := gd_some hf
                refine F_ald (G_iald hΓ) (t := 19) (i := 10) (f := (upd (u138 10) p1.toNatClampNeg v296)) (FMi hF (t := 19) (by decide)) (fun _ _ _ => rfl) rfl hg390 dX8_sees_172 ?_
                obtain ⟨x391, he394, hf⟩ := lt_eq hf
                have K392 : GG Γ (0, 0) (qM σ u137 (va_up (va_up (va_up u138 9 (upd (u138 9) p1.toNatClampNeg x282)) 11 (upd (u138 11) p1.toNatClampNeg u139)) 10 (upd (u138 10) p1.toNatClampNeg v296))) 181 [(3, .int u139), (0, .ref (ya (gl Γ) 18 0)), (1, .int p1), (2, .int p2)] [.int x391, .int p1, .ref (ya (gl Γ) 19 9)] := by
                  obtain ⟨hg395, hf⟩ := gd_some hf
                  refine F_iast hΓ (t := 19) (i := 9) (f := (upd (u138 9) p1.toNatClampNeg x282)) (σ' := (qM σ u137 (va_up (va_up (va_up (va_up u138 9 (upd (u138 9) p1.toNatClampNeg x282)) 11 (upd (u138 11) p1.toNatClampNeg u139)) 10 (upd (u138 10) p1.toNatClampNeg v296)) 9 (upd (upd (u138 9) p1.toNatClampNeg x282) p1.toNatClampNeg x391)))) (FMi hF (t := 19) (by decide)) (fun _ _ _ => rfl) rfl qM_m hg395 dX8_sees_181 ?_
                  refine G_goto hΓ (tgt := 294) dX8_sees_182 (by decide) ?_
                  exact K293 _ _ _ hf
                have he := he394
                refine G_if_ne hΓ (tgt := 180) dX8_sees_173 (by decide) (fun hc393 => ?_) (fun hc393 => ?_)
                · rw [if_neg hc393] at he
                  refine G_iconst (v := 3) hΓ dX8_sees_180 (by decide) ?_
                  subst he
                  exact K392
                · rw [if_pos hc393] at he
                  refine G_iconst (v := 4) hΓ dX8_sees_176 (by decide) ?_
                  refine G_goto hΓ (tgt := 181) dX8_sees_177 (by decide) ?_
                  subst he
                  exact K392
            · rw [if_pos hc418] at hf
              refine G_aload_n hΓ 1 dX8_sees_85 rfl ?_
              refine G_iload_n hΓ 2 dX8_sees_86 rfl ?_
              refine G_iload_n hΓ 3 dX8_sees_87 rfl ?_
              obtain ⟨u397, hc398, hf⟩ := bd_some hf
              refine G_callV hΓ (n := 2) (As := [.int p1, .int p2]) (t := 18) (i := 0) (ci := 11) (T := TX8) (N := 47) (FS := fs8 (gl Γ) 0) (σ' := (qM σ u137 u397)) (c_X8_see (gL Γ) (gl Γ) hF σ  u137 (va_up (va_up u138 9 (upd (u138 9) p1.toNatClampNeg x282)) 11 (upd (u138 11) p1.toNatClampNeg u139)) p1 p2  hc398) rfl rfl kw_1161 kw_1163 kp_51 kw_9 kw_1164 ⟨rfl, by decide, by decide, by decide +kernel⟩ (FMi hF (t := 18) (by decide)) (fun _ _ _ => rfl) rfl rfl rfl ⟨Nat.le_of_ble_eq_true rfl, Nat.le_of_ble_eq_true rfl⟩ rfl (Nat.le_of_ble_eq_true rfl) dX8_sees_88 ⟨_, rfl⟩ rfl ?_
              refine G_aload_n hΓ 1 dX8_sees_91 rfl ?_
              refine G_iload_n hΓ 2 dX8_sees_92 rfl ?_
              obtain ⟨⟨u399, u400, u401⟩, hc402, hf⟩ := bd_some hf
              try dsimp only at hf
              refine G_callV hΓ (n := 1) (As := [.int p1]) (t := 18) (i := 0) (ci := 11) (T := TX8) (N := 47) (FS := fs8 (gl Γ) 0) (σ' := (qM σ u399 u400)) (c_X8_read (gL Γ) (gl Γ) hF σ  u137 u397 p1  hc402) rfl rfl kw_1173 kw_1175 kp_54 kw_9 kw_1176 ⟨rfl, by decide, by decide, by decide +kernel⟩ (FMi hF (t := 18) (by decide)) (fun _ _ _ => rfl) rfl rfl rfl ⟨Nat.le_of_ble_eq_true rfl, Nat.le_of_ble_eq_true rfl⟩ rfl (Nat.le_of_ble_eq_true rfl) dX8_sees_93 ⟨_, rfl⟩ rfl ?_
              refine G_istore_n hΓ [(3, .int u401), (0, .ref (ya (gl Γ) 18 0)), (1, .int p1), (2, .int p2)] dX8_sees_96 (by decide) rfl ?_
              refine G_iload_n hΓ 0 dX8_sees_97 rfl ?_
              refine G_bipush (v := 10) hΓ dX8_sees_98 (by decide) ?_
              obtain ⟨k405, hk_k405, hf⟩ := jn_eq hf
              try dsimp only at hf
              have K406 : ∀ x403 x404, k405 (x403, x404) = some (v', m') → GG Γ (0, 0) (qM σ x403 x404) 139 [(3, .int u401), (0, .ref (ya (gl Γ) 18 0)), (1, .int p1), (2, .int p2)] [] := by
                intro x403 x404 hf
                subst hk_k405
                try dsimp only at hf
                refine G_goto hΓ (tgt := 294) dX8_sees_139 (by decide) ?_
                exact K293 _ _ _ hf
              clear hk_k405
              refine G_icmp_ne hΓ (tgt := 111) dX8_sees_100 (by decide) (fun hc417 => ?_) (fun hc417 => ?_)
              · rw [if_neg hc417] at hf
                refine G_iload_n hΓ 0 dX8_sees_111 rfl ?_
                refine G_bipush (v := 11) hΓ dX8_sees_112 (by decide) ?_
                refine G_icmp_ne hΓ (tgt := 128) dX8_sees_114 (by decide) (fun hc413 => ?_) (fun hc413 => ?_)
                · rw [if_neg hc413] at hf
                  refine G_iload_n hΓ 0 dX8_sees_128 rfl ?_
                  refine G_iconst (v := (-1)) hΓ dX8_sees_129 (by decide) ?_
                  refine G_icmp_eq hΓ (tgt := 139) dX8_sees_130 (by decide) (fun hc410 => ?_) (fun hc410 => ?_)
                  · rw [if_pos hc410] at hf
                    exact K406 _ _ hf
                  · rw [if_neg hc410] at hf
                    refine G_aload_n hΓ 1 dX8_sees_133 rfl ?_
                    refine G_iload_n hΓ 2 dX8_sees_134 rfl ?_
                    refine G_iload_n hΓ 0 dX8_sees_135 rfl ?_
                    obtain ⟨⟨u407, u408⟩, hc409, hf⟩ := bd_some hf
                    try dsimp only at hf
                    refine G_callV hΓ (n := 2) (As := [.int p1, .int u401]) (t := 18) (i := 0) (ci := 11) (T := TX8) (N := 47) (FS := fs8 (gl Γ) 0) (σ' := (qM σ u407 u408)) (c_X8_wrong (gL Γ) (gl Γ) hF σ  u399 u400 p1 u401  hc409) rfl rfl kw_1165 kw_1167 kp_52 kw_9 kw_1168 ⟨rfl, by decide, by decide, by decide +kernel⟩ (FMi hF (t := 18) (by decide)) (fun _ _ _ => rfl) rfl rfl rfl ⟨Nat.le_of_ble_eq_true rfl, Nat.le_of_ble_eq_true rfl⟩ rfl (Nat.le_of_ble_eq_true rfl) dX8_sees_136 ⟨_, rfl⟩ rfl ?_
                    exact K406 _ _ hf
                · rw [if_pos hc413] at hf
                  refine G_aload_n hΓ 1 dX8_sees_117 rfl ?_
                  refine G_iload_n hΓ 2 dX8_sees_118 rfl ?_
                  refine G_bipush (v := 6) hΓ dX8_sees_119 (by decide) ?_
                  refine G_iconst (v := 3) hΓ dX8_sees_121 (by decide) ?_
                  obtain ⟨u411, hc412, hf⟩ := bd_some hf
                  refine G_callV hΓ (n := 3) (As := [.int p1, .int 6, .int 3]) (t := 18) (i := 0) (ci := 11) (T := TX8) (N := 47) (FS := fs8 (gl Γ) 0) (σ' := (qM σ u399 u411)) (c_X8_go (gL Γ) (gl Γ) hF σ  u399 u400 p1 6 3  hc412) rfl rfl kw_1169 kw_1171 kp_53 kw_9 kw_1172 ⟨rfl, by decide, by decide, by decide +kernel⟩ (FMi hF (t := 18) (by decide)) (fun _ _ _ => rfl) rfl rfl rfl ⟨Nat.le_of_ble_eq_true rfl, Nat.le_of_ble_eq_true rfl⟩ rfl (Nat.le_of_ble_eq_true rfl) dX8_sees_122 ⟨_, rfl⟩ rfl ?_
                  refine G_goto hΓ (tgt := 139) dX8_sees_125 (by decide) ?_
                  exact K406 _ _ hf
              · rw [if_pos hc417] at hf
                refine G_aload_n hΓ 1 dX8_sees_103 rfl ?_
                refine G_iload_n hΓ 2 dX8_sees_104 rfl ?_
                obtain ⟨⟨u414, u415⟩, hc416, hf⟩ := bd_some hf
                try dsimp only at hf
                refine G_callV hΓ (n := 1) (As := [.int p1]) (t := 18) (i := 0) (ci := 11) (T := TX8) (N := 47) (FS := fs8 (gl Γ) 0) (σ' := (qM σ u414 u415)) (c_X8_take (gL Γ) (gl Γ) hF σ  u399 u400 p1  hc416) rfl rfl kw_1177 kw_1179 kp_55 kw_9 kw_1180 ⟨rfl, by decide, by decide, by decide +kernel⟩ (FMi hF (t := 18) (by decide)) (fun _ _ _ => rfl) rfl rfl rfl ⟨Nat.le_of_ble_eq_true rfl, Nat.le_of_ble_eq_true rfl⟩ rfl (Nat.le_of_ble_eq_true rfl) dX8_sees_105 ⟨_, rfl⟩ rfl ?_
                refine G_goto hΓ (tgt := 139) dX8_sees_108 (by decide) ?_
                exact K406 _ _ hf
          · rw [if_pos hc422] at hf
            refine G_aload_n hΓ 1 dX8_sees_66 rfl ?_
            refine G_iload_n hΓ 2 dX8_sees_67 rfl ?_
            refine G_iload_n hΓ 3 dX8_sees_68 rfl ?_
            obtain ⟨⟨u419, u420⟩, hc421, hf⟩ := bd_some hf
            try dsimp only at hf
            refine G_callV hΓ (n := 2) (As := [.int p1, .int p2]) (t := 18) (i := 0) (ci := 11) (T := TX8) (N := 47) (FS := fs8 (gl Γ) 0) (σ' := (qM σ u419 u420)) (c_X8_sent (gL Γ) (gl Γ) hF σ  u137 (va_up (va_up u138 9 (upd (u138 9) p1.toNatClampNeg x282)) 11 (upd (u138 11) p1.toNatClampNeg u139)) p1 p2  hc421) rfl rfl kw_1157 kw_1159 kp_50 kw_9 kw_1160 ⟨rfl, by decide, by decide, by decide +kernel⟩ (FMi hF (t := 18) (by decide)) (fun _ _ _ => rfl) rfl rfl rfl ⟨Nat.le_of_ble_eq_true rfl, Nat.le_of_ble_eq_true rfl⟩ rfl (Nat.le_of_ble_eq_true rfl) dX8_sees_69 ⟨_, rfl⟩ rfl ?_
            refine G_goto hΓ (tgt := 294) dX8_sees_72 (by decide) ?_
            exact K293 _ _ _ hf
        have he := he285
        refine G_icmp_ne hΓ (tgt := 47) dX8_sees_40 (by decide) (fun hc284 => ?_) (fun hc284 => ?_)
        · rw [if_neg hc284] at he
          refine G_iconst (v := 1) hΓ dX8_sees_47 (by decide) ?_
          subst he
          exact K283
        · rw [if_pos hc284] at he
          refine G_iconst (v := 2) hΓ dX8_sees_43 (by decide) ?_
          refine G_goto hΓ (tgt := 48) dX8_sees_44 (by decide) ?_
          subst he
          exact K283
      · rw [if_pos hc423] at hf
        cases hf
        exact G_vret hΓ hE dX8_sees_32
theorem dX8_run_0 : decode cX8_run 0 = .ok (.aload_n 0, 1) := by decide +kernel
theorem dX8_run_1 : decode cX8_run 1 = .ok (.iload_n 1, 1) := by decide +kernel
theorem dX8_run_2 : decode cX8_run 2 = .ok (.ifCond .ge 7, 3) := by decide +kernel
theorem dX8_run_5 : decode cX8_run 5 = .ok (.iconst 1, 1) := by decide +kernel
theorem dX8_run_6 : decode cX8_run 6 = .ok (.goto 20, 3) := by decide +kernel
theorem dX8_run_9 : decode cX8_run 9 = .ok (.iload_n 1, 1) := by decide +kernel
theorem dX8_run_10 : decode cX8_run 10 = .ok (.sipush 20000, 3) := by decide +kernel
theorem dX8_run_13 : decode cX8_run 13 = .ok (.aload_n 0, 1) := by decide +kernel
theorem dX8_run_14 : decode cX8_run 14 = .ok (.getfield 116, 3) := by decide +kernel
theorem dX8_run_17 : decode cX8_run 17 = .ok (.isub, 1) := by decide +kernel
theorem dX8_run_18 : decode cX8_run 18 = .ok (.if_icmp .le 7, 3) := by decide +kernel
theorem dX8_run_21 : decode cX8_run 21 = .ok (.iconst 2, 1) := by decide +kernel
theorem dX8_run_22 : decode cX8_run 22 = .ok (.goto 4, 3) := by decide +kernel
theorem dX8_run_25 : decode cX8_run 25 = .ok (.iconst 0, 1) := by decide +kernel
theorem dX8_run_26 : decode cX8_run 26 = .ok (.putfield 113, 3) := by decide +kernel
theorem dX8_run_29 : decode cX8_run 29 = .ok (.aload_n 0, 1) := by decide +kernel
theorem dX8_run_30 : decode cX8_run 30 = .ok (.getfield 113, 3) := by decide +kernel
theorem dX8_run_33 : decode cX8_run 33 = .ok (.ifCond .le 5, 3) := by decide +kernel
theorem dX8_run_36 : decode cX8_run 36 = .ok (.iconst 0, 1) := by decide +kernel
theorem dX8_run_37 : decode cX8_run 37 = .ok (.ireturn, 1) := by decide +kernel
theorem dX8_run_38 : decode cX8_run 38 = .ok (.aload_n 0, 1) := by decide +kernel
theorem dX8_run_39 : decode cX8_run 39 = .ok (.getfield 122, 3) := by decide +kernel
theorem dX8_run_42 : decode cX8_run 42 = .ok (.istore_n 2, 1) := by decide +kernel
theorem dX8_run_43 : decode cX8_run 43 = .ok (.iconst 0, 1) := by decide +kernel
theorem dX8_run_44 : decode cX8_run 44 = .ok (.istore_n 3, 1) := by decide +kernel
theorem dX8_run_45 : decode cX8_run 45 = .ok (.iload_n 3, 1) := by decide +kernel
theorem dX8_run_46 : decode cX8_run 46 = .ok (.iload_n 1, 1) := by decide +kernel
theorem dX8_run_47 : decode cX8_run 47 = .ok (.if_icmp .ge 121, 3) := by decide +kernel
theorem dX8_run_50 : decode cX8_run 50 = .ok (.iconst 1, 1) := by decide +kernel
theorem dX8_run_51 : decode cX8_run 51 = .ok (.istore 4, 2) := by decide +kernel
theorem dX8_run_53 : decode cX8_run 53 = .ok (.iconst 0, 1) := by decide +kernel
theorem dX8_run_54 : decode cX8_run 54 = .ok (.istore 5, 2) := by decide +kernel
theorem dX8_run_56 : decode cX8_run 56 = .ok (.iload 5, 2) := by decide +kernel
theorem dX8_run_58 : decode cX8_run 58 = .ok (.aload_n 0, 1) := by decide +kernel
theorem dX8_run_59 : decode cX8_run 59 = .ok (.getfield 7, 3) := by decide +kernel
theorem dX8_run_62 : decode cX8_run 62 = .ok (.if_icmp .ge 26, 3) := by decide +kernel
theorem dX8_run_65 : decode cX8_run 65 = .ok (.aload_n 0, 1) := by decide +kernel
theorem dX8_run_66 : decode cX8_run 66 = .ok (.iload 5, 2) := by decide +kernel
theorem dX8_run_68 : decode cX8_run 68 = .ok (.invokevirtual 260, 3) := by decide +kernel
theorem dX8_run_71 : decode cX8_run 71 = .ok (.ifCond .ne 7, 3) := by decide +kernel
theorem dX8_run_74 : decode cX8_run 74 = .ok (.iconst 0, 1) := by decide +kernel
theorem dX8_run_75 : decode cX8_run 75 = .ok (.goto 5, 3) := by decide +kernel
theorem dX8_run_78 : decode cX8_run 78 = .ok (.iload 4, 2) := by decide +kernel
theorem dX8_run_80 : decode cX8_run 80 = .ok (.istore 4, 2) := by decide +kernel
theorem dX8_run_82 : decode cX8_run 82 = .ok (.iinc 5 1, 3) := by decide +kernel
theorem dX8_run_85 : decode cX8_run 85 = .ok (.goto (-29), 3) := by decide +kernel
theorem dX8_run_88 : decode cX8_run 88 = .ok (.aload_n 0, 1) := by decide +kernel
theorem dX8_run_89 : decode cX8_run 89 = .ok (.getfield 13, 3) := by decide +kernel
theorem dX8_run_92 : decode cX8_run 92 = .ok (.aload_n 0, 1) := by decide +kernel
theorem dX8_run_93 : decode cX8_run 93 = .ok (.getfield 116, 3) := by decide +kernel
theorem dX8_run_96 : decode cX8_run 96 = .ok (.iload 4, 2) := by decide +kernel
theorem dX8_run_98 : decode cX8_run 98 = .ok (.i2b, 1) := by decide +kernel
theorem dX8_run_99 : decode cX8_run 99 = .ok (.bastore, 1) := by decide +kernel
theorem dX8_run_100 : decode cX8_run 100 = .ok (.iconst 0, 1) := by decide +kernel
theorem dX8_run_101 : decode cX8_run 101 = .ok (.istore 5, 2) := by decide +kernel
theorem dX8_run_103 : decode cX8_run 103 = .ok (.iload 5, 2) := by decide +kernel
theorem dX8_run_105 : decode cX8_run 105 = .ok (.aload_n 0, 1) := by decide +kernel
theorem dX8_run_106 : decode cX8_run 106 = .ok (.getfield 7, 3) := by decide +kernel
theorem dX8_run_109 : decode cX8_run 109 = .ok (.if_icmp .ge 43, 3) := by decide +kernel
theorem dX8_run_112 : decode cX8_run 112 = .ok (.aload_n 0, 1) := by decide +kernel
theorem dX8_run_113 : decode cX8_run 113 = .ok (.iload 5, 2) := by decide +kernel
theorem dX8_run_115 : decode cX8_run 115 = .ok (.aload_n 0, 1) := by decide +kernel
theorem dX8_run_116 : decode cX8_run 116 = .ok (.getfield 66, 3) := by decide +kernel
theorem dX8_run_119 : decode cX8_run 119 = .ok (.sipush 20000, 3) := by decide +kernel
theorem dX8_run_122 : decode cX8_run 122 = .ok (.iload 5, 2) := by decide +kernel
theorem dX8_run_124 : decode cX8_run 124 = .ok (.imul, 1) := by decide +kernel
theorem dX8_run_125 : decode cX8_run 125 = .ok (.aload_n 0, 1) := by decide +kernel
theorem dX8_run_126 : decode cX8_run 126 = .ok (.getfield 116, 3) := by decide +kernel
theorem dX8_run_129 : decode cX8_run 129 = .ok (.iadd, 1) := by decide +kernel
theorem dX8_run_130 : decode cX8_run 130 = .ok (.baload, 1) := by decide +kernel
theorem dX8_run_131 : decode cX8_run 131 = .ok (.ifCond .eq 10, 3) := by decide +kernel
theorem dX8_run_134 : decode cX8_run 134 = .ok (.iconst 1, 1) := by decide +kernel
theorem dX8_run_135 : decode cX8_run 135 = .ok (.iload 4, 2) := by decide +kernel
theorem dX8_run_137 : decode cX8_run 137 = .ok (.isub, 1) := by decide +kernel
theorem dX8_run_138 : decode cX8_run 138 = .ok (.goto 5, 3) := by decide +kernel
theorem dX8_run_141 : decode cX8_run 141 = .ok (.iload 4, 2) := by decide +kernel
theorem dX8_run_143 : decode cX8_run 143 = .ok (.invokevirtual 263, 3) := by decide +kernel
theorem dX8_run_146 : decode cX8_run 146 = .ok (.iinc 5 1, 3) := by decide +kernel
theorem dX8_run_149 : decode cX8_run 149 = .ok (.goto (-46), 3) := by decide +kernel
theorem dX8_run_152 : decode cX8_run 152 = .ok (.aload_n 0, 1) := by decide +kernel
theorem dX8_run_153 : decode cX8_run 153 = .ok (.dup, 1) := by decide +kernel
theorem dX8_run_154 : decode cX8_run 154 = .ok (.getfield 116, 3) := by decide +kernel
theorem dX8_run_157 : decode cX8_run 157 = .ok (.iconst 1, 1) := by decide +kernel
theorem dX8_run_158 : decode cX8_run 158 = .ok (.iadd, 1) := by decide +kernel
theorem dX8_run_159 : decode cX8_run 159 = .ok (.putfield 116, 3) := by decide +kernel
theorem dX8_run_162 : decode cX8_run 162 = .ok (.iinc 3 1, 3) := by decide +kernel
theorem dX8_run_165 : decode cX8_run 165 = .ok (.goto (-120), 3) := by decide +kernel
theorem dX8_run_168 : decode cX8_run 168 = .ok (.aload_n 0, 1) := by decide +kernel
theorem dX8_run_169 : decode cX8_run 169 = .ok (.getfield 122, 3) := by decide +kernel
theorem dX8_run_172 : decode cX8_run 172 = .ok (.iload_n 2, 1) := by decide +kernel
theorem dX8_run_173 : decode cX8_run 173 = .ok (.isub, 1) := by decide +kernel
theorem dX8_run_174 : decode cX8_run 174 = .ok (.ireturn, 1) := by decide +kernel
noncomputable def L_X8_run_103 (v14 : Int32) (k30 : (Nat → Int32) × (Nat → Nat → Int32) × Int32 → Option ((Nat → Int32) × (Nat → Nat → Int32) × Int32)) : Nat → (Nat → Int32) → (Nat → Nat → Int32) → Int32 → Option ((Nat → Int32) × (Nat → Nat → Int32) × Int32)
  | 0, _, _, _ => none
  | nn + 1, v27, v28, v29 => if (v27 1) ≤ v29 then k30 (v27, v28, v29) else gd (vp_in ((20000 * v29) + (v27 2)) 640000) (lt (α := Int32) (if ((v28 16) (((20000 * v29) + (v27 2)).toNatClampNeg)) = 0 then v14 else (1 - v14)) (fun x33 => bd (f_X8_sees v27 v28 v29 x33) (fun ⟨u37, u38⟩ => L_X8_run_103 v14 k30 nn u37 u38 (v29 + 1))))
noncomputable def L_X8_run_56  (k15 : (Nat → Int32) × (Nat → Nat → Int32) × Int32 × Int32 → Option ((Nat → Int32) × (Nat → Nat → Int32) × Int32)) : Nat → (Nat → Int32) → (Nat → Nat → Int32) → Int32 → Int32 → Option ((Nat → Int32) × (Nat → Nat → Int32) × Int32)
  | 0, _, _, _, _ => none
  | nn + 1, v11, v12, v13, v14 => if (v11 1) ≤ v13 then k15 (v11, v12, v13, v14) else bd (f_X8_puts v11 v12 v13) (fun ⟨u17, u18, u19⟩ => lt (α := Int32) (if u19 = 0 then 0 else v14) (fun x21 => L_X8_run_56  k15 nn u17 u18 (v13 + 1) x21))
noncomputable def L_X8_run_45 (p1 : Int32) (k9 : (Nat → Int32) × (Nat → Nat → Int32) × Int32 → Option ((Nat → Int32) × (Nat → Nat → Int32) × Int32)) : Nat → (Nat → Int32) → (Nat → Nat → Int32) → Int32 → Option ((Nat → Int32) × (Nat → Nat → Int32) × Int32)
  | 0, _, _, _ => none
  | nn + 1, v6, v7, v8 => if p1 ≤ v8 then k9 (v6, v7, v8) else jn (α := (Nat → Int32) × (Nat → Nat → Int32) × Int32 × Int32) (fun ⟨v11, v12, v13, v14⟩ => gd (vp_in (v11 2) 20000) (jn (α := (Nat → Int32) × (Nat → Nat → Int32) × Int32) (fun ⟨v27, v28, v29⟩ => L_X8_run_45 p1 k9 nn (upd v27 2 ((v27 2) + 1)) v28 (v8 + 1)) (fun k30 => L_X8_run_103 v14 k30 fu v11 (va_up v12 0 (upd (v12 0) ((v11 2).toNatClampNeg) (vp_nar .byte v14.toInt8.toInt32))) 0))) (fun k15 => L_X8_run_56  k15 fu v6 v7 0 1)
noncomputable def f_X8_run  (v : Nat → Int32) (m : Nat → Nat → Int32) (p1 : Int32) : Option ((Nat → Int32) × (Nat → Nat → Int32) × Int32) := lt (α := Int32) (if 0 ≤ p1 then if p1 ≤ (20000 - (v 2)) then 0 else 2 else 1) (fun x1 => if x1 ≤ 0 then jn (α := (Nat → Int32) × (Nat → Nat → Int32) × Int32) (fun ⟨v6, v7, v8⟩ => some (v6, v7, (v6 11) - (v 11))) (fun k9 => L_X8_run_45 p1 k9 fu (upd v 0 x1) m 0) else some ((upd v 0 x1), m, 0))
set_option maxHeartbeats 4000000 in
set_option maxRecDepth 100000 in
theorem c_X8_run (l : Launch) (Λ : LY) (hF : FM Λ) (σ : CS)  (v : Nat → Int32) (m : Nat → Nat → Int32) (p1 : Int32)   {v' : Nat → Int32} {m' : Nat → Nat → Int32} {r9 : Int32} (hf : f_X8_run v m p1 = some (v', m', r9)) : CM l yX8_run (.code yX8_run cX8_run 6 (some .int) :: TT) ({ frames := 6, cells := 0, slots := 0, locals := 138 }) Λ [.ref (ya Λ 18 0), .int p1] (qM σ v m) (qM σ v' m') (some (.int r9)) := by
  refine CM_intro (own := RX8) (by decide) rfl (Nat.le_of_ble_eq_true rfl) ?_
  intro Γ hg hl hΓ hE
  subst hg; subst hl
  show GG Γ (0, 0) (qM σ v m) 0 [(0, .ref (ya (gl Γ) 18 0)), (1, .int p1)] []
  unfold f_X8_run at hf
  refine G_aload_n hΓ 0 dX8_run_0 rfl ?_
  refine G_iload_n hΓ 1 dX8_run_1 rfl ?_
  obtain ⟨x1, he5, hf⟩ := lt_eq hf
  have K2 : GG Γ (0, 0) (qM σ v m) 26 [(0, .ref (ya (gl Γ) 18 0)), (1, .int p1)] [.int x1, .ref (ya (gl Γ) 18 0)] := by
    refine F_put hΓ (t := 18) (i := 0) (ci := 11) (C := RX8) (T := TX8) (N := 47) (fs8 (gl Γ) 0) (f := v) (f' := (upd v 0 x1)) (σ' := (qM σ (upd v 0 x1) m)) (ty := .int) (v := .int x1) tyX8 tyX8_ok nmX8 (FMi hF (t := 18) (by decide)) (fun _ _ _ => rfl) rfl qM_v rfl inW8 0 (by decide) (TT_cons kw_880) rfl (by decide +kernel) rfl rfl (fun _ _ => Nat.le_of_ble_eq_true rfl) (fun _ _ => rfl) dX8_run_26 ?_
    refine G_aload_n hΓ 0 dX8_run_29 rfl ?_
    refine F_get hΓ (t := 18) (i := 0) (ci := 11) (C := RX8) (T := TX8) (N := 47) (fs8 (gl Γ) 0) (v := .int x1) (FMi hF (t := 18) (by decide)) (fun _ _ _ => rfl) rfl rfl rfl rfl inW8 0 (by decide) (TT_cons kw_880) rfl dX8_run_30 ?_
    refine G_if_le hΓ (tgt := 38) dX8_run_33 (by decide) (fun hc45 => ?_) (fun hc45 => ?_)
    · rw [if_pos hc45] at hf
      refine G_aload_n hΓ 0 dX8_run_38 rfl ?_
      refine F_get hΓ (t := 18) (i := 0) (ci := 11) (C := RX8) (T := TX8) (N := 47) (fs8 (gl Γ) 0) (v := .int (v 11)) (FMi hF (t := 18) (by decide)) (fun _ _ _ => rfl) rfl rfl rfl rfl inW8 11 (by decide) (TT_cons kw_891) rfl dX8_run_39 ?_
      refine G_istore_n hΓ [(2, .int (v 11)), (0, .ref (ya (gl Γ) 18 0)), (1, .int p1)] dX8_run_42 (by decide) rfl ?_
      refine G_iconst (v := 0) hΓ dX8_run_43 (by decide) ?_
      refine G_istore_n hΓ [(3, .int 0), (2, .int (v 11)), (0, .ref (ya (gl Γ) 18 0)), (1, .int p1)] dX8_run_44 (by decide) rfl ?_
      obtain ⟨k9, hk_k9, hf⟩ := jn_eq hf
      try dsimp only at hf
      have K10 : ∀ v6 v7 v8, k9 (v6, v7, v8) = some (v', m', r9) → GG Γ (0, 0) (qM σ v6 v7) 168 [(3, .int v8), (2, .int (v 11)), (0, .ref (ya (gl Γ) 18 0)), (1, .int p1)] [] := by
        intro v6 v7 v8 hf
        subst hk_k9
        try dsimp only at hf
        refine G_aload_n hΓ 2 dX8_run_168 rfl ?_
        refine F_get hΓ (t := 18) (i := 0) (ci := 11) (C := RX8) (T := TX8) (N := 47) (fs8 (gl Γ) 0) (v := .int (v6 11)) (FMi hF (t := 18) (by decide)) (fun _ _ _ => rfl) rfl rfl rfl rfl inW8 11 (by decide) (TT_cons kw_891) rfl dX8_run_169 ?_
        refine G_iload_n hΓ 1 dX8_run_172 rfl ?_
        refine G_isub hΓ dX8_run_173 ?_
        cases hf
        exact G_iret hΓ hE dX8_run_174
      clear hk_k9
      have loop44 : ∀ (nn : Nat) v6 v7 v8, L_X8_run_45 p1 k9 nn v6 v7 v8 = some (v', m', r9) → GG Γ (0, 0) (qM σ v6 v7) 45 [(3, .int v8), (2, .int (v 11)), (0, .ref (ya (gl Γ) 18 0)), (1, .int p1)] [] := by
        intro nn
        induction nn with
        | zero => intro v6 v7 v8 hf; cases hf
        | succ nn ih =>
          intro v6 v7 v8 hf
          rw [L_X8_run_45] at hf
          refine G_iload_n hΓ 0 dX8_run_45 rfl ?_
          refine G_iload_n hΓ 3 dX8_run_46 rfl ?_
          refine G_icmp_ge hΓ (tgt := 168) dX8_run_47 (by decide) (fun hc43 => ?_) (fun hc43 => ?_)
          · rw [if_pos hc43] at hf
            exact (K10 _ _ _ hf)
          · rw [if_neg hc43] at hf
            refine G_iconst (v := 1) hΓ dX8_run_50 (by decide) ?_
            refine G_istore hΓ [(4, .int 1), (3, .int v8), (2, .int (v 11)), (0, .ref (ya (gl Γ) 18 0)), (1, .int p1)] dX8_run_51 (by decide) rfl ?_
            refine G_iconst (v := 0) hΓ dX8_run_53 (by decide) ?_
            refine G_istore hΓ [(5, .int 0), (4, .int 1), (3, .int v8), (2, .int (v 11)), (0, .ref (ya (gl Γ) 18 0)), (1, .int p1)] dX8_run_54 (by decide) rfl ?_
            obtain ⟨k15, hk_k15, hf⟩ := jn_eq hf
            try dsimp only at hf
            have K16 : ∀ v11 v12 v13 v14, k15 (v11, v12, v13, v14) = some (v', m', r9) → GG Γ (0, 0) (qM σ v11 v12) 88 [(5, .int v13), (4, .int v14), (3, .int v8), (2, .int (v 11)), (0, .ref (ya (gl Γ) 18 0)), (1, .int p1)] [] := by
              intro v11 v12 v13 v14 hf
              subst hk_k15
              try dsimp only at hf
              refine G_aload_n hΓ 4 dX8_run_88 rfl ?_
              refine F_get hΓ (t := 18) (i := 0) (ci := 11) (C := RX8) (T := TX8) (N := 47) (fs8 (gl Γ) 0) (v := .ref (ya (gl Γ) 19 0)) (FMi hF (t := 18) (by decide)) (fun _ _ _ => rfl) rfl rfl rfl rfl inW8 3 (by decide) (TT_cons kw_883) rfl dX8_run_89 ?_
              refine G_aload_n hΓ 4 dX8_run_92 rfl ?_
              refine F_get hΓ (t := 18) (i := 0) (ci := 11) (C := RX8) (T := TX8) (N := 47) (fs8 (gl Γ) 0) (v := .int (v11 2)) (FMi hF (t := 18) (by decide)) (fun _ _ _ => rfl) rfl rfl rfl rfl inW8 2 (by decide) (TT_cons kw_882) rfl dX8_run_93 ?_
              refine G_iload hΓ 1 dX8_run_96 rfl ?_
              refine G_i2b hΓ dX8_run_98 ?_
              obtain ⟨hg26, hf⟩ := gd_some hf
              refine F_bast hΓ (t := 19) (i := 0) (f := (v12 0)) (σ' := (qM σ v11 (va_up v12 0 (upd (v12 0) ((v11 2).toNatClampNeg) (vp_nar .byte v14.toInt8.toInt32))))) (FMi hF (t := 19) (by decide)) (fun _ _ _ => rfl) rfl qM_m hg26 dX8_run_99 ?_
              refine G_iconst (v := 0) hΓ dX8_run_100 (by decide) ?_
              refine G_istore hΓ [(5, .int 0), (4, .int v14), (3, .int v8), (2, .int (v 11)), (0, .ref (ya (gl Γ) 18 0)), (1, .int p1)] dX8_run_101 (by decide) rfl ?_
              obtain ⟨k30, hk_k30, hf⟩ := jn_eq hf
              try dsimp only at hf
              have K31 : ∀ v27 v28 v29, k30 (v27, v28, v29) = some (v', m', r9) → GG Γ (0, 0) (qM σ v27 v28) 152 [(5, .int v29), (4, .int v14), (3, .int v8), (2, .int (v 11)), (0, .ref (ya (gl Γ) 18 0)), (1, .int p1)] [] := by
                intro v27 v28 v29 hf
                subst hk_k30
                try dsimp only at hf
                refine G_aload_n hΓ 4 dX8_run_152 rfl ?_
                refine G_dup hΓ dX8_run_153 rfl ?_
                refine F_get hΓ (t := 18) (i := 0) (ci := 11) (C := RX8) (T := TX8) (N := 47) (fs8 (gl Γ) 0) (v := .int (v27 2)) (FMi hF (t := 18) (by decide)) (fun _ _ _ => rfl) rfl rfl rfl rfl inW8 2 (by decide) (TT_cons kw_882) rfl dX8_run_154 ?_
                refine G_iconst (v := 1) hΓ dX8_run_157 (by decide) ?_
                refine G_iadd hΓ dX8_run_158 ?_
                refine F_put hΓ (t := 18) (i := 0) (ci := 11) (C := RX8) (T := TX8) (N := 47) (fs8 (gl Γ) 0) (f := v27) (f' := (upd v27 2 ((v27 2) + 1))) (σ' := (qM σ (upd v27 2 ((v27 2) + 1)) v28)) (ty := .int) (v := .int ((v27 2) + 1)) tyX8 tyX8_ok nmX8 (FMi hF (t := 18) (by decide)) (fun _ _ _ => rfl) rfl qM_v rfl inW8 2 (by decide) (TT_cons kw_882) rfl (by decide +kernel) rfl rfl (fun _ _ => Nat.le_of_ble_eq_true rfl) (fun _ _ => rfl) dX8_run_159 ?_
                refine G_iinc hΓ 2 [(3, .int (v8 + 1)), (5, .int v29), (4, .int v14), (2, .int (v 11)), (0, .ref (ya (gl Γ) 18 0)), (1, .int p1)] dX8_run_162 rfl rfl (by decide) rfl ?_
                refine G_goto hΓ (tgt := 45) dX8_run_165 (by decide) ?_
                exact G_loc [0, 3, 4, 5] rfl (ih _ _ _ hf)
              clear hk_k30
              have loop41 : ∀ (nn : Nat) v27 v28 v29, L_X8_run_103 v14 k30 nn v27 v28 v29 = some (v', m', r9) → GG Γ (0, 0) (qM σ v27 v28) 103 [(5, .int v29), (4, .int v14), (3, .int v8), (2, .int (v 11)), (0, .ref (ya (gl Γ) 18 0)), (1, .int p1)] [] := by
                intro nn
                induction nn with
                | zero => intro v27 v28 v29 hf; cases hf
                | succ nn ih =>
                  intro v27 v28 v29 hf
                  rw [L_X8_run_103] at hf
                  refine G_iload hΓ 0 dX8_run_103 rfl ?_
                  refine G_aload_n hΓ 4 dX8_run_105 rfl ?_
                  refine F_get hΓ (t := 18) (i := 0) (ci := 11) (C := RX8) (T := TX8) (N := 47) (fs8 (gl Γ) 0) (v := .int (v27 1)) (FMi hF (t := 18) (by decide)) (fun _ _ _ => rfl) rfl rfl rfl rfl inW8 1 (by decide) (TT_cons kw_881) rfl dX8_run_106 ?_
                  refine G_icmp_ge hΓ (tgt := 152) dX8_run_109 (by decide) (fun hc40 => ?_) (fun hc40 => ?_)
                  · rw [if_pos hc40] at hf
                    exact (K31 _ _ _ hf)
                  · rw [if_neg hc40] at hf
                    refine G_aload_n hΓ 4 dX8_run_112 rfl ?_
                    refine G_iload hΓ 0 dX8_run_113 rfl ?_
                    refine G_aload_n hΓ 4 dX8_run_115 rfl ?_
                    refine F_get hΓ (t := 18) (i := 0) (ci := 11) (C := RX8) (T := TX8) (N := 47) (fs8 (gl Γ) 0) (v := .ref (ya (gl Γ) 19 16)) (FMi hF (t := 18) (by decide)) (fun _ _ _ => rfl) rfl rfl rfl rfl inW8 21 (by decide) (TT_cons kw_901) rfl dX8_run_116 ?_
                    refine G_sipush (v := 20000) hΓ dX8_run_119 (by decide) ?_
                    refine G_iload hΓ 0 dX8_run_122 rfl ?_
                    refine G_imul hΓ dX8_run_124 ?_
                    refine G_aload_n hΓ 4 dX8_run_125 rfl ?_
                    refine F_get hΓ (t := 18) (i := 0) (ci := 11) (C := RX8) (T := TX8) (N := 47) (fs8 (gl Γ) 0) (v := .int (v27 2)) (FMi hF (t := 18) (by decide)) (fun _ _ _ => rfl) rfl rfl rfl rfl inW8 2 (by decide) (TT_cons kw_882) rfl dX8_run_126 ?_
                    refine G_iadd hΓ dX8_run_129 ?_
                    obtain ⟨hg32, hf⟩ := gd_some hf
                    refine F_ald (G_zald hΓ) (t := 19) (i := 16) (f := (v28 16)) (FMi hF (t := 19) (by decide)) (fun _ _ _ => rfl) rfl hg32 dX8_run_130 ?_
                    obtain ⟨x33, he36, hf⟩ := lt_eq hf
                    have K34 : GG Γ (0, 0) (qM σ v27 v28) 143 [(5, .int v29), (4, .int v14), (3, .int v8), (2, .int (v 11)), (0, .ref (ya (gl Γ) 18 0)), (1, .int p1)] [.int x33, .int v29, .ref (ya (gl Γ) 18 0)] := by
                      obtain ⟨⟨u37, u38⟩, hc39, hf⟩ := bd_some hf
                      try dsimp only at hf
                      refine G_callV hΓ (n := 2) (As := [.int v29, .int x33]) (t := 18) (i := 0) (ci := 11) (T := TX8) (N := 47) (FS := fs8 (gl Γ) 0) (σ' := (qM σ u37 u38)) (c_X8_sees (gL Γ) (gl Γ) hF σ  v27 v28 v29 x33  hc39) rfl rfl kw_1153 kw_1155 kp_49 kw_9 kw_1156 ⟨rfl, by decide, by decide, by decide +kernel⟩ (FMi hF (t := 18) (by decide)) (fun _ _ _ => rfl) rfl rfl rfl ⟨Nat.le_of_ble_eq_true rfl, Nat.le_of_ble_eq_true rfl⟩ rfl (Nat.le_of_ble_eq_true rfl) dX8_run_143 ⟨_, rfl⟩ rfl ?_
                      refine G_iinc hΓ 0 [(5, .int (v29 + 1)), (4, .int v14), (3, .int v8), (2, .int (v 11)), (0, .ref (ya (gl Γ) 18 0)), (1, .int p1)] dX8_run_146 rfl rfl (by decide) rfl ?_
                      refine G_goto hΓ (tgt := 103) dX8_run_149 (by decide) ?_
                      exact (ih _ _ _ hf)
                    have he := he36
                    refine G_if_eq hΓ (tgt := 141) dX8_run_131 (by decide) (fun hc35 => ?_) (fun hc35 => ?_)
                    · rw [if_pos hc35] at he
                      refine G_iload hΓ 1 dX8_run_141 rfl ?_
                      subst he
                      exact K34
                    · rw [if_neg hc35] at he
                      refine G_iconst (v := 1) hΓ dX8_run_134 (by decide) ?_
                      refine G_iload hΓ 1 dX8_run_135 rfl ?_
                      refine G_isub hΓ dX8_run_137 ?_
                      refine G_goto hΓ (tgt := 143) dX8_run_138 (by decide) ?_
                      subst he
                      exact K34
              exact loop41 _ _ _ _ hf
            clear hk_k15
            have loop42 : ∀ (nn : Nat) v11 v12 v13 v14, L_X8_run_56  k15 nn v11 v12 v13 v14 = some (v', m', r9) → GG Γ (0, 0) (qM σ v11 v12) 56 [(5, .int v13), (4, .int v14), (3, .int v8), (2, .int (v 11)), (0, .ref (ya (gl Γ) 18 0)), (1, .int p1)] [] := by
              intro nn
              induction nn with
              | zero => intro v11 v12 v13 v14 hf; cases hf
              | succ nn ih =>
                intro v11 v12 v13 v14 hf
                rw [L_X8_run_56] at hf
                refine G_iload hΓ 0 dX8_run_56 rfl ?_
                refine G_aload_n hΓ 4 dX8_run_58 rfl ?_
                refine F_get hΓ (t := 18) (i := 0) (ci := 11) (C := RX8) (T := TX8) (N := 47) (fs8 (gl Γ) 0) (v := .int (v11 1)) (FMi hF (t := 18) (by decide)) (fun _ _ _ => rfl) rfl rfl rfl rfl inW8 1 (by decide) (TT_cons kw_881) rfl dX8_run_59 ?_
                refine G_icmp_ge hΓ (tgt := 88) dX8_run_62 (by decide) (fun hc25 => ?_) (fun hc25 => ?_)
                · rw [if_pos hc25] at hf
                  exact (K16 _ _ _ _ hf)
                · rw [if_neg hc25] at hf
                  refine G_aload_n hΓ 4 dX8_run_65 rfl ?_
                  refine G_iload hΓ 0 dX8_run_66 rfl ?_
                  obtain ⟨⟨u17, u18, u19⟩, hc20, hf⟩ := bd_some hf
                  try dsimp only at hf
                  refine G_callV hΓ (n := 1) (As := [.int v13]) (t := 18) (i := 0) (ci := 11) (T := TX8) (N := 47) (FS := fs8 (gl Γ) 0) (σ' := (qM σ u17 u18)) (c_X8_puts (gL Γ) (gl Γ) hF σ  v11 v12 v13  hc20) rfl rfl kw_1112 kw_1114 kp_39 kw_9 kw_1115 ⟨rfl, by decide, by decide, by decide +kernel⟩ (FMi hF (t := 18) (by decide)) (fun _ _ _ => rfl) rfl rfl rfl ⟨Nat.le_of_ble_eq_true rfl, Nat.le_of_ble_eq_true rfl⟩ rfl (Nat.le_of_ble_eq_true rfl) dX8_run_68 ⟨_, rfl⟩ rfl ?_
                  obtain ⟨x21, he24, hf⟩ := lt_eq hf
                  have K22 : GG Γ (0, 0) (qM σ u17 u18) 80 [(5, .int v13), (4, .int v14), (3, .int v8), (2, .int (v 11)), (0, .ref (ya (gl Γ) 18 0)), (1, .int p1)] [.int x21] := by
                    refine G_istore hΓ [(4, .int x21), (5, .int v13), (3, .int v8), (2, .int (v 11)), (0, .ref (ya (gl Γ) 18 0)), (1, .int p1)] dX8_run_80 (by decide) rfl ?_
                    refine G_iinc hΓ 1 [(5, .int (v13 + 1)), (4, .int x21), (3, .int v8), (2, .int (v 11)), (0, .ref (ya (gl Γ) 18 0)), (1, .int p1)] dX8_run_82 rfl rfl (by decide) rfl ?_
                    refine G_goto hΓ (tgt := 56) dX8_run_85 (by decide) ?_
                    exact (ih _ _ _ _ hf)
                  have he := he24
                  refine G_if_ne hΓ (tgt := 78) dX8_run_71 (by decide) (fun hc23 => ?_) (fun hc23 => ?_)
                  · rw [if_neg hc23] at he
                    refine G_iload hΓ 1 dX8_run_78 rfl ?_
                    subst he
                    exact K22
                  · rw [if_pos hc23] at he
                    refine G_iconst (v := 0) hΓ dX8_run_74 (by decide) ?_
                    refine G_goto hΓ (tgt := 80) dX8_run_75 (by decide) ?_
                    subst he
                    exact K22
            exact loop42 _ _ _ _ _ hf
      exact loop44 _ _ _ _ hf
    · rw [if_neg hc45] at hf
      refine G_iconst (v := 0) hΓ dX8_run_36 (by decide) ?_
      cases hf
      exact G_iret hΓ hE dX8_run_37
  have he := he5
  refine G_if_ge hΓ (tgt := 9) dX8_run_2 (by decide) (fun hc4 => ?_) (fun hc4 => ?_)
  · rw [if_pos hc4] at he
    refine G_iload_n hΓ 1 dX8_run_9 rfl ?_
    refine G_sipush (v := 20000) hΓ dX8_run_10 (by decide) ?_
    refine G_aload_n hΓ 0 dX8_run_13 rfl ?_
    refine F_get hΓ (t := 18) (i := 0) (ci := 11) (C := RX8) (T := TX8) (N := 47) (fs8 (gl Γ) 0) (v := .int (v 2)) (FMi hF (t := 18) (by decide)) (fun _ _ _ => rfl) rfl rfl rfl rfl inW8 2 (by decide) (TT_cons kw_882) rfl dX8_run_14 ?_
    refine G_isub hΓ dX8_run_17 ?_
    refine G_icmp_le hΓ (tgt := 25) dX8_run_18 (by decide) (fun hc3 => ?_) (fun hc3 => ?_)
    · rw [if_pos hc3] at he
      refine G_iconst (v := 0) hΓ dX8_run_25 (by decide) ?_
      subst he
      exact K2
    · rw [if_neg hc3] at he
      refine G_iconst (v := 2) hΓ dX8_run_21 (by decide) ?_
      refine G_goto hΓ (tgt := 26) dX8_run_22 (by decide) ?_
      subst he
      exact K2
  · rw [if_neg hc4] at he
    refine G_iconst (v := 1) hΓ dX8_run_5 (by decide) ?_
    refine G_goto hΓ (tgt := 26) dX8_run_6 (by decide) ?_
    subst he
    exact K2
