def BI (v : Nat → Int32) (m : Nat → Nat → Int32) (P R : List Nat) (sb : Nat) : Prop := v 34 = nI P.length ∧ v 41 = nI R.length ∧ v 46 = nI sb ∧ arr (m 26) P ∧ arr (m 30) R ∧ fnd v P
abbrev K11 := (Nat → Int32) × (Nat → Nat → Int32) × Int32 × Int32 × Int32 × Int32 × Int32 × Int32 → Option ((Nat → Int32) × (Nat → Nat → Int32) × Int32)
theorem m_bitAt {m : Nat → Nat → Int32} {i k b : Nat} (hi : i < 32) (hk : k < 1200) (h : m 15 (1200 * i + k) = nI b) : f_X8_bitAt m (nI i) (nI k) = some (nI b) := by
  unfold f_X8_bitAt
  rw [show (1200 : Int32) * nI i = nI (1200 * i) from n_mul 1200 i, nI_add, gdT _ (in_nI (by omega) (by decide)), nI_clamp (by omega), h]
theorem body_step {v : Nat → Int32} {m : Nat → Nat → Int32} {P R : List Nat} {la ru sb i k b n nn : Nat} {k11 : K11} (hi : i < 32) (hP : Bt P) (hla : la < 2) (hru : ru ≤ 5) (hpl : P.length ≤ pE P) (hk : R.length = k) (hk2 : k < 1100) (hb : b < 2) (hmb : m 15 (1200 * i + k) = nI b) (hkn : k ≤ n) (hn : n < 1200) (hen : ¬ aEnd P ru) (hI : BI v m P R sb) :
    (evt (P, R, la, ru, sb, []) b = 0 → ∃ v' m' P' R' ru' sb', sv v v' ∧ sm m m' ∧ v' 45 = v 45 ∧ stp (P, R, la, ru, sb, []) b = (P', R', b, ru', sb', []) ∧ BI v' m' P' R' sb' ∧ L_X8_body_48 (nI n) (nI i) k11 (nn + 1) v m (nI k) (nI (aFlex P)) (nI (aLong P)) (nI (cA P)) (nI ru) (nI la) = if aEnd P' ru' then some (upd v' 45 (nI (k + 1)), m', -1) else L_X8_body_48 (nI n) (nI i) k11 nn v' m' (nI (k + 1)) (nI (aFlex P')) (nI (aLong P')) (nI (cA P')) (nI ru') (nI b))
    ∧ (evt (P, R, la, ru, sb, []) b ≠ 0 → ∃ v' m', sv v v' ∧ sm m m' ∧ L_X8_body_48 (nI n) (nI i) k11 (nn + 1) v m (nI k) (nI (aFlex P)) (nI (aLong P)) (nI (cA P)) (nI ru) (nI la) = some (v', m', nI (evt (P, R, la, ru, sb, []) b))) := by
  obtain ⟨i1, i2, i3, i4, i5, i6⟩ := hI
  have hPl := pE_len hP hpl
  have hP' := Bt_snoc hP hb
  have hls := len_s P b
  have e1 := m_bitAt hi (by omega) hmb
  have e2 := m_check (v := v) (m := m) (b := b) i2 (by omega) hb
  rw [evt_q, stp_q, if_neg hen, if_neg hen, body_q, if_neg (show ¬ nI n < nI k by rw [nI_ltI (by omega) (by omega)]; omega), e1, bdS, e2, bdS]
  dsimp only
  have hpe := aPe_le hP
  have hcA : cA P < 30000 := by unfold cA kn; split <;> omega
  by_cases h5 : ru = 5
  · subst h5
    rw [if_pos rfl, if_pos rfl, if_pos (show nI 5 = 5 from rfl)]
    by_cases hbl : b = la
    · rw [if_pos hbl, if_pos (by rw [hbl])]
      exact ⟨fun h => absurd h (by decide), fun _ => ⟨_, _, sv_u (sv_r v) 41 _ (by decide), sm_u (sm_r m) 30 _ (by decide), rfl⟩⟩
    · rw [if_neg hbl, if_neg (by rw [nI_eq (by omega) (by omega)]; exact hbl)]
      refine ⟨fun _ => ?_, fun h => absurd rfl h⟩
      have u34 : upd v 41 (nI (R.length + 1)) 34 = nI P.length := by rw [up_n _ _ (by decide)]; exact i1
      have u46 : upd v 41 (nI (R.length + 1)) 46 = nI sb := by rw [up_n _ _ (by decide)]; exact i3
      have hend : aEnd P 1 ↔ P.length = cA P + 15 := by
        have hpe1 : aFlex P = 0 → aPe P = aBe P + 15 := fun h => if_pos h
        have hpe2 : aFlex P ≠ 0 → aPe P = aBe P := fun h => if_neg h
        by_cases hy : aHl P ≤ P.length
        · have c1 : cA P = aBe P := kn_y hy
          have c2 : pE P = aPe P := kn_y hy
          constructor
          · intro h
            have hf : aFlex P = 0 := by
              have : aFlex P < 2 := Bt_getD _ hP
              have : ¬ aFlex P = 1 := fun h' => hen ⟨h.1, Or.inl h'⟩
              omega
            have := hpe1 hf
            have := h.1
            omega
          · intro h
            have hf : aFlex P = 0 := by
              by_cases hf : aFlex P = 0
              · exact hf
              · have := hpe2 hf; omega
            have := hpe1 hf
            exact ⟨by omega, Or.inr (by decide)⟩
        · have c1 : cA P = 20000 := kn_n hy
          have c2 : pE P = 1000000 := kn_n hy
          constructor
          · intro h; have := h.1; omega
          · intro h; omega
      refine ⟨upd (upd v 41 (nI (R.length + 1))) 46 (nI (sb + 1)), va_up m 30 (upd (m 30) R.length (nI b)), P, R ++ [b], 1, sb + 1, sv_u (sv_u (sv_r v) 41 _ (by decide)) 46 _ (by decide), sm_u (sm_r m) 30 _ (by decide), by simp [upd], rfl, ⟨by simp [upd, i1], by simp [upd, len_s], by simp [upd], ?_, ?_, ?_⟩, ?_⟩
      · rw [vu_n _ _ (by decide)]; exact i4
      · rw [vu_s]; exact arr_s i5 rfl
      · intro hy
        obtain ⟨f1, f2, f3⟩ := i6 hy
        exact ⟨by simp [upd, f1], by simp [upd, f2], by simp [upd, f3]⟩
      · rw [u34, u46, show nI (cA P) + 15 = nI (cA P + 15) from nI_add _ 15, show nI sb + 1 = nI (sb + 1) from nI_add _ 1, show nI k + 1 = nI (k + 1) from nI_add _ 1]
        by_cases hc : P.length = cA P + 15
        · rw [if_pos (by rw [hc]), if_pos (hend.mpr hc)]
        · rw [if_neg (by rw [nI_eq (by omega) (by omega)]; exact hc), if_neg (fun h => hc (hend.mp h))]
          rfl
  · rw [if_neg h5, if_neg h5, if_neg (show ¬ nI ru = 5 by show ¬ nI ru = nI 5; rw [nI_eq (by omega) (by omega)]; exact h5)]
    have er : (if nI b = nI la then nI ru + 1 else 1) = nI (if b = la then ru + 1 else 1) := by
      by_cases hxl : b = la
      · rw [if_pos hxl, if_pos (by rw [hxl])]; exact nI_add _ 1
      · rw [if_neg hxl, if_neg (by rw [nI_eq (by omega) (by omega)]; exact hxl)]; rfl
    rw [ltE, er]
    have hru' : (if b = la then ru + 1 else 1) ≤ 5 := by split <;> omega
    generalize (if b = la then ru + 1 else 1) = ru' at hru' ⊢
    have u34 : upd v 41 (nI (R.length + 1)) 34 = nI P.length := by rw [up_n _ _ (by decide)]; exact i1
    have hfd : fnd (upd v 41 (nI (R.length + 1))) P := by
      intro hy
      obtain ⟨f1, f2, f3⟩ := i6 hy
      exact ⟨by simp [upd, f1], by simp [upd, f2], by simp [upd, f3]⟩
    have hm30 : arr ((va_up m 30 (upd (m 30) R.length (nI b))) 26) P := by rw [vu_n _ _ (by decide)]; exact i4
    obtain ⟨v', w1, w2, w3, w4⟩ := bK_ok (v2 := nI n) (p1 := nI i) (k11 := k11) (nn := nn) (u15 := upd v 41 (nI (R.length + 1))) (u16 := va_up m 30 (upd (m 30) R.length (nI b))) (P := P) (k := k) (b := b) (ru := ru') hP hb (by omega) hru' u34 hm30 hfd
    have hlb : aLong (P ++ [b]) < 2 := Bt_getD _ hP'
    have hfb : aFlex (P ++ [b]) < 2 := Bt_getD _ hP'
    have hat := aAt_le (P ++ [b])
    have hAt : aAt (P ++ [b]) = if aLong (P ++ [b]) = 0 then 14 else 33 := rfl
    have x23 : (if nI (P.length + 1) = 14 then (if nI b = 1 then (1 : Int32) else 0) else nI (aLong P)) = nI (aLong (P ++ [b])) := by
      by_cases c : P.length = 13
      · rw [aLong_e b c, c, if_pos (by decide)]; exact b01 hb
      · rw [aLong_s b c, if_neg (show ¬ nI (P.length + 1) = 14 from ne_l 14 (by omega) (by omega) (by decide))]
    have x31 : (if nI (aLong (P ++ [b])) = 0 then (14 : Int32) else 33) = nI (aAt (P ++ [b])) := by
      rw [hAt]
      have : aLong (P ++ [b]) = 0 ∨ aLong (P ++ [b]) = 1 := by omega
      rcases this with h | h <;> rw [h] <;> decide
    have x35 : (if nI (P.length + 1) ≤ 13 then nI (aFlex P) else if nI (P.length + 1) = nI (aAt (P ++ [b])) + 1 then (if nI b = 1 then (1 : Int32) else 0) else nI (aFlex P)) = nI (aFlex (P ++ [b])) := by
      rw [show nI (aAt (P ++ [b])) + 1 = nI (aAt (P ++ [b]) + 1) from nI_add _ 1]
      by_cases c0 : P.length + 1 ≤ 13
      · rw [if_pos (show nI (P.length + 1) ≤ 13 from le_l 13 c0 (by decide)), aFlex_s b (by omega)]
      · rw [if_neg (show ¬ nI (P.length + 1) ≤ 13 from nle_l 13 c0 (by omega))]
        by_cases c : P.length = aAt (P ++ [b])
        · rw [if_pos (by rw [c]), aFlex_e b c]; exact b01 hb
        · rw [if_neg (by rw [nI_eq (by omega) (by omega)]; omega), aFlex_s b c]
    rw [u34, show nI P.length + 1 = nI (P.length + 1) from nI_add _ 1, gdT _ (in_nI (by omega) (by decide))]
    -- the three joins, one by one
    have j1 : ∀ (K : Int32 → Option ((Nat → Int32) × (Nat → Nat → Int32) × Int32)), jn (α := Int32) K (fun k29 => if nI (P.length + 1) = 14 then lt (α := Int32) (if nI b = 1 then 1 else 0) (fun x121 => k29 x121) else k29 (nI (aLong P))) = K (nI (aLong (P ++ [b]))) := by
      intro K
      rw [← x23, jnE]
      split <;> rfl
    have j2 : ∀ (K : Int32 → Option ((Nat → Int32) × (Nat → Nat → Int32) × Int32)), jn (α := Int32) K (fun k41 => if nI (P.length + 1) ≤ 13 then k41 (nI (aFlex P)) else if nI (P.length + 1) = nI (aAt (P ++ [b])) + 1 then lt (α := Int32) (if nI b = 1 then 1 else 0) (fun x115 => k41 x115) else k41 (nI (aFlex P))) = K (nI (aFlex (P ++ [b]))) := by
      intro K
      rw [← x35, jnE]
      split
      · rfl
      · split <;> rfl
    rw [j1, ltE, x31, j2, w4, show nI (aAt (P ++ [b])) + 2 = nI (aAt (P ++ [b]) + 2) from nI_add _ 2]
    have hsv : sv v v' := by
      intro j j1 j2 j3 j4
      rw [w3 j j1 (by omega) (by omega) (by omega), up_n _ _ (by omega)]
    have hsm : sm m (va_up (va_up m 30 (upd (m 30) R.length (nI b))) 26 (upd ((va_up m 30 (upd (m 30) R.length (nI b))) 26) P.length (nI b))) := sm_u (sm_u (sm_r m) 30 _ (by decide)) 26 _ (by decide)
    by_cases hfm : aFlex (P ++ [b]) = 1 ∧ b = 1 ∧ P.length + 1 = aAt (P ++ [b]) + 2
    · rw [if_pos hfm]
      refine ⟨fun h => absurd h (by decide), fun _ => ?_⟩
      refine ⟨_, _, ?_, ?_, by rw [if_pos (by rw [hfm.2.2]), if_neg (by rw [hfm.1]; decide), if_pos (by rw [hfm.2.1]; rfl)]; rfl⟩
      · exact sv_u (sv_u (sv_r v) 41 _ (by decide)) 34 _ (by decide)
      · exact sm_u (sm_u (sm_r m) 30 _ (by decide)) 26 _ (by decide)
    · rw [if_neg hfm]
      refine ⟨fun _ => ?_, fun h => absurd rfl h⟩
      refine ⟨v', _, P ++ [b], R ++ [b], ru', sb, hsv, hsm, ?_, rfl, ⟨by rw [w1, hls], ?_, ?_, ?_, ?_, w2⟩, ?_⟩
      · rw [w3 45 (by decide) (by decide) (by decide) (by decide), up_n _ _ (by decide)]
      · rw [w3 41 (by decide) (by decide) (by decide) (by decide), up_s, len_s]
      · rw [w3 46 (by decide) (by decide) (by decide) (by decide), up_n _ _ (by decide)]; exact i3
      · rw [vu_s]; exact arr_s hm30 rfl
      · rw [vu_n _ _ (by decide), vu_s]; exact arr_s i5 rfl
      · by_cases c1 : P.length + 1 = aAt (P ++ [b]) + 2
        · rw [if_pos (by rw [c1])]
          by_cases c2 : aFlex (P ++ [b]) = 0
          · rw [if_pos (by rw [c2]; rfl)]
          · rw [if_neg (show ¬ nI (aFlex (P ++ [b])) = 0 from ne_l 0 c2 (by omega) (by decide))]
            by_cases c3 : b = 1
            · exact absurd ⟨by omega, c3, c1⟩ hfm
            · rw [if_neg (show ¬ nI b = 1 from ne_l 1 c3 (by omega) (by decide))]
        · rw [if_neg (by rw [nI_eq (by omega) (by omega)]; exact c1)]
