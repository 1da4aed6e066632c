def mE (e : Nat) : Int32 := if e = 0 then -1 else if e = 7 then nI 10 else if e = 8 then nI 11 else nI e
theorem nm1 {a : Nat} (h : a < 2 ^ 31) : ¬ nI a = -1 := fun e => (n_m1 h).mp e
theorem gD_r {R T : List Nat} {j : Nat} : (R ++ T).getD (R.length + j) 0 = T.getD j 0 := by
  rw [List.getD_eq_getElem?_getD, List.getElem?_append_right (by omega), show R.length + j - R.length = j by omega, ← List.getD_eq_getElem?_getD]
theorem nfx5 : ∀ (T : List Nat), T.length = 5 → vl (nfx T) = 2 * (2 * (2 * (2 * 0 + T.getD 1 0) + T.getD 2 0) + T.getD 3 0) + T.getD 4 0
  | [a, b, c, d, e], _ => rfl
theorem m_count4 {u1 : Nat → Int32} {u2 : Nat → Nat → Int32} {T R : List Nat} {i n : Nat} {k35 : Int32 × Int32 → Option ((Nat → Int32) × (Nat → Nat → Int32) × Int32)} (hi : i < 32) (hR : R.length ≤ 691) (hT : T.length = 5) (hTB : Bt T) (h45 : u1 45 = nI R.length) (hn : n = R.length + 4) (hs : sIs u2 i (R ++ T)) : L_X8_read_94 (nI n) u1 u2 (nI i) k35 fu 1 0 = k35 (nI 5, nI (vl (nfx T))) := by
  have hc : (nI n - (u1 45)) = 4 := by rw [h45, n_sub (by omega), hn, show R.length + 4 - R.length = 4 by omega]; rfl
  have st : ∀ (j q w : Nat), 1 ≤ j → j < 5 → w < 1000 → L_X8_read_94 (nI n) u1 u2 (nI i) k35 (q + 1) (nI j) (nI w) = L_X8_read_94 (nI n) u1 u2 (nI i) k35 q (nI (j + 1)) (nI (2 * w + T.getD j 0)) := by
    intro j q w h1 h2 h3
    have hb : f_X8_bitAt u2 (nI i) (nI (R.length + j)) = some (nI (T.getD j 0)) := by
      refine m_bitAt hi (by omega) ?_
      rw [hs (R.length + j) (by rw [List.length_append]; omega), gD_r]
    show (if 5 ≤ nI j then _ else if (nI n - (u1 45)) = 4 then bd _ _ else _) = _
    rw [if_neg (show ¬ 5 ≤ nI j from nle_l (a := 5) j (by omega) (by decide)), if_pos hc, h45, nI_add, hb, bdS, show nI j + 1 = nI (j + 1) from nI_add _ 1, show (2 : Int32) * nI w = nI (2 * w) from n_mul 2 w, nI_add]
  have b1 : T.getD 1 0 < 2 := Bt_getD 1 hTB
  have b2 : T.getD 2 0 < 2 := Bt_getD 2 hTB
  have b3 : T.getD 3 0 < 2 := Bt_getD 3 hTB
  obtain ⟨q, hq⟩ : ∃ q, fu = q + 1 + 1 + 1 + 1 + 1 := ⟨999995, rfl⟩
  rw [hq]
  show L_X8_read_94 (nI n) u1 u2 (nI i) k35 (q + 1 + 1 + 1 + 1 + 1) (nI 1) (nI 0) = _
  rw [st 1 _ 0 (by decide) (by decide) (by decide), st 2 _ _ (by decide) (by decide) (by omega), st 3 _ _ (by decide) (by decide) (by omega), st 4 _ _ (by decide) (by decide) (by omega), nfx5 T hT]
  show (if 5 ≤ nI (4 + 1) then _ else _) = _
  rw [if_pos (by decide)]
theorem m_read {v : Nat → Int32} {m : Nat → Nat → Int32} {L : List Nat} {i b : Nat} (hc : cln L) (hi : i < 32) (hb : b < 2) (h14 : m 14 i = nI (L.length + 1)) (hs : sIs m i (L ++ [b])) : ∃ v' m', sv v v' ∧ sm m m' ∧ f_X8_read v m (nI i) = some (v', m', mE (evt (par L) b)) := by
  have hL := L_len hc
  have hok := par_ok hc
  have hBL := hc.1
  have hBLb := Bt_snoc hBL hb
  have hsL : sIs m i L := fun k hk => by rw [hs k (by rw [len_s]; omega), gD_l hk]
  obtain ⟨P, R, la, ru, sb, T, hp⟩ : ∃ P R la ru sb T, par L = (P, R, la, ru, sb, T) := ⟨_, _, _, _, _, _, rfl⟩
  rw [hp] at hok hL
  obtain ⟨a1, a2, a3, a4, a5, a6, a7, a8, a9, a10, a11, a12⟩ := hok
  obtain ⟨hl1, hl2, hl3⟩ := hL
  have hl2 : P.length ≤ 553 := hl2
  have hl3 : R.length ≤ 691 := hl3
  unfold f_X8_read
  by_cases hen : aEnd P ru
  · have hkn := known_of (by omega) hen.1
    have hlpos : 0 < L.length := by
      have h1 := aHl_at P
      rw [a1, List.length_append]
      omega
    obtain ⟨v', m', s1, s2, s3, s4⟩ := m_body (v := v) (m := m) (L := L) (i := i) (N := L.length + 1) hc hi hlpos h14 (by omega) (by omega) (Or.inr (by rw [hp]; exact hen)) hsL
    rw [hp] at s4
    obtain ⟨hI, h45⟩ := s4
    rw [if_pos hen] at h45
    obtain ⟨f1, f2, f3⟩ := hI.2.2.2.2.2 hkn
    have ht := m_tail a2 f1 f2
    have htl : aTl P ≤ 32 := by unfold aTl; split <;> (try split) <;> omega
    have hs' := sIs_sm hs s2
    have eL : L.length = R.length + T.length := by rw [a1, List.length_append]
    have hbit : f_X8_bitAt m' (nI i) (nI L.length) = some (nI b) := m_bitAt hi (by omega) (by rw [hs' L.length (by rw [len_s]; omega), gD_e rfl])
    have hbit1 : f_X8_bitAt m' (nI i) (nI L.length - 1) = some (nI la) := by
      rw [show nI L.length - 1 = nI (L.length - 1) from n_sub (b := 1) (by omega)]
      refine m_bitAt hi (by omega) ?_
      rw [hs' (L.length - 1) (by rw [len_s]; omega), gD_l (by omega), a10 hlpos]
    have e14 : m' 14 i = nI (L.length + 1) := by rw [s2 14 (by decide)]; exact h14
    rw [s3, bdS]
    dsimp only
    rw [if_pos rfl, h45, if_neg (nm1 (by omega)), gdT _ (in_nI hi (by decide)), ltE, nI_clamp (by omega), e14, show nI (L.length + 1) - 1 = nI L.length from n_sub (b := 1) (by omega), hbit, bdS, n_sub (by omega), show L.length - R.length = T.length by omega, if_pos (show 0 ≤ nI T.length from le_l (a := 0) _ (by omega) (by omega)), ht, bdS, bdS, hp, evt_q, if_pos hen]
    unfold tEv
    by_cases h1 : T.length < aTl P
    · rw [if_pos h1, if_neg (nle_l _ (by omega) (by omega)), show nI T.length - nI T.length / 5 * 5 = nI (T.length % 5) from n_mod (b := 5) (by omega) (by decide)]
      by_cases h5 : T.length % 5 = 0
      · rw [if_pos h5, if_pos (by rw [h5]; rfl), hbit1, bdS, ltE]
        by_cases hbl : b = la
        · rw [if_pos hbl, if_pos (by rw [hbl])]
          exact ⟨v', m', s1, s2, rfl⟩
        · rw [if_neg hbl, if_neg (ne_l _ hbl (by omega) (by omega))]
          exact ⟨v', m', s1, s2, rfl⟩
      · rw [if_neg h5, if_neg (show ¬ nI (T.length % 5) = 0 from ne_l 0 h5 (by omega) (by decide)), jnE]
        by_cases h4 : T.length = 4
        · have hsR : sIs m' i (R ++ (T ++ [b])) := by rw [← List.append_assoc, ← a1]; exact hs'
          have hTB : Bt (T ++ [b]) := by rw [a1] at hBL; exact Bt_snoc (Bt_r hBL) hb
          rw [if_pos h4, m_count4 (T := T ++ [b]) (R := R) hi hl3 (by rw [len_s]; omega) hTB h45 (by omega) hsR]
          · dsimp only
            have hct := cto_lt sb
            have hv : vl (nfx (T ++ [b])) < 2 ^ 31 := by
              refine Nat.lt_of_lt_of_le (vl_lt (nfx_Bt hTB)) (Nat.pow_le_pow_right (by decide) ?_)
              rw [nfx_len, len_s]; omega
            rw [jnE, if_pos (show nI T.length = 4 by rw [h4]; rfl), hI.2.2.1, m_count (by omega), bdS]
            by_cases hcc : vl (nfx (T ++ [b])) = cto sb
            · rw [if_pos hcc, if_pos (by rw [hcc])]
              exact ⟨v', m', s1, s2, rfl⟩
            · rw [if_neg hcc, if_neg (ne_l _ hcc (by omega) (by omega))]
              exact ⟨v', m', s1, s2, rfl⟩
        · have hl94 : ∀ k35, L_X8_read_94 (nI L.length) v' m' (nI i) k35 fu 1 0 = k35 (1, 0) := by
            intro k35
            obtain ⟨q, hq⟩ : ∃ q, fu = q + 1 := ⟨999999, rfl⟩
            rw [hq]
            show (if (5 : Int32) ≤ 1 then _ else if (nI L.length - (v' 45)) = 4 then _ else _) = _
            rw [if_neg (by decide), h45, n_sub (by omega), show L.length - R.length = T.length by omega, if_neg (show ¬ nI T.length = 4 from ne_l 4 h4 (by omega) (by decide))]
          rw [if_neg h4, hl94]
          dsimp only
          rw [jnE, if_neg (show ¬ nI T.length = 4 from ne_l 4 h4 (by omega) (by decide))]
          exact ⟨v', m', s1, s2, rfl⟩
    · rw [if_neg h1, if_pos (le_l _ (by omega) (by omega)), n_sub (by omega)]
      have hj : T.length - aTl P ≤ 9 := by omega
      have hj31 : T.length - aTl P < 2 ^ 31 := by omega
      by_cases j1 : T.length - aTl P = 1
      · rw [if_pos j1, if_pos (by rw [j1]; rfl)]
        exact ⟨v', m', s1, s2, rfl⟩
      · rw [if_neg j1, if_neg (show ¬ nI (T.length - aTl P) = 1 from ne_l 1 j1 hj31 (by decide))]
        by_cases b0 : b = 0
        · rw [if_pos b0]
          by_cases j9 : T.length - aTl P = 9
          · rw [if_pos j9, if_pos (by rw [j9]; rfl), ltE, if_neg (by rw [b0]; decide)]
            exact ⟨v', m', s1, s2, rfl⟩
          · rw [if_neg j9, if_neg (show ¬ nI (T.length - aTl P) = 9 from ne_l 9 j9 hj31 (by decide)), if_pos (by rw [b0]; rfl)]
            exact ⟨v', m', s1, s2, rfl⟩
        · have b1 : b = 1 := by omega
          rw [if_neg b0]
          by_cases j2 : T.length - aTl P = 2
          · rw [if_pos j2, if_neg (show ¬ nI (T.length - aTl P) = 9 from ne_l 9 (by omega) hj31 (by decide)), if_neg (show ¬ nI b = 0 from ne_l 0 b0 (by omega) (by decide)), if_pos (by rw [j2]; rfl)]
            have hTB : Bt (R ++ T) := by rw [← a1]; exact hBL
            obtain ⟨v'', m'', t1, t2, t3⟩ := m_right (v := v') (m := m') (P := P) (R := R) (T := T) (i := i) (ru := ru) (sb := sb) a2 hl3 hi hTB (by omega) hen hl2 hI h45 (by rw [← a1]; exact sIs_sm hsL s2)
            rw [t3, bdS]
            dsimp only
            rw [ltE]
            by_cases hr : aRi P R T = 0
            · rw [if_pos hr, if_pos (by rw [hr]; rfl)]
              exact ⟨v'', m'', sv_t s1 t1, sm_t s2 t2, rfl⟩
            · rw [if_neg hr, if_neg (show ¬ nI (aRi P R T) = 0 from ne_l 0 hr (by have := aRi_lt P R T; omega) (by decide))]
              exact ⟨v'', m'', sv_t s1 t1, sm_t s2 t2, rfl⟩
          · rw [if_neg j2]
            by_cases j9 : T.length - aTl P = 9
            · rw [if_neg (show ¬ T.length - aTl P = 8 by omega), if_pos j9, if_pos (show nI (T.length - aTl P) = 9 by rw [j9]; rfl), ltE, if_pos (show nI b = 1 by rw [b1]; rfl)]
              exact ⟨v', m', s1, s2, rfl⟩
            · rw [if_neg (show ¬ nI (T.length - aTl P) = 9 from ne_l 9 j9 hj31 (by decide)), if_neg (show ¬ nI b = 0 from ne_l 0 b0 (by omega) (by decide)), if_neg (show ¬ nI (T.length - aTl P) = 2 from ne_l 2 j2 hj31 (by decide)), ltE]
              by_cases j8 : T.length - aTl P = 8
              · rw [if_pos j8, if_pos (by rw [j8]; rfl)]
                exact ⟨v', m', s1, s2, rfl⟩
              · rw [if_neg j8, if_neg j9, if_neg (show ¬ nI (T.length - aTl P) = 8 from ne_l 8 j8 hj31 (by decide))]
                exact ⟨v', m', s1, s2, rfl⟩
  · have hT : T = [] := by
      rcases Nat.eq_zero_or_pos T.length with h9 | h9
      · exact List.length_eq_zero_iff.mp h9
      · exact absurd (a8 h9) hen
    subst hT
    by_cases he : evt (par L) b = 0
    · have hcb := cln_s hc hb (Or.inl he)
      obtain ⟨v', m', s1, s2, s3, s4⟩ := m_body (v := v) (m := m) (L := L ++ [b]) (i := i) (N := L.length + 1) hcb hi (by rw [len_s]; omega) h14 (by rw [len_s]; omega) (by omega) (Or.inl (by rw [len_s])) hs
      have hokb := par_ok hcb
      obtain ⟨P', R', la', ru', sb', T', hp'⟩ : ∃ P R la ru sb T, par (L ++ [b]) = (P, R, la, ru, sb, T) := ⟨_, _, _, _, _, _, rfl⟩
      have hT' : T' = [] := by
        have h1 := hp'
        rw [par_s, hp, stp_q, if_neg hen] at h1
        split at h1 <;> (injection h1 with _ h1; injection h1 with _ h1; injection h1 with _ h1; injection h1 with _ h1; injection h1 with _ h1; exact h1.symm)
      subst hT'
      rw [hp'] at s4 hokb
      obtain ⟨hI, h45⟩ := s4
      have hRl : R'.length = L.length + 1 := by
        have := congrArg List.length hokb.1
        rw [List.append_nil, len_s] at this
        omega
      rw [s3, bdS]
      dsimp only
      rw [if_pos rfl, he]
      by_cases hen' : aEnd P' ru'
      · rw [if_pos hen'] at h45
        have e14 : m' 14 i = nI (L.length + 1) := by rw [s2 14 (by decide)]; exact h14
        have hs' := sIs_sm hs s2
        have hbit : f_X8_bitAt m' (nI i) (nI L.length) = some (nI b) := m_bitAt hi (by omega) (by rw [hs' L.length (by rw [len_s]; omega), gD_e rfl])
        have hneg : ¬ (0 : Int32) ≤ nI L.length - nI (L.length + 1) := by
          have e : nI L.length - nI (L.length + 1) = -1 := by
            rw [← nI_add]
            show nI L.length - (nI L.length + 1) = -1
            rw [← Int32.sub_sub, Int32.sub_self]
            rfl
          rw [e]
          decide
        rw [h45, if_neg (nm1 (by omega)), gdT _ (in_nI hi (by decide)), ltE, nI_clamp (by omega), e14, show nI (L.length + 1) - 1 = nI L.length from n_sub (b := 1) (by omega), hbit, bdS, hRl, if_neg hneg]
        exact ⟨v', m', s1, s2, rfl⟩
      · rw [if_neg hen'] at h45
        rw [h45, if_pos rfl]
        exact ⟨v', m', s1, s2, rfl⟩
    · obtain ⟨v', m', s1, s2, s3⟩ := m_bodyE (v := v) (m := m) (L := L) (i := i) (b := b) hc hi hb hp hen he h14 hs
      have he12 : evt (par L) b = 1 ∨ evt (par L) b = 2 := by
        rw [hp, evt_q, if_neg hen] at he ⊢
        split at he
        · rename_i h5; rw [if_pos h5]; split at he
          · rename_i h6; rw [if_pos h6]; exact Or.inl rfl
          · exact absurd rfl he
        · rename_i h5; rw [if_neg h5]; split at he
          · rename_i h6; rw [if_pos h6]; exact Or.inr rfl
          · exact absurd rfl he
      rw [s3, bdS]
      dsimp only
      rw [if_neg (nm1 (by omega))]
      refine ⟨v', m', s1, s2, ?_⟩
      rcases he12 with h | h <;> rw [h] <;> rfl
