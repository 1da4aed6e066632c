theorem m1_lt : (-1 : Int32) < 0 := by decide
theorem thing_c (s : CS) (p1 : Int32) (c : Nat) (hc : c < 2 ^ 31) : (∃ k, k < c ∧ p1 = nI k ∧ f_X7_needThing s p1 (nI c) = some (.inr ())) ∨ (f_X7_needThing s p1 (nI c) = some (.inl 1) ∧ ((p1 < 0) ∨ (¬ p1 < 0 ∧ ¬ p1 < nI c))) := by
  unfold f_X7_needThing
  by_cases h : p1 < 0
  · exact Or.inr ⟨by rw [if_pos h], Or.inl h⟩
  · obtain ⟨k, k1, rfl⟩ := nn_of h
    rw [if_neg h]
    by_cases hk : k < c
    · rw [if_pos (lt_l _ hk (by omega))]; exact Or.inl ⟨k, hk, rfl, rfl⟩
    · rw [if_neg (nlt_l _ hk k1)]; exact Or.inr ⟨rfl, Or.inr ⟨h, nlt_l _ hk k1⟩⟩
theorem what_c (s : CS) (p : Int32) (c : Nat) (hc : c < 2 ^ 31) : (∃ k, k ≤ c ∧ p = nI k ∧ f_X7_needWhat s p (nI c) = some (.inr ()) ∧ ¬ p < 0 ∧ p ≤ nI c) ∨ (f_X7_needWhat s p (nI c) = some (.inl 2) ∧ ((p < 0) ∨ (¬ p < 0 ∧ ¬ p ≤ nI c))) := by
  unfold f_X7_needWhat
  by_cases h : p < 0
  · exact Or.inr ⟨by rw [if_pos h], Or.inl h⟩
  · obtain ⟨k, k1, rfl⟩ := nn_of h
    rw [if_neg h]
    by_cases hk : k ≤ c
    · rw [if_pos (le_l _ hk (by omega))]; exact Or.inl ⟨k, hk, rfl, rfl, h, le_l _ hk (by omega)⟩
    · rw [if_neg (nle_l _ hk k1)]; exact Or.inr ⟨rfl, Or.inr ⟨h, nle_l _ hk k1⟩⟩
theorem st_done {s : CS} {v : Nat → Int32} {m : Nat → Nat → Int32} (h : RI s v m) (p1 p2 : Int32) : ∃ s' v' m', Step_done p1 p2 s v m s' v' m' ∧ RI s' v' m' := by
  obtain ⟨D, F, N, t, T, E, hG, hL, hN⟩ := id h
  obtain ⟨d1, d2, d3⟩ := hG.2.2.1
  have hdl := dcn_le D F
  have hF := hG.2.1.1
  generalize hdn : dcn D F = dn at *
  by_cases hm1 : p1 = -1
  · by_cases h20 : p2 = 0
    · refine ⟨s, upd v 0 0, m, ⟨nI dn, ?_, rfl, Or.inl ⟨?_, up_s _ _ _, rfl⟩⟩, RI_c h vG_0 (sm_r m)⟩
      · unfold f_X8_done; rw [if_pos hm1, if_pos h20, d2]
      · unfold f_X7_done; rw [if_pos hm1, if_pos h20, d1]
    · refine ⟨s, upd (upd v 0 0) 0 1, m, ⟨0, ?_, rfl, Or.inr ⟨rfl, Or.inl ⟨?_, up_s _ _ _⟩⟩⟩, RI_c h vG_00 (sm_r m)⟩
      · unfold f_X8_done; rw [if_pos hm1, if_neg h20, if_pos (show p1 < 0 by rw [hm1]; exact m1_lt), ltE, if_neg (by decide)]
      · unfold f_X7_done f_X7_needThing; rw [if_pos hm1, if_neg h20, if_pos (show p1 < 0 by rw [hm1]; exact m1_lt), bxL]
  · rcases thing_c s p1 dn (by omega) with ⟨k, k1, rfl, k2⟩ | ⟨k2, k3⟩
    · have hk0 : ¬ nI k < 0 := lt0 k (by omega)
      obtain ⟨e1, e2⟩ := d3 k k1
      rcases what_c s p2 1 (by decide) with ⟨w, w1, rfl, w2, w3, w4⟩ | ⟨w2, w3⟩
      · have w2 : f_X7_needWhat s (nI w) 1 = some (.inr ()) := w2
        have w4 : nI w ≤ 1 := w4
        rcases (show w = 0 ∨ w = 1 by omega) with rfl | rfl
        · refine ⟨s, upd (upd v 0 0) 0 0, m, ⟨m 7 k, ?_, rfl, Or.inl ⟨?_, up_s _ _ _, rfl⟩⟩, RI_c h vG_00 (sm_r m)⟩
          · unfold f_X8_done; rw [if_neg hm1, if_neg hk0, d2, if_pos (lt_l _ k1 (by omega)), if_neg w3, if_pos w4, ltE, if_pos (by decide), jnE, if_pos (show nI 0 = 0 from rfl), gdT _ (in_nI (by omega) (by decide)), nI_clamp (by omega)]
          · unfold f_X7_done; rw [if_neg hm1, d1, k2, bxR, w2, bxR, jnE, if_pos (show nI 0 = 0 from rfl), gdT _ (in_nI (by omega) (by decide)), nI_clamp (by omega), e1]
        · refine ⟨s, upd (upd v 0 0) 0 0, m, ⟨m 8 k, ?_, rfl, Or.inl ⟨?_, up_s _ _ _, rfl⟩⟩, RI_c h vG_00 (sm_r m)⟩
          · unfold f_X8_done; rw [if_neg hm1, if_neg hk0, d2, if_pos (lt_l _ k1 (by omega)), if_neg w3, if_pos w4, ltE, if_pos (by decide), jnE, if_neg (show ¬ nI 1 = 0 by decide), gdT _ (in_nI (by omega) (by decide)), nI_clamp (by omega)]
          · unfold f_X7_done; rw [if_neg hm1, d1, k2, bxR, w2, bxR, jnE, if_neg (show ¬ nI 1 = 0 by decide), gdT _ (in_nI (by omega) (by decide)), nI_clamp (by omega), e2]
      · have w2 : f_X7_needWhat s p2 1 = some (.inl 2) := w2
        refine ⟨s, upd (upd v 0 0) 0 2, m, ⟨0, ?_, rfl, Or.inr ⟨rfl, Or.inr ⟨?_, up_s _ _ _⟩⟩⟩, RI_c h vG_00 (sm_r m)⟩
        · unfold f_X8_done; rw [if_neg hm1, if_neg hk0, d2, if_pos (lt_l _ k1 (by omega))]
          rcases w3 with w3 | ⟨w3, w4⟩
          · rw [if_pos w3, ltE, if_neg (by decide)]
          · rw [if_neg w3, if_neg (show ¬ p2 ≤ 1 from w4), ltE, if_neg (by decide)]
        · unfold f_X7_done; rw [if_neg hm1, d1, k2, bxR, w2, bxL]
    · refine ⟨s, upd (upd v 0 0) 0 1, m, ⟨0, ?_, rfl, Or.inr ⟨rfl, Or.inl ⟨?_, up_s _ _ _⟩⟩⟩, RI_c h vG_00 (sm_r m)⟩
      · unfold f_X8_done; rw [if_neg hm1, d2]
        rcases k3 with k3 | ⟨k3, k4⟩
        · rw [if_pos k3, ltE, if_neg (by decide)]
        · rw [if_neg k3, if_neg k4, ltE, if_neg (by decide)]
      · unfold f_X7_done; rw [if_neg hm1, d1, k2, bxL]
theorem pk_0 {tm nd kd : Nat} (h1 : kd < 8) : nI (tm * 256 + nd * 8 + kd) &&& 7 = nI kd := by
  have : nI (tm * 256 + nd * 8 + kd) &&& nI (2 ^ 3 - 1) = nI ((tm * 256 + nd * 8 + kd) % 2 ^ 3) := n_mask _ 3
  rw [show (tm * 256 + nd * 8 + kd) % 2 ^ 3 = kd by omega] at this
  exact this
theorem pk_1 {tm nd kd : Nat} (h1 : kd < 8) (h2 : nd < 32) (h3 : tm < 20000) : (nI (tm * 256 + nd * 8 + kd) >>> ((3 : Int32) &&& 31)) &&& 31 = nI nd := by
  have e1 : nI (tm * 256 + nd * 8 + kd) >>> ((3 : Int32) &&& 31) = nI ((tm * 256 + nd * 8 + kd) / 2 ^ 3) := n_shr (k := 3) (by omega) (by decide)
  rw [e1]
  have : nI ((tm * 256 + nd * 8 + kd) / 2 ^ 3) &&& nI (2 ^ 5 - 1) = nI ((tm * 256 + nd * 8 + kd) / 2 ^ 3 % 2 ^ 5) := n_mask _ 5
  rw [show (tm * 256 + nd * 8 + kd) / 2 ^ 3 % 2 ^ 5 = nd by omega] at this
  exact this
theorem pk_2 {tm nd kd : Nat} (h1 : kd < 8) (h2 : nd < 32) (h3 : tm < 20000) : nI (tm * 256 + nd * 8 + kd) >>> ((8 : Int32) &&& 31) = nI tm := by
  have e1 : nI (tm * 256 + nd * 8 + kd) >>> ((8 : Int32) &&& 31) = nI ((tm * 256 + nd * 8 + kd) / 2 ^ 8) := n_shr (k := 8) (by omega) (by decide)
  rw [e1, show (tm * 256 + nd * 8 + kd) / 2 ^ 8 = tm by omega]
theorem RI_E {s : CS} {v : Nat → Int32} {m : Nat → Nat → Int32} {D : FD} {F N t T E : Nat} (hG : Gl s v m D F N t T E t) (hN : ∀ n, n < N → gNo 0 s m D F n t T E) : E ≤ 80000 ∧ T ≤ 13888 ∧ ∀ n, n < N → rk (m 17) n T ≤ 434 := by
  have h32 := hG.1.1
  have ht := hG.1.2.2.2.1
  have hE := hG.2.2.2.1
  have hT := hG.2.2.2.2.2.2.2
  have key : ∀ n, n < 32 → rk (m 24) n E ≤ 2500 ∧ rk (m 17) n T ≤ 434 := by
    intro n hn
    by_cases hnN : n < N
    · obtain ⟨oh, g1, g2, g3, g4, g5⟩ := hN n hnN
      have := NSt_bd g5; omega
    · rw [rk_0 (N := N) (by omega) hn E (fun k hk => by obtain ⟨kd, nd, tm, x1, x2, x3, x4, x5, _⟩ := hE.2.2 k hk; exact ⟨nd, x2, x5⟩), rk_0 (N := N) (by omega) hn T (fun k hk => hT.2 k hk)]
      omega
  refine ⟨?_, ?_, fun n hn => (key n (by omega)).2⟩
  · have := rk_bd (g := m 24) (T := E) (B := 2500) (fun k hk => by obtain ⟨kd, nd, tm, x1, x2, x3, x4, x5, _⟩ := hE.2.2 k hk; exact ⟨nd, by omega, x5⟩) (fun n hn => (key n hn).1)
    omega
  · have := rk_bd (g := m 17) (T := T) (B := 434) (fun k hk => by obtain ⟨nd, x1, x2⟩ := hT.2 k hk; exact ⟨nd, by omega, x2⟩) (fun n hn => (key n hn).2)
    omega
theorem st_error {s : CS} {v : Nat → Int32} {m : Nat → Nat → Int32} (h : RI s v m) (p1 p2 : Int32) : ∃ s' v' m', Step_error p1 p2 s v m s' v' m' ∧ RI s' v' m' := by
  obtain ⟨D, F, N, t, T, E, hG, hL, hN⟩ := id h
  obtain ⟨d1, d2, d3⟩ := hG.2.2.2.1
  have hE := (RI_E hG hN).1
  have h32 := hG.1.1
  by_cases hm1 : p1 = -1
  · by_cases h20 : p2 = 0
    · refine ⟨s, upd v 0 0, m, ⟨nI E, ?_, rfl, Or.inl ⟨?_, up_s _ _ _, rfl⟩⟩, RI_c h vG_0 (sm_r m)⟩
      · unfold f_X8_error; rw [if_pos hm1, if_pos h20, d2]
      · unfold f_X7_error; rw [if_pos hm1, if_pos h20, d1]
    · refine ⟨s, upd (upd v 0 0) 0 1, m, ⟨0, ?_, rfl, Or.inr ⟨rfl, Or.inl ⟨?_, up_s _ _ _⟩⟩⟩, RI_c h vG_00 (sm_r m)⟩
      · unfold f_X8_error; rw [if_pos hm1, if_neg h20, if_pos (show p1 < 0 by rw [hm1]; exact m1_lt), ltE, if_neg (by decide)]
      · unfold f_X7_error f_X7_needThing; rw [if_pos hm1, if_neg h20, if_pos (show p1 < 0 by rw [hm1]; exact m1_lt), bxL]
  · rcases thing_c s p1 E (by omega) with ⟨k, k1, rfl, k2⟩ | ⟨k2, k3⟩
    · have hk0 : ¬ nI k < 0 := lt0 k (by omega)
      obtain ⟨kd, nd, tm, x1, x2, x3, x4, x5, x6, x7⟩ := d3 k k1
      rcases what_c s p2 2 (by decide) with ⟨w, w1, rfl, w2, w3, w4⟩ | ⟨w2, w3⟩
      · have w2 : f_X7_needWhat s (nI w) 2 = some (.inr ()) := w2
        have w4 : nI w ≤ 2 := w4
        rcases (show w = 0 ∨ w = 1 ∨ w = 2 by omega) with rfl | rfl | rfl
        · refine ⟨s, upd (upd v 0 0) 0 0, m, ⟨nI kd, ?_, rfl, Or.inl ⟨?_, up_s _ _ _, rfl⟩⟩, RI_c h vG_00 (sm_r m)⟩
          · unfold f_X8_error; rw [if_neg hm1, if_neg hk0, d2, if_pos (lt_l _ k1 (by omega)), if_neg w3, if_pos w4, ltE, if_pos (by decide), jnE, if_pos (show nI 0 = 0 from rfl), gdT _ (in_nI (by omega) (by decide)), nI_clamp (by omega), x4]
          · unfold f_X7_error; rw [if_neg hm1, d1, k2, bxR, w2, bxR, gdT _ (in_nI (by omega) (by decide)), nI_clamp (by omega), x7, ltE, if_pos (show nI 0 = 0 from rfl), ltE, pk_0 x1]
        · refine ⟨s, upd (upd v 0 0) 0 0, m, ⟨nI nd, ?_, rfl, Or.inl ⟨?_, up_s _ _ _, rfl⟩⟩, RI_c h vG_00 (sm_r m)⟩
          · unfold f_X8_error; rw [if_neg hm1, if_neg hk0, d2, if_pos (lt_l _ k1 (by omega)), if_neg w3, if_pos w4, ltE, if_pos (by decide), jnE, if_neg (show ¬ nI 1 = 0 by decide), if_pos (show nI 1 = 1 from rfl), gdT _ (in_nI (by omega) (by decide)), nI_clamp (by omega), x5]
          · unfold f_X7_error; rw [if_neg hm1, d1, k2, bxR, w2, bxR, gdT _ (in_nI (by omega) (by decide)), nI_clamp (by omega), x7, ltE, if_neg (show ¬ nI 1 = 0 by decide), if_pos (show nI 1 = 1 from rfl), ltE, pk_1 x1 (by omega) x3]
        · refine ⟨s, upd (upd v 0 0) 0 0, m, ⟨nI tm, ?_, rfl, Or.inl ⟨?_, up_s _ _ _, rfl⟩⟩, RI_c h vG_00 (sm_r m)⟩
          · unfold f_X8_error; rw [if_neg hm1, if_neg hk0, d2, if_pos (lt_l _ k1 (by omega)), if_neg w3, if_pos w4, ltE, if_pos (by decide), jnE, if_neg (show ¬ nI 2 = 0 by decide), if_neg (show ¬ nI 2 = 1 by decide), gdT _ (in_nI (by omega) (by decide)), nI_clamp (by omega), x6]
          · unfold f_X7_error; rw [if_neg hm1, d1, k2, bxR, w2, bxR, gdT _ (in_nI (by omega) (by decide)), nI_clamp (by omega), x7, ltE, if_neg (show ¬ nI 2 = 0 by decide), if_neg (show ¬ nI 2 = 1 by decide), ltE, pk_2 x1 (by omega) x3]
      · have w2 : f_X7_needWhat s p2 2 = some (.inl 2) := w2
        refine ⟨s, upd (upd v 0 0) 0 2, m, ⟨0, ?_, rfl, Or.inr ⟨rfl, Or.inr ⟨?_, up_s _ _ _⟩⟩⟩, RI_c h vG_00 (sm_r m)⟩
        · unfold f_X8_error; rw [if_neg hm1, if_neg hk0, d2, if_pos (lt_l _ k1 (by omega))]
          rcases w3 with w3 | ⟨w3, w4⟩
          · rw [if_pos w3, ltE, if_neg (by decide)]
          · rw [if_neg w3, if_neg (show ¬ p2 ≤ 2 from w4), ltE, if_neg (by decide)]
        · unfold f_X7_error; rw [if_neg hm1, d1, k2, bxR, w2, bxL]
    · refine ⟨s, upd (upd v 0 0) 0 1, m, ⟨0, ?_, rfl, Or.inr ⟨rfl, Or.inl ⟨?_, up_s _ _ _⟩⟩⟩, RI_c h vG_00 (sm_r m)⟩
      · unfold f_X8_error; rw [if_neg hm1, d2]
        rcases k3 with k3 | ⟨k3, k4⟩
        · rw [if_pos k3, ltE, if_neg (by decide)]
        · rw [if_neg k3, if_neg k4, ltE, if_neg (by decide)]
      · unfold f_X7_error; rw [if_neg hm1, d1, k2, bxL]
/-! taken -/
theorem took_L {v : Nat → Int32} {m : Nat → Nat → Int32} {n T i : Nat} (hT : T ≤ 14000) (h22 : v 22 = nI T) (hi : i < 2 ^ 31) :
    ∀ d k nn, d + k = T → d < nn → rk (m 17) n k ≤ i → (i < rk (m 17) n T → ∃ q, q < T ∧ m 17 q = nI n ∧ rk (m 17) n q = i ∧ L_X8_took_5 v (nI i) m (nI n) (fun ⟨v1, v2⟩ => some ((-1))) nn (nI k) (nI (i - rk (m 17) n k)) = some (nI q)) ∧ (¬ i < rk (m 17) n T → L_X8_took_5 v (nI i) m (nI n) (fun ⟨v1, v2⟩ => some ((-1))) nn (nI k) (nI (i - rk (m 17) n k)) = some (-1)) := by
  intro d
  induction d with
  | zero =>
    intro k nn hd hnn hr
    obtain ⟨nn, rfl⟩ : ∃ q, nn = q + 1 := ⟨nn - 1, by omega⟩
    have hk : k = T := by omega
    subst hk
    refine ⟨fun h => by omega, fun _ => ?_⟩
    show (if (v 22) ≤ nI k then some (-1) else _) = _
    rw [h22, if_pos (le_l _ (Nat.le_refl _) (by omega))]
  | succ d ih =>
    intro k nn hd hnn hr
    obtain ⟨nn, rfl⟩ : ∃ q, nn = q + 1 := ⟨nn - 1, by omega⟩
    have unf : L_X8_took_5 v (nI i) m (nI n) (fun ⟨v1, v2⟩ => some ((-1))) (nn + 1) (nI k) (nI (i - rk (m 17) n k)) = if (v 22) ≤ nI k then some (-1) else if nI i < 0 then some (-1) else gd (vp_in (nI k) 14000) (if ((m 17) (nI k).toNatClampNeg) = nI n then if nI (i - rk (m 17) n k) = 0 then some (nI k) else L_X8_took_5 v (nI i) m (nI n) (fun ⟨v1, v2⟩ => some ((-1))) nn (nI k + 1) (nI (i - rk (m 17) n k) + (-1)) else L_X8_took_5 v (nI i) m (nI n) (fun ⟨v1, v2⟩ => some ((-1))) nn (nI k + 1) (nI (i - rk (m 17) n k))) := rfl
    rw [unf, h22, if_neg (nle_l _ (by omega) (by omega)), if_neg (lt0 i hi), gdT _ (in_nI (by omega) (by decide)), nI_clamp (by omega), show nI k + 1 = nI (k + 1) from nI_add _ 1]
    by_cases hm : m 17 k = nI n
    · rw [if_pos hm]
      by_cases h0 : i - rk (m 17) n k = 0
      · rw [if_pos (show nI (i - rk (m 17) n k) = 0 by rw [h0]; rfl)]
        have hlt : i < rk (m 17) n T := by
          have := rk_le (g := m 17) (n := n) (show k + 1 ≤ T by omega)
          rw [rk_s, if_pos hm] at this
          omega
        exact ⟨fun _ => ⟨k, by omega, hm, by omega, rfl⟩, fun h => absurd hlt h⟩
      · rw [if_neg (show ¬ nI (i - rk (m 17) n k) = 0 from ne_l 0 h0 (by omega) (by decide)), show nI (i - rk (m 17) n k) + (-1) = nI (i - rk (m 17) n k) - 1 from (Int32.sub_eq_add_neg _ _).symm, show nI (i - rk (m 17) n k) - 1 = nI (i - rk (m 17) n k - 1) from n_sub (b := 1) (by omega)]
        have e : rk (m 17) n (k + 1) = rk (m 17) n k + 1 := by rw [rk_s, if_pos hm]
        have := ih (k + 1) nn (by omega) (by omega) (by omega)
        rw [e, show i - (rk (m 17) n k + 1) = i - rk (m 17) n k - 1 by omega] at this
        exact this
    · rw [if_neg hm]
      have e : rk (m 17) n (k + 1) = rk (m 17) n k := by rw [rk_s, if_neg hm]; rfl
      have := ih (k + 1) nn (by omega) (by omega) (by omega)
      rw [e] at this
      exact this
theorem took_ok {v : Nat → Int32} {m : Nat → Nat → Int32} {n T i : Nat} (hT : T ≤ 14000) (h22 : v 22 = nI T) (hi : i < 2 ^ 31) : (i < rk (m 17) n T → ∃ q, q < T ∧ m 17 q = nI n ∧ rk (m 17) n q = i ∧ f_X8_took v m (nI n) (nI i) = some (nI q)) ∧ (¬ i < rk (m 17) n T → f_X8_took v m (nI n) (nI i) = some (-1)) := by
  unfold f_X8_took
  rw [jnE]
  exact took_L hT h22 hi T 0 fu (by omega) (fu_big (by omega)) (Nat.zero_le _)
theorem took_neg {v : Nat → Int32} {m : Nat → Nat → Int32} {p1 p2 : Int32} (h : p2 < 0) : f_X8_took v m p1 p2 = some (-1) := by
  unfold f_X8_took
  rw [jnE]
  show (if (v 22) ≤ 0 then some (-1) else if p2 < 0 then some (-1) else _) = _
  rw [if_pos h]
  split <;> rfl
theorem tk_cnt {v : Nat → Int32} {m : Nat → Nat → Int32} {n T : Nat} (hT : T ≤ 14000) (h22 : v 22 = nI T) {k59 : Int32 × Int32 → Option ((Nat → Int32) × Int32)} :
    ∀ d k nn, d + k = T → d < nn → L_X8_taken_41 v m (nI n) k59 nn (nI k) (nI (rk (m 17) n k)) = k59 (nI T, nI (rk (m 17) n T)) := by
  intro d
  induction d with
  | zero =>
    intro k nn hd hnn
    obtain ⟨nn, rfl⟩ : ∃ q, nn = q + 1 := ⟨nn - 1, by omega⟩
    have hk : k = T := by omega
    subst hk
    show (if (v 22) ≤ nI k then k59 (nI k, nI (rk (m 17) n k)) else _) = _
    rw [h22, if_pos (le_l _ (Nat.le_refl _) (by omega))]
  | succ d ih =>
    intro k nn hd hnn
    obtain ⟨nn, rfl⟩ : ∃ q, nn = q + 1 := ⟨nn - 1, by omega⟩
    show (if (v 22) ≤ nI k then _ else gd (vp_in (nI k) 14000) (lt (α := Int32) (if ((m 17) (nI k).toNatClampNeg) = nI n then (nI (rk (m 17) n k) + 1) else nI (rk (m 17) n k)) (fun x62 => L_X8_taken_41 v m (nI n) k59 nn (nI k + 1) x62))) = _
    rw [h22, if_neg (nle_l _ (by omega) (by omega)), gdT _ (in_nI (by omega) (by decide)), nI_clamp (by omega), ltE, show nI k + 1 = nI (k + 1) from nI_add _ 1]
    have := ih (k + 1) nn (by omega) (by omega)
    rw [rk_s] at this
    by_cases hm : m 17 k = nI n
    · rw [if_pos hm] at this ⊢
      rw [show nI (rk (m 17) n k) + 1 = nI (rk (m 17) n k + 1) from nI_add _ 1]
      exact this
    · rw [if_neg hm] at this ⊢
      exact this
theorem c_told {tt : Nat → Int32} {i w : Nat} (hi : i < 436) (hw : w < 6) : f_X5_told tt (nI i) (nI w) = some (tt (6 * i + w)) := by
  unfold f_X5_told
  have e : nI i * 6 + nI w = nI (6 * i + w) := by rw [show (6 : Int32) = nI 6 from rfl, n_mul, nI_add]; congr 1; omega
  rw [jnE, e, if_neg (lt0 _ (by omega)), if_neg (show ¬ 2616 ≤ nI (6 * i + w) from nle_l (a := 2616) _ (by omega) (by decide)), gdT _ (in_nI (by omega) (by decide)), nI_clamp (by omega)]
