theorem mk_took {v : Nat → Int32} {T : Nat} {x : Int32} (h22 : v 22 = nI T) : (upd v 0 x) 22 = nI T := by rw [up_n _ _ (by decide)]; exact h22
/-- told of the q-th taking: the class's and the model's -/
def tW (m : Nat → Nat → Int32) (q kd cd w : Nat) : Int32 := if w = 0 then m 18 q else if w = 1 then m 19 q else if w = 2 then m 20 q else if w = 3 then nI (octs kd cd) else m 21 q
theorem st_taken {s : CS} {v : Nat → Int32} {m : Nat → Nat → Int32} (h : RI s v m) (p1 p2 p3 : Int32) : ∃ s' v' m', Step_taken p1 p2 p3 s v m s' v' m' ∧ RI s' v' m' := by
  obtain ⟨D, F, N, t, T, E, hG, hL, hN⟩ := id h
  obtain ⟨bE, bT, bK⟩ := RI_E hG hN
  have hT := hG.2.2.2.2.2.2.2
  rcases node_c hG.1 p1 with ⟨n, n1, rfl, n2, n3⟩ | ⟨n2, n3⟩
  · have h32 := hG.1.1
    have hin : vp_in (nI n) 32 := in_nI (by omega) (by decide)
    obtain ⟨oh, g1, g2, g3, g4, g5⟩ := hN n n1
    have hK := bK n n1
    -- no such taking
    have bad : ∀ (hp : p2 = -1 → p3 ≠ 0), (p2 < 0 ∨ (¬ p2 < 0 ∧ ¬ p2 < nI (rk (m 17) n T))) → f_X7_needThing s p2 (nI (rk (m 17) n T)) = some (.inl 1) → f_X8_took (upd v 0 0) m (nI n) p2 = some (-1) → ∃ s' v' m', Step_taken (nI n) p2 p3 s v m s' v' m' ∧ RI s' v' m' := by
      intro hp _ hth hto
      refine ⟨s, upd (upd v 0 0) 0 1, m, ⟨0, ?_, rfl, Or.inr ⟨rfl, Or.inl ⟨?_, up_s _ _ _⟩⟩⟩, RI_c h vG_00 (sm_r m)⟩
      · unfold f_X8_taken
        rw [n3, bdS, if_pos rfl, ltE, if_pos (by decide)]
        by_cases hm1 : p2 = -1
        · rw [if_pos hm1, if_neg (hp hm1), hto, bdS, if_pos rfl, ltE, if_neg (by decide)]
        · rw [if_neg hm1, hto, bdS, if_pos rfl, ltE, if_neg (by decide)]
      · unfold f_X7_taken
        rw [n2, bxR, gdT _ hin, nI_clamp (by omega), g1]
        by_cases hm1 : p2 = -1
        · rw [if_pos hm1, if_neg (hp hm1), hth, bxL]
        · rw [if_neg hm1, hth, bxL]
    by_cases hm1 : p2 = -1
    · by_cases h30 : p3 = 0
      · refine ⟨s, upd v 0 0, m, ⟨nI (rk (m 17) n T), ?_, rfl, Or.inl ⟨?_, up_s _ _ _, rfl⟩⟩, RI_c h vG_0 (sm_r m)⟩
        · unfold f_X8_taken
          rw [n3, bdS, if_pos rfl, ltE, if_pos (by decide), if_pos hm1, if_pos h30, jnE]
          exact tk_cnt (m := m) (n := n) (k59 := fun ⟨v57, v58⟩ => some ((upd v 0 0), v58)) (by omega) hT.1 T 0 fu (by omega) (fu_big (by omega))
        · unfold f_X7_taken
          rw [n2, bxR, gdT _ hin, nI_clamp (by omega), if_pos hm1, if_pos h30, g1]
      · refine bad (fun _ => h30) (Or.inl (by rw [hm1]; exact m1_lt)) ?_ (took_neg (by rw [hm1]; exact m1_lt))
        unfold f_X7_needThing
        rw [if_pos (show p2 < 0 by rw [hm1]; exact m1_lt)]
    · rcases thing_c s p2 (rk (m 17) n T) (by omega) with ⟨i, i1, rfl, i2⟩ | ⟨i2, i3⟩
      · obtain ⟨q, q1, q2, q3, q4⟩ := (took_ok (v := upd v 0 0) (m := m) (n := n) (T := T) (i := i) (by omega) (mk_took hT.1) (by omega)).1 i1
        obtain ⟨kd, cd, off, x1, x2, x3, x4, x5, x6, x7, x8, x9, x10, x11, x12⟩ := g4 q q1 q2
        rw [q3] at x5 x6 x7 x8 x9 x10
        have hq1 : ¬ nI q = -1 := nm1 (by omega)
        rcases what_c s p3 4 (by decide) with ⟨w, w1, rfl, w2, w3, w4⟩ | ⟨w2, w3⟩
        · have w2 : f_X7_needWhat s (nI w) 4 = some (.inr ()) := w2
          have w4 : nI w ≤ 4 := w4
          have hcls : f_X5_told (s.1 11 n) (nI i) (nI w) = some (tW m q kd cd w) := by
            rw [c_told (by omega) (by omega)]
            unfold tW
            rcases (show w = 0 ∨ w = 1 ∨ w = 2 ∨ w = 3 ∨ w = 4 by omega) with rfl | rfl | rfl | rfl | rfl
            · rw [if_pos rfl]; exact congrArg some x5
            · rw [if_neg (by decide), if_pos rfl, x6, x3]
            · rw [if_neg (by decide), if_neg (by decide), if_pos rfl, x7, x4]
            · rw [if_neg (by decide), if_neg (by decide), if_neg (by decide), if_pos rfl, x8]
            · rw [if_neg (by decide), if_neg (by decide), if_neg (by decide), if_neg (by decide), x9]
          refine ⟨s, upd (upd v 0 0) 0 0, m, ⟨tW m q kd cd w, ?_, rfl, Or.inl ⟨?_, up_s _ _ _, rfl⟩⟩, RI_c h vG_00 (sm_r m)⟩
          · unfold f_X8_taken
            rw [n3, bdS, if_pos rfl, ltE, if_pos (by decide), if_neg hm1, q4, bdS, if_neg hq1, if_neg w3, if_pos w4, ltE, if_pos (by decide)]
            have hqi : vp_in (nI q) 14000 := in_nI (by omega) (by decide)
            unfold tW
            rcases (show w = 0 ∨ w = 1 ∨ w = 2 ∨ w = 3 ∨ w = 4 by omega) with rfl | rfl | rfl | rfl | rfl
            · rw [if_pos (show nI 0 = 0 from rfl), gdT _ hqi, nI_clamp (by omega), if_pos rfl]
            · rw [if_neg (show ¬ nI 1 = 0 by decide), jnE, if_pos (show nI 1 = 1 from rfl), gdT _ hqi, nI_clamp (by omega), if_neg (by decide), if_pos rfl]
            · rw [if_neg (show ¬ nI 2 = 0 by decide), jnE, if_neg (show ¬ nI 2 = 1 by decide), if_pos (show nI 2 = 2 from rfl), gdT _ hqi, nI_clamp (by omega), if_neg (by decide), if_neg (by decide), if_pos rfl]
            · rw [if_neg (show ¬ nI 3 = 0 by decide), jnE, if_neg (show ¬ nI 3 = 1 by decide), if_neg (show ¬ nI 3 = 2 by decide), if_pos (show nI 3 = 3 from rfl), gdT _ hqi, gdT _ hqi, nI_clamp (by omega), x3, x4, m_octets kd x1 cd x2, bdS, if_neg (by decide), if_neg (by decide), if_neg (by decide), if_pos rfl]
            · rw [if_neg (show ¬ nI 4 = 0 by decide), jnE, if_neg (show ¬ nI 4 = 1 by decide), if_neg (show ¬ nI 4 = 2 by decide), if_neg (show ¬ nI 4 = 3 by decide), gdT _ hqi, nI_clamp (by omega), if_neg (by decide), if_neg (by decide), if_neg (by decide), if_neg (by decide)]
          · unfold f_X7_taken
            rw [n2, bxR, gdT _ hin, nI_clamp (by omega), g1, if_neg hm1, i2, bxR, w2, bxR, hcls, bdS]
        · have w2 : f_X7_needWhat s p3 4 = some (.inl 2) := w2
          refine ⟨s, upd (upd v 0 0) 0 2, m, ⟨0, ?_, rfl, Or.inr ⟨rfl, Or.inr ⟨?_, up_s _ _ _⟩⟩⟩, RI_c h vG_00 (sm_r m)⟩
          · unfold f_X8_taken
            rw [n3, bdS, if_pos rfl, ltE, if_pos (by decide), if_neg hm1, q4, bdS, if_neg hq1]
            rcases w3 with w3 | ⟨w3, w4⟩
            · rw [if_pos w3, ltE, if_neg (by decide)]
            · rw [if_neg w3, if_neg (show ¬ p3 ≤ 4 from w4), ltE, if_neg (by decide)]
          · unfold f_X7_taken
            rw [n2, bxR, gdT _ hin, nI_clamp (by omega), g1, if_neg hm1, i2, bxR, w2, bxL]
      · refine bad (fun e => absurd e hm1) i3 i2 ?_
        rcases i3 with i3 | ⟨i3, i4⟩
        · exact took_neg i3
        · obtain ⟨i, i5, rfl⟩ := nn_of i3
          exact (took_ok (v := upd v 0 0) (m := m) (n := n) (T := T) (i := i) (by omega) (mk_took hT.1) i5).2 (fun e => i4 (lt_l _ e (by omega)))
  · refine ⟨s, upd v 0 1, m, ⟨0, ?_, rfl, Or.inr ⟨rfl, Or.inl ⟨?_, up_s _ _ _⟩⟩⟩, RI_c h vG_0 (sm_r m)⟩
    · unfold f_X8_taken; rw [n3, bdS, if_neg (by decide), ltE, if_neg (by decide)]
    · unfold f_X7_taken; rw [n2, bxL]
theorem st_takenOctet {s : CS} {v : Nat → Int32} {m : Nat → Nat → Int32} (h : RI s v m) (p1 p2 p3 : Int32) : ∃ s' v' m', Step_takenOctet p1 p2 p3 s v m s' v' m' ∧ RI s' v' m' := by
  obtain ⟨D, F, N, t, T, E, hG, hL, hN⟩ := id h
  obtain ⟨bE, bT, bK⟩ := RI_E hG hN
  have hT := hG.2.2.2.2.2.2.2
  rcases node_c hG.1 p1 with ⟨n, n1, rfl, n2, n3⟩ | ⟨n2, n3⟩
  · have h32 := hG.1.1
    have hin : vp_in (nI n) 32 := in_nI (by omega) (by decide)
    obtain ⟨oh, g1, g2, g3, g4, g5⟩ := hN n n1
    have hK := bK n n1
    rcases thing_c s p2 (rk (m 17) n T) (by omega) with ⟨i, i1, rfl, i2⟩ | ⟨i2, i3⟩
    · obtain ⟨q, q1, q2, q3, q4⟩ := (took_ok (v := v) (m := m) (n := n) (T := T) (i := i) (by omega) hT.1 (by omega)).1 i1
      obtain ⟨kd, cd, off, x1, x2, x3, x4, x5, x6, x7, x8, x9, x10, x11, x12⟩ := g4 q q1 q2
      rw [q3] at x5 x6 x7 x8 x9 x10
      have hq1 : ¬ nI q = -1 := nm1 (by omega)
      have hqi : vp_in (nI q) 14000 := in_nI (by omega) (by decide)
      have hoc := octs_le kd cd
      have ht3 : f_X5_told (s.1 11 n) (nI i) 3 = some (nI (octs kd cd)) := by
        have := c_told (tt := s.1 11 n) (i := i) (w := 3) (by omega) (by decide)
        rw [x8] at this
        exact this
      have ht5 : f_X5_told (s.1 11 n) (nI i) 5 = some (nI off) := by
        have := c_told (tt := s.1 11 n) (i := i) (w := 5) (by omega) (by decide)
        rw [x10] at this
        exact this
      rcases thing_c s p3 (octs kd cd) (by omega) with ⟨k, k1, rfl, k2⟩ | ⟨k2, k3⟩
      · refine ⟨s, upd v 0 0, m, ⟨m 22 (64 * q + k) &&& 255, ?_, rfl, Or.inl ⟨?_, up_s _ _ _, rfl⟩⟩, RI_c h vG_0 (sm_r m)⟩
        · unfold f_X8_takenOctet
          rw [n3, bdS, jnE, if_pos rfl, q4, bdS]
          dsimp only
          rw [jnE, if_neg hq1, if_pos (show (0 : Int32) ≤ nI k from le_l (a := 0) k (Nat.zero_le _) (by omega)), gdT _ hqi, gdT _ hqi, nI_clamp (by omega), x3, x4, m_octets kd x1 cd x2, bdS, if_pos (lt_l _ k1 (by omega))]
          dsimp only
          rw [jnE, if_pos (by decide), e64, gdT _ (in_nI (by omega) (by decide)), nI_clamp (by omega)]
        · unfold f_X7_takenOctet f_X5_octetOf
          rw [n2, bxR, gdT _ hin, nI_clamp (by omega), g1, i2, bxR, ht3, bdS, k2, bxR, ht5, bdS, nI_add, jnE, if_neg (lt0 _ (by omega)), if_neg (show ¬ 2500 ≤ nI (off + k) from nle_l (a := 2500) _ (by omega) (by decide)), gdT _ (in_nI (by omega) (by decide)), nI_clamp (by omega), x12 k k1]
          rfl
      · refine ⟨s, upd v 0 1, m, ⟨0, ?_, rfl, Or.inr ⟨rfl, ?_, up_s _ _ _⟩⟩, RI_c h vG_0 (sm_r m)⟩
        · unfold f_X8_takenOctet
          rw [n3, bdS, jnE, if_pos rfl, q4, bdS]
          dsimp only
          rw [jnE, if_neg hq1]
          rcases k3 with k3 | ⟨k3, k4⟩
          · rw [if_neg (show ¬ (0 : Int32) ≤ p3 from fun e => by rw [Int32.lt_iff_toInt_lt] at k3; rw [Int32.le_iff_toInt_le] at e; omega)]
            dsimp only
            rw [jnE, if_neg (by decide)]
          · rw [if_pos (show (0 : Int32) ≤ p3 by obtain ⟨k, _, rfl⟩ := nn_of k3; exact le_l (a := 0) k (Nat.zero_le _) (by omega)), gdT _ hqi, gdT _ hqi, nI_clamp (by omega), x3, x4, m_octets kd x1 cd x2, bdS, if_neg k4]
            dsimp only
            rw [jnE, if_neg (by decide)]
        · unfold f_X7_takenOctet
          rw [n2, bxR, gdT _ hin, nI_clamp (by omega), g1, i2, bxR, ht3, bdS, k2, bxL]
    · have hto : f_X8_took v m (nI n) p2 = some (-1) := by
        rcases i3 with i3 | ⟨i3, i4⟩
        · exact took_neg i3
        · obtain ⟨i, i5, rfl⟩ := nn_of i3
          exact (took_ok (v := v) (m := m) (n := n) (T := T) (i := i) (by omega) hT.1 i5).2 (fun e => i4 (lt_l _ e (by omega)))
      refine ⟨s, upd v 0 1, m, ⟨0, ?_, rfl, Or.inr ⟨rfl, ?_, up_s _ _ _⟩⟩, RI_c h vG_0 (sm_r m)⟩
      · unfold f_X8_takenOctet
        rw [n3, bdS, jnE, if_pos rfl, hto, bdS]
        dsimp only
        rw [jnE, if_pos rfl]
        dsimp only
        rw [jnE, if_neg (by decide)]
      · unfold f_X7_takenOctet
        rw [n2, bxR, gdT _ hin, nI_clamp (by omega), g1, i2, bxL]
  · refine ⟨s, upd v 0 1, m, ⟨0, ?_, rfl, Or.inr ⟨rfl, ?_, up_s _ _ _⟩⟩, RI_c h vG_0 (sm_r m)⟩
    · unfold f_X8_takenOctet
      rw [n3, bdS, jnE, if_neg (by decide)]
      dsimp only
      rw [jnE, if_pos rfl]
      dsimp only
      rw [jnE, if_neg (by decide)]
    · unfold f_X7_takenOctet; rw [n2, bxL]
/-! flip -/
theorem or_bit {X n k : Nat} : (X ||| 2 ^ n) / 2 ^ k % 2 = if k = n then 1 else X / 2 ^ k % 2 := by
  rw [← Nat.toNat_testBit, ← Nat.toNat_testBit, Nat.testBit_or, Nat.testBit_two_pow]
  by_cases h : k = n
  · subst h; simp
  · rw [if_neg h]; simp [show ¬ n = k from fun e => h e.symm]
theorem st_flip {s : CS} {v : Nat → Int32} {m : Nat → Nat → Int32} (h : RI s v m) (p1 p2 : Int32) : ∃ s' v' m', Step_flip p1 p2 s v m s' v' m' ∧ RI s' v' m' := by
  obtain ⟨D, F, N, t, T, E, hG, hL, hN⟩ := id h
  have ht := hG.1.2.2.2.1
  rcases node_c hG.1 p1 with ⟨n, n1, rfl, n2, n3⟩ | ⟨n2, n3⟩
  · have h32 := hG.1.1
    by_cases hlt : p2 < nI t
    · refine ⟨s, upd v 0 2, m, ⟨?_, Or.inr ⟨rfl, Or.inr ⟨?_, up_s _ _ _⟩⟩⟩, RI_c h vG_0 (sm_r m)⟩
      · unfold f_X8_flip; rw [n3, bdS, if_pos rfl, hG.1.2.2.2.2.2, if_pos hlt, ltE, jnE, if_neg (by decide)]
      · unfold f_X7_flip; rw [n2, bxR, hG.1.2.2.2.2.1, if_pos hlt]
    · have h0 : ¬ p2 < 0 := fun e => hlt (by
        rw [Int32.lt_iff_toInt_lt] at e ⊢
        rw [nI_toInt (by omega)]
        have : (0 : Int32).toInt = 0 := rfl
        omega)
      obtain ⟨a, a1, rfl⟩ := nn_of h0
      have hta : t ≤ a := by
        rcases Nat.lt_or_ge a t with h9 | h9
        · exact absurd (lt_l _ h9 (by omega)) hlt
        · exact h9
      by_cases ha : a < 20000
      · obtain ⟨fe, f1, f2, f3, f4⟩ := hG.2.2.2.2.2.1
        obtain ⟨X, X1, X2, X3⟩ := f4 a ha
        have e1 : (1 : Int32) <<< (nI n &&& 31) = nI (2 ^ n) := by
          have := n_shl 1 (k := n) (by omega)
          rw [Nat.one_mul] at this
          exact this
        have e2 : (20000 : Int32) * nI n + nI a = nI (20000 * n + a) := by rw [show (20000 : Int32) = nI 20000 from rfl, n_mul, nI_add]
        have hX2 : X ||| 2 ^ n < 2 ^ 32 := Nat.or_lt_two_pow X1 (Nat.pow_lt_pow_right (by decide) (by omega))
        refine ⟨sZ (sZ s 17 1 (upd (s.1 17 1) a (nI (X ||| 2 ^ n)))) 0 0 (upd (s.1 0 0) 12 (nI (if fe < a + 1 then a + 1 else fe))), upd v 0 0, va_up m 16 (upd (m 16) (20000 * n + a) (nI 1)), ⟨?_, Or.inl ⟨?_, up_s _ _ _⟩⟩, ?_⟩
        · unfold f_X8_flip
          rw [n3, bdS, if_pos rfl, hG.1.2.2.2.2.2, if_neg hlt, if_pos (show nI a ≤ 19999 from le_l 19999 (by omega) (by decide)), ltE, jnE, if_pos rfl, e2, gdT _ (in_nI (by omega) (by decide)), nI_clamp (by omega), n_bool.2]
          rfl
        · unfold f_X7_flip
          rw [n2, bxR, hG.1.2.2.2.2.1, if_neg hlt, if_pos (show nI a < 20000 from lt_l 20000 ha (by decide)), gdT _ (in_nI ha (by decide)), nI_clamp (by omega), X2, e1, n_or, ltE, gdT _ (in_nI ha (by decide)), ltE, ltE, ltE, sZ_n (by omega), f2, show nI a + 1 = nI (a + 1) from nI_add _ 1]
          have e3 : (if nI fe < nI (a + 1) then nI (a + 1) else nI fe) = nI (if fe < a + 1 then a + 1 else fe) := by
            by_cases h9 : fe < a + 1
            · rw [if_pos h9, if_pos (lt_l _ h9 (by omega))]
            · rw [if_neg h9, if_neg (nlt_l _ h9 (by omega))]
          rw [e3]
        · have zo : ∀ x y, ¬ (x = 17 ∧ y = 1) → ¬ (x = 0 ∧ y = 0) → (sZ (sZ s 17 1 (upd (s.1 17 1) a (nI (X ||| 2 ^ n)))) 0 0 (upd (s.1 0 0) 12 (nI (if fe < a + 1 then a + 1 else fe)))).1 x y = s.1 x y := fun x y h1 h2 => by rw [sZ_n (by omega), sZ_n (by omega)]
          have z0 : (sZ (sZ s 17 1 (upd (s.1 17 1) a (nI (X ||| 2 ^ n)))) 0 0 (upd (s.1 0 0) 12 (nI (if fe < a + 1 then a + 1 else fe)))).1 0 0 = upd (s.1 0 0) 12 (nI (if fe < a + 1 then a + 1 else fe)) := sZ_s
          have z1 : (sZ (sZ s 17 1 (upd (s.1 17 1) a (nI (X ||| 2 ^ n)))) 0 0 (upd (s.1 0 0) 12 (nI (if fe < a + 1 then a + 1 else fe)))).1 17 1 = upd (s.1 17 1) a (nI (X ||| 2 ^ n)) := by rw [sZ_n (by omega), sZ_s]
          have mo : ∀ k, k ≠ 16 → (va_up m 16 (upd (m 16) (20000 * n + a) (nI 1))) k = m k := fun k hk => vu_n _ _ hk
          have zN : ∀ j, sNd j s (sZ (sZ s 17 1 (upd (s.1 17 1) a (nI (X ||| 2 ^ n)))) 0 0 (upd (s.1 0 0) 12 (nI (if fe < a + 1 then a + 1 else fe)))) := fun j => ⟨fun x h1 h2 => zo x j (by omega) (by omega), rfl, rfl⟩
          have z21 : (sZ (sZ s 17 1 (upd (s.1 17 1) a (nI (X ||| 2 ^ n)))) 0 0 (upd (s.1 0 0) 12 (nI (if fe < a + 1 then a + 1 else fe)))).2.1 = s.2.1 := rfl
          generalize sZ (sZ s 17 1 (upd (s.1 17 1) a (nI (X ||| 2 ^ n)))) 0 0 (upd (s.1 0 0) 12 (nI (if fe < a + 1 then a + 1 else fe))) = z at *
          obtain ⟨b1, b2, b3, b4, b5, b6, b7, b8⟩ := hG
          refine ⟨D, F, N, t, T, E, ⟨?_, ?_, ?_, ?_, ?_, ?_, ?_, ?_⟩, ?_, ?_⟩
          · unfold gA; rw [z0, up_n _ _ (by decide), up_n _ _ (by decide), up_n _ _ (by decide), up_n _ _ (by decide)]; exact b1
          · unfold gF
            rw [z0, up_n _ _ (by decide), up_n _ _ (by decide)]
            refine ⟨b2.1, b2.2.1, b2.2.2.1, fun f hf => ?_⟩
            obtain ⟨c1, c2, c3, c4⟩ := b2.2.2.2 f hf
            refine ⟨c1, c2, ⟨frM_o c3.1 (fun j hj => mo j (by omega)), by rw [mo 1 (by omega)]; exact c3.2.1, by rw [mo 6 (by omega)]; exact c3.2.2⟩, ?_⟩
            unfold FCo at c4 ⊢
            rw [z21, zo 13 f (by omega) (by omega), zo 14 f (by omega) (by omega), zo 15 f (by omega) (by omega)]
            exact c4
          · unfold gDn; rw [z0, up_n _ _ (by decide), up_n _ _ (by decide), zo 17 2 (by omega) (by omega), zo 17 3 (by omega) (by omega), mo 7 (by omega), mo 8 (by omega)]; exact b3
          · unfold gEr; rw [z0, up_n _ _ (by decide), up_n _ _ (by decide), zo 17 4 (by omega) (by omega), mo 23 (by omega), mo 24 (by omega), mo 25 (by omega)]; exact b4
          · unfold gBu; rw [zo 17 0 (by omega) (by omega), mo 0 (by omega)]; exact b5
          · unfold gFl
            rw [z0, up_s, z1, vu_s]
            refine ⟨if fe < a + 1 then a + 1 else fe, by split <;> omega, rfl, ?_, ?_⟩
            · intro y hy1 hy2
              have : y ≠ a := by split at hy1 <;> omega
              rw [up_n _ _ this]
              exact f3 y (by split at hy1 <;> omega) hy2
            · intro y hy
              by_cases hya : y = a
              · subst hya
                refine ⟨X ||| 2 ^ n, hX2, up_s _ _ _, fun k hk => ?_⟩
                rw [or_bit]
                by_cases hkn : k = n
                · subst hkn; rw [up_s, if_pos rfl]
                · rw [if_neg hkn, up_n _ _ (by omega)]; exact X3 k hk
              · obtain ⟨Y, Y1, Y2, Y3⟩ := f4 y hy
                refine ⟨Y, Y1, by rw [up_n _ _ hya]; exact Y2, fun k hk => ?_⟩
                rw [up_n _ _ (by omega)]; exact Y3 k hk
          · unfold gWr; rw [zo 7 32 (by omega) (by omega), zo 8 32 (by omega) (by omega), zo 9 32 (by omega) (by omega)]; exact b7
          · unfold gTk; rw [up_n _ _ (by decide), mo 17 (by omega)]; exact b8
          · intro j hj
            rw [zo 5 j (by omega) (by omega), zo 7 j (by omega) (by omega), zo 8 j (by omega) (by omega), zo 9 j (by omega) (by omega)]
            exact hL j hj
          · intro j hj
            exact gNo_c (hN j hj) (zN j) (fun k hk => by rw [mo k (by omega)]) (fun k _ => by unfold sSeg; rw [mo 15 (by omega)]) (fun k _ => by rw [mo 17 (by omega), mo 18 (by omega), mo 19 (by omega), mo 20 (by omega), mo 21 (by omega)]; exact ⟨rfl, rfl, rfl, rfl, rfl⟩) (fun x _ => by rw [mo 22 (by omega)]) (Or.inl rfl) (fun k _ => by rw [mo 24 (by omega)]) (Or.inl rfl) rfl rfl (fun q _ hq => ⟨hq, rfl, rfl⟩)
      · refine ⟨s, upd v 0 2, m, ⟨?_, Or.inr ⟨rfl, Or.inr ⟨?_, up_s _ _ _⟩⟩⟩, RI_c h vG_0 (sm_r m)⟩
        · unfold f_X8_flip; rw [n3, bdS, if_pos rfl, hG.1.2.2.2.2.2, if_neg hlt, if_neg (show ¬ nI a ≤ 19999 from nle_l 19999 (by omega) a1), ltE, jnE, if_neg (by decide)]
        · unfold f_X7_flip; rw [n2, bxR, hG.1.2.2.2.2.1, if_neg hlt, if_neg (show ¬ nI a < 20000 from nlt_l 20000 (by omega) a1)]
  · refine ⟨s, upd v 0 1, m, ⟨?_, Or.inr ⟨rfl, Or.inl ⟨?_, up_s _ _ _⟩⟩⟩, RI_c h vG_0 (sm_r m)⟩
    · unfold f_X8_flip; rw [n3, bdS, if_neg (by decide), ltE, jnE, if_neg (by decide)]
    · unfold f_X7_flip; rw [n2, bxL]
