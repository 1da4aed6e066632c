/-! all begins anew -/
section QB
variable {s : CS} {n : Nat} {r1 r2 : Option Nat} {nf tf : Nat → Int32}
theorem qB_1 {t i : Nat} (h3 : t ≠ 3 ∨ i ≠ n) (h10 : t ≠ 10 ∨ i ≠ n) : (qNd s n r1 r2 nf (s.2.1 4 n) (s.1 4 n) (s.1 5 n) (s.1 7 n) (s.1 8 n) (s.1 9 n) tf (s.1 11 n) (s.1 12 n)).1 t i = s.1 t i := by
  by_cases hi : i = n
  · subst hi
    by_cases h : t < 3 ∨ t = 6 ∨ 12 < t
    · exact qN_1 (Or.inr (by omega))
    · rcases (show t = 4 ∨ t = 5 ∨ t = 7 ∨ t = 8 ∨ t = 9 ∨ t = 11 ∨ t = 12 by omega) with rfl | rfl | rfl | rfl | rfl | rfl | rfl
      · exact qNd_g4
      · exact qNd_g5
      · exact qNd_g7
      · exact qNd_g8
      · exact qNd_g9
      · exact qNd_g11
      · exact qNd_g12
  · exact qN_1 (Or.inl hi)
end QB
theorem c_beg27 {n : Nat} (hn : n ≤ 32) {k8 : CS × Int32 → Option CS} : ∀ d i nn s, d + i = n → d < nn → (∀ j, j < i → s.1 3 j 2 = 0 ∧ s.1 3 j 4 = 0 ∧ s.1 3 j 5 = 0 ∧ s.1 3 j 6 = 0 ∧ s.1 10 j 2 = 0 ∧ s.1 10 j 3 = 0 ∧ s.2.2 j = (none, none)) → ∃ s', L_X7_begin_27 (nI n) k8 nn s (nI i) = k8 (s', nI n) ∧ (∀ j, j < n → s'.1 3 j 2 = 0 ∧ s'.1 3 j 4 = 0 ∧ s'.1 3 j 5 = 0 ∧ s'.1 3 j 6 = 0 ∧ s'.1 10 j 2 = 0 ∧ s'.1 10 j 3 = 0 ∧ s'.2.2 j = (none, none)) ∧ (∀ j, n ≤ j → s'.2.2 j = s.2.2 j) ∧ ∀ t j, t ≠ 3 → t ≠ 10 → s'.1 t j = s.1 t j := by
  intro d
  induction d with
  | zero =>
    intro i nn s hd hnn h
    obtain ⟨nn, rfl⟩ : ∃ q, nn = q + 1 := ⟨nn - 1, by omega⟩
    have hi : i = n := by omega
    subst hi
    refine ⟨s, ?_, h, fun _ _ => rfl, fun _ _ _ _ => rfl⟩
    show (if nI i ≤ nI i then k8 (s, nI i) else _) = _
    rw [if_pos (le_l _ (Nat.le_refl _) (by omega))]
  | succ d ih =>
    intro i nn s hd hnn h
    obtain ⟨nn, rfl⟩ : ∃ q, nn = q + 1 := ⟨nn - 1, by omega⟩
    have g3 : (qNd s i none none (upd (upd (upd (upd (upd (upd (s.1 3 i) 2 0) 3 0) 4 0) 5 0) 6 0) 9 0) (s.2.1 4 i) (s.1 4 i) (s.1 5 i) (s.1 7 i) (s.1 8 i) (s.1 9 i) (upd (upd (s.1 10 i) 2 0) 3 0) (s.1 11 i) (s.1 12 i)).1 3 i = upd (upd (upd (upd (upd (upd (s.1 3 i) 2 0) 3 0) 4 0) 5 0) 6 0) 9 0 := qNd_g3
    have g10 : (qNd s i none none (upd (upd (upd (upd (upd (upd (s.1 3 i) 2 0) 3 0) 4 0) 5 0) 6 0) 9 0) (s.2.1 4 i) (s.1 4 i) (s.1 5 i) (s.1 7 i) (s.1 8 i) (s.1 9 i) (upd (upd (s.1 10 i) 2 0) 3 0) (s.1 11 i) (s.1 12 i)).1 10 i = upd (upd (s.1 10 i) 2 0) 3 0 := qNd_g10
    have gr : (qNd s i none none (upd (upd (upd (upd (upd (upd (s.1 3 i) 2 0) 3 0) 4 0) 5 0) 6 0) 9 0) (s.2.1 4 i) (s.1 4 i) (s.1 5 i) (s.1 7 i) (s.1 8 i) (s.1 9 i) (upd (upd (s.1 10 i) 2 0) 3 0) (s.1 11 i) (s.1 12 i)).2.2 i = rr none none := qNd_r
    have go : ∀ t j, (t ≠ 3 ∨ j ≠ i) → (t ≠ 10 ∨ j ≠ i) → (qNd s i none none (upd (upd (upd (upd (upd (upd (s.1 3 i) 2 0) 3 0) 4 0) 5 0) 6 0) 9 0) (s.2.1 4 i) (s.1 4 i) (s.1 5 i) (s.1 7 i) (s.1 8 i) (s.1 9 i) (upd (upd (s.1 10 i) 2 0) 3 0) (s.1 11 i) (s.1 12 i)).1 t j = s.1 t j := fun t j h1 h2 => qB_1 h1 h2
    have g2 : ∀ j, j ≠ i → (qNd s i none none (upd (upd (upd (upd (upd (upd (s.1 3 i) 2 0) 3 0) 4 0) 5 0) 6 0) 9 0) (s.2.1 4 i) (s.1 4 i) (s.1 5 i) (s.1 7 i) (s.1 8 i) (s.1 9 i) (upd (upd (s.1 10 i) 2 0) 3 0) (s.1 11 i) (s.1 12 i)).2.2 j = s.2.2 j := fun j hj => qN_3 hj
    generalize hz : qNd s i none none (upd (upd (upd (upd (upd (upd (s.1 3 i) 2 0) 3 0) 4 0) 5 0) 6 0) 9 0) (s.2.1 4 i) (s.1 4 i) (s.1 5 i) (s.1 7 i) (s.1 8 i) (s.1 9 i) (upd (upd (s.1 10 i) 2 0) 3 0) (s.1 11 i) (s.1 12 i) = z at g3 g10 gr go g2
    obtain ⟨s', t1, t2, t3, t4⟩ := ih (i + 1) nn z (by omega) (by omega) (fun j hj => by
      by_cases hji : j = i
      · subst hji
        rw [g3, g10, gr]
        refine ⟨?_, ?_, ?_, ?_, ?_, ?_, rfl⟩ <;> simp [upd]
      · rw [go 3 j (Or.inr hji) (Or.inr hji), go 10 j (Or.inr hji) (Or.inr hji), g2 j hji]
        exact h j (by omega))
    refine ⟨s', ?_, t2, fun j hj => by rw [t3 j hj, g2 j (by omega)], fun t j h1 h2 => by rw [t4 t j h1 h2, go t j (Or.inl h1) (Or.inl h2)]⟩
    have unf : L_X7_begin_27 (nI n) k8 (nn + 1) s (nI i) = if nI n ≤ nI i then k8 (s, nI i) else gd (vp_in (nI i) 32) (bd (f_X2_begin (s.2.2 (nI i).toNatClampNeg).1 (s.2.2 (nI i).toNatClampNeg).2 (s.1 3 (nI i).toNatClampNeg) (s.1 10 (nI i).toNatClampNeg)) (fun ⟨u11, u12, u13, u14⟩ => lt (α := CS) (qNd s (nI i).toNatClampNeg u11 u12 u13 (s.2.1 4 (nI i).toNatClampNeg) (s.1 4 (nI i).toNatClampNeg) (s.1 5 (nI i).toNatClampNeg) (s.1 7 (nI i).toNatClampNeg) (s.1 8 (nI i).toNatClampNeg) (s.1 9 (nI i).toNatClampNeg) u14 (s.1 11 (nI i).toNatClampNeg) (s.1 12 (nI i).toNatClampNeg)) (fun s15 => L_X7_begin_27 (nI n) k8 nn s15 (nI i + 1)))) := rfl
    have hb : f_X2_begin (s.2.2 i).1 (s.2.2 i).2 (s.1 3 i) (s.1 10 i) = some (none, none, upd (upd (upd (upd (upd (upd (s.1 3 i) 2 0) 3 0) 4 0) 5 0) 6 0) 9 0, upd (upd (s.1 10 i) 2 0) 3 0) := rfl
    rw [unf, if_neg (nle_l _ (by omega) (by omega)), gdT _ (in_nI (by omega) (by decide)), nI_clamp (by omega), hb, bdS]
    dsimp only
    rw [ltE, hz, show nI i + 1 = nI (i + 1) from nI_add _ 1]
    exact t1
theorem c_beg49 {fe : Nat} (hfe : fe ≤ 20000) {k20 : CS × Int32 → Option CS} : ∀ d i nn s, d + i = fe → d < nn → s.1 0 0 12 = nI fe → (∀ a, a < i → s.1 17 1 a = 0) → ∃ s', L_X7_begin_49 k20 nn s (nI i) = k20 (s', nI fe) ∧ (∀ a, a < fe → s'.1 17 1 a = 0) ∧ (∀ a, fe ≤ a → s'.1 17 1 a = s.1 17 1 a) ∧ (∀ t j, ¬ (t = 17 ∧ j = 1) → s'.1 t j = s.1 t j) ∧ s'.2 = s.2 := by
  intro d
  induction d with
  | zero =>
    intro i nn s hd hnn h12 h
    obtain ⟨nn, rfl⟩ : ∃ q, nn = q + 1 := ⟨nn - 1, by omega⟩
    have hi : i = fe := by omega
    subst hi
    refine ⟨s, ?_, h, fun _ _ => rfl, fun _ _ _ => rfl, rfl⟩
    show (if (s.1 0 0 12) ≤ nI i then k20 (s, nI i) else _) = _
    rw [h12, if_pos (le_l _ (Nat.le_refl _) (by omega))]
  | succ d ih =>
    intro i nn s hd hnn h12 h
    obtain ⟨nn, rfl⟩ : ∃ q, nn = q + 1 := ⟨nn - 1, by omega⟩
    obtain ⟨s', t1, t2, t3, t4, t5⟩ := ih (i + 1) nn (sZ s 17 1 (upd (s.1 17 1) i 0)) (by omega) (by omega) (by rw [sZ_n (by omega)]; exact h12) (fun a ha => by
      rw [sZ_s]
      by_cases hai : a = i
      · rw [hai, up_s]
      · rw [up_n _ _ hai]; exact h a (by omega))
    refine ⟨s', ?_, t2, fun a ha => by rw [t3 a ha, sZ_s, up_n _ _ (by omega)], fun t j hh => by rw [t4 t j hh, sZ_n (by omega)], t5⟩
    show (if (s.1 0 0 12) ≤ nI i then _ else if 20000 ≤ nI i then _ else gd (vp_in (nI i) 20000) (lt (α := CS) (sZ s 17 1 (upd (s.1 17 1) (nI i).toNatClampNeg 0)) (fun s23 => L_X7_begin_49 k20 nn s23 (nI i + 1)))) = _
    rw [h12, if_neg (nle_l _ (by omega) (by omega)), if_neg (show ¬ 20000 ≤ nI i from nle_l (a := 20000) i (by omega) (by decide)), gdT _ (in_nI (by omega) (by decide)), nI_clamp (by omega), ltE, show nI i + 1 = nI (i + 1) from nI_add _ 1]
    exact t1
/-- the class's state behind begin -/
def bOk (s s' : CS) (n : Nat) : Prop := s'.1 0 0 8 = nI n ∧ s'.1 0 0 9 = 0 ∧ s'.1 0 0 10 = 0 ∧ s'.1 0 0 11 = 0 ∧ s'.1 0 0 12 = 0 ∧ s'.1 0 0 13 = 0 ∧ (∀ a, a < 20000 → s'.1 17 1 a = 0) ∧ (∀ j, j < n → s'.1 3 j 2 = 0 ∧ s'.1 3 j 4 = 0 ∧ s'.1 3 j 5 = 0 ∧ s'.1 3 j 6 = 0 ∧ s'.1 10 j 2 = 0 ∧ s'.1 10 j 3 = 0 ∧ s'.2.2 j = (none, none)) ∧ (∀ j, n ≤ j → s'.2.2 j = s.2.2 j) ∧ ∀ t j, t = 5 ∨ t = 7 ∨ t = 8 ∨ t = 9 → s'.1 t j = s.1 t j
theorem c_begin {s : CS} {n fe : Nat} (hn : n ≤ 32) (hfe : fe ≤ 20000) (h12 : s.1 0 0 12 = nI fe) (hz : ∀ a, fe ≤ a → a < 20000 → s.1 17 1 a = 0) : ∃ s', f_X7_begin s (nI n) = some s' ∧ bOk s s' n := by
  unfold f_X7_begin
  rw [ltE, ltE, ltE, ltE, ltE, sZ_s, sZ_s, sZ_s, sZ_s, sZ_same, sZ_same, sZ_same, sZ_same, jnE]
  generalize hu : upd (upd (upd (upd (upd (s.1 0 0) 8 (nI n)) 9 0) 10 0) 11 0) 13 0 = u0
  have u8 : u0 8 = nI n := by rw [← hu, up_n _ _ (by decide), up_n _ _ (by decide), up_n _ _ (by decide), up_n _ _ (by decide), up_s]
  have u9 : u0 9 = 0 := by rw [← hu, up_n _ _ (by decide), up_n _ _ (by decide), up_n _ _ (by decide), up_s]
  have u10 : u0 10 = 0 := by rw [← hu, up_n _ _ (by decide), up_n _ _ (by decide), up_s]
  have u11 : u0 11 = 0 := by rw [← hu, up_n _ _ (by decide), up_s]
  have u13 : u0 13 = 0 := by rw [← hu, up_s]
  have u12 : u0 12 = nI fe := by rw [← hu, up_n _ _ (by decide), up_n _ _ (by decide), up_n _ _ (by decide), up_n _ _ (by decide), up_n _ _ (by decide)]; exact h12
  obtain ⟨s1, t1, t2, t3, t4⟩ := c_beg27 hn (k8 := fun ⟨v6, v7⟩ => jn (α := CS × Int32) (fun ⟨v18, v19⟩ => lt (α := CS) (sZ v18 0 0 (upd (v18.1 0 0) 12 0)) (fun s26 => some (s26))) (fun k20 => L_X7_begin_49  k20 fu v6 0)) n 0 fu (sZ s 0 0 u0) (by omega) (fu_big (by omega)) (fun j hj => absurd hj (Nat.not_lt_zero j))
  have e00 : s1.1 0 0 = u0 := by rw [t4 0 0 (by decide) (by decide), sZ_s]
  obtain ⟨s2, r1, r2, r3, r4, r5⟩ := c_beg49 hfe (k20 := fun ⟨v18, v19⟩ => lt (α := CS) (sZ v18 0 0 (upd (v18.1 0 0) 12 0)) (fun s26 => some (s26))) fe 0 fu s1 (by omega) (fu_big (by omega)) (by rw [e00]; exact u12) (fun a ha => absurd ha (Nat.not_lt_zero a))
  have f00 : s2.1 0 0 = u0 := by rw [r4 0 0 (by omega), e00]
  refine ⟨sZ s2 0 0 (upd (s2.1 0 0) 12 0), ?_, ?_⟩
  · rw [show (0 : Int32) = nI 0 from rfl] at t1 r1 ⊢
    rw [t1]
    dsimp only
    rw [jnE, r1]
    dsimp only
    rw [ltE]
  · unfold bOk
    rw [sZ_s, f00, up_n _ _ (by decide), up_n _ _ (by decide), up_n _ _ (by decide), up_n _ _ (by decide), up_s, up_n _ _ (by decide)]
    refine ⟨u8, u9, u10, u11, rfl, u13, ?_, ?_, ?_, ?_⟩
    · intro a ha
      rw [sZ_n (by omega)]
      by_cases haf : a < fe
      · exact r2 a haf
      · rw [r3 a (by omega), t4 17 1 (by decide) (by decide), sZ_n (by omega)]
        exact hz a (by omega) ha
    · intro j hj
      have := t2 j hj
      rw [sZ_n (by omega), sZ_n (by omega), r4 3 j (by omega), r4 10 j (by omega)]
      show _ ∧ _ ∧ _ ∧ _ ∧ _ ∧ _ ∧ s2.2.2 j = _
      rw [r5]
      exact this
    · intro j hj
      show s2.2.2 j = _
      rw [r5, t3 j hj]
      rfl
    · intro t j ht
      rw [sZ_n (by omega), r4 t j (by omega), t4 t j (by omega) (by omega), sZ_n (by omega)]
theorem RI_begin {s s' : CS} {v : Nat → Int32} {m : Nat → Nat → Int32} {n : Nat} (hn : n ≤ 32) (hb : bOk s s' n) (hw : gWr s) (hl : gLg s) (h1 : v 1 = nI n) (h2 : v 2 = 0) (h4 : v 4 = 0) (h11 : v 11 = 0) (h22 : v 22 = 0) (h29 : v 29 = 0) (hm : ∀ k, k < 32 → m 9 k = 0 ∧ m 12 k = 0 ∧ m 13 k = 0) (hf : ∀ x, x < 640000 → m 16 x = 0) : RI s' v m := by
  obtain ⟨b8, b9, b10, b11, b12, b13, bf, bn, br, bo⟩ := hb
  refine ⟨fun _ => (0, 0, 0, 0, 0, fun _ => 0), 0, n, 0, 0, 0, ⟨?_, ?_, ?_, ?_, ?_, ?_, ?_, ?_⟩, ?_, ?_⟩
  · exact ⟨hn, b8, h1, by omega, b13, h2⟩
  · exact ⟨by omega, b9, h4, fun f hf => absurd hf (Nat.not_lt_zero f)⟩
  · exact ⟨b10, h11, fun k hk => absurd hk (Nat.not_lt_zero k)⟩
  · exact ⟨b11, h29, fun k hk => absurd hk (Nat.not_lt_zero k)⟩
  · exact fun k hk => absurd hk (Nat.not_lt_zero k)
  · refine ⟨0, by omega, b12, fun a _ ha => bf a ha, fun a ha => ⟨0, by decide, bf a ha, fun k hk => ?_⟩⟩
    rw [hf _ (by omega), Nat.zero_div]; rfl
  · unfold gWr
    rw [bo 7 32 (by omega), bo 8 32 (by omega), bo 9 32 (by omega)]
    exact hw
  · exact ⟨h22, fun k hk => absurd hk (Nat.not_lt_zero k)⟩
  · intro j hj
    rw [bo 5 j (by omega), bo 7 j (by omega), bo 8 j (by omega), bo 9 j (by omega)]
    exact hl j hj
  · intro j hj
    obtain ⟨c2, c4, c5, c6, d2, d3, cr⟩ := bn j hj
    obtain ⟨e9, e12, e13⟩ := hm j (by omega)
    refine ⟨0, d2, d3, by omega, fun k hk => absurd hk (Nat.not_lt_zero k), ⟨?_, ?_, ?_, ?_⟩, Or.inl ⟨Or.inl rfl, c2, e9, ?_, ?_, ?_⟩⟩
    · rw [c4, e12]
    · rw [c5, e13]
    · rw [c6]; rfl
    · rw [cr]; rfl
    · show 46 * 0 ≤ 0; omega
    · omega
    · show 8 * 0 ≤ 0; omega
/-! nodes -/
theorem m_n63 {k8 : (Nat → Nat → Int32) × Int32 → Option ((Nat → Int32) × (Nat → Nat → Int32))} : ∀ d i nn m, d + i = 32 → d < nn → (∀ k, k < i → m 9 k = 0 ∧ m 12 k = 0 ∧ m 13 k = 0) → ∃ m', L_X8_nodes_63 k8 nn m (nI i) = k8 (m', nI 32) ∧ (∀ k, k < 32 → m' 9 k = 0 ∧ m' 12 k = 0 ∧ m' 13 k = 0) := by
  intro d
  induction d with
  | zero =>
    intro i nn m hd hnn h
    obtain ⟨nn, rfl⟩ : ∃ q, nn = q + 1 := ⟨nn - 1, by omega⟩
    have hi : i = 32 := by omega
    subst hi
    refine ⟨m, ?_, h⟩
    show (if (32 : Int32) ≤ nI 32 then k8 (m, nI 32) else _) = _
    rw [if_pos (by decide)]
  | succ d ih =>
    intro i nn m hd hnn h
    obtain ⟨nn, rfl⟩ : ∃ q, nn = q + 1 := ⟨nn - 1, by omega⟩
    have hii : vp_in (nI i) 32 := in_nI (by omega) (by decide)
    obtain ⟨m', t1, t2⟩ := ih (i + 1) nn (va_up (va_up (va_up m 9 (upd (m 9) i 0)) 12 (upd (m 12) i 0)) 13 (upd (m 13) i 0)) (by omega) (by omega) (fun k hk => by
      rw [vu_n _ _ (by decide), vu_n _ _ (by decide), vu_s, vu_n (j := 12) _ _ (by decide), vu_s, vu_s]
      by_cases hki : k = i
      · rw [hki, up_s, up_s, up_s]; exact ⟨rfl, rfl, rfl⟩
      · rw [up_n _ _ hki, up_n _ _ hki, up_n _ _ hki]; exact h k (by omega))
    refine ⟨m', ?_, t2⟩
    show (if (32 : Int32) ≤ nI i then _ else gd (vp_in (nI i) 32) (gd (vp_in (nI i) 32) (gd (vp_in (nI i) 32) (L_X8_nodes_63 k8 nn (va_up (va_up (va_up m 9 (upd (m 9) (nI i).toNatClampNeg 0)) 12 (upd (m 12) (nI i).toNatClampNeg 0)) 13 (upd (m 13) (nI i).toNatClampNeg 0)) (nI i + 1))))) = _
    rw [if_neg (show ¬ (32 : Int32) ≤ nI i from nle_l (a := 32) i (by omega) (by decide)), gdT _ hii, gdT _ hii, gdT _ hii, nI_clamp (by omega), show nI i + 1 = nI (i + 1) from nI_add _ 1]
    exact t1
theorem m_n98 {k16 : (Nat → Nat → Int32) × Int32 → Option ((Nat → Int32) × (Nat → Nat → Int32))} : ∀ d i nn m, d + i = 640000 → d < nn → (∀ k, k < i → m 16 k = 0) → ∃ m', L_X8_nodes_98 k16 nn m (nI i) = k16 (m', nI 640000) ∧ (∀ k, k < 640000 → m' 16 k = 0) ∧ ∀ k, k ≠ 16 → m' k = m k := by
  intro d
  induction d with
  | zero =>
    intro i nn m hd hnn h
    obtain ⟨nn, rfl⟩ : ∃ q, nn = q + 1 := ⟨nn - 1, by omega⟩
    have hi : i = 640000 := by omega
    subst hi
    refine ⟨m, ?_, h, fun _ _ => rfl⟩
    show (if (640000 : Int32) ≤ nI 640000 then k16 (m, nI 640000) else _) = _
    rw [if_pos (by decide)]
  | succ d ih =>
    intro i nn m hd hnn h
    obtain ⟨nn, rfl⟩ : ∃ q, nn = q + 1 := ⟨nn - 1, by omega⟩
    obtain ⟨m', t1, t2, t3⟩ := ih (i + 1) nn (va_up m 16 (upd (m 16) i 0)) (by omega) (by omega) (fun k hk => by
      rw [vu_s]
      by_cases hki : k = i
      · rw [hki, up_s]
      · rw [up_n _ _ hki]; exact h k (by omega))
    refine ⟨m', ?_, t2, fun k hk => by rw [t3 k hk, vu_n _ _ hk]⟩
    show (if (640000 : Int32) ≤ nI i then _ else gd (vp_in (nI i) 640000) (L_X8_nodes_98 k16 nn (va_up m 16 (upd (m 16) (nI i).toNatClampNeg (vp_nar .boolean 0))) (nI i + 1))) = _
    rw [if_neg (show ¬ (640000 : Int32) ≤ nI i from nle_l (a := 640000) i (by omega) (by decide)), gdT _ (in_nI (by omega) (by decide)), nI_clamp (by omega), n_bool.1, show nI i + 1 = nI (i + 1) from nI_add _ 1]
    exact t1
theorem st_nodes {s : CS} {v : Nat → Int32} {m : Nat → Nat → Int32} (h : RI s v m) (p1 : Int32) : ∃ s' v' m', Step_nodes p1 s v m s' v' m' ∧ RI s' v' m' := by
  obtain ⟨D, F, N, t, T, E, hG, hL, hN⟩ := id h
  by_cases h32 : p1 ≤ 32
  · by_cases h0 : p1 < 0
    · refine ⟨s, upd v 0 2, m, ⟨?_, Or.inr ⟨rfl, Or.inr ⟨?_, up_s _ _ _⟩⟩⟩, RI_c h vG_0 (sm_r m)⟩
      · unfold f_X8_nodes; rw [if_pos h32, if_neg (nle_0 h0), ltE, if_neg (by decide)]
      · unfold f_X7_nodes; rw [if_pos h32, if_neg (nle_0 h0)]
    · obtain ⟨n, n1, rfl⟩ := nn_of h0
      have hn : n ≤ 32 := by
        rcases Nat.lt_or_ge 32 n with h9 | h9
        · exact absurd h32 (nle_l 32 (by omega) n1)
        · exact h9
      have h00 : (0 : Int32) ≤ nI n := le_l (a := 0) n (Nat.zero_le _) n1
      obtain ⟨fe, f1, f2, f3, f4⟩ := hG.2.2.2.2.2.1
      obtain ⟨s', b1, b2⟩ := c_begin hn f1 f2 (fun a h1 h2 => f3 a h1 h2)
      obtain ⟨m1, t1, t2⟩ := m_n63 (k8 := fun ⟨v6, v7⟩ => jn (α := (Nat → Nat → Int32) × Int32) (fun ⟨v14, v15⟩ => some ((upd (upd (upd (upd (upd (upd (upd v 0 0) 1 (nI n)) 2 0) 4 0) 11 0) 22 0) 29 0), v14)) (fun k16 => L_X8_nodes_98  k16 fu v6 0)) 32 0 fu m (by omega) (fu_big (by decide)) (fun k hk => absurd hk (Nat.not_lt_zero k))
      obtain ⟨m2, r1, r2, r3⟩ := m_n98 (k16 := fun ⟨v14, v15⟩ => some ((upd (upd (upd (upd (upd (upd (upd v 0 0) 1 (nI n)) 2 0) 4 0) 11 0) 22 0) 29 0), v14)) 640000 0 fu m1 (by omega) (fu_big (by decide)) (fun k hk => absurd hk (Nat.not_lt_zero k))
      refine ⟨s', upd (upd (upd (upd (upd (upd (upd v 0 0) 1 (nI n)) 2 0) 4 0) 11 0) 22 0) 29 0, m2, ⟨?_, Or.inl ⟨?_, ?_⟩⟩, ?_⟩
      · unfold f_X8_nodes
        rw [if_pos h32, if_pos h00, ltE, if_pos (by decide), jnE]
        refine Eq.trans t1 ?_
        dsimp only
        rw [jnE]
        exact r1
      · unfold f_X7_nodes
        rw [if_pos h32, if_pos h00, b1, bdS]
      · simp [upd]
      · refine RI_begin hn b2 hG.2.2.2.2.2.2.1 hL ?_ ?_ ?_ ?_ ?_ ?_ (fun k hk => by rw [r3 9 (by decide), r3 12 (by decide), r3 13 (by decide)]; exact t2 k hk) r2 <;> simp [upd]
  · refine ⟨s, upd v 0 1, m, ⟨?_, Or.inr ⟨rfl, Or.inl ⟨?_, up_s _ _ _⟩⟩⟩, RI_c h vG_0 (sm_r m)⟩
    · unfold f_X8_nodes; rw [if_neg h32, ltE, if_neg (by decide)]
    · unfold f_X7_nodes; rw [if_neg h32]
/-! every call keeps the relation -/
theorem RI_step (s : CS) (v : Nat → Int32) (m : Nat → Nat → Int32) (h : RI s v m) (c : Nat) (hc : c < 16) (p1 p2 p3 p4 : Int32) : ∃ s' v' m', Step c p1 p2 p3 p4 s v m s' v' m' ∧ RI s' v' m' := by
  rcases (show c = 0 ∨ c = 1 ∨ c = 2 ∨ c = 3 ∨ c = 4 ∨ c = 5 ∨ c = 6 ∨ c = 7 ∨ c = 8 ∨ c = 9 ∨ c = 10 ∨ c = 11 ∨ c = 12 ∨ c = 13 ∨ c = 14 ∨ c = 15 by omega) with rfl | rfl | rfl | rfl | rfl | rfl | rfl | rfl | rfl | rfl | rfl | rfl | rfl | rfl | rfl | rfl
  · exact st_nodes h p1
  · exact st_send h p1 p2 p3 p4
  · exact st_octet h p1 p2 p3
  · exact st_stuffed h p1
  · exact st_filter h p1 p2 p3
  · exact st_flip h p1 p2
  · exact st_run h p1
  · exact st_time h
  · exact st_bit h p1
  · exact st_check h p1 p2 p3
  · exact st_state h p1
  · exact st_waiting h p1
  · exact st_done h p1 p2
  · exact st_taken h p1 p2 p3
  · exact st_takenOctet h p1 p2 p3
  · exact st_error h p1 p2
/-! the start -/
theorem σ0_Lg : gLg σ0 := by
  intro n _
  refine ⟨fun k _ => ⟨0, by decide, rfl⟩, ⟨0, ?_⟩, ⟨0, ?_⟩, ⟨0, ?_⟩⟩
  · funext j
    match j with
    | 0 => show ((1 : Int32) <<< (((15 - 1) : Int32) &&& 31)) = nI (2 ^ (15 - 1)); decide
    | 1 => rfl
    | 2 => rfl
    | 3 => rfl
    | j + 4 => rfl
  · funext j
    match j with
    | 0 => show ((1 : Int32) <<< (((17 - 1) : Int32) &&& 31)) = nI (2 ^ (17 - 1)); decide
    | 1 => rfl
    | 2 => rfl
    | 3 => rfl
    | j + 4 => rfl
  · funext j
    match j with
    | 0 => show ((1 : Int32) <<< (((21 - 1) : Int32) &&& 31)) = nI (2 ^ (21 - 1)); decide
    | 1 => rfl
    | 2 => rfl
    | 3 => rfl
    | j + 4 => rfl
theorem σ0_Wr : gWr σ0 := ⟨(σ0_Lg 0 (by decide)).2.1, (σ0_Lg 0 (by decide)).2.2.1, (σ0_Lg 0 (by decide)).2.2.2⟩
theorem RI_start : ∃ s1, f_X7_begin σ0 2 = some s1 ∧ (∀ i, s1.2.2 i = (none, none)) ∧ RI s1 (σ0.1 18 0) (σ0.1 19) := by
  obtain ⟨s', b1, b2⟩ := c_begin (s := σ0) (n := 2) (fe := 0) (by decide) (by decide) rfl (fun _ _ _ => rfl)
  refine ⟨s', b1, fun i => ?_, RI_begin (by decide) b2 σ0_Wr σ0_Lg rfl rfl rfl rfl rfl rfl (fun _ _ => ⟨rfl, rfl, rfl⟩) (fun _ _ => rfl)⟩
  rcases Nat.lt_or_ge i 2 with h | h
  · exact (b2.2.2.2.2.2.2.2.1 i h).2.2.2.2.2.2
  · rw [b2.2.2.2.2.2.2.2.2.1 i h]; rfl
