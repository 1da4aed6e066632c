theorem kind_fl {P : List Nat} (hP : Bt P) : (aKind P = 2 ∨ aKind P = 3) ↔ aFlex P ≠ 0 := by
  have hlb : aLong P < 2 := Bt_getD _ hP
  unfold aKind
  by_cases h : aFlex P = 0
  · rw [if_pos h]
    constructor
    · intro h2; split at h2 <;> omega
    · intro h2; exact absurd h h2
  · rw [if_neg h]
    exact ⟨fun _ => h, fun _ => by omega⟩
theorem m_width {v : Nat → Int32} {P : List Nat} (hP : Bt P) (h42 : v 42 = nI (aKind P)) (h43 : v 43 = nI (aLen P)) : f_X8_width v = some (nI (if aFlex P = 0 then 15 else if 16 < aOc P then 21 else 17)) := by
  have ho := m_octets (aKind P) (aKind_lt hP) (aLen P) (aLen_lt hP)
  have h64 : aOc P ≤ 64 := octs_le _ _
  have hk6 := aKind_lt hP
  have hkf := kind_fl hP
  have ec : ∀ K : Int32 → Option Int32, (if nI (octs (aKind P) (aLen P)) ≤ 16 then K 17 else K 21) = K (nI (if 16 < aOc P then 21 else 17)) := by
    intro K
    by_cases h : 16 < aOc P
    · rw [if_pos h, if_neg (show ¬ nI (octs (aKind P) (aLen P)) ≤ 16 from nle_l 16 (by show ¬ aOc P ≤ 16; omega) (by show aOc P < _; omega))]; rfl
    · rw [if_neg h, if_pos (show nI (octs (aKind P) (aLen P)) ≤ 16 from le_l 16 (by show aOc P ≤ 16; omega) (by decide))]; rfl
  unfold f_X8_width
  rw [jnE, h42, h43, ho]
  simp only [bdS]
  rw [ec (fun x1 => some x1)]
  by_cases hf : aFlex P = 0
  · have hn : ¬ (aKind P = 2 ∨ aKind P = 3) := fun h => hkf.mp h hf
    rw [if_pos hf, if_neg (show ¬ nI (aKind P) = 2 from ne_l 2 (by omega) (by omega) (by decide)), if_neg (show ¬ nI (aKind P) = 3 from ne_l 3 (by omega) (by omega) (by decide))]
    rfl
  · rw [if_neg hf]
    rcases hkf.mpr hf with h | h
    · rw [if_pos (by rw [h]; rfl)]
    · rw [if_neg (by rw [h]; decide), if_pos (by rw [h]; rfl)]
theorem m_tail {v : Nat → Int32} {P : List Nat} (hP : Bt P) (h42 : v 42 = nI (aKind P)) (h43 : v 43 = nI (aLen P)) : f_X8_tail v = some (nI (aTl P)) := by
  have hw := m_width hP h42 h43
  have hk6 := aKind_lt hP
  have hkf := kind_fl hP
  unfold f_X8_tail
  rw [hw, h42]
  simp only [bdS]
  by_cases hf : aFlex P = 0
  · have hn : ¬ (aKind P = 2 ∨ aKind P = 3) := fun h => hkf.mp h hf
    rw [if_neg (show ¬ nI (aKind P) = 2 from ne_l 2 (by omega) (by omega) (by decide)), if_neg (show ¬ nI (aKind P) = 3 from ne_l 3 (by omega) (by omega) (by decide))]
    unfold aTl
    rw [if_pos hf]
    rfl
  · have e : (4 + nI (if aFlex P = 0 then 15 else if 16 < aOc P then 21 else 17)) + (((4 + nI (if aFlex P = 0 then 15 else if 16 < aOc P then 21 else 17)) + 3) / 4) = nI (aTl P) := by
      unfold aTl
      rw [if_neg hf, if_neg hf]
      by_cases h16 : 16 < aOc P
      · rw [if_pos h16, if_pos h16]; decide
      · rw [if_neg h16, if_neg h16]; decide
    rw [e]
    rcases hkf.mpr hf with h | h
    · rw [if_pos (by rw [h]; rfl)]
    · rw [if_neg (by rw [h]; decide), if_pos (by rw [h]; rfl)]
theorem r36_loop {l : List Nat} {n : Nat} {k45 : (Nat → Int32) × (Nat → Nat → Int32) × Int32 → Option ((Nat → Int32) × (Nat → Nat → Int32) × Int32)} (hB : Bt l) (hl : l.length ≤ 700) (hn : n ≤ l.length) (hn15 : n + 15 = l.length) :
    ∀ d k nn v m, d + k = n → d < nn → v 34 = nI l.length → v 41 = nI k → arr (m 26) l → arr (m 30) (l.take k) → ∃ v' m', sv v v' ∧ sm m m' ∧ v' 41 = nI n ∧ arr (m' 30) (l.take n) ∧ L_X8_right_36 k45 nn v m (nI k) = k45 (v', m', nI n) := by
  intro d
  induction d with
  | zero =>
    intro k nn v m hk hnn h34 h41 h26 h30
    obtain ⟨nn, rfl⟩ : ∃ q, nn = q + 1 := ⟨nn - 1, by omega⟩
    have : k = n := by omega
    subst this
    refine ⟨v, m, sv_r v, sm_r m, h41, h30, ?_⟩
    show (if (v 34) - 15 ≤ nI k then _ else _) = _
    rw [h34, show nI l.length - 15 = nI (l.length - 15) from n_sub (b := 15) (by omega), if_pos (le_l _ (by omega) (by omega))]
  | succ d ih =>
    intro k nn v m hk hnn h34 h41 h26 h30
    obtain ⟨nn, rfl⟩ : ∃ q, nn = q + 1 := ⟨nn - 1, by omega⟩
    have hb : l.getD k 0 < 2 := Bt_getD k hB
    have e2 := m_check (v := v) (m := m) (b := l.getD k 0) h41 (by omega) hb
    obtain ⟨v', m', s1, s2, s3, s4, s5⟩ := ih (k + 1) nn (upd v 41 (nI (k + 1))) (va_up m 30 (upd (m 30) k (nI (l.getD k 0)))) (by omega) (by omega) (by simp [upd, h34]) (by simp [upd]) (by rw [vu_n _ _ (by decide)]; exact h26) (by rw [vu_s, tk_s (by omega)]; exact arr_s h30 (by rw [List.length_take]; omega))
    refine ⟨v', m', sv_t (sv_u (sv_r v) 41 _ (by decide)) s1, sm_t (sm_u (sm_r m) 30 _ (by decide)) s2, s3, s4, ?_⟩
    show (if (v 34) - 15 ≤ nI k then _ else gd _ (bd _ _)) = _
    rw [h34, show nI l.length - 15 = nI (l.length - 15) from n_sub (b := 15) (by omega), if_neg (nle_l _ (by omega) (by omega)), gdT _ (in_nI (by omega) (by decide)), nI_clamp (by omega), h26 k (by omega), e2, bdS, show nI k + 1 = nI (k + 1) from nI_add _ 1]
    exact s5
def rl (R T : List Nat) (j : Nat) : List Nat := R ++ (nfx (T.take j)).take 4
def rt (T : List Nat) (j : Nat) : Nat := vl ((nfx (T.take j)).drop 4)
theorem r87_loop {P R T : List Nat} {i : Nat} {k10 : (Nat → Int32) × (Nat → Nat → Int32) × Int32 × Int32 × Int32 → Option ((Nat → Int32) × (Nat → Nat → Int32) × Int32)} (hP : Bt P) (hR : R.length ≤ 691) (hi : i < 32) (hT : aTl P ≤ T.length) (hTB : Bt T) :
    ∀ d j nn v m, d + j = aTl P → d < nn → v 42 = nI (aKind P) → v 43 = nI (aLen P) → v 45 = nI R.length → v 41 = nI (rl R T j).length → arr (m 30) (rl R T j) → sIs m i (R ++ T) → ∃ v' m', sv v v' ∧ sm m m' ∧ v' 41 = nI (rl R T (aTl P)).length ∧ arr (m' 30) (rl R T (aTl P)) ∧ L_X8_right_87 (nI i) k10 nn v m (nI j) (nI (nfx (T.take j)).length) (nI (rt T j)) = k10 (v', m', nI (aTl P), nI (nfx (T.take (aTl P))).length, nI (rt T (aTl P))) := by
  have htl : aTl P ≤ 32 := by unfold aTl; split <;> (try split) <;> omega
  intro d
  induction d with
  | zero =>
    intro j nn v m hj hnn h42 h43 h45 h41 h30 hs
    obtain ⟨nn, rfl⟩ : ∃ q, nn = q + 1 := ⟨nn - 1, by omega⟩
    have : j = aTl P := by omega
    subst this
    refine ⟨v, m, sv_r v, sm_r m, h41, h30, ?_⟩
    show bd (f_X8_tail v) (fun u12 => if u12 ≤ nI (aTl P) then _ else _) = _
    rw [m_tail hP h42 h43, bdS, if_pos (le_l _ (Nat.le_refl _) (by omega))]
  | succ d ih =>
    intro j nn v m hj hnn h42 h43 h45 h41 h30 hs
    obtain ⟨nn, rfl⟩ : ∃ q, nn = q + 1 := ⟨nn - 1, by omega⟩
    have hjT : j < T.length := by omega
    have hb : T.getD j 0 < 2 := Bt_getD j hTB
    have hlj : (T.take j).length = j := by rw [List.length_take]; omega
    have hnl := nfx_len (T.take j)
    rw [hlj] at hnl
    have hbit : f_X8_bitAt m (nI i) (nI (R.length + j)) = some (nI (T.getD j 0)) := by
      refine m_bitAt hi (by omega) ?_
      rw [hs (R.length + j) (by rw [List.length_append]; omega), List.getD_eq_getElem?_getD, List.getElem?_append_right (by omega), show R.length + j - R.length = j by omega, ← List.getD_eq_getElem?_getD]
    have hq : L_X8_right_87 (nI i) k10 (nn + 1) v m (nI j) (nI (nfx (T.take j)).length) (nI (rt T j)) = bd (f_X8_tail v) (fun u12 => if u12 ≤ nI j then k10 (v, m, nI j, nI (nfx (T.take j)).length, nI (rt T j)) else jn (α := Int32 × Int32 × (Nat → Int32) × (Nat → Nat → Int32)) (fun ⟨x14, x15, x16, x17⟩ => L_X8_right_87 (nI i) k10 nn x16 x17 (nI j + 1) x15 x14) (fun k18 => if (nI j - nI j / 5 * 5) = 0 then k18 (nI (rt T j), nI (nfx (T.take j)).length, v, m) else bd (f_X8_bitAt m (nI i) ((v 45) + nI j)) (fun u20 => jn (α := Int32 × (Nat → Int32) × (Nat → Nat → Int32)) (fun ⟨x22, x23, x24⟩ => k18 (x22, nI (nfx (T.take j)).length + 1, x23, x24)) (fun k25 => if 4 ≤ nI (nfx (T.take j)).length then k25 ((2 * nI (rt T j)) + u20, v, m) else bd (f_X8_check v m u20) (fun ⟨u27, u28⟩ => k25 (nI (rt T j), u27, u28)))))) := rfl
    rw [hq, m_tail hP h42 h43, bdS, if_neg (nle_l _ (by omega) (by omega)), jnE, show nI j - nI j / 5 * 5 = nI (j % 5) from n_mod (b := 5) (by omega) (by decide), show nI j + 1 = nI (j + 1) from nI_add _ 1]
    have etk := tk_s hjT
    by_cases h5 : j % 5 = 0
    · rw [if_pos (by rw [h5]; rfl)]
      have e1 : nfx (T.take (j + 1)) = nfx (T.take j) := by rw [etk, nfx_s, hlj, if_pos h5]
      have e2 : rl R T (j + 1) = rl R T j := by unfold rl; rw [e1]
      have e3 : rt T (j + 1) = rt T j := by unfold rt; rw [e1]
      have := ih (j + 1) nn v m (by omega) (by omega) h42 h43 h45 (by rw [e2]; exact h41) (by rw [e2]; exact h30) hs
      rw [e1, e3] at this
      exact this
    · rw [if_neg (show ¬ nI (j % 5) = 0 from ne_l 0 h5 (by omega) (by decide)), h45, nI_add, hbit, bdS, jnE]
      have e1 : nfx (T.take (j + 1)) = nfx (T.take j) ++ [T.getD j 0] := by rw [etk, nfx_s, hlj, if_neg h5]
      have el : (nfx (T.take (j + 1))).length = (nfx (T.take j)).length + 1 := by rw [e1, len_s]
      by_cases h4 : 4 ≤ (nfx (T.take j)).length
      · rw [if_pos (show 4 ≤ nI (nfx (T.take j)).length from le_l (a := 4) _ h4 (by omega))]
        dsimp only
        have e2 : rl R T (j + 1) = rl R T j := by unfold rl; rw [e1, tk_l h4]
        have e3 : rt T (j + 1) = 2 * rt T j + T.getD j 0 := by unfold rt; rw [e1, dr_l h4, vl_snoc]
        rw [show (2 : Int32) * nI (rt T j) = nI (2 * rt T j) from n_mul 2 _, nI_add, ← e3, show nI (nfx (T.take j)).length + 1 = nI (nfx (T.take (j + 1))).length by rw [el]; exact nI_add _ 1]
        exact ih (j + 1) nn v m (by omega) (by omega) h42 h43 h45 (by rw [e2]; exact h41) (by rw [e2]; exact h30) hs
      · rw [if_neg (show ¬ 4 ≤ nI (nfx (T.take j)).length from nle_l (a := 4) _ h4 (by decide))]
        have hll : (rl R T j).length = R.length + (nfx (T.take j)).length := by unfold rl; rw [List.length_append, List.length_take]; omega
        have ec := m_check (v := v) (m := m) (b := T.getD j 0) h41 (by omega) hb
        rw [ec, bdS]
        dsimp only
        have e2 : rl R T (j + 1) = rl R T j ++ [T.getD j 0] := by unfold rl; rw [e1, tk_a (a := nfx (T.take j) ++ [T.getD j 0]) (by rw [len_s]; omega), tk_a (a := nfx (T.take j)) (n := 4) (by omega), List.append_assoc]
        have e3 : rt T (j + 1) = rt T j := by unfold rt; rw [e1, dr_o (by rw [len_s]; omega), dr_o (by omega)]
        rw [← e3, show nI (nfx (T.take j)).length + 1 = nI (nfx (T.take (j + 1))).length by rw [el]; exact nI_add _ 1]
        obtain ⟨v', m', s1, s2, s3, s4, s5⟩ := ih (j + 1) nn (upd v 41 (nI ((rl R T j).length + 1))) (va_up m 30 (upd (m 30) (rl R T j).length (nI (T.getD j 0)))) (by omega) (by omega) (by simp [upd, h42]) (by simp [upd, h43]) (by simp [upd, h45]) (by rw [e2, len_s]; simp [upd]) (by rw [vu_s, e2]; exact arr_s h30 rfl) (sIs_sm hs (sm_u (sm_r m) 30 _ (by decide)))
        exact ⟨v', m', sv_t (sv_u (sv_r v) 41 _ (by decide)) s1, sm_t (sm_u (sm_r m) 30 _ (by decide)) s2, s3, s4, s5⟩
theorem m_right {v : Nat → Int32} {m : Nat → Nat → Int32} {P R T : List Nat} {i ru sb : Nat} (hP : Bt P) (hR : R.length ≤ 691) (hi : i < 32) (hBL : Bt (R ++ T)) (hT : aTl P ≤ T.length) (hen : aEnd P ru) (hPl : P.length ≤ 553) (hI : BI v m P R sb) (h45 : v 45 = nI R.length) (hs : sIs m i (R ++ T)) : ∃ v' m', sv v v' ∧ sm m m' ∧ f_X8_right v m (nI i) = some (v', m', nI (aRi P R T)) := by
  have hkn := known_of (by omega) hen.1
  obtain ⟨i1, i2, i3, i4, i5, i6⟩ := hI
  obtain ⟨f1, f2, f3⟩ := i6 hkn
  have hw := m_width hP f1 f2
  have ht := m_tail hP f1 f2
  have htl : aTl P ≤ 32 := by unfold aTl; split <;> (try split) <;> omega
  unfold f_X8_right
  rw [hw, bdS, ht, bdS]
  by_cases hf : aFlex P = 0
  · have h0 : aTl P = 0 := if_pos hf
    have hpl : P.length = aBe P + 15 := by
      have := hen.1
      rw [pE, kn_y hkn] at this
      rw [this]
      exact if_pos hf
    rw [if_pos (by rw [h0]; rfl), i1, show nI P.length - 15 = nI (P.length - 15) from n_sub (b := 15) (by omega), show (15 : Int32) = nI 15 from rfl, m_number (n := P.length - 15) (k := 15) i4 hP (by omega) (by omega) (by decide), bdS, jnE]
    obtain ⟨v', m', s1, s2, s3, s4, s5⟩ := r36_loop (l := P) (n := P.length - 15) (k45 := fun ⟨v42, v43, v44⟩ => bd (f_X8_checkOf v42 v43 (nI 15)) (fun u52 => lt (α := Int32) (if nI (vl (sl P (P.length - 15) 15)) = u52 then 1 else 0) (fun x54 => some (v42, v43, x54)))) hP (by omega) (by omega) (by omega) (P.length - 15) 0 fu (upd v 41 0) m (by omega) (fu_big (by omega)) (by simp [upd, i1]) (by simp [upd]; rfl) i4 (by rw [List.take_zero]; exact arr_nil _)
    refine ⟨v', m', sv_t (sv_u (sv_r v) 41 _ (by decide)) s1, s2, ?_⟩
    refine s5.trans ?_
    dsimp only
    have hlt : (P.take (P.length - 15)).length = P.length - 15 := by rw [List.length_take]; omega
    rw [m_sumA (l := P.take (P.length - 15)) (by rw [hlt]; exact s3) s4 (by omega) (Bt_take _ hP), bdS, ltE]
    have e1 : sl P (P.length - 15) 15 = P.drop (aBe P) := by
      unfold sl
      rw [show P.length - 15 = aBe P by omega, tk_a (by rw [List.length_drop]; omega)]
    have e2 : P.take (P.length - 15) = P.take (aBe P) := by rw [show P.length - 15 = aBe P by omega]
    have b1 : vl (P.drop (aBe P)) < 2 ^ 15 := by
      have := vl_lt (Bt_drop (aBe P) hP)
      rw [List.length_drop, show P.length - aBe P = 15 by omega] at this
      exact this
    have b2 := crA_lt (P.take (aBe P))
    rw [e1, e2]
    unfold aRi
    rw [if_pos hf]
    by_cases h : vl (P.drop (aBe P)) = crA (P.take (aBe P))
    · rw [if_pos h, if_pos (by rw [h])]; rfl
    · rw [if_neg h, if_neg (ne_l _ h (by omega) (by omega))]; rfl
  · obtain ⟨hf1, htl2⟩ := aTl_y hP hf
    have h0 : 27 ≤ aTl P := by rw [htl2]; split <;> omega
    rw [if_neg (show ¬ nI (aTl P) = 0 from ne_l 0 (by omega) (by omega) (by decide)), jnE, if_neg hf]
    obtain ⟨v', m', s1, s2, s3, s4, s5⟩ := r87_loop (P := P) (R := R) (T := T) (i := i) (k10 := fun ⟨v5, v6, v7, v8, v9⟩ => bd (f_X8_checkOf v5 v6 (nI (if 16 < aOc P then 21 else 17))) (fun u33 => lt (α := Int32) (if v9 = u33 then 1 else 0) (fun x35 => some (v5, v6, x35)))) hP hR hi hT (Bt_r hBL) (aTl P) 0 fu v m (by omega) (fu_big (by omega)) f1 f2 h45 (by unfold rl; rw [List.take_zero]; show v 41 = nI (R ++ []).length; rw [List.append_nil]; exact i2) (by unfold rl; rw [List.take_zero]; show arr _ (R ++ []); rw [List.append_nil]; exact i5) hs
    refine ⟨v', m', s1, s2, ?_⟩
    have e0 : rt T 0 = 0 := by unfold rt; rw [List.take_zero]; rfl
    have e00 : (nfx (T.take 0)).length = 0 := by rw [List.take_zero]; rfl
    rw [e0, e00] at s5
    simp only [li] at s5 ⊢
    rw [s5]
    have hnl := nfx_len (T.take (aTl P))
    rw [show (T.take (aTl P)).length = aTl P by rw [List.length_take]; omega] at hnl
    have hll : (rl R T (aTl P)).length ≤ 1200 := by unfold rl; rw [List.length_append, List.length_take]; omega
    have hBr : Bt (rl R T (aTl P)) := Bt_app (Bt_l hBL) (Bt_take _ (nfx_Bt (Bt_take _ (Bt_r hBL))))
    have b1 : rt T (aTl P) < 2 ^ 22 := by
      unfold rt
      refine Nat.lt_of_lt_of_le (vl_lt (Bt_drop 4 (nfx_Bt (Bt_take _ (Bt_r hBL))))) (Nat.pow_le_pow_right (by decide) ?_)
      rw [List.length_drop]
      omega
    unfold aRi
    rw [if_neg hf]
    by_cases h16 : 16 < aOc P
    · have b2 := crC_lt (rl R T (aTl P))
      rw [if_pos h16, if_pos h16, m_sumC s3 s4 hll hBr, bdS, ltE]
      by_cases h : rt T (aTl P) = crC (rl R T (aTl P))
      · rw [if_pos (show vl ((nfx (T.take (aTl P))).drop 4) = crC (R ++ (nfx (T.take (aTl P))).take 4) from h), if_pos (by rw [h])]
      · rw [if_neg (show ¬ vl ((nfx (T.take (aTl P))).drop 4) = crC (R ++ (nfx (T.take (aTl P))).take 4) from h), if_neg (ne_l _ h (by omega) (by omega))]
    · have b2 := crB_lt (rl R T (aTl P))
      rw [if_neg h16, if_neg h16, m_sumB s3 s4 hll hBr, bdS, ltE]
      by_cases h : rt T (aTl P) = crB (rl R T (aTl P))
      · rw [if_pos (show vl ((nfx (T.take (aTl P))).drop 4) = crB (R ++ (nfx (T.take (aTl P))).take 4) from h), if_pos (by rw [h])]
      · rw [if_neg (show ¬ vl ((nfx (T.take (aTl P))).drop 4) = crB (R ++ (nfx (T.take (aTl P))).take 4) from h), if_neg (ne_l _ h (by omega) (by omega))]
