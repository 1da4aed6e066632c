/-! check -/
def chF (w p : Nat) (bb : Nat → Nat) : Nat → Nat → Nat → Nat
  | 0, _, x => x
  | d + 1, i, x => chF w p bb d (i + 1) (mv w p x (bb i))
theorem chF_s (w p : Nat) (bb : Nat → Nat) (d i x : Nat) : chF w p bb (d + 1) i x = chF w p bb d (i + 1) (mv w p x (bb i)) := rfl
theorem m_chk {w p t : Nat} {bb : Nat → Nat} {m : Nat → Nat → Int32} (hw : 2 ≤ w) (hw2 : w ≤ 21) (hp : p < 2 ^ w) (ht : t ≤ 20000) (hb : ∀ k, k < t → bb k < 2 ∧ m 0 k = nI (bb k)) {k26 : Int32 × Int32 → Option ((Nat → Int32) × Int32)} :
    ∀ d i nn x to, d + i = to → to ≤ t → d < nn → x < 2 ^ w → L_X8_check__118 (nI to) (nI (2 ^ (w - 1))) m (nI p) k26 nn (nI i) (nI x) = k26 (nI to, nI (chF w p bb d i x)) := by
  intro d
  induction d with
  | zero =>
    intro i nn x to hd hto hnn hx
    obtain ⟨nn, rfl⟩ : ∃ q, nn = q + 1 := ⟨nn - 1, by omega⟩
    have hi : i = to := by omega
    subst hi
    show (if nI i ≤ nI i then k26 (nI i, nI x) else _) = _
    rw [if_pos (le_l _ (Nat.le_refl _) (by omega))]
    rfl
  | succ d ih =>
    intro i nn x to hd hto hnn hx
    obtain ⟨nn, rfl⟩ : ∃ q, nn = q + 1 := ⟨nn - 1, by omega⟩
    obtain ⟨b1, b2⟩ := hb i (by omega)
    have hpw : 2 ^ w ≤ 2 ^ 21 := Nat.pow_le_pow_right (by decide) hw2
    have hp1 : 2 ^ (w - 1) ≤ 2 ^ 20 := Nat.pow_le_pow_right (by decide) (by omega)
    have hpos : 0 < 2 ^ (w - 1) := Nat.two_pow_pos _
    have hne : ¬ nI (2 ^ (w - 1)) = 0 := nI_ne0 hpos (by omega)
    have hr := Nat.mod_lt x hpos
    have ih' := ih (i + 1) nn (mv w p x (bb i)) to (by omega) hto (by omega) (mv_lt (by omega) hp)
    show (if nI to ≤ nI i then _ else gd (¬ nI (2 ^ (w - 1)) = 0) (gd (vp_in (nI i) 20000) (jn (α := Int32) (fun x30 => L_X8_check__118 (nI to) (nI (2 ^ (w - 1))) m (nI p) k26 nn (nI i + 1) x30) (fun k32 => if (nI x / nI (2 ^ (w - 1))) = ((m 0) (nI i).toNatClampNeg) then gd (¬ nI (2 ^ (w - 1)) = 0) (k32 (2 * (nI x - nI x / nI (2 ^ (w - 1)) * nI (2 ^ (w - 1))))) else gd (¬ nI (2 ^ (w - 1)) = 0) (k32 ((2 * (nI x - nI x / nI (2 ^ (w - 1)) * nI (2 ^ (w - 1)))) ^^^ nI p)))))) = _
    rw [if_neg (nle_l _ (by omega) (by omega)), gdT _ hne, gdT _ (in_nI (by omega) (by decide)), jnE, nI_clamp (by omega), b2, n_mod (by omega) (by omega), n_div (by omega) (by omega), show (2 : Int32) * nI (x % 2 ^ (w - 1)) = nI (2 * (x % 2 ^ (w - 1))) from n_mul 2 _, nx_xor, show nI i + 1 = nI (i + 1) from nI_add _ 1, chF_s]
    have hq : x / 2 ^ (w - 1) ≤ x := Nat.div_le_self _ _
    unfold mv at ih' ⊢
    by_cases hc : x / 2 ^ (w - 1) = bb i
    · rw [if_pos hc] at ih' ⊢
      rw [if_pos (by rw [hc]), gdT _ hne]
      exact ih'
    · rw [if_neg hc] at ih' ⊢
      rw [if_neg (ne_l _ hc (by omega) (by omega)), gdT _ hne]
      exact ih'
theorem c_chk7 {t : Nat} {bb : Nat → Nat} (ht : t ≤ 20000) {k : CS × Int32 → Option (Nat ⊕ (CS × Int32))} :
    ∀ d i nn s x to, d + i = to → to ≤ t → d < nn → x < 2 ^ 15 → s.1 7 32 = rA x → (∀ k, k < t → bb k < 2 ∧ s.1 17 0 k = nI (bb k)) → L_X7_check_95_3 (nI to) k nn s (nI i) = k (sZ s 7 32 (rA (chF 15 17817 bb d i x)), nI to) := by
  intro d
  induction d with
  | zero =>
    intro i nn s x to hd hto hnn hx hs hb
    obtain ⟨nn, rfl⟩ : ∃ q, nn = q + 1 := ⟨nn - 1, by omega⟩
    have hi : i = to := by omega
    subst hi
    show (if nI i ≤ nI i then k (s, nI i) else _) = _
    rw [if_pos (le_l _ (Nat.le_refl _) (by omega))]
    show _ = k (sZ s 7 32 (rA x), nI i)
    rw [← hs, sZ_self]
  | succ d ih =>
    intro i nn s x to hd hto hnn hx hs hb
    obtain ⟨nn, rfl⟩ : ∃ q, nn = q + 1 := ⟨nn - 1, by omega⟩
    obtain ⟨b1, b2⟩ := hb i (by omega)
    have ih' := ih (i + 1) nn (sZ s 7 32 (rA (mv 15 17817 x (bb i)))) (mv 15 17817 x (bb i)) to (by omega) hto (by omega) (mv_lt (by decide) (by decide)) sZ_s (fun q hq => by rw [sZ_n (by omega)]; exact hb q hq)
    rw [sZ_same] at ih'
    show (if nI to ≤ nI i then _ else gd (vp_in (nI i) 20000) (bd (f_X3_move (s.1 7 32) (s.1 17 0 (nI i).toNatClampNeg)) (fun u34 => lt (α := CS) (sZ s 7 32 u34) (fun s35 => L_X7_check_95_3 (nI to) k nn s35 (nI i + 1))))) = _
    rw [if_neg (nle_l _ (by omega) (by omega)), gdT _ (in_nI (by omega) (by decide)), nI_clamp (by omega), hs, b2, c_moveA hx b1, bdS, ltE, show nI i + 1 = nI (i + 1) from nI_add _ 1, chF_s]
    exact ih'
theorem c_chk8 {t : Nat} {bb : Nat → Nat} (ht : t ≤ 20000) {k : CS × Int32 → Option (Nat ⊕ (CS × Int32))} :
    ∀ d i nn s x to, d + i = to → to ≤ t → d < nn → x < 2 ^ 17 → s.1 8 32 = rB x → (∀ k, k < t → bb k < 2 ∧ s.1 17 0 k = nI (bb k)) → L_X7_check_95_2 (nI to) k nn s (nI i) = k (sZ s 8 32 (rB (chF 17 92251 bb d i x)), nI to) := by
  intro d
  induction d with
  | zero =>
    intro i nn s x to hd hto hnn hx hs hb
    obtain ⟨nn, rfl⟩ : ∃ q, nn = q + 1 := ⟨nn - 1, by omega⟩
    have hi : i = to := by omega
    subst hi
    show (if nI i ≤ nI i then k (s, nI i) else _) = _
    rw [if_pos (le_l _ (Nat.le_refl _) (by omega))]
    show _ = k (sZ s 8 32 (rB x), nI i)
    rw [← hs, sZ_self]
  | succ d ih =>
    intro i nn s x to hd hto hnn hx hs hb
    obtain ⟨nn, rfl⟩ : ∃ q, nn = q + 1 := ⟨nn - 1, by omega⟩
    obtain ⟨b1, b2⟩ := hb i (by omega)
    have ih' := ih (i + 1) nn (sZ s 8 32 (rB (mv 17 92251 x (bb i)))) (mv 17 92251 x (bb i)) to (by omega) hto (by omega) (mv_lt (by decide) (by decide)) sZ_s (fun q hq => by rw [sZ_n (by omega)]; exact hb q hq)
    rw [sZ_same] at ih'
    show (if nI to ≤ nI i then _ else gd (vp_in (nI i) 20000) (bd (f_X3_move (s.1 8 32) (s.1 17 0 (nI i).toNatClampNeg)) (fun u34 => lt (α := CS) (sZ s 8 32 u34) (fun s35 => L_X7_check_95_2 (nI to) k nn s35 (nI i + 1))))) = _
    rw [if_neg (nle_l _ (by omega) (by omega)), gdT _ (in_nI (by omega) (by decide)), nI_clamp (by omega), hs, b2, c_moveB hx b1, bdS, ltE, show nI i + 1 = nI (i + 1) from nI_add _ 1, chF_s]
    exact ih'
theorem c_chk9 {t : Nat} {bb : Nat → Nat} (ht : t ≤ 20000) {k : CS × Int32 → Option (Nat ⊕ (CS × Int32))} :
    ∀ d i nn s x to, d + i = to → to ≤ t → d < nn → x < 2 ^ 21 → s.1 9 32 = rC x → (∀ k, k < t → bb k < 2 ∧ s.1 17 0 k = nI (bb k)) → L_X7_check_95 (nI to) k nn s (nI i) = k (sZ s 9 32 (rC (chF 21 1058969 bb d i x)), nI to) := by
  intro d
  induction d with
  | zero =>
    intro i nn s x to hd hto hnn hx hs hb
    obtain ⟨nn, rfl⟩ : ∃ q, nn = q + 1 := ⟨nn - 1, by omega⟩
    have hi : i = to := by omega
    subst hi
    show (if nI i ≤ nI i then k (s, nI i) else _) = _
    rw [if_pos (le_l _ (Nat.le_refl _) (by omega))]
    show _ = k (sZ s 9 32 (rC x), nI i)
    rw [← hs, sZ_self]
  | succ d ih =>
    intro i nn s x to hd hto hnn hx hs hb
    obtain ⟨nn, rfl⟩ : ∃ q, nn = q + 1 := ⟨nn - 1, by omega⟩
    obtain ⟨b1, b2⟩ := hb i (by omega)
    have ih' := ih (i + 1) nn (sZ s 9 32 (rC (mv 21 1058969 x (bb i)))) (mv 21 1058969 x (bb i)) to (by omega) hto (by omega) (mv_lt (by decide) (by decide)) sZ_s (fun q hq => by rw [sZ_n (by omega)]; exact hb q hq)
    rw [sZ_same] at ih'
    show (if nI to ≤ nI i then _ else gd (vp_in (nI i) 20000) (bd (f_X3_move (s.1 9 32) (s.1 17 0 (nI i).toNatClampNeg)) (fun u34 => lt (α := CS) (sZ s 9 32 u34) (fun s35 => L_X7_check_95 (nI to) k nn s35 (nI i + 1))))) = _
    rw [if_neg (nle_l _ (by omega) (by omega)), gdT _ (in_nI (by omega) (by decide)), nI_clamp (by omega), hs, b2, c_moveC hx b1, bdS, ltE, show nI i + 1 = nI (i + 1) from nI_add _ 1, chF_s]
    exact ih'
theorem RI_w {s s' : CS} {v v' : Nat → Int32} {m : Nat → Nat → Int32} (h : RI s v m) (hs : ∀ t i, ¬ ((t = 7 ∨ t = 8 ∨ t = 9) ∧ i = 32) → s'.1 t i = s.1 t i) (h2 : s'.2 = s.2) (hw : gWr s') (hv : vG v v') : RI s' v' m := by
  obtain ⟨D, F, N, t, T, E, hG, hL, hN⟩ := h
  obtain ⟨a1, a2, a3, a4, a5, a6, a7, a8⟩ := hG
  have h32 := a1.1
  refine ⟨D, F, N, t, T, E, ⟨?_, ?_, ?_, ?_, ?_, ?_, hw, ?_⟩, ?_, ?_⟩
  · unfold gA; rw [hs 0 0 (by omega), hv 1 (by omega), hv 2 (by omega)]; exact a1
  · unfold gF
    rw [hs 0 0 (by omega), hv 4 (by omega)]
    refine ⟨a2.1, a2.2.1, a2.2.2.1, fun f hf => ?_⟩
    obtain ⟨c1, c2, c3, c4⟩ := a2.2.2.2 f hf
    refine ⟨c1, c2, c3, ?_⟩
    unfold FCo at c4 ⊢
    rw [h2, hs 13 f (by omega), hs 14 f (by omega), hs 15 f (by omega)]
    exact c4
  · unfold gDn; rw [hs 0 0 (by omega), hs 17 2 (by omega), hs 17 3 (by omega), hv 11 (by omega)]; exact a3
  · unfold gEr; rw [hs 0 0 (by omega), hs 17 4 (by omega), hv 29 (by omega)]; exact a4
  · unfold gBu; rw [hs 17 0 (by omega)]; exact a5
  · unfold gFl; rw [hs 0 0 (by omega), hs 17 1 (by omega)]; exact a6
  · unfold gTk; rw [hv 22 (by omega)]; exact a8
  · intro j hj
    rw [hs 5 j (by omega), hs 7 j (by omega), hs 8 j (by omega), hs 9 j (by omega)]
    exact hL j hj
  · intro j hj
    exact gNo_sm (hN j hj) ⟨fun x h1 h3 => hs x j (by omega), by rw [h2], by rw [h2]⟩ (sm_r m)
theorem st_check {s : CS} {v : Nat → Int32} {m : Nat → Nat → Int32} (h : RI s v m) (p1 p2 p3 : Int32) : ∃ s' v' m', Step_check p1 p2 p3 s v m s' v' m' ∧ RI s' v' m' := by
  obtain ⟨D, F, N, t, T, E, hG, hL, hN⟩ := id h
  have ht := hG.1.2.2.2.1
  have e13 := hG.1.2.2.2.2.1
  have e2 := hG.1.2.2.2.2.2
  have bad1 : f_X8_check_ v m p1 p2 p3 = some (upd v 0 1, 0) → f_X7_check s p1 p2 p3 = some (.inl 2) → ∃ s' v' m', Step_check p1 p2 p3 s v m s' v' m' ∧ RI s' v' m' := fun x1 x2 => ⟨s, upd v 0 1, m, ⟨0, x1, rfl, Or.inr ⟨rfl, Or.inl ⟨x2, up_s _ _ _⟩⟩⟩, RI_c h vG_0 (sm_r m)⟩
  have bad2 : f_X8_check_ v m p1 p2 p3 = some (upd v 0 2, 0) → f_X7_check s p1 p2 p3 = some (.inl 1) → ∃ s' v' m', Step_check p1 p2 p3 s v m s' v' m' ∧ RI s' v' m' := fun x1 x2 => ⟨s, upd v 0 2, m, ⟨0, x1, rfl, Or.inr ⟨rfl, Or.inr ⟨x2, up_s _ _ _⟩⟩⟩, RI_c h vG_0 (sm_r m)⟩
  by_cases h1 : p1 < 0
  · exact bad1 (by unfold f_X8_check_; rw [if_pos h1, ltE, if_neg (by decide)]) (by unfold f_X7_check; rw [if_pos h1])
  · by_cases h12 : p1 ≤ 2
    · by_cases h2 : p2 < 0
      · exact bad2 (by unfold f_X8_check_; rw [if_neg h1, if_pos h12, if_pos h2, ltE, if_neg (by decide)]) (by unfold f_X7_check; rw [if_neg h1, if_pos h12, if_pos h2])
      · by_cases h3 : p3 < p2
        · exact bad2 (by unfold f_X8_check_; rw [if_neg h1, if_pos h12, if_neg h2, if_pos h3, ltE, if_neg (by decide)]) (by unfold f_X7_check; rw [if_neg h1, if_pos h12, if_neg h2, if_pos h3])
        · by_cases h4 : p3 ≤ nI t
          · -- all is well
            have h30 : ¬ p3 < 0 := fun e => by
              rw [Int32.lt_iff_toInt_lt] at e h2 h3
              have : (0 : Int32).toInt = 0 := rfl
              omega
            obtain ⟨fr, fr1, rfl⟩ := nn_of h2
            obtain ⟨to, to1, rfl⟩ := nn_of h30
            have hft : fr ≤ to := by
              rcases Nat.lt_or_ge to fr with h9 | h9
              · exact absurd (lt_l _ h9 fr1) h3
              · exact h9
            have htt : to ≤ t := by
              rcases Nat.lt_or_ge t to with h9 | h9
              · exact absurd h4 (nle_l _ (by omega) to1)
              · exact h9
            have hbb : ∀ k, k < t → (fun k => (m 0 k).toNatClampNeg) k < 2 ∧ m 0 k = nI ((fun k => (m 0 k).toNatClampNeg) k) ∧ s.1 17 0 k = nI ((fun k => (m 0 k).toNatClampNeg) k) := by
              intro k hk
              obtain ⟨b, b1, b2, b3⟩ := hG.2.2.2.2.1 k hk
              show (m 0 k).toNatClampNeg < 2 ∧ m 0 k = nI (m 0 k).toNatClampNeg ∧ s.1 17 0 k = nI (m 0 k).toNatClampNeg
              rw [b3, nI_clamp (by omega)]
              exact ⟨b1, rfl, b2⟩
            generalize (fun k => (m 0 k).toNatClampNeg) = bb at hbb
            obtain ⟨⟨xa, ha⟩, ⟨xb, hb⟩, ⟨xc, hc⟩⟩ := hG.2.2.2.2.2.2.1
            have hbeg : f_X4_begin (s.1 7 32) (s.1 8 32) (s.1 9 32) = some (rA 0, rB 65536, rC 1048576) := by
              rw [ha, hb, hc]
              exact c_sumsBegin
            obtain ⟨k, k1, rfl⟩ := nn_of h1
            have hk2 : k ≤ 2 := by
              rcases Nat.lt_or_ge 2 k with h9 | h9
              · exact absurd h12 (nle_l 2 (by omega) k1)
              · exact h9
            have z7 : (qSum s 32 (rA 0) (rB 65536) (rC 1048576)).1 7 32 = rA 0 := qSum_g7
            have z8 : (qSum s 32 (rA 0) (rB 65536) (rC 1048576)).1 8 32 = rB 65536 := qSum_g8
            have z9 : (qSum s 32 (rA 0) (rB 65536) (rC 1048576)).1 9 32 = rC 1048576 := qSum_g9
            have zo : ∀ a j, ¬ ((a = 7 ∨ a = 8 ∨ a = 9) ∧ j = 32) → (qSum s 32 (rA 0) (rB 65536) (rC 1048576)).1 a j = s.1 a j := fun a j hh => by unfold qSum; rw [sZ_n (by omega), sZ_n (by omega), sZ_n (by omega)]
            have zq : (qSum s 32 (rA 0) (rB 65536) (rC 1048576)).2 = s.2 := rfl
            have hbC : ∀ q, q < t → bb q < 2 ∧ (qSum s 32 (rA 0) (rB 65536) (rC 1048576)).1 17 0 q = nI (bb q) := fun q hq => ⟨(hbb q hq).1, by rw [zo 17 0 (by omega)]; exact (hbb q hq).2.2⟩
            have hbM : ∀ q, q < t → bb q < 2 ∧ m 0 q = nI (bb q) := fun q hq => ⟨(hbb q hq).1, (hbb q hq).2.1⟩
            generalize hz : qSum s 32 (rA 0) (rB 65536) (rC 1048576) = z at *
            rcases (show k = 0 ∨ k = 1 ∨ k = 2 by omega) with rfl | rfl | rfl
            · have e := m_chk (w := 15) (p := 17817) (m := m) (by decide) (by decide) (by decide) ht hbM (k26 := fun ⟨v24, v25⟩ => some ((upd v 0 0), v25)) (to - fr) fr fu 0 to (by omega) htt (fu_big (by omega)) (by decide)
              have e' := c_chk7 (bb := bb) ht (k := fun ⟨v29, v30⟩ => some (.inr (v29, v29.1 7 32 3))) (to - fr) fr fu z 0 to (by omega) htt (fu_big (by omega)) (by decide) z7 hbC
              refine ⟨sZ z 7 32 (rA (chF 15 17817 bb (to - fr) fr 0)), upd v 0 0, m, ⟨nI (chF 15 17817 bb (to - fr) fr 0), ?_, rfl, Or.inl ⟨?_, up_s _ _ _⟩⟩, RI_w h (fun a j hh => by rw [sZ_n (by omega)]; exact zo a j hh) zq ⟨⟨_, sZ_s⟩, ⟨_, by rw [sZ_n (by omega)]; exact z8⟩, ⟨_, by rw [sZ_n (by omega)]; exact z9⟩⟩ vG_0⟩
              · unfold f_X8_check_
                rw [if_neg h1, if_pos h12, if_neg h2, if_neg h3, e2, if_pos h4, ltE, if_pos (by decide), if_pos (show nI 0 = 0 from rfl), ltE, if_pos (show nI 0 = 0 from rfl), ltE, ltE, if_pos (show nI 0 = 0 from rfl), ltE, jnE]
                exact e
              · unfold f_X7_check
                rw [if_neg h1, if_pos h12, if_neg h2, if_neg h3, e13, if_pos h4, hbeg, bdS]
                dsimp only
                rw [ltE, hz, if_pos (show nI 0 = 0 from rfl), jnE]
                refine e'.trans ?_
                show some (Sum.inr (sZ z 7 32 (rA (chF 15 17817 bb (to - fr) fr 0)), (sZ z 7 32 (rA (chF 15 17817 bb (to - fr) fr 0))).1 7 32 3)) = _
                rw [sZ_s]
                rfl
            · have e := m_chk (w := 17) (p := 92251) (m := m) (by decide) (by decide) (by decide) ht hbM (k26 := fun ⟨v24, v25⟩ => some ((upd v 0 0), v25)) (to - fr) fr fu 65536 to (by omega) htt (fu_big (by omega)) (by decide)
              have e' := c_chk8 (bb := bb) ht (k := fun ⟨v18, v19⟩ => some (.inr (v18, v18.1 8 32 3))) (to - fr) fr fu z 65536 to (by omega) htt (fu_big (by omega)) (by decide) z8 hbC
              refine ⟨sZ z 8 32 (rB (chF 17 92251 bb (to - fr) fr 65536)), upd v 0 0, m, ⟨nI (chF 17 92251 bb (to - fr) fr 65536), ?_, rfl, Or.inl ⟨?_, up_s _ _ _⟩⟩, RI_w h (fun a j hh => by rw [sZ_n (by omega)]; exact zo a j hh) zq ⟨⟨_, by rw [sZ_n (by omega)]; exact z7⟩, ⟨_, sZ_s⟩, ⟨_, by rw [sZ_n (by omega)]; exact z9⟩⟩ vG_0⟩
              · unfold f_X8_check_
                rw [if_neg h1, if_pos h12, if_neg h2, if_neg h3, e2, if_pos h4, ltE, if_pos (by decide), if_neg (show ¬ nI 1 = 0 by decide), if_pos (show nI 1 = 1 from rfl), ltE, if_neg (show ¬ nI 1 = 0 by decide), if_pos (show nI 1 = 1 from rfl), ltE, ltE, if_neg (show ¬ nI 1 = 0 by decide), ltE, jnE]
                exact e
              · unfold f_X7_check
                rw [if_neg h1, if_pos h12, if_neg h2, if_neg h3, e13, if_pos h4, hbeg, bdS]
                dsimp only
                rw [ltE, hz, if_neg (show ¬ nI 1 = 0 by decide), if_pos (show nI 1 = 1 from rfl), jnE]
                refine e'.trans ?_
                show some (Sum.inr (sZ z 8 32 (rB (chF 17 92251 bb (to - fr) fr 65536)), (sZ z 8 32 (rB (chF 17 92251 bb (to - fr) fr 65536))).1 8 32 3)) = _
                rw [sZ_s]
                rfl
            · have e := m_chk (w := 21) (p := 1058969) (m := m) (by decide) (by decide) (by decide) ht hbM (k26 := fun ⟨v24, v25⟩ => some ((upd v 0 0), v25)) (to - fr) fr fu 1048576 to (by omega) htt (fu_big (by omega)) (by decide)
              have e' := c_chk9 (bb := bb) ht (k := fun ⟨v8, v9⟩ => some (.inr (v8, v8.1 9 32 3))) (to - fr) fr fu z 1048576 to (by omega) htt (fu_big (by omega)) (by decide) z9 hbC
              refine ⟨sZ z 9 32 (rC (chF 21 1058969 bb (to - fr) fr 1048576)), upd v 0 0, m, ⟨nI (chF 21 1058969 bb (to - fr) fr 1048576), ?_, rfl, Or.inl ⟨?_, up_s _ _ _⟩⟩, RI_w h (fun a j hh => by rw [sZ_n (by omega)]; exact zo a j hh) zq ⟨⟨_, by rw [sZ_n (by omega)]; exact z7⟩, ⟨_, by rw [sZ_n (by omega)]; exact z8⟩, ⟨_, sZ_s⟩⟩ vG_0⟩
              · unfold f_X8_check_
                rw [if_neg h1, if_pos h12, if_neg h2, if_neg h3, e2, if_pos h4, ltE, if_pos (by decide), if_neg (show ¬ nI 2 = 0 by decide), if_neg (show ¬ nI 2 = 1 by decide), ltE, if_neg (show ¬ nI 2 = 0 by decide), if_neg (show ¬ nI 2 = 1 by decide), ltE, ltE, if_neg (show ¬ nI 2 = 0 by decide), ltE, jnE]
                exact e
              · unfold f_X7_check
                rw [if_neg h1, if_pos h12, if_neg h2, if_neg h3, e13, if_pos h4, hbeg, bdS]
                dsimp only
                rw [ltE, hz, if_neg (show ¬ nI 2 = 0 by decide), if_neg (show ¬ nI 2 = 1 by decide), jnE]
                refine e'.trans ?_
                show some (Sum.inr (sZ z 9 32 (rC (chF 21 1058969 bb (to - fr) fr 1048576)), (sZ z 9 32 (rC (chF 21 1058969 bb (to - fr) fr 1048576))).1 9 32 3)) = _
                rw [sZ_s]
                rfl
          · exact bad2 (by unfold f_X8_check_; rw [if_neg h1, if_pos h12, if_neg h2, if_neg h3, e2, if_neg h4, ltE, if_neg (by decide)]) (by unfold f_X7_check; rw [if_neg h1, if_pos h12, if_neg h2, if_neg h3, e13, if_neg h4])
    · exact bad1 (by unfold f_X8_check_; rw [if_neg h1, if_neg h12, ltE, if_neg (by decide)]) (by unfold f_X7_check; rw [if_neg h1, if_neg h12])
