/-! octet -/
theorem send_q {s : CS} {m : Nat → Nat → Int32} {D : FD} {F n t T E f : Nat} (hF : F ≤ 200) (hf : f < 200) (h : gNo 0 s m D F n t T E) : (f_X2_isSending f (s.2.2 n).2 (s.1 3 n) = some 1 ∧ m 9 n = 1 ∧ m 11 n = nI f) ∨ (f_X2_isSending f (s.2.2 n).2 (s.1 3 n) = some 0 ∧ (¬ m 9 n = 1 ∨ (m 9 n = 1 ∧ ¬ m 11 n = nI f)) ∧ (s.1 3 n 2 = nI 1 → (s.2.2 n).2 ≠ some f)) := by
  obtain ⟨oh, g1, g2, g3, g4, g5⟩ := h
  have hst := NSt0_st g5
  unfold f_X2_isSending
  rw [jnE]
  by_cases h1 : s.1 3 n 2 = nI 1
  · rw [if_pos (show s.1 3 n 2 = 1 by rw [h1]; rfl)]
    have h91 : m 9 n = 1 := by rw [← hst, h1]; rfl
    rcases g5.2 with ⟨_, q⟩ | ⟨q, _⟩ | hse | hli | hfl | hwa | hcl | hpa
    · rw [q.1] at h1; exact absurd h1 (by decide)
    · cases q
    · obtain ⟨y, i, s1, s2, s3, s4, s5, s6, s7, _⟩ := hse
      rw [s1, gdT _ (show okr (some y) from fun k hk => by cases hk; omega)]
      by_cases hyf : y = f
      · subst hyf
        rw [if_pos rfl]
        exact Or.inl ⟨rfl, h91, s5⟩
      · rw [if_neg (fun e => hyf (Option.some.inj e))]
        exact Or.inr ⟨rfl, Or.inr ⟨h91, by rw [s5]; exact ne_l _ hyf (by omega) (by omega)⟩, fun _ e => hyf (Option.some.inj e)⟩
    · obtain ⟨L, l1, _⟩ := hli; rw [l1] at h1; exact absurd h1 (by decide)
    · obtain ⟨q, l1, _⟩ := hfl; rw [l1] at h1; exact absurd h1 (by decide)
    · rw [hwa.1] at h1; exact absurd h1 (by decide)
    · obtain ⟨q, l1, _⟩ := hcl; rw [l1] at h1; exact absurd h1 (by decide)
    · obtain ⟨q, l1, _⟩ := hpa; rw [l1] at h1; exact absurd h1 (by decide)
  · rw [if_neg (show ¬ s.1 3 n 2 = 1 from h1)]
    exact Or.inr ⟨rfl, Or.inl (by rw [← hst]; exact h1), fun e => absurd e h1⟩
set_option maxHeartbeats 2000000 in
theorem st_octet {s : CS} {v : Nat → Int32} {m : Nat → Nat → Int32} (h : RI s v m) (p1 p2 p3 : Int32) : ∃ s' v' m', Step_octet p1 p2 p3 s v m s' v' m' ∧ RI s' v' m' := by
  obtain ⟨D, F, N, t, T, E, hG, hL, hN⟩ := id h
  have h32 := hG.1.1
  have hFF := hG.2.1
  have hF := hFF.1
  have er : ∀ e : Int32, (e = 1 ∧ f_X7_octet s p1 p2 p3 = some (.inl 1)) ∨ (e = 2 ∧ f_X7_octet s p1 p2 p3 = some (.inl 2)) ∨ (e = 3 ∧ f_X7_octet s p1 p2 p3 = some (.inl 3)) → f_X8_octet v m p1 p2 p3 = some (upd v 0 e, m) → ∃ s' v' m', Step_octet p1 p2 p3 s v m s' v' m' ∧ RI s' v' m' := by
    intro e he hm
    refine ⟨s, upd v 0 e, m, ⟨hm, Or.inr ⟨rfl, ?_⟩⟩, RI_c h vG_0 (sm_r m)⟩
    rcases he with ⟨rfl, hc⟩ | ⟨rfl, hc⟩ | ⟨rfl, hc⟩
    · exact Or.inl ⟨hc, up_s _ _ _⟩
    · exact Or.inr (Or.inl ⟨hc, up_s _ _ _⟩)
    · exact Or.inr (Or.inr ⟨hc, up_s _ _ _⟩)
  rcases frame_c hFF p1 with ⟨f, f1, rfl, f2, f3⟩ | ⟨f2, f3⟩
  · have hf2 : f < 200 := by omega
    have hfi : vp_in (nI f) 200 := in_nI hf2 (by decide)
    obtain ⟨c1, c2, c3, c4⟩ := hFF.2.2.2 f f1
    obtain ⟨⟨v1, v2, v3, v4⟩, v5, v6⟩ := id c1
    obtain ⟨⟨u1, u2, u3, u4⟩, u5, u6⟩ := id c3
    obtain ⟨w1, w2, w3, w4, w5, w6, w7, w8⟩ := id c4
    have hoc := octs_le (fKi D f) (fCo D f)
    have hcl : ∀ X, (bx (f_X7_needFrame s (nI f)) (fun _ => gd (vp_in (nI f) 200) X) : Option (Nat ⊕ CS)) = X := fun X => by rw [f2, bxR, gdT _ hfi]
    have hcq : f_X7_octet s (nI f) p2 p3 = if p2 < 0 then some (.inl 1) else if p2 < nI (octs (fKi D f) (fCo D f)) then if p3 < 0 then some (.inl 2) else if p3 ≤ 255 then (if nI (fDn D f) = 0 then bd (f_X2_isSending f (s.2.2 (fOw D f)).2 (s.1 3 (fOw D f))) (fun u5 => if u5 = 0 then gd (vp_in p2 64) (lt (α := CS) (sZ s 14 f (upd (s.1 14 f) p2.toNatClampNeg p3)) (fun s8 => bd (f_X6_write (s8.1 16 0) (s8.1 7 32) (s8.1 8 32) (s8.1 9 32) (s8.2.1 13 f) (s8.1 13 f) (s8.1 14 f) (s8.1 15 f)) (fun ⟨u9, u10, u11, u12, u13, u14⟩ => lt (α := CS) (qWF s8 f u9 u10 u11 u12 (s8.2.1 13 f) u13 (s8.1 14 f) u14) (fun s15 => bd (f_X7_firstOf s15 (s15.1 13 f 4)) (fun u17 => lt (α := CS) (sR s15 (fOw D f) (u17, (s15.2.2 (fOw D f)).2)) (fun s19 => some (.inr (s19)))))))) else some (.inl 3)) else some (.inl 3)) else some (.inl 2) else some (.inl 1) := by
      unfold f_X7_octet
      rw [f2, bxR, gdT _ hfi, nI_clamp (by omega), w4, w2, gdT _ (in_nI v5 (by decide)), w5, nI_clamp (by omega)]
    have hmq : ∀ e : Int32, (∀ {β : Type} (g : Int32 → Option β), (if (0 : Int32) = 0 then if 0 ≤ p2 then gd (vp_in (nI f) 200) (gd (vp_in (nI f) 200) (bd (f_X8_octetsOf ((m 3) f) ((m 4) f)) (fun u14 => if p2 < u14 then if p3 < 0 then g 2 else if p3 ≤ 255 then gd (vp_in (nI f) 200) (if ((m 6) f) = 0 then gd (vp_in (nI f) 200) (gd (vp_in ((m 1) f) 32) (if ((m 9) (((m 1) f).toNatClampNeg)) = 1 then gd (vp_in (nI f) 200) (gd (vp_in ((m 1) f) 32) (if ((m 11) (((m 1) f).toNatClampNeg)) = nI f then g 3 else g 0)) else g 0)) else g 3) else g 2 else g 1))) else g 1 else g 1) = g e) → f_X8_octet v m (nI f) p2 p3 = (if e = 0 then gd (vp_in ((64 * nI f) + p2) 12800) (some (upd v 0 e, va_up m 5 (upd (m 5) (((64 * nI f) + p2).toNatClampNeg) p3))) else some (upd v 0 e, m)) := by
      intro e he
      unfold f_X8_octet
      rw [f3, bdS, jnE, nI_clamp (by omega)]
      rw [he (fun x3 => jn (α := Nat → Nat → Int32) (fun x7 => some ((upd v 0 x3), x7)) (fun k8 => if x3 = 0 then gd (vp_in ((64 * nI f) + p2) 12800) (k8 (va_up m 5 (upd (m 5) (((64 * nI f) + p2).toNatClampNeg) p3))) else k8 m))]
      rfl
    by_cases h2 : p2 < 0
    · refine er 1 (Or.inl ⟨rfl, by rw [hcq, if_pos h2]⟩) ?_
      rw [hmq 1 (fun g => by rw [if_pos rfl, if_neg (nle_0 h2)]), if_neg (by decide)]
    · obtain ⟨i, i1, rfl⟩ := nn_of h2
      have h20 : (0 : Int32) ≤ nI i := le_l (a := 0) i (Nat.zero_le _) i1
      by_cases hi : i < octs (fKi D f) (fCo D f)
      · have hilt : nI i < nI (octs (fKi D f) (fCo D f)) := lt_l _ hi (by omega)
        by_cases h3 : p3 < 0
        · refine er 2 (Or.inr (Or.inl ⟨rfl, by rw [hcq, if_neg h2, if_pos hilt, if_pos h3]⟩)) ?_
          rw [hmq 2 (fun g => by rw [if_pos rfl, if_pos h20, gdT _ hfi, gdT _ hfi, u2, u3, m_octets _ v1 _ v2, bdS, if_pos hilt, if_pos h3]), if_neg (by decide)]
        · obtain ⟨b, b1, rfl⟩ := nn_of h3
          by_cases hb : b ≤ 255
          · have hb255 : nI b ≤ 255 := le_l 255 hb (by decide)
            have howi : vp_in (nI (fOw D f)) 32 := in_nI v5 (by decide)
            by_cases hd : fDn D f = 0
            · have hd0 : nI (fDn D f) = 0 := by rw [hd]; rfl
              rcases send_q hF hf2 (hN (fOw D f) c2) with ⟨q1, q2, q3⟩ | ⟨q1, q2, q3⟩
              · refine er 3 (Or.inr (Or.inr ⟨rfl, by rw [hcq, if_neg h2, if_pos hilt, if_neg h3, if_pos hb255, if_pos hd0, q1, bdS, if_neg (by decide)]⟩)) ?_
                rw [hmq 3 (fun g => by rw [if_pos rfl, if_pos h20, gdT _ hfi, gdT _ hfi, u2, u3, m_octets _ v1 _ v2, bdS, if_pos hilt, if_neg h3, if_pos hb255, gdT _ hfi, u6, if_pos hd0, gdT _ hfi, u5, gdT _ howi, nI_clamp (by omega), if_pos q2, gdT _ hfi, gdT _ howi, if_pos q3]), if_neg (by decide)]
              · -- it is written
                have hmod : f_X8_octet v m (nI f) (nI i) (nI b) = some (upd v 0 0, va_up m 5 (upd (m 5) (64 * f + i) (nI b))) := by
                  rw [hmq 0 (fun g => by
                    rw [if_pos rfl, if_pos h20, gdT _ hfi, gdT _ hfi, u2, u3, m_octets _ v1 _ v2, bdS, if_pos hilt, if_neg h3, if_pos hb255, gdT _ hfi, u6, if_pos hd0, gdT _ hfi, u5, gdT _ howi, nI_clamp (by omega)]
                    rcases q2 with q2 | ⟨q2, q4⟩
                    · rw [if_neg q2]
                    · rw [if_pos q2, gdT _ hfi, gdT _ howi, if_neg q4]), if_pos rfl, e64, gdT _ (in_nI (by omega) (by decide)), nI_clamp (by omega)]
                generalize hO : va_up (fOc D f) i b = O
                have hOb : ∀ q, q < 64 → O q < 256 := fun q hq => by
                  rw [← hO]
                  by_cases hqi : q = i
                  · rw [hqi, vu_s]; omega
                  · rw [vu_n _ _ hqi]; exact v4 q hq
                have hOs : ∀ q, q < 64 → upd (s.1 14 f) i (nI b) q = nI (O q) := fun q hq => by
                  rw [← hO]
                  by_cases hqi : q = i
                  · rw [hqi, up_s, vu_s]
                  · rw [up_n _ _ hqi, vu_n _ _ hqi]; exact w7 q hq
                obtain ⟨w', a', b', c', ff', fb', x1, x2, x3, x4⟩ := c_write (w := s.1 16 0) (a := s.1 7 32) (b := s.1 8 32) (c := s.1 9 32) (ff := s.1 13 f) (fo := upd (s.1 14 f) i (nI b)) (fb := s.1 15 f) (k := fKi D f) (id := fId D f) (c0 := fCo D f) (o := O) v1 hG.2.2.2.2.2.2.1 w3 w4 (fun q hq => ⟨hOb q hq, hOs q hq⟩)
                have hDn : ∀ g, g ≠ f → va_up D f (fOw D f, fKi D f, fId D f, fCo D f, 0, O) g = D g := fun g hg => vu_n _ _ hg
                have hDF : va_up D f (fOw D f, fKi D f, fId D f, fCo D f, 0, O) f = (fOw D f, fKi D f, fId D f, fCo D f, 0, O) := vu_s _ _ _
                generalize hDD : va_up D f (fOw D f, fKi D f, fId D f, fCo D f, 0, O) = D' at hDn hDF
                have d1 : fOw D' f = fOw D f := by unfold fOw; rw [hDF]; rfl
                have d2 : fKi D' f = fKi D f := by unfold fKi; rw [hDF]; rfl
                have d3 : fId D' f = fId D f := by unfold fId; rw [hDF]; rfl
                have d4 : fCo D' f = fCo D f := by unfold fCo; rw [hDF]; rfl
                have d5 : fDn D' f = 0 := by unfold fDn; rw [hDF]
                have d6 : fOc D' f = O := by unfold fOc; rw [hDF]
                have hV' : FVo D' f := by
                  unfold FVo
                  rw [d1, d2, d3, d4, d5, d6]
                  exact ⟨⟨v1, v2, v3, hOb⟩, v5, by decide⟩
                have z1 : ∀ a j, ¬ (a = 14 ∧ j = f) → (sZ s 14 f (upd (s.1 14 f) i (nI b))).1 a j = s.1 a j := fun a j hh => sZ_n (by omega)
                have z14 : (sZ s 14 f (upd (s.1 14 f) i (nI b))).1 14 f = upd (s.1 14 f) i (nI b) := sZ_s
                have z2 : (sZ s 14 f (upd (s.1 14 f) i (nI b))).2 = s.2 := rfl
                generalize hs8 : sZ s 14 f (upd (s.1 14 f) i (nI b)) = s8 at z1 z14 z2
                have y1 : ∀ a j, ¬ (a = 16 ∧ j = 0) → ¬ ((a = 7 ∨ a = 8 ∨ a = 9) ∧ j = 32) → ¬ ((a = 13 ∨ a = 14 ∨ a = 15) ∧ j = f) → (qWF s8 f w' a' b' c' (s.2.1 13 f) ff' (upd (s.1 14 f) i (nI b)) fb').1 a j = s.1 a j := fun a j h2 h3 h4 => by rw [qW_1 ⟨h2, h3, h4⟩, z1 a j (by omega)]
                have y13 : (qWF s8 f w' a' b' c' (s.2.1 13 f) ff' (upd (s.1 14 f) i (nI b)) fb').1 13 f = ff' := qWF_g13
                have y14 : (qWF s8 f w' a' b' c' (s.2.1 13 f) ff' (upd (s.1 14 f) i (nI b)) fb').1 14 f = upd (s.1 14 f) i (nI b) := qWF_g14
                have y15 : (qWF s8 f w' a' b' c' (s.2.1 13 f) ff' (upd (s.1 14 f) i (nI b)) fb').1 15 f = fb' := qWF_g15
                have y7 : (qWF s8 f w' a' b' c' (s.2.1 13 f) ff' (upd (s.1 14 f) i (nI b)) fb').1 7 32 = a' := qWF_g7
                have y8 : (qWF s8 f w' a' b' c' (s.2.1 13 f) ff' (upd (s.1 14 f) i (nI b)) fb').1 8 32 = b' := qWF_g8
                have y9 : (qWF s8 f w' a' b' c' (s.2.1 13 f) ff' (upd (s.1 14 f) i (nI b)) fb').1 9 32 = c' := qWF_g9
                have yh : (qWF s8 f w' a' b' c' (s.2.1 13 f) ff' (upd (s.1 14 f) i (nI b)) fb').2.1 13 f = s.2.1 13 f := qWF_h
                have yh2 : ∀ a j, (a ≠ 13 ∨ j ≠ f) → (qWF s8 f w' a' b' c' (s.2.1 13 f) ff' (upd (s.1 14 f) i (nI b)) fb').2.1 a j = s.2.1 a j := fun a j hh => by rw [qW_2 hh, z2]
                have y22 : (qWF s8 f w' a' b' c' (s.2.1 13 f) ff' (upd (s.1 14 f) i (nI b)) fb').2.2 = s.2.2 := by rw [qW_3, z2]
                generalize hs15 : qWF s8 f w' a' b' c' (s.2.1 13 f) ff' (upd (s.1 14 f) i (nI b)) fb' = s15 at y1 y13 y14 y15 y7 y8 y9 yh yh2 y22
                have hFCnew : FCo s15 D' f := by
                  unfold FCo FCv
                  rw [d1, d2, d3, d4, d5, d6, yh, y13, y14, y15, x4 3 (by decide), x4 4 (by decide), x4 5 (by decide), x4 7 (by decide), x4 8 (by decide)]
                  exact ⟨w1, w2, w3, w4, by rw [w5, hd], w6, hOs, x3⟩
                have hCall : ∀ g, g < F → FCo s15 D' g := by
                  intro g hg
                  by_cases hgf : g = f
                  · rw [hgf]; exact hFCnew
                  · refine FCo_f (hDn g hgf) ?_
                    have := (hFF.2.2.2 g hg).2.2.2
                    unfold FCo at this ⊢
                    rw [yh2 13 g (by omega), y1 13 g (by omega) (by omega) (by omega), y1 14 g (by omega) (by omega) (by omega), y1 15 g (by omega) (by omega) (by omega)]
                    exact this
                have hfirst : f_X7_firstOf s15 (nI (fOw D f)) = some (fs D' (fOw D f) F) := c_first v5 hF (by rw [y1 0 0 (by omega) (by omega) (by omega)]; exact hFF.2.1) (fun g hg => by
                  by_cases hgf : g = f
                  · rw [hgf]; exact hV'
                  · exact FVo_f (hDn g hgf) (hFF.2.2.2 g hg).1) hCall
                have hcls : f_X7_octet s (nI f) (nI i) (nI b) = some (.inr (sR s15 (fOw D f) (fs D' (fOw D f) F, (s.2.2 (fOw D f)).2))) := by
                  rw [hcq, if_neg h2, if_pos hilt, if_neg h3, if_pos hb255, if_pos hd0, q1, bdS, if_pos rfl, gdT _ (in_nI (by omega) (by decide)), nI_clamp (by omega), hs8, ltE, z1 16 0 (by omega), z1 7 32 (by omega), z1 8 32 (by omega), z1 9 32 (by omega), z1 13 f (by omega), z14, z1 15 f (by omega), z2, w6, x1, bdS]
                  dsimp only
                  rw [← w6, ltE, hs15, y13, x4 4 (by decide), w2, hfirst, bdS, ltE, y22]
                have hwt : wt D' (fOw D f) F = wt D (fOw D f) F := wt_eq F (fun q hq => by
                  by_cases hqf : q = f
                  · rw [hqf, d1, d5, hd]
                  · obtain ⟨e1, _, _, _, e5, _⟩ := D_f (hDn q hqf)
                    rw [e1, e5])
                obtain ⟨oh, g1, g2, g3, g4, g5⟩ := hN (fOw D f) c2
                refine ⟨sR s15 (fOw D f) (fs D' (fOw D f) F, (s.2.2 (fOw D f)).2), upd v 0 0, va_up m 5 (upd (m 5) (64 * f + i) (nI b)), ⟨hmod, Or.inl ⟨hcls, up_s _ _ _⟩⟩, ?_⟩
                have mo : ∀ j, j ≠ 5 → (va_up m 5 (upd (m 5) (64 * f + i) (nI b))) j = m j := fun j hj => vu_n _ _ hj
                refine RI_frame (D := D) (D' := D') (F := F) (F' := F) (g := f) (n := fOw D f) hG hL hN ?_ ?_ ?_ ?_ ?_ ?_ ?_ ?_ ?_ ?_ ?_ ?_ ?_ ?_ ?_ ?_ ?_ hDn hV' d1 d5 c2 hF (Or.inl ⟨rfl, f1, rfl, hd⟩) q3
                · intro q hq
                  show s15.1 0 0 q = _
                  rw [y1 0 0 (by omega) (by omega) (by omega)]
                · show s15.1 0 0 9 = _
                  rw [y1 0 0 (by omega) (by omega) (by omega)]; exact hFF.2.1
                · funext j
                  show s15.1 17 j = _
                  rw [y1 17 j (by omega) (by omega) (by omega)]
                · show (∃ x, s15.1 7 32 = rA x) ∧ (∃ x, s15.1 8 32 = rB x) ∧ ∃ x, s15.1 9 32 = rC x
                  rw [y7, y8, y9]
                  exact x2
                · intro g hg
                  show s15.1 13 g = _ ∧ s15.1 14 g = _ ∧ s15.1 15 g = _ ∧ s15.2.1 13 g = _
                  rw [yh2 13 g (by omega), y1 13 g (by omega) (by omega) (by omega), y1 14 g (by omega) (by omega) (by omega), y1 15 g (by omega) (by omega) (by omega)]
                  exact ⟨rfl, rfl, rfl, rfl⟩
                · exact hFCnew
                · intro j hj hjn
                  refine ⟨fun a h1 h2 => ?_, ?_, ?_⟩
                  · show s15.1 a j = _
                    rw [y1 a j (by omega) (by omega) (by omega)]
                  · show s15.2.1 4 j = _
                    rw [yh2 4 j (by omega)]
                  · rw [sR_n hjn, y22]
                · intro a h1 h2 h3
                  show s15.1 a (fOw D f) = _
                  rw [y1 a (fOw D f) (by omega) (by omega) (by omega)]
                · show s15.2.1 4 (fOw D f) = _
                  rw [yh2 4 (fOw D f) (by omega)]
                · intro q hq
                  show s15.1 3 (fOw D f) q = _
                  rw [y1 3 (fOw D f) (by omega) (by omega) (by omega)]
                · show s15.1 3 (fOw D f) 6 = _
                  rw [y1 3 (fOw D f) (by omega) (by omega) (by omega), hwt]; exact g5.1.2.2.1
                · exact sR_s
                · intro q hq
                  rw [up_n _ _ (by omega)]
                · rw [up_n _ _ (by omega)]; exact hFF.2.2.1
                · intro q hq
                  exact mo q (by omega)
                · intro g hg hgf
                  obtain ⟨⟨r1, r2, r3, r4⟩, r5, r6⟩ := (hFF.2.2.2 g hg).2.2.1
                  exact ⟨⟨by rw [mo 2 (by decide)]; exact r1, by rw [mo 3 (by decide)]; exact r2, by rw [mo 4 (by decide)]; exact r3, fun q hq => by rw [vu_s, up_n _ _ (by omega)]; exact r4 q hq⟩, by rw [mo 1 (by decide)]; exact r5, by rw [mo 6 (by decide)]; exact r6⟩
                · unfold FMo
                  rw [d1, d2, d3, d4, d5, d6]
                  refine ⟨⟨by rw [mo 2 (by decide)]; exact u1, by rw [mo 3 (by decide)]; exact u2, by rw [mo 4 (by decide)]; exact u3, fun q hq => ?_⟩, by rw [mo 1 (by decide)]; exact u5, by rw [mo 6 (by decide), u6, hd]⟩
                  rw [vu_s, ← hO]
                  by_cases hqi : q = i
                  · rw [hqi, up_s, vu_s]
                  · rw [up_n _ _ (by omega), vu_n _ _ hqi]; exact u4 q hq
            · have hd0 : ¬ nI (fDn D f) = 0 := ne_l 0 hd (by omega) (by decide)
              refine er 3 (Or.inr (Or.inr ⟨rfl, by rw [hcq, if_neg h2, if_pos hilt, if_neg h3, if_pos hb255, if_neg hd0]⟩)) ?_
              rw [hmq 3 (fun g => by rw [if_pos rfl, if_pos h20, gdT _ hfi, gdT _ hfi, u2, u3, m_octets _ v1 _ v2, bdS, if_pos hilt, if_neg h3, if_pos hb255, gdT _ hfi, u6, if_neg hd0]), if_neg (by decide)]
          · have hb255 : ¬ nI b ≤ 255 := nle_l 255 hb b1
            refine er 2 (Or.inr (Or.inl ⟨rfl, by rw [hcq, if_neg h2, if_pos hilt, if_neg h3, if_neg hb255]⟩)) ?_
            rw [hmq 2 (fun g => by rw [if_pos rfl, if_pos h20, gdT _ hfi, gdT _ hfi, u2, u3, m_octets _ v1 _ v2, bdS, if_pos hilt, if_neg h3, if_neg hb255]), if_neg (by decide)]
      · have hilt : ¬ nI i < nI (octs (fKi D f) (fCo D f)) := nlt_l _ hi i1
        refine er 1 (Or.inl ⟨rfl, by rw [hcq, if_neg h2, if_neg hilt]⟩) ?_
        rw [hmq 1 (fun g => by rw [if_pos rfl, if_pos h20, gdT _ hfi, gdT _ hfi, u2, u3, m_octets _ v1 _ v2, bdS, if_neg hilt]), if_neg (by decide)]
  · refine er 1 (Or.inl ⟨rfl, by unfold f_X7_octet; rw [f2, bxL]⟩) ?_
    unfold f_X8_octet
    rw [f3, bdS, jnE, if_neg (by decide)]
    dsimp only
    rw [jnE, if_neg (by decide)]
