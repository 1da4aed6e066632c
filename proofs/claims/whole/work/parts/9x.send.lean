def lim (k : Nat) : Nat := if isL k = 1 then 2 ^ 29 else 2 ^ 11
theorem lim_le (k : Nat) : lim k ≤ 2 ^ 29 := by unfold lim; split <;> decide
theorem lim_c {k : Nat} (hk : k < 6) : (if nI (isL k) = 0 then (2048 : Int32) else 536870912) = nI (lim k) := by
  have := isL_lt k
  unfold lim
  rcases (show isL k = 0 ∨ isL k = 1 by omega) with h | h <;> rw [h] <;> rfl
theorem lim_m {k : Nat} (hk : k < 6) : (if nI k - nI k / 2 * 2 = 1 then (536870912 : Int32) else 2048) = nI (lim k) := by
  have := isL_lt k
  rw [m_long k hk]
  unfold lim
  rcases (show isL k = 0 ∨ isL k = 1 by omega) with h | h <;> rw [h] <;> rfl
def gdS (p2 p3 p4 : Int32) : Prop := ∃ k id c, k < 6 ∧ c < 16 ∧ id < lim k ∧ p3 = nI k ∧ p2 = nI id ∧ p4 = nI c
theorem nle_0 {p : Int32} (h : p < 0) : ¬ (0 : Int32) ≤ p := fun e => by
  rw [Int32.lt_iff_toInt_lt] at h
  rw [Int32.le_iff_toInt_le] at e
  omega
theorem snd_good {p2 p3 p4 : Int32} (h : gdS p2 p3 p4) : (∀ {β : Type} (g : Int32 → Option β), jn g (fun k8 => if p3 < 0 then k8 0 else if 5 < p3 then k8 0 else if p4 < 0 then k8 0 else if 15 < p4 then k8 0 else if p2 < 0 then k8 0 else lt (α := Int32) (if (p3 - p3 / 2 * 2) = 1 then 536870912 else 2048) (fun x31 => if x31 ≤ p2 then k8 0 else k8 1)) = g 1) ∧ ∀ X : Option (Nat ⊕ (CS × Int32)), (if p3 < 0 then some (.inl 2) else if p3 ≤ 5 then if p2 < 0 then some (.inl 2) else bd (f_X7_isLong p3) (fun u3 => lt (α := Int32) (if u3 = 0 then 2048 else 536870912) (fun x5 => if p2 < x5 then if p4 < 0 then some (.inl 2) else if p4 ≤ 15 then X else some (.inl 2) else some (.inl 2))) else some (.inl 2)) = X := by
  obtain ⟨k, id, c, h1, h2, h3, rfl, rfl, rfl⟩ := h
  have hl := lim_le k
  refine ⟨fun g => ?_, fun X => ?_⟩
  · rw [jnE, if_neg (lt0 k (by omega)), if_neg (show ¬ 5 < nI k from nlt_l (a := 5) k (by omega) (by decide)), if_neg (lt0 c (by omega)), if_neg (show ¬ 15 < nI c from nlt_l (a := 15) c (by omega) (by decide)), if_neg (lt0 id (by omega)), lim_m h1, ltE, if_neg (nle_l _ (by omega) (by omega))]
  · rw [if_neg (lt0 k (by omega)), if_pos (show nI k ≤ 5 from le_l 5 (by omega) (by decide)), if_neg (lt0 id (by omega)), c_isLong k h1, bdS, lim_c h1, ltE, if_pos (lt_l _ h3 (by omega)), if_neg (lt0 c (by omega)), if_pos (show nI c ≤ 15 from le_l 15 (by omega) (by decide))]
theorem snd_bad {p2 p3 p4 : Int32} (h : ¬ gdS p2 p3 p4) : (∀ {β : Type} (g : Int32 → Option β), jn g (fun k8 => if p3 < 0 then k8 0 else if 5 < p3 then k8 0 else if p4 < 0 then k8 0 else if 15 < p4 then k8 0 else if p2 < 0 then k8 0 else lt (α := Int32) (if (p3 - p3 / 2 * 2) = 1 then 536870912 else 2048) (fun x31 => if x31 ≤ p2 then k8 0 else k8 1)) = g 0) ∧ ∀ X : Option (Nat ⊕ (CS × Int32)), (if p3 < 0 then some (.inl 2) else if p3 ≤ 5 then if p2 < 0 then some (.inl 2) else bd (f_X7_isLong p3) (fun u3 => lt (α := Int32) (if u3 = 0 then 2048 else 536870912) (fun x5 => if p2 < x5 then if p4 < 0 then some (.inl 2) else if p4 ≤ 15 then X else some (.inl 2) else some (.inl 2))) else some (.inl 2)) = some (.inl 2) := by
  by_cases a1 : p3 < 0
  · exact ⟨fun g => by rw [jnE, if_pos a1], fun X => by rw [if_pos a1]⟩
  · obtain ⟨k, k1, rfl⟩ := nn_of a1
    by_cases a2 : k ≤ 5
    · have hk : k < 6 := by omega
      have hl := lim_le k
      have e1 : ¬ 5 < nI k := nlt_l (a := 5) k (by omega) (by decide)
      have e2 : nI k ≤ 5 := le_l 5 a2 (by decide)
      by_cases a3 : p2 < 0
      · refine ⟨fun g => ?_, fun X => by rw [if_neg a1, if_pos e2, if_pos a3]⟩
        rw [jnE, if_neg a1, if_neg e1]
        split
        · rfl
        · split
          · rfl
          · first | rfl | rw [if_pos a3]
      · obtain ⟨id, id1, rfl⟩ := nn_of a3
        by_cases a4 : p4 < 0
        · refine ⟨fun g => by rw [jnE, if_neg a1, if_neg e1, if_pos a4], fun X => ?_⟩
          rw [if_neg a1, if_pos e2, if_neg a3, c_isLong k hk, bdS, lim_c hk, ltE, if_pos a4]
          split <;> rfl
        · obtain ⟨c, c1, rfl⟩ := nn_of a4
          by_cases a5 : c ≤ 15
          · have a6 : ¬ id < lim k := fun e => h ⟨k, id, c, hk, by omega, e, rfl, rfl, rfl⟩
            refine ⟨fun g => ?_, fun X => ?_⟩
            · rw [jnE, if_neg a1, if_neg e1, if_neg a4, if_neg (show ¬ 15 < nI c from nlt_l (a := 15) c (by omega) (by decide)), if_neg a3, lim_m hk, ltE, if_pos (le_l _ (by omega) id1)]
            · rw [if_neg a1, if_pos e2, if_neg a3, c_isLong k hk, bdS, lim_c hk, ltE, if_neg (nlt_l _ a6 id1)]
          · refine ⟨fun g => by rw [jnE, if_neg a1, if_neg e1, if_neg a4, if_pos (show 15 < nI c from lt_l (a := 15) c (by omega) c1)], fun X => ?_⟩
            rw [if_neg a1, if_pos e2, if_neg a3, c_isLong k hk, bdS, lim_c hk, ltE, if_neg a4, if_neg (show ¬ nI c ≤ 15 from nle_l 15 a5 c1)]
            split <;> rfl
    · exact ⟨fun g => by rw [jnE, if_neg a1, if_pos (show 5 < nI k from lt_l (a := 5) k (by omega) k1)], fun X => by rw [if_neg a1, if_neg (show ¬ nI k ≤ 5 from nle_l 5 a2 k1)]⟩
theorem sH_1 {s : CS} {t i : Nat} {h : Int64} : (sH s t i h).1 = s.1 := rfl
theorem sH_s {s : CS} {t i : Nat} {h : Int64} : (sH s t i h).2.1 t i = h := by simp [sH]
theorem sH_n {s : CS} {t i t' i' : Nat} {h : Int64} (hh : t' ≠ t ∨ i' ≠ i) : (sH s t i h).2.1 t' i' = s.2.1 t' i' := by
  unfold sH
  dsimp only
  rw [if_neg (by omega)]
section QW
variable {σ : CS} {j : Nat} {w a b c ff fo fb : Nat → Int32} {fh : Int64}
theorem qW_1 {x i : Nat} (h : ¬ (x = 16 ∧ i = 0) ∧ ¬ ((x = 7 ∨ x = 8 ∨ x = 9) ∧ i = 32) ∧ ¬ ((x = 13 ∨ x = 14 ∨ x = 15) ∧ i = j)) : (qWF σ j w a b c fh ff fo fb).1 x i = σ.1 x i := by
  unfold qWF
  rw [sZ_n (by omega), sZ_n (by omega), sZ_n (by omega), sZ_n (by omega), sZ_n (by omega), sZ_n (by omega), sZ_n (by omega), sH_1]
theorem qW_2 {x i : Nat} (h : x ≠ 13 ∨ i ≠ j) : (qWF σ j w a b c fh ff fo fb).2.1 x i = σ.2.1 x i := by
  show (sH σ 13 j fh).2.1 x i = _
  exact sH_n h
theorem qW_3 : (qWF σ j w a b c fh ff fo fb).2.2 = σ.2.2 := rfl
end QW
set_option maxHeartbeats 2000000 in
theorem st_send {s : CS} {v : Nat → Int32} {m : Nat → Nat → Int32} (h : RI s v m) (p1 p2 p3 p4 : Int32) : ∃ s' v' m', Step_send p1 p2 p3 p4 s v m s' v' m' ∧ RI s' v' m' := by
  obtain ⟨D, F, N, t, T, E, hG, hL, hN⟩ := id h
  have h32 := hG.1.1
  have hFF := hG.2.1
  have hF := hFF.1
  rcases node_c hG.1 p1 with ⟨n, n1, rfl, n2, n3⟩ | ⟨n2, n3⟩
  · have hin : vp_in (nI n) 32 := in_nI (by omega) (by decide)
    by_cases hgd : gdS p2 p3 p4
    · obtain ⟨gm, gc⟩ := snd_good hgd
      by_cases hF2 : F = 200
      · refine ⟨s, upd v 0 3, m, ⟨0, ?_, Or.inr ⟨rfl, Or.inr (Or.inr ⟨?_, up_s _ _ _⟩)⟩⟩, RI_c h vG_0 (sm_r m)⟩
        · unfold f_X8_send
          rw [gm, n3, bdS, if_pos rfl, if_neg (by decide), hFF.2.2.1, if_pos (show nI F = 200 by rw [hF2]; rfl), ltE, if_neg (by decide)]
        · unfold f_X7_send
          rw [n2, bxR, gc, hFF.2.1, if_neg (show ¬ nI F < 200 from nlt_l 200 (by omega) (by omega))]
      · obtain ⟨k, id, c, k1, c1, id1, rfl, rfl, rfl⟩ := id hgd
        have hlim : id < (if isL k = 1 then 2 ^ 29 else 2 ^ 11) := id1
        have hF1 : F < 200 := by omega
        have hFi : vp_in (nI F) 200 := in_nI hF1 (by decide)
        -- the model
        obtain ⟨m', t1, t2, t3, t4⟩ := m_sendL (v := v) hF1 hFF.2.2.1 (k25 := fun ⟨v23, v24⟩ => some ((upd (upd v 0 0) 4 (nI (F + 1))), v23, nI F)) 64 0 fu (va_up (va_up (va_up (va_up (va_up m 1 (upd (m 1) F (nI n))) 2 (upd (m 2) F (nI id))) 3 (upd (m 3) F (nI k))) 4 (upd (m 4) F (nI c))) 6 (upd (m 6) F 0)) (by omega) (fu_big (by decide)) (fun q hq => absurd hq (Nat.not_lt_zero q))
        have hmod : f_X8_send v m (nI n) (nI id) (nI k) (nI c) = some (upd (upd v 0 0) 4 (nI (F + 1)), m', nI F) := by
          unfold f_X8_send
          rw [gm, n3, bdS, if_pos rfl, if_neg (by decide), hFF.2.2.1, if_neg (show ¬ nI F = 200 from ne_l 200 hF2 (by omega) (by decide)), ltE, if_pos (by decide), gdT _ hFi, gdT _ hFi, gdT _ hFi, gdT _ hFi, gdT _ hFi, jnE, nI_clamp (by omega), n_bool.1, show nI F + 1 = nI (F + 1) from nI_add _ 1, show nI (F + 1) - 1 = nI F from n_sub (b := 1) (by omega)]
          exact t1
        -- the class
        obtain ⟨fo', b1, b2⟩ := c_fbegin (s.1 13 F) (s.1 14 F) (nI F) (nI n) (nI k) (nI (octs k c))
        generalize hu13 : upd (upd (upd (upd (upd (s.1 13 F) 3 (nI F)) 4 (nI n)) 5 (nI k)) 7 (nI (octs k c))) 8 0 = u13 at b1
        obtain ⟨w', a', b', c', ff', fb', x1, x2, x3, x4⟩ := c_write (w := s.1 16 0) (a := s.1 7 32) (b := s.1 8 32) (c := s.1 9 32) (ff := u13) (fo := fo') (fb := s.1 15 F) (k := k) (id := id) (c0 := c) (o := fun _ => 0) k1 hG.2.2.2.2.2.2.1 (by rw [← hu13, up_n _ _ (by decide), up_n _ _ (by decide), up_s]) (by rw [← hu13, up_n _ _ (by decide), up_s]) (fun i hi => ⟨by show 0 < 256; decide, b2 i hi⟩)
        have eff : ∀ q, q ≠ 2 → q = 3 ∨ q = 4 ∨ q = 5 ∨ q = 7 ∨ q = 8 → ff' q = u13 q := fun q hq _ => x4 q hq
        -- the table
        have hDn : ∀ f, f ≠ F → va_up D F (n, k, id, c, 0, fun _ => 0) f = D f := fun f hf => vu_n _ _ hf
        have hDF : va_up D F (n, k, id, c, 0, fun _ => 0) F = (n, k, id, c, 0, fun _ => 0) := vu_s _ _ _
        generalize hDD : va_up D F (n, k, id, c, 0, fun _ => 0) = D' at hDn hDF
        have d1 : fOw D' F = n := by unfold fOw; rw [hDF]
        have d2 : fKi D' F = k := by unfold fKi; rw [hDF]
        have d3 : fId D' F = id := by unfold fId; rw [hDF]
        have d4 : fCo D' F = c := by unfold fCo; rw [hDF]
        have d5 : fDn D' F = 0 := by unfold fDn; rw [hDF]
        have d6 : fOc D' F = fun _ => 0 := by unfold fOc; rw [hDF]
        have hV' : FVo D' F := by
          unfold FVo
          rw [d1, d2, d3, d4, d5, d6]
          exact ⟨⟨k1, c1, hlim, fun _ _ => by show 0 < 256; decide⟩, by omega, by decide⟩
        -- the states
        have z0 : ∀ a j, ¬ (a = 0 ∧ j = 0) → (sZ s 0 0 (upd (s.1 0 0) 9 (nI (F + 1)))).1 a j = s.1 a j := fun a j hh => sZ_n (by omega)
        have z00 : (sZ s 0 0 (upd (s.1 0 0) 9 (nI (F + 1)))).1 0 0 = upd (s.1 0 0) 9 (nI (F + 1)) := sZ_s
        have z02 : (sZ s 0 0 (upd (s.1 0 0) 9 (nI (F + 1)))).2 = s.2 := rfl
        generalize hs9 : sZ s 0 0 (upd (s.1 0 0) 9 (nI (F + 1))) = s9 at z0 z00 z02
        have y1 : ∀ a j, ¬ ((a = 13 ∨ a = 14) ∧ j = F) → (sH (qFr s9 F (s9.2.1 13 F) u13 fo' (s9.1 15 F)) 13 F (lN (hdN k id c))).1 a j = s9.1 a j := by
          intro a j hh
          rw [sH_1]
          unfold qFr
          by_cases h15 : a = 15 ∧ j = F
          · rw [h15.1, h15.2, sZ_s]
          · rw [sZ_n (by omega), sZ_n (by omega), sZ_n (by omega), sH_1]
        have y13 : (sH (qFr s9 F (s9.2.1 13 F) u13 fo' (s9.1 15 F)) 13 F (lN (hdN k id c))).1 13 F = u13 := by rw [sH_1]; exact qFr_g13
        have y14 : (sH (qFr s9 F (s9.2.1 13 F) u13 fo' (s9.1 15 F)) 13 F (lN (hdN k id c))).1 14 F = fo' := by rw [sH_1]; exact qFr_g14
        have y2 : (sH (qFr s9 F (s9.2.1 13 F) u13 fo' (s9.1 15 F)) 13 F (lN (hdN k id c))).2.1 13 F = lN (hdN k id c) := sH_s
        have y3 : ∀ a j, (a ≠ 13 ∨ j ≠ F) → (sH (qFr s9 F (s9.2.1 13 F) u13 fo' (s9.1 15 F)) 13 F (lN (hdN k id c))).2.1 a j = s.2.1 a j := fun a j hh => by
          rw [sH_n hh]
          show (sH s9 13 F (s9.2.1 13 F)).2.1 a j = _
          rw [sH_n hh, z02]
        have y4 : (sH (qFr s9 F (s9.2.1 13 F) u13 fo' (s9.1 15 F)) 13 F (lN (hdN k id c))).2.2 = s.2.2 := by
          show s9.2.2 = s.2.2
          rw [z02]
        generalize hs19 : sH (qFr s9 F (s9.2.1 13 F) u13 fo' (s9.1 15 F)) 13 F (lN (hdN k id c)) = s19 at y1 y13 y14 y2 y3 y4
        have q1 : ∀ a j, ¬ (a = 0 ∧ j = 0) → ¬ (a = 16 ∧ j = 0) → ¬ ((a = 7 ∨ a = 8 ∨ a = 9) ∧ j = 32) → ¬ ((a = 13 ∨ a = 14 ∨ a = 15) ∧ j = F) → (qWF s19 F w' a' b' c' (lN (hdN k id c)) ff' fo' fb').1 a j = s.1 a j := fun a j h1 h2 h3 h4 => by rw [qW_1 ⟨h2, h3, h4⟩, y1 a j (by omega), z0 a j h1]
        have q00 : (qWF s19 F w' a' b' c' (lN (hdN k id c)) ff' fo' fb').1 0 0 = upd (s.1 0 0) 9 (nI (F + 1)) := by rw [qW_1 (by omega), y1 0 0 (by omega), z00]
        have q13 : (qWF s19 F w' a' b' c' (lN (hdN k id c)) ff' fo' fb').1 13 F = ff' := qWF_g13
        have q14 : (qWF s19 F w' a' b' c' (lN (hdN k id c)) ff' fo' fb').1 14 F = fo' := qWF_g14
        have q15 : (qWF s19 F w' a' b' c' (lN (hdN k id c)) ff' fo' fb').1 15 F = fb' := qWF_g15
        have q7 : (qWF s19 F w' a' b' c' (lN (hdN k id c)) ff' fo' fb').1 7 32 = a' := qWF_g7
        have q8 : (qWF s19 F w' a' b' c' (lN (hdN k id c)) ff' fo' fb').1 8 32 = b' := qWF_g8
        have q9 : (qWF s19 F w' a' b' c' (lN (hdN k id c)) ff' fo' fb').1 9 32 = c' := qWF_g9
        have qh : (qWF s19 F w' a' b' c' (lN (hdN k id c)) ff' fo' fb').2.1 13 F = lN (hdN k id c) := qWF_h
        have qh2 : ∀ a j, (a ≠ 13 ∨ j ≠ F) → (qWF s19 F w' a' b' c' (lN (hdN k id c)) ff' fo' fb').2.1 a j = s.2.1 a j := fun a j hh => by rw [qW_2 hh, y3 a j hh]
        have q22 : (qWF s19 F w' a' b' c' (lN (hdN k id c)) ff' fo' fb').2.2 = s.2.2 := by rw [qW_3, y4]
        generalize hs26 : qWF s19 F w' a' b' c' (lN (hdN k id c)) ff' fo' fb' = s26 at q1 q00 q13 q14 q15 q7 q8 q9 qh qh2 q22
        obtain ⟨oh, g1, g2, g3, g4, g5⟩ := hN n n1
        have hwt0 : wt D' n F = wt D n F := wt_eq F (fun q hq => by
          obtain ⟨e1, _, _, _, e5, _⟩ := D_f (hDn q (by omega))
          rw [e1, e5])
        have hwt1 : wt D' n (F + 1) = wt D n F + 1 := by rw [wt_s, if_pos ⟨d1, d5⟩, hwt0]
        have e3n : s26.1 3 n = s.1 3 n := q1 3 n (by omega) (by omega) (by omega) (by omega)
        have e6 : s26.1 3 n 6 + 1 = nI (wt D' n (F + 1)) := by rw [e3n, g5.1.2.2.1, hwt1]; exact nI_add _ 1
        have hFCnew : FCv (lN (hdN k id c)) ff' fo' fb' D' F := by
          unfold FCv
          rw [d1, d2, d3, d4, d5, d6, x4 3 (by decide), x4 4 (by decide), x4 5 (by decide), x4 7 (by decide), x4 8 (by decide), ← hu13]
          refine ⟨?_, ?_, ?_, ?_, ?_, rfl, b2, x3⟩
          · rw [up_n _ _ (by decide), up_n _ _ (by decide), up_n _ _ (by decide), up_n _ _ (by decide), up_s]
          · rw [up_n _ _ (by decide), up_n _ _ (by decide), up_n _ _ (by decide), up_s]
          · rw [up_n _ _ (by decide), up_n _ _ (by decide), up_s]
          · rw [up_n _ _ (by decide), up_s]
          · rw [up_s]; rfl
        have r1 : ∀ a j, ¬ (a = 3 ∧ j = n) → (sZ s26 3 n (upd (s26.1 3 n) 6 (s26.1 3 n 6 + 1))).1 a j = s26.1 a j := fun a j hh => sZ_n (by omega)
        have r3 : (sZ s26 3 n (upd (s26.1 3 n) 6 (s26.1 3 n 6 + 1))).1 3 n = upd (s.1 3 n) 6 (nI (wt D' n (F + 1))) := by rw [sZ_s, e6, e3n]
        have r2 : (sZ s26 3 n (upd (s26.1 3 n) 6 (s26.1 3 n 6 + 1))).2 = s26.2 := rfl
        generalize hs30 : sZ s26 3 n (upd (s26.1 3 n) 6 (s26.1 3 n 6 + 1)) = s30 at r1 r3 r2
        have hCall : ∀ f, f < F + 1 → FCo s30 D' f := by
          intro f hf
          unfold FCo
          rw [r2, r1 13 f (by omega), r1 14 f (by omega), r1 15 f (by omega)]
          by_cases hfF : f = F
          · subst hfF
            rw [qh, q13, q14, q15]
            exact hFCnew
          · rw [qh2 13 f (by omega), q1 13 f (by omega) (by omega) (by omega) (by omega), q1 14 f (by omega) (by omega) (by omega) (by omega), q1 15 f (by omega) (by omega) (by omega) (by omega)]
            exact FCo_f (hDn f hfF) (hFF.2.2.2 f (by omega)).2.2.2
        have hfirst : f_X7_firstOf s30 (nI n) = some (fs D' n (F + 1)) := c_first (by omega) (by omega) (by rw [r1 0 0 (by omega), q00, up_s]) (fun f hf => by
          by_cases hfF : f = F
          · rw [hfF]; exact hV'
          · exact FVo_f (hDn f hfF) (hFF.2.2.2 f (by omega)).1) hCall
        have hcls : f_X7_send s (nI n) (nI id) (nI k) (nI c) = some (.inr (sR s30 n (fs D' n (F + 1), (s.2.2 n).2), nI F)) := by
          unfold f_X7_send
          rw [n2, bxR, gc, hFF.2.1, if_pos (show nI F < 200 from lt_l 200 hF1 (by decide)), show nI F + 1 = nI (F + 1) from nI_add _ 1, hs9, ltE, gdT _ hFi, c_octets k k1 c c1, bdS, nI_clamp (by omega), z0 13 F (by omega), z0 14 F (by omega), b1, bdS]
          dsimp only
          rw [ltE, c_headOf k1 hlim c1, bdS, ltE, hs19, y1 16 0 (by omega), z0 16 0 (by omega), y1 7 32 (by omega), z0 7 32 (by omega), y1 8 32 (by omega), z0 8 32 (by omega), y1 9 32 (by omega), z0 9 32 (by omega), y2, y13, y14, y1 15 F (by omega), z0 15 F (by omega), x1, bdS]
          dsimp only
          rw [ltE, hs26, gdT _ hin, nI_clamp (by omega), ltE, ltE, hs30, gdT _ hin, hfirst, bdS, ltE, r2, q22]
        refine ⟨sR s30 n (fs D' n (F + 1), (s.2.2 n).2), upd (upd v 0 0) 4 (nI (F + 1)), m', ⟨nI F, hmod, Or.inl ⟨hcls, by rw [up_n _ _ (by decide), up_s]⟩⟩, ?_⟩
        have m5 : ∀ j, j ≠ 5 → j ≠ 1 → j ≠ 2 → j ≠ 3 → j ≠ 4 → j ≠ 6 → m' j = m j := fun j j1 j2 j3 j4 j5 j6 => by rw [t4 j j1, vu_n _ _ j6, vu_n _ _ j5, vu_n _ _ j4, vu_n _ _ j3, vu_n _ _ j2]
        have e1 : m' 1 = upd (m 1) F (nI n) := by rw [t4 1 (by decide), vu_n _ _ (by decide), vu_n _ _ (by decide), vu_n _ _ (by decide), vu_n _ _ (by decide), vu_s]
        have e2 : m' 2 = upd (m 2) F (nI id) := by rw [t4 2 (by decide), vu_n _ _ (by decide), vu_n _ _ (by decide), vu_n _ _ (by decide), vu_s]
        have e3 : m' 3 = upd (m 3) F (nI k) := by rw [t4 3 (by decide), vu_n _ _ (by decide), vu_n _ _ (by decide), vu_s]
        have e4 : m' 4 = upd (m 4) F (nI c) := by rw [t4 4 (by decide), vu_n _ _ (by decide), vu_s]
        have e6' : m' 6 = upd (m 6) F 0 := by rw [t4 6 (by decide), vu_s]
        have e5 : ∀ x, x < 64 * F → m' 5 x = m 5 x := fun x hx => by rw [t3 x hx, vu_n _ _ (by decide), vu_n _ _ (by decide), vu_n _ _ (by decide), vu_n _ _ (by decide), vu_n _ _ (by decide)]
        refine RI_frame (D := D) (D' := D') (F := F) (F' := F + 1) (g := F) (n := n) hG hL hN ?_ ?_ ?_ ?_ ?_ ?_ ?_ ?_ ?_ ?_ ?_ ?_ ?_ ?_ ?_ ?_ ?_ hDn hV' d1 d5 n1 (by omega) (Or.inr ⟨rfl, rfl⟩) ?_
        · intro q hq
          show s30.1 0 0 q = _
          rw [r1 0 0 (by omega), q00, up_n _ _ hq]
        · show s30.1 0 0 9 = _
          rw [r1 0 0 (by omega), q00, up_s]
        · funext j
          show s30.1 17 j = _
          rw [r1 17 j (by omega), q1 17 j (by omega) (by omega) (by omega) (by omega)]
        · show (∃ x, s30.1 7 32 = rA x) ∧ (∃ x, s30.1 8 32 = rB x) ∧ ∃ x, s30.1 9 32 = rC x
          rw [r1 7 32 (by omega), r1 8 32 (by omega), r1 9 32 (by omega), q7, q8, q9]
          exact x2
        · intro f hf
          show s30.1 13 f = _ ∧ s30.1 14 f = _ ∧ s30.1 15 f = _ ∧ s30.2.1 13 f = _
          rw [r2, r1 13 f (by omega), r1 14 f (by omega), r1 15 f (by omega), qh2 13 f (by omega), q1 13 f (by omega) (by omega) (by omega) (by omega), q1 14 f (by omega) (by omega) (by omega) (by omega), q1 15 f (by omega) (by omega) (by omega) (by omega)]
          exact ⟨rfl, rfl, rfl, rfl⟩
        · exact hCall F (by omega)
        · intro j hj hjn
          refine ⟨fun a h1 h2 => ?_, ?_, ?_⟩
          · show s30.1 a j = _
            rw [r1 a j (by omega), q1 a j (by omega) (by omega) (by omega) (by omega)]
          · show s30.2.1 4 j = _
            rw [r2, qh2 4 j (by omega)]
          · rw [sR_n hjn, r2, q22]
        · intro a h1 h2 h3
          show s30.1 a n = _
          rw [r1 a n (by omega), q1 a n (by omega) (by omega) (by omega) (by omega)]
        · show s30.2.1 4 n = _
          rw [r2, qh2 4 n (by omega)]
        · intro q hq
          show s30.1 3 n q = _
          rw [r3, up_n _ _ hq]
        · show s30.1 3 n 6 = _
          rw [r3, up_s]
        · exact sR_s
        · intro q hq
          rw [up_n _ _ (by omega), up_n _ _ (by omega)]
        · rw [up_s]
        · intro q hq
          exact m5 q (by omega) (by omega) (by omega) (by omega) (by omega) (by omega)
        · intro f hf hfF
          obtain ⟨⟨u1, u2, u3, u4⟩, u5, u6⟩ := (hFF.2.2.2 f hf).2.2.1
          exact ⟨⟨by rw [e2, up_n _ _ hfF]; exact u1, by rw [e3, up_n _ _ hfF]; exact u2, by rw [e4, up_n _ _ hfF]; exact u3, fun i hi => by rw [e5 _ (by omega)]; exact u4 i hi⟩, by rw [e1, up_n _ _ hfF]; exact u5, by rw [e6', up_n _ _ hfF]; exact u6⟩
        · unfold FMo
          rw [d1, d2, d3, d4, d5, d6]
          exact ⟨⟨by rw [e2, up_s], by rw [e3, up_s], by rw [e4, up_s], fun i hi => t2 i hi⟩, by rw [e1, up_s], by rw [e6', up_s]; rfl⟩
        · intro hst hr
          rcases g5.2 with ⟨_, q⟩ | ⟨q, _⟩ | hse | hli | hfl | hwa | hcl | hpa
          · rw [q.1] at hst; exact absurd hst (by decide)
          · cases q
          · obtain ⟨y, i, s1, s2, s3, s4, s5, s6, s7, _⟩ := hse
            rw [s1] at hr
            cases hr
            omega
          · obtain ⟨L, l1, _⟩ := hli; rw [l1] at hst; exact absurd hst (by decide)
          · obtain ⟨q, l1, _⟩ := hfl; rw [l1] at hst; exact absurd hst (by decide)
          · rw [hwa.1] at hst; exact absurd hst (by decide)
          · obtain ⟨q, l1, _⟩ := hcl; rw [l1] at hst; exact absurd hst (by decide)
          · obtain ⟨q, l1, _⟩ := hpa; rw [l1] at hst; exact absurd hst (by decide)
    · obtain ⟨gm, gc⟩ := snd_bad hgd
      refine ⟨s, upd v 0 2, m, ⟨0, ?_, Or.inr ⟨rfl, Or.inr (Or.inl ⟨?_, up_s _ _ _⟩)⟩⟩, RI_c h vG_0 (sm_r m)⟩
      · unfold f_X8_send
        rw [gm, n3, bdS, if_pos rfl, if_pos rfl, ltE, if_neg (by decide)]
      · unfold f_X7_send
        rw [n2, bxR, gc]
  · refine ⟨s, upd v 0 1, m, ⟨0, ?_, Or.inr ⟨rfl, Or.inl ⟨?_, up_s _ _ _⟩⟩⟩, RI_c h vG_0 (sm_r m)⟩
    · have key : ∀ z : Int32, (bd (f_X8_noNode v p1) (fun u10 => lt (α := Int32) (if u10 = 0 then if z = 0 then 2 else if (v 4) = 200 then 3 else 0 else 1) (fun x12 => if x12 ≤ 0 then gd (vp_in (v 4) 200) (gd (vp_in (v 4) 200) (gd (vp_in (v 4) 200) (gd (vp_in (v 4) 200) (gd (vp_in (v 4) 200) (jn (α := (Nat → Nat → Int32) × Int32) (fun ⟨v23, v24⟩ => some ((upd (upd v 0 x12) 4 ((v 4) + 1)), v23, ((v 4) + 1) - 1)) (fun k25 => L_X8_send_154 v k25 fu (va_up (va_up (va_up (va_up (va_up m 1 (upd (m 1) ((v 4).toNatClampNeg) p1)) 2 (upd (m 2) ((v 4).toNatClampNeg) p2)) 3 (upd (m 3) ((v 4).toNatClampNeg) p3)) 4 (upd (m 4) ((v 4).toNatClampNeg) p4)) 6 (upd (m 6) ((v 4).toNatClampNeg) (vp_nar .boolean 0))) 0)))))) else some ((upd v 0 x12), m, 0)))) = some (upd v 0 1, m, 0) := by
        intro z
        rw [n3, bdS, if_neg (by decide), ltE, if_neg (by decide)]
      unfold f_X8_send
      by_cases hgd : gdS p2 p3 p4
      · rw [(snd_good hgd).1]; exact key 1
      · rw [(snd_bad hgd).1]; exact key 0
    · unfold f_X7_send; rw [n2, bxL]
