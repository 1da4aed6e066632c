def LGn : SeeR → Prop
  | (_, _, _, _, o, a, b, c, _, _, _, _) => LG o a b c
theorem c_seeSending {D : FD} {s : CS} {nf : Nat → Int32} {i j b : Nat} (hj : j < 200) (hC : FCo s D j) (hi : i < (fR D j).length) (hb : b < 2) (h9 : nf 9 = nI i) : f_X2_seeSending (some j) nf (s.1 13) (s.1 15) (nI b) = if (i + 9 = (fR D j).length ∧ b = 1) ∨ (i + 9 ≠ (fR D j).length ∧ b ≠ (fR D j).getD i 0) then some (nf, nI (if i + 9 = (fR D j).length then 4 else 0)) else some (upd nf 9 (nI (i + 1)), if i + 1 = (fR D j).length then nI 6 else -1) := by
  have hrow := hC.2.2.2.2.2.2.2
  have hRb : (fR D j).getD i 0 < 2 := Bt_getD i (rowL_Bt _ _ _ _)
  have hlen := rowL_le (fKi D j) (fId D j) (fCo D j) (fOc D j)
  have hRl : (fR D j).length ≤ 733 := hlen.1
  have h2 : s.1 13 j 2 = nI (fR D j).length := hrow.1
  have hak : f_X0_acknowledgedAt (s.1 13 j) (nI i) = some (nI (if i + 9 = (fR D j).length then 1 else 0)) := c_ackAt hrow hi
  have hrb : f_X0_rowBit (s.1 13 j) (s.1 15 j) (nI i) = some (nI ((fR D j).getD i 0)) := c_rowBit hrow hi
  have fin : (lt (α := Int32) (if ((nf 9) + 1) < ((s.1 13 j) 2) then (-1) else 6) (fun x7 => some ((upd nf 9 ((nf 9) + 1)), x7))) = some (upd nf 9 (nI (i + 1)), if i + 1 = (fR D j).length then nI 6 else -1) := by
    rw [ltE, h9, h2, show nI i + 1 = nI (i + 1) from nI_add _ 1]
    by_cases h : i + 1 = (fR D j).length
    · rw [if_pos h, if_neg (nlt_l _ (by omega) (by omega))]; rfl
    · rw [if_neg h, if_pos (lt_l _ (by omega) (by omega))]
  unfold f_X2_seeSending
  rw [ocS, gdT _ hj, h9, hak, bdS]
  by_cases ha : i + 9 = (fR D j).length
  · rw [if_pos ha, if_neg (by decide), if_pos ha]
    by_cases hb1 : b = 1
    · rw [if_pos (show nI b = 1 by rw [hb1]; rfl), if_pos (Or.inl ⟨ha, hb1⟩)]; rfl
    · rw [if_neg (show ¬ nI b = 1 from ne_l 1 hb1 (by omega) (by decide)), if_neg (show ¬ ((i + 9 = (fR D j).length ∧ b = 1) ∨ (i + 9 ≠ (fR D j).length ∧ b ≠ (fR D j).getD i 0)) by omega)]
      rw [h9] at fin
      exact fin
  · rw [if_neg ha, if_pos (show nI 0 = 0 from rfl), if_neg ha, hrb, bdS]
    by_cases hbr : b = (fR D j).getD i 0
    · rw [if_pos (show nI b = nI ((fR D j).getD i 0) by rw [hbr]), if_neg (show ¬ ((i + 9 = (fR D j).length ∧ b = 1) ∨ (i + 9 ≠ (fR D j).length ∧ b ≠ (fR D j).getD i 0)) by omega)]
      rw [h9] at fin
      exact fin
    · rw [if_neg (ne_l _ hbr (by omega) (by omega)), if_pos (Or.inr ⟨ha, hbr⟩)]; rfl
theorem nd_send {D : FD} {F n t K oh e E dn i j x : Nat} {s : CS} {v0 v : Nat → Int32} {m0 m : Nat → Nat → Int32} {r1 : Option Nat} {nf : Nat → Int32} {h : Int64} {f o a b c tf tt tk : Nat → Int32} (hn : n < 32) (hF : F ≤ 200) (hVj : FVo D j) (hMj : FMo m D j) (hCj : FCo s D j) (hNC : NC D F n r1 nf (m0 12 n) (m0 13 n)) (hg : LG o a b c) (hjF : j < F) (hjo : fOw D j = n) (hjd : fDn D j = 0) (hi : i < (fR D j).length) (h2 : nf 2 = nI 1) (h9 : nf 9 = nI i) (h11 : m 11 n = nI j) (h14 : m 14 n = nI i) (h9m : m 9 n = nI 1) (hseg : ∀ k, k < i → k + 9 < (fR D j).length → sSeg m n k = nI ((fR D j).getD k 0)) (hB1 : 46 * K + i ≤ t) (hB2 : 8 * oh + i ≤ t) (hB3 : 8 * e ≤ t) (hE : E < 92000) (h29 : v0 29 = nI E) (hdn : dn < 200) (h11v : v0 11 = nI dn) (hv2 : v0 2 = nI t) (hx : x < 2) (hs0 : sv v0 v) (hm0 : nlx (fun _ => False) n m0 m) :
    ∃ R v' m', f_X2_see r1 (some j) nf h f o a b c tf tt tk (s.1 13) (s.1 15) (nI x) (nI t) = some (r1, R) ∧ f_X8_sent v m (nI n) (nI x) = some (v', m') ∧ LGn R ∧ (oNo D F n t K oh e r1 v0 m0 tf tt tk R v' m' ∨ oEr D F n t K oh e E r1 v0 m0 tf tt tk R v' m' ∨ oDo D F n t K oh e dn v0 m0 nf tf tt tk R v' m') := by
  have hj : j < 200 := by omega
  have hrow := hCj.2.2.2.2.2.2.2
  have hlen := rowL_le (fKi D j) (fId D j) (fCo D j) (fOc D j)
  have hRl : (fR D j).length ≤ 733 := hlen.1
  have hRB : Bt (fR D j) := rowL_Bt _ _ _ _
  have hRb : (fR D j).getD i 0 < 2 := Bt_getD i hRB
  have hlate : sv v0 v := hs0
  obtain ⟨u2, u3, e1, e2, e3⟩ := m_sent (v := v) (m := m) (E := E) (dn := dn) hn hj hVj hMj hi hx hE (by rw [hs0 29 (by decide) (by decide) (by decide) (by decide)]; exact h29) hdn (by rw [hs0 11 (by decide) (by decide) (by decide) (by decide)]; exact h11v) h11 h14
  have hsv : sv v0 u2 := sv_t hs0 e1
  have hm3 : nlx (fun _ => False) n m0 u3 := nlx_t hm0 (sm_nlx e2)
  have hm6 : nlx (fun _ => False) n m0 (mSee u3 n i x) := nlx_t hm3 (nlx_see (by omega))
  have hu2 : u2 2 = nI t := by rw [hsv 2 (by decide) (by decide) (by decide) (by decide)]; exact hv2
  have hseg3 : ∀ k, sSeg u3 n k = sSeg m n k := fun k => by unfold sSeg; rw [e2 15 (by decide)]
  have hcl : f_X0_canLoseAt (s.1 13 j) (s.1 15 j) (nI i) = some (nI (if (fR D j).getD i 0 = 1 ∧ (fG D j).getD i 0 = 1 then 1 else 0)) := c_canLose hrow hi
  rw [see_q, e3]
  by_cases hl : (fR D j).getD i 0 = 1 ∧ (fG D j).getD i 0 = 1 ∧ x = 0
  · -- it loses
    rw [if_pos hl]
    obtain ⟨l1, l2, l3⟩ := lose_cln (k := fKi D j) (id := fId D j) (c := fCo D j) (o := fOc D j) hi hl.2.1
    have l1 : cln ((fR D j).take i) := l1
    have l2 : evt (par ((fR D j).take i)) 0 = 0 := l2
    have l3 : i + 9 < (fR D j).length := l3
    rw [if_pos ⟨hl.1, hl.2.1⟩] at hcl
    obtain ⟨H, Fl, O, A, B, C, t1, t2⟩ := t_lose (r1 := r1) (nf := nf) (h := h) (f := f) (o := o) (a := a) (b := b) (c := c) (φ := s.1 13) (φb := s.1 15) (R := fR D j) hj h2 h9 (by omega) (by omega) hRB l1 (fun q hq => c_rowBit hrow (by have : (fR D j).length = (rowL (fKi D j) (fId D j) (fCo D j) (fOc D j)).length := rfl; omega)) hcl hg
    obtain ⟨H2, F2, O2, A2, B2, C2, g1, g2, g3⟩ := hear (x := 0) l1 (by decide) t2
    have g4 := g3 (by rw [l2]; exact Or.inl rfl)
    rw [← par_s] at g4
    rw [l2, eC_0] at g1
    refine ⟨(some j, upd (upd nf 2 2) 3 0, H2, F2, O2, A2, B2, C2, tf, tt, tk, -1), _, _, ?_, rfl, g2, Or.inl ⟨rfl, hsv, ?_, ?_, ?_⟩⟩
    · rw [hl.2.2, if_pos (show nI 0 = 0 from rfl), t1, bdS]
      dsimp only
      unfold seK
      rw [if_neg (show ¬ (upd (upd nf 2 2) 3 0) 2 = 1 by rw [up_n _ _ (by decide), up_s]; decide), if_pos (show (upd (upd nf 2 2) 3 0) 2 = 2 by rw [up_n _ _ (by decide), up_s]), g1, bdS]
      exact seF_n
    · exact nlx_t hm6 (nlx_u (by omega))
    · exact NC_m hNC up3 (nlx_t hm6 (nlx_u (by omega))) (fun h => h) (fun h => h)
    · have hL : ((fR D j).take i ++ [0]).length = i + 1 := by rw [len_s, List.length_take]; omega
      refine Or.inr (Or.inr (Or.inr (Or.inl ⟨(fR D j).take i ++ [0], ?_, ?_, cln_s l1 (by decide) (by rw [l2]; exact Or.inl rfl), by omega, g4, ?_, ?_, Or.inl ⟨by omega, by omega⟩, by omega⟩)))
      · rw [up_n _ _ (by decide), up_s]; rfl
      · rw [vu_s, up_s]; rfl
      · rw [vu_n _ _ (by decide), mSee_14, hL]
      · intro k hk
        have eq : sSeg (va_up (mSee u3 n i x) 9 (upd (mSee u3 n i x 9) n 2)) n k = sSeg (mSee u3 n i x) n k := by unfold sSeg; rw [vu_n _ _ (by decide)]
        rw [eq, mSee_seg]
        by_cases hki : k = i
        · rw [if_pos hki, hl.2.2, gD_e (by rw [List.length_take]; omega)]
        · rw [if_neg hki, hseg3, hseg k (by omega) (by omega), gD_l (by rw [List.length_take]; omega), gD_take (by omega)]
  · rw [if_neg hl]
    -- it does not turn
    have hsk : (if nI x = 0 then bd (f_X2_turnToListening r1 (some j) nf h f o a b c (s.1 13) (s.1 15)) (fun ⟨u58, u59, u60, u61, u62, u63, u64⟩ => seK r1 (some j) tf tt tk (s.1 13) (s.1 15) (nI x) (nI t) u58 u59 u60 u61 u62 u63 u64) else seK r1 (some j) tf tt tk (s.1 13) (s.1 15) (nI x) (nI t) nf h f o a b c) = bd (f_X2_seeSending (some j) nf (s.1 13) (s.1 15) (nI x)) (fun y => seF r1 (some j) h f o a b c tf tt tk (nI t) y.2 y.1) := by
      have hK : seK r1 (some j) tf tt tk (s.1 13) (s.1 15) (nI x) (nI t) nf h f o a b c = bd (f_X2_seeSending (some j) nf (s.1 13) (s.1 15) (nI x)) (fun y => seF r1 (some j) h f o a b c tf tt tk (nI t) y.2 y.1) := by
        unfold seK
        rw [if_pos (show nf 2 = 1 by rw [h2]; rfl)]
      by_cases hx0 : x = 0
      · rw [if_pos (show nI x = 0 by rw [hx0]; rfl), t_same (z := 1) h2 (by decide) (by decide) (fun e => absurd e (by decide)) (fun _ => ⟨j, rfl, hj, by rw [h9, hcl, if_neg (fun e => hl ⟨e.1, e.2, hx0⟩)]; rfl⟩), bdS]
        exact hK
      · rw [if_neg (show ¬ nI x = 0 from ne_l 0 hx0 (by omega) (by decide))]
        exact hK
    rw [hsk, c_seeSending hj hCj hi hx h9]
    by_cases hw : (i + 9 = (fR D j).length ∧ x = 1) ∨ (i + 9 ≠ (fR D j).length ∧ x ≠ (fR D j).getD i 0)
    · rw [if_pos hw, if_pos hw, bdS]
      dsimp only
      rw [seF_e (by split <;> omega)]
      exact ⟨_, _, _, rfl, rfl, hg, Or.inr (Or.inl (fl_err (by split <;> omega) hNC (fun _ _ => rfl) h29 hv2 hsv hm6 (by omega) (by omega) hB3))⟩
    · rw [if_neg hw, if_neg hw, bdS]
      dsimp only
      have hnf9 : ∀ k, k = 4 ∨ k = 5 ∨ k = 6 → upd nf 9 (nI (i + 1)) k = nf k := fun k hk => up_n _ _ (by omega)
      by_cases hd : i + 1 = (fR D j).length
      · rw [if_pos hd, if_pos hd, seF_6]
        have hmd : nlx sD3 n m0 (mDn (mSee u3 n i x) (u2 2) n j dn) := by
          unfold mDn
          exact nlx_t (nlx_w hm6 (fun _ h => h.elim)) (nlx_t (nlx_t (nlx_t (nlx_S (Or.inl rfl) (by omega)) (nlx_S (Or.inr (Or.inl rfl)) (by omega))) (nlx_S (Or.inr (Or.inr rfl)) (by omega))) nlx_go)
        have g6 : ∀ k, k = 6 ∨ k = 7 ∨ k = 8 → mSee u3 n i x k = m0 k := fun k hk => hm6.1 k (fun h => h) (by omega) (by omega)
        refine ⟨_, _, _, rfl, rfl, hg, Or.inr (Or.inr ⟨j, hjF, hjo, hjd, rfl, rfl, fun k hk k1 k2 k3 k4 => by rw [up_n _ _ hk]; exact hsv k k1 k2 k3 k4, up_s _ _ _, hmd, ?_, ?_, ?_, ?_, ?_⟩)⟩
        · unfold mDn mGo; rw [vu_n _ _ (by decide), vu_n _ _ (by decide), vu_n _ _ (by decide), vu_n _ _ (by decide), vu_s, g6 6 (by omega)]
        · unfold mDn mGo; rw [vu_n _ _ (by decide), vu_n _ _ (by decide), vu_n _ _ (by decide), vu_s, g6 7 (by omega)]
        · unfold mDn mGo; rw [vu_n _ _ (by decide), vu_n _ _ (by decide), vu_s, g6 8 (by omega), hu2]
        · intro k hk
          show upd (upd (upd nf 9 (nI (i + 1))) 2 6) 3 0 k = nf k
          rw [up3 k hk, hnf9 k hk]
        · refine ⟨0, ?_, ?_, by decide, ?_, ?_, by omega, by omega, by omega⟩
          · show upd (upd (upd nf 9 (nI (i + 1))) 2 6) 3 0 2 = _
            rw [up_n _ _ (by decide), up_s]; rfl
          · unfold mDn mGo; rw [vu_n _ _ (by decide), vu_s, up_s]; rfl
          · show upd (upd (upd nf 9 (nI (i + 1))) 2 6) 3 0 3 = _
            rw [up_s]; rfl
          · unfold mDn mGo; rw [vu_s, up_s]; rfl
      · rw [if_neg hd, if_neg hd, seF_n]
        refine ⟨_, _, _, rfl, rfl, hg, Or.inl ⟨rfl, hsv, hm6, NC_m hNC hnf9 hm6 (fun h => h) (fun h => h), Or.inr (Or.inr (Or.inl ⟨j, i + 1, rfl, ?_, ?_, up_s _ _ _, ?_, mSee_14, hjF, hjo, hjd, by omega, ?_, by omega, by omega, by omega⟩))⟩⟩
        · rw [up_n _ _ (by decide)]; exact h2
        · rw [mSee_o (by decide) (by decide), e2 9 (by decide)]; exact h9m
        · rw [mSee_o (by decide) (by decide), e2 11 (by decide)]; exact h11
        · intro k hk hk9
          rw [mSee_seg]
          by_cases hki : k = i
          · rw [if_pos hki, hki]
            congr 1
            omega
          · rw [if_neg hki, hseg3, hseg k (by omega) hk9]
