theorem m_wt2 {Q r s : List Nat} {x : Nat} (hx : x < 2 ^ 31) {k4 : (Nat → Int32) × (Nat → Nat → Int32) × Int32 → Option ((Nat → Int32) × (Nat → Nat → Int32))} :
    ∀ j nn v m l, j < nn → j < 32 → l.length + j ≤ 1200 → MI v m Q r s l → ∃ v' m', L_X8_writeTail_2 (nI x) k4 nn v m (nI j - 1) = k4 (v', m', -1) ∧ MI v' m' Q r s (l ++ bt x j) ∧ v' 38 = v 38 ∧ sv v v' ∧ sm m m' := by
  intro j
  induction j with
  | zero =>
    intro nn v m l hnn hj hl h
    obtain ⟨nn, rfl⟩ : ∃ q, nn = q + 1 := ⟨nn - 1, by omega⟩
    refine ⟨v, m, ?_, by show MI v m Q r s (l ++ []); rw [List.append_nil]; exact h, rfl, sv_r v, sm_r m⟩
    show (if nI 0 - 1 < 0 then k4 (v, m, nI 0 - 1) else _) = _
    rw [if_pos (by decide)]
    rfl
  | succ j ih =>
    intro nn v m l hnn hj hl h
    obtain ⟨nn, rfl⟩ : ∃ q, nn = q + 1 := ⟨nn - 1, by omega⟩
    obtain ⟨v1, m1, e1, e2, e3, e4, e5⟩ := m_checkI (b := x / 2 ^ j % 2) h (by omega) (Nat.mod_lt _ (by decide))
    obtain ⟨v2, m2, t1, t2, t3, t4, t5⟩ := ih nn v1 m1 _ (by omega) (by omega) (by rw [len_s]; omega) e2
    refine ⟨v2, m2, ?_, by rw [List.append_assoc] at t2; exact t2, by rw [t3, e3], sv_t e4 t4, sm_t e5 t5⟩
    rw [show nI (j + 1) - 1 = nI j from n_sub (b := 1) (by omega)]
    show (if nI j < 0 then _ else bd (f_X8_check v m ((nI x >>> (nI j &&& 31)) &&& 1)) (fun ⟨u6, u7⟩ => L_X8_writeTail_2 (nI x) k4 nn u6 u7 (nI j + (-1)))) = _
    rw [if_neg (show ¬ nI j < 0 from nlt_l 0 (by omega) (by omega)), n_bit hx (by omega), e1, bdS]
    dsimp only
    rw [show nI j + (-1) = nI j - 1 from (Int32.sub_eq_add_neg _ _).symm]
    exact t1
theorem tx_last {r : List Nat} {la : Nat} (hr : 0 < r.length) (hla : r.getD (r.length - 1) 0 = la) (B : List Nat) : (r ++ tx la B).getD ((r ++ tx la B).length - 1) 0 = (txs la B).2.1 := by
  refine sn_ind (p := fun B => (r ++ tx la B).getD ((r ++ tx la B).length - 1) 0 = (txs la B).2.1) ?_ ?_ B
  · show (r ++ []).getD ((r ++ []).length - 1) 0 = la
    rw [List.append_nil]; exact hla
  · intro l b _
    have e : tx la (l ++ [b]) = ((txs la l).1 ++ (if (txs la l).2.2 % 4 = 0 then [1 - (txs la l).2.1] else [])) ++ [b] := by unfold tx; rw [txs_s]
    rw [e, txs_s, ← List.append_assoc, len_s]
    exact gD_e (by omega)
theorem tx_s1 (la : Nat) (B : List Nat) (b : Nat) : tx la (B ++ [b]) = tx la B ++ (if B.length % 4 = 0 then [1 - (txs la B).2.1] else []) ++ [b] := by unfold tx; rw [txs_s, txs_n]
theorem m_wt30 {Q r s l : List Nat} {la cn su wd : Nat} (hr0 : 0 < r.length) (hrl : r.length ≤ 691) (hla : r.getD (r.length - 1) 0 = la) (hla2 : la < 2) (hs : s.length = r.length) (hcn : cn < 16) (hsu : su < 2 ^ 31) (hwd : wd ≤ 21) {k15 : (Nat → Int32) × (Nat → Nat → Int32) × Int32 → Option ((Nat → Int32) × (Nat → Nat → Int32))} :
    ∀ d i nn v m, d + i = 4 + wd → d < nn → MI v m Q (r ++ tx la ((bt cn 4 ++ bt su wd).take i)) (s ++ List.replicate (tx la ((bt cn 4 ++ bt su wd).take i)).length 0) l → ∃ v' m', L_X8_writeTail_30 (nI wd) (nI su) (nI cn) k15 nn v m (nI i) = k15 (v', m', nI (4 + wd)) ∧ MI v' m' Q (r ++ tx la (bt cn 4 ++ bt su wd)) (s ++ List.replicate (tx la (bt cn 4 ++ bt su wd)).length 0) l ∧ v' 38 = v 38 ∧ sv v v' ∧ sm m m' := by
  have hBB : Bt (bt cn 4 ++ bt su wd) := Bt_app (bt_Bt _ _) (bt_Bt _ _)
  have hBl : (bt cn 4 ++ bt su wd).length = 4 + wd := by rw [List.length_append, bt_len, bt_len]
  have hbit : ∀ i, i < 4 + wd → (if 4 ≤ nI i then ((nI su >>> (((nI wd + 3) - nI i) &&& 31)) &&& 1) else ((nI cn >>> ((3 - nI i) &&& 31)) &&& 1)) = nI ((bt cn 4 ++ bt su wd).getD i 0) := by
    intro i hi
    by_cases h4 : 4 ≤ i
    · rw [if_pos (show 4 ≤ nI i from le_l (a := 4) i h4 (by omega)), show nI wd + 3 = nI (wd + 3) from nI_add _ 3, n_sub (by omega), n_bit hsu (by omega)]
      congr 1
      have : (bt cn 4 ++ bt su wd).getD i 0 = (bt su wd).getD (i - 4) 0 := by
        rw [List.getD_eq_getElem?_getD, List.getD_eq_getElem?_getD, List.getElem?_append_right (by rw [bt_len]; exact h4), bt_len]
      rw [this, bt_getD (by omega), show wd - 1 - (i - 4) = wd + 3 - i by omega]
    · rw [if_neg (show ¬ 4 ≤ nI i from nle_l (a := 4) i h4 (by decide)), show (3 : Int32) - nI i = nI (3 - i) from n_sub (a := 3) (by omega), n_bit (by omega) (by omega), gD_l (by rw [bt_len]; omega), bt_getD (by omega)]
  generalize hB : bt cn 4 ++ bt su wd = B at hBB hBl hbit
  intro d
  induction d with
  | zero =>
    intro i nn v m hd hnn h
    obtain ⟨nn, rfl⟩ : ∃ q, nn = q + 1 := ⟨nn - 1, by omega⟩
    have hi : i = 4 + wd := by omega
    rw [tk_a (by omega)] at h
    refine ⟨v, m, ?_, h, rfl, sv_r v, sm_r m⟩
    show (if (4 + nI wd) ≤ nI i then k15 (v, m, nI i) else _) = _
    rw [show (4 : Int32) + nI wd = nI (4 + wd) from nI_add 4 _, if_pos (le_l _ (by omega) (by omega)), hi]
  | succ d ih =>
    intro i nn v m hd hnn h
    obtain ⟨nn, rfl⟩ : ∃ q, nn = q + 1 := ⟨nn - 1, by omega⟩
    have hlt : (B.take i).length = i := by rw [List.length_take]; omega
    have hb : B.getD i 0 < 2 := Bt_getD i hBB
    obtain ⟨tB, tL⟩ := tx_Bt hla2 (Bt_take i hBB)
    have tlen := tx_len la (B.take i)
    rw [hlt] at tlen
    have hlast := tx_last hr0 hla (B.take i)
    have hnx : tx la (B.take (i + 1)) = tx la (B.take i) ++ (if i % 4 = 0 then [1 - (txs la (B.take i)).2.1] else []) ++ [B.getD i 0] := by rw [tk_s (by omega), tx_s1, hlt]
    generalize hX : tx la (B.take i) = X at h tlen hlast hnx
    have hXl : (r ++ X).length = r.length + X.length := List.length_append
    have hsl : (s ++ List.replicate X.length 0).length = (r ++ X).length := by rw [List.length_append, List.length_append, List.length_replicate, hs]
    have unf : L_X8_writeTail_30 (nI wd) (nI su) (nI cn) k15 (nn + 1) v m (nI i) = if (4 + nI wd) ≤ nI i then k15 (v, m, nI i) else jn (α := (Nat → Int32) × (Nat → Nat → Int32)) (fun ⟨x17, x18⟩ => lt (α := Int32) (if 4 ≤ nI i then ((nI su >>> (((nI wd + 3) - nI i) &&& 31)) &&& 1) else ((nI cn >>> ((3 - nI i) &&& 31)) &&& 1)) (fun x21 => bd (f_X8_put x17 x18 x21 0) (fun ⟨u25, u26⟩ => L_X8_writeTail_30 (nI wd) (nI su) (nI cn) k15 nn u25 u26 (nI i + 1)))) (fun k19 => if (nI i - nI i / 4 * 4) = 0 then gd (vp_in ((v 37) - 1) 1200) (bd (f_X8_put v m (1 - ((m 27) (((v 37) - 1).toNatClampNeg))) 0) (fun ⟨u29, u30⟩ => k19 (u29, u30))) else k19 (v, m)) := rfl
    rw [unf, show (4 : Int32) + nI wd = nI (4 + wd) from nI_add 4 _, if_neg (nle_l _ (by omega) (by omega)), jnE, show nI i - nI i / 4 * 4 = nI (i % 4) from n_mod (b := 4) (by omega) (by decide), hbit i (by omega), show nI i + 1 = nI (i + 1) from nI_add _ 1]
    by_cases h4 : i % 4 = 0
    · rw [if_pos (show nI (i % 4) = 0 by rw [h4]; rfl), h.2.2.1, show nI (r ++ X).length - 1 = nI ((r ++ X).length - 1) from n_sub (b := 1) (by omega), gdT _ (in_nI (by omega) (by decide)), nI_clamp (by omega), h.2.2.2.1 _ (by omega), hlast, show (1 : Int32) - nI (txs la (B.take i)).2.1 = nI (1 - (txs la (B.take i)).2.1) from n_sub (a := 1) (by omega)]
      obtain ⟨v1, m1, a1, a2, a3, a4, a5⟩ := m_putI (b := 1 - (txs la (B.take i)).2.1) (q := 0) h (by omega) hsl (by omega) (by decide)
      obtain ⟨v2, m2, b1, b2, b3, b4, b5⟩ := m_putI (b := B.getD i 0) (q := 0) a2 (by rw [len_s]; omega) (by rw [len_s, len_s, hsl]) hb (by decide)
      rw [show (0 : Int32) = nI 0 from rfl, a1, bdS]
      dsimp only
      rw [ltE, b1, bdS]
      dsimp only
      rw [if_pos h4] at hnx
      obtain ⟨v3, m3, t1, t2, t3, t4, t5⟩ := ih (i + 1) nn v2 m2 (by omega) (by omega) (by
        rw [hnx]
        have e1 : r ++ (X ++ [1 - (txs la (B.take i)).2.1] ++ [B.getD i 0]) = r ++ X ++ [1 - (txs la (B.take i)).2.1] ++ [B.getD i 0] := by simp only [List.append_assoc]
        have e2 : s ++ List.replicate (X ++ [1 - (txs la (B.take i)).2.1] ++ [B.getD i 0]).length 0 = s ++ List.replicate X.length 0 ++ [0] ++ [0] := by rw [len_s, len_s, List.replicate_succ', List.replicate_succ']; simp only [List.append_assoc]
        rw [e1, e2]
        exact b2)
      exact ⟨v3, m3, t1, t2, by rw [t3, b3, a3], sv_t a4 (sv_t b4 t4), sm_t a5 (sm_t b5 t5)⟩
    · rw [if_neg (show ¬ nI (i % 4) = 0 from ne_l 0 h4 (by omega) (by decide))]
      dsimp only
      obtain ⟨v2, m2, b1, b2, b3, b4, b5⟩ := m_putI (b := B.getD i 0) (q := 0) h (by omega) hsl hb (by decide)
      rw [ltE, show (0 : Int32) = nI 0 from rfl, b1, bdS]
      dsimp only
      rw [if_neg h4, List.append_nil] at hnx
      obtain ⟨v3, m3, t1, t2, t3, t4, t5⟩ := ih (i + 1) nn v2 m2 (by omega) (by omega) (by
        rw [hnx]
        have e1 : r ++ (X ++ [B.getD i 0]) = r ++ X ++ [B.getD i 0] := by simp only [List.append_assoc]
        have e2 : s ++ List.replicate (X ++ [B.getD i 0]).length 0 = s ++ List.replicate X.length 0 ++ [0] := by rw [len_s, List.replicate_succ']; simp only [List.append_assoc]
        rw [e1, e2]
        exact b2)
      exact ⟨v3, m3, t1, t2, by rw [t3, b3], sv_t b4 t4, sm_t b5 t5⟩
theorem m_ones {Q r s l : List Nat} (hrl : r.length ≤ 723) (hs : s.length = r.length) {k86 : (Nat → Int32) × (Nat → Nat → Int32) × Int32 → Option ((Nat → Int32) × (Nat → Nat → Int32))} :
    ∀ d i nn v m, d + i = 10 → d < nn → MI v m Q (r ++ List.replicate i 1) (s ++ List.replicate i 0) l → ∃ v' m', L_X8_write_292 k86 nn v m (nI i) = k86 (v', m', nI 10) ∧ MI v' m' Q (r ++ List.replicate 10 1) (s ++ List.replicate 10 0) l ∧ v' 38 = v 38 ∧ sv v v' ∧ sm m m' := by
  intro d
  induction d with
  | zero =>
    intro i nn v m hd hnn h
    obtain ⟨nn, rfl⟩ : ∃ q, nn = q + 1 := ⟨nn - 1, by omega⟩
    have hi : i = 10 := by omega
    subst hi
    refine ⟨v, m, ?_, h, rfl, sv_r v, sm_r m⟩
    show (if (10 : Int32) ≤ nI 10 then k86 (v, m, nI 10) else _) = _
    rw [if_pos (by decide)]
  | succ d ih =>
    intro i nn v m hd hnn h
    obtain ⟨nn, rfl⟩ : ∃ q, nn = q + 1 := ⟨nn - 1, by omega⟩
    have hl : (r ++ List.replicate i 1).length = r.length + i := by rw [List.length_append, List.length_replicate]
    obtain ⟨v1, m1, a1, a2, a3, a4, a5⟩ := m_putI (b := 1) (q := 0) h (by omega) (by rw [List.length_append, List.length_append, List.length_replicate, List.length_replicate, hs]) (by decide) (by decide)
    obtain ⟨v3, m3, t1, t2, t3, t4, t5⟩ := ih (i + 1) nn v1 m1 (by omega) (by omega) (by
      rw [List.replicate_succ', List.replicate_succ', ← List.append_assoc, ← List.append_assoc]
      exact a2)
    refine ⟨v3, m3, ?_, t2, by rw [t3, a3], sv_t a4 t4, sm_t a5 t5⟩
    show (if (10 : Int32) ≤ nI i then _ else bd (f_X8_put v m (nI 1) (nI 0)) (fun ⟨u88, u89⟩ => L_X8_write_292 k86 nn u88 u89 (nI i + 1))) = _
    rw [if_neg (show ¬ (10 : Int32) ≤ nI i from nle_l (a := 10) i (by omega) (by decide)), a1, bdS]
    dsimp only
    rw [show nI i + 1 = nI (i + 1) from nI_add _ 1]
    exact t1
/-! the flags of the arbitration -/
def FA : WS → Prop
  | (r, s, f, _, _, _) => s.length = r.length ∧ f.length = r.length ∧ ∀ i, i < r.length → f.getD i 0 + s.getD i 0 = 1
def FB (ab : Nat) : WS → Prop
  | (r, s, f, _, _, _) => s.length = r.length ∧ f.length = r.length ∧ ab ≤ r.length ∧ ∀ i, i < r.length → (f.getD i 0 = 1 ↔ (s.getD i 0 = 0 ∧ i < ab))
theorem FA_ws {W : WS} (h : FA W) : FA (ws W) := by
  obtain ⟨r, s, f, la, ru, sb⟩ := W
  rw [ws_q]
  obtain ⟨h1, h2, h3⟩ := h
  by_cases h5 : ru = 5
  · rw [if_pos h5]
    refine ⟨by rw [len_s, len_s, h1], by rw [len_s, len_s, h2], fun i hi => ?_⟩
    rw [len_s] at hi
    by_cases hir : i = r.length
    · rw [gD_e (by omega), gD_e (by omega)]
    · rw [gD_l (by omega), gD_l (by omega)]; exact h3 i (by omega)
  · rw [if_neg h5]; exact ⟨h1, h2, h3⟩
theorem FA_wq {W : WS} {b : Nat} (h : FA W) : FA (wq W b 1) := by
  obtain ⟨r, s, f, la, ru, sb⟩ := W
  rw [wq_q]
  obtain ⟨h1, h2, h3⟩ := h
  refine ⟨by rw [len_s, len_s, h1], by rw [len_s, len_s, h2], fun i hi => ?_⟩
  rw [len_s] at hi
  by_cases hir : i = r.length
  · rw [gD_e (by omega), gD_e (by omega)]
  · rw [gD_l (by omega), gD_l (by omega)]; exact h3 i (by omega)
theorem FB_ws {ab : Nat} {W : WS} (h : FB ab W) : FB ab (ws W) := by
  obtain ⟨r, s, f, la, ru, sb⟩ := W
  rw [ws_q]
  obtain ⟨h1, h2, h0, h3⟩ := h
  by_cases h5 : ru = 5
  · rw [if_pos h5]
    refine ⟨by rw [len_s, len_s, h1], by rw [len_s, len_s, h2], by rw [len_s]; omega, fun i hi => ?_⟩
    rw [len_s] at hi
    by_cases hir : i = r.length
    · rw [gD_e (by omega), gD_e (by omega)]; omega
    · rw [gD_l (by omega), gD_l (by omega)]; exact h3 i (by omega)
  · rw [if_neg h5]; exact ⟨h1, h2, h0, h3⟩
theorem FB_wq {ab : Nat} {W : WS} {b : Nat} (h : FB ab W) : FB ab (wq W b 0) := by
  obtain ⟨r, s, f, la, ru, sb⟩ := W
  rw [wq_q]
  obtain ⟨h1, h2, h0, h3⟩ := h
  refine ⟨by rw [len_s, len_s, h1], by rw [len_s, len_s, h2], by rw [len_s]; omega, fun i hi => ?_⟩
  rw [len_s] at hi
  by_cases hir : i = r.length
  · rw [gD_e (by omega), gD_e (by omega)]; omega
  · rw [gD_l (by omega), gD_l (by omega)]; exact h3 i (by omega)
theorem FA_wr (ar : Nat) (P : List Nat) : P.length ≤ ar + 1 → FA (wr ar P) := by
  refine sn_ind (p := fun P => P.length ≤ ar + 1 → FA (wr ar P)) (fun _ => ⟨rfl, rfl, fun i h => absurd h (Nat.not_lt_zero i)⟩) ?_ P
  intro l b ih hl
  rw [len_s] at hl
  rw [wr_s, if_pos (by omega)]
  exact FA_wq (FA_ws (ih (by omega)))
theorem FB_wr {ar : Nat} {Q : List Nat} (hQ : ar + 1 ≤ Q.length) : FB (abp ar Q) (wr ar Q) := by
  have hl : (Q.take (ar + 1)).length = ar + 1 := by rw [List.length_take]; omega
  have key : ∀ X : List Nat, FB (abp ar Q) (wr ar (Q.take (ar + 1) ++ X)) := by
    refine sn_ind ?_ ?_
    · rw [List.append_nil]
      have h := FA_wr ar (Q.take (ar + 1)) (by omega)
      unfold abp
      generalize wr ar (Q.take (ar + 1)) = W at h
      obtain ⟨r, s, f, la, ru, sb⟩ := W
      obtain ⟨h1, h2, h3⟩ := h
      refine ⟨h1, h2, Nat.le_refl _, fun i hi => ?_⟩
      have := h3 i hi
      have hi' : i < r.length := hi
      show f.getD i 0 = 1 ↔ s.getD i 0 = 0 ∧ i < r.length
      omega
    · intro l b ih
      rw [← List.append_assoc, wr_s, if_neg (by rw [List.length_append]; omega)]
      exact FB_wq (FB_ws ih)
  have := key (Q.drop (ar + 1))
  rwa [List.take_append_drop] at this
