theorem c_fix10 {u1 : Nat} (hu : u1 < 2 ^ 31) {k6 : (Nat → Int32) × (Nat → Int32) × Int32 → Option ((Nat → Int32) × (Nat → Int32) × (Nat → Int32) × (Nat → Int32) × (Nat → Int32))} :
    ∀ j nn (r : List Nat), j < nn → j < 32 → L_X6_writeFixed_10 (nI u1) k6 nn (rB (crB r)) (rC (crC r)) (nI j - 1) = k6 (rB (crB (r ++ bt u1 j)), rC (crC (r ++ bt u1 j)), -1) := by
  intro j
  induction j with
  | zero =>
    intro nn r hnn hj
    obtain ⟨nn, rfl⟩ : ∃ q, nn = q + 1 := ⟨nn - 1, by omega⟩
    show (if nI 0 - 1 < 0 then k6 (_, _, nI 0 - 1) else _) = _
    rw [if_pos (by decide)]
    show _ = k6 (rB (crB (r ++ [])), rC (crC (r ++ [])), -1)
    rw [List.append_nil]
    rfl
  | succ j ih =>
    intro nn r hnn hj
    obtain ⟨nn, rfl⟩ : ∃ q, nn = q + 1 := ⟨nn - 1, by omega⟩
    rw [show nI (j + 1) - 1 = nI j from n_sub (b := 1) (by omega)]
    show (if nI j < 0 then _ else bd (f_X4_addOther _ _ ((nI u1 >>> (nI j &&& 31)) &&& 1)) _) = _
    rw [if_neg (show ¬ nI j < 0 from nlt_l 0 (by omega) (by omega)), n_bit hu (by omega), c_addOther (Nat.mod_lt _ (by decide)), bdS]
    dsimp only
    rw [show nI j + (-1) = nI j - 1 from (Int32.sub_eq_add_neg _ _).symm, ih nn _ (by omega) (by omega), List.append_assoc]
    rfl
theorem c_fix60 {wd bits : Nat} {r f : List Nat} {la : Nat} (hbits : bits < 2 ^ 31) (hwd : wd ≤ 21) (hr : r.length ≤ 691) (hla : la < 2) (hfl : f.length = r.length) {k21 : (Nat → Int32) × (Nat → Int32) × (Nat → Int32) × Int32 → Option ((Nat → Int32) × (Nat → Int32) × (Nat → Int32) × (Nat → Int32) × (Nat → Int32))} :
    ∀ d i nn w ff fb, d + i = wd + 4 → d < nn → w 1 = nI (txs la ((bt bits (wd + 4)).take i)).2.1 → ff 2 = nI (r ++ tx la ((bt bits (wd + 4)).take i)).length → (∀ q, q < (r ++ tx la ((bt bits (wd + 4)).take i)).length → fb q = nI ((r ++ tx la ((bt bits (wd + 4)).take i)).getD q 0 + 2 * f.getD q 0)) → ∃ w' ff' fb', L_X6_writeFixed_60 (nI wd) (nI bits) k21 nn w ff fb (nI i) = k21 (w', ff', fb', nI (wd + 4)) ∧ ff' 2 = nI (r ++ tx la (bt bits (wd + 4))).length ∧ (∀ q, q < (r ++ tx la (bt bits (wd + 4))).length → fb' q = nI ((r ++ tx la (bt bits (wd + 4))).getD q 0 + 2 * f.getD q 0)) ∧ ∀ j, j ≠ 2 → ff' j = ff j := by
  have hbl := bt_len bits (wd + 4)
  have hBB := bt_Bt bits (wd + 4)
  intro d
  induction d with
  | zero =>
    intro i nn w ff fb hd hnn h1 h2 h3
    obtain ⟨nn, rfl⟩ : ∃ q, nn = q + 1 := ⟨nn - 1, by omega⟩
    have hi : i = wd + 4 := by omega
    subst hi
    rw [tk_a (by omega)] at h1 h2 h3
    refine ⟨w, ff, fb, ?_, h2, h3, fun _ _ => rfl⟩
    show (if nI wd + 4 ≤ nI (wd + 4) then _ else _) = _
    rw [show nI wd + 4 = nI (wd + 4) from nI_add _ 4, if_pos (le_l _ (Nat.le_refl _) (by omega))]
  | succ d ih =>
    intro i nn w ff fb hd hnn h1 h2 h3
    obtain ⟨nn, rfl⟩ : ∃ q, nn = q + 1 := ⟨nn - 1, by omega⟩
    have hil : i < (bt bits (wd + 4)).length := by omega
    have hb : (bt bits (wd + 4)).getD i 0 < 2 := Bt_getD i hBB
    have hlt : ((bt bits (wd + 4)).take i).length = i := by rw [List.length_take]; omega
    obtain ⟨tB, tL⟩ := tx_Bt hla (Bt_take i hBB)
    have tlen := tx_len la ((bt bits (wd + 4)).take i)
    rw [hlt] at tlen
    have es := txs_s la ((bt bits (wd + 4)).take i) ((bt bits (wd + 4)).getD i 0)
    rw [txs_n, hlt, ← tk_s hil] at es
    have ebit : (nI bits >>> ((nI wd + 3 - nI i) &&& 31)) &&& 1 = nI ((bt bits (wd + 4)).getD i 0) := by
      rw [show nI wd + 3 = nI (wd + 3) from nI_add _ 3, n_sub (by omega), n_bit hbits (by omega), bt_getD (by omega), show wd + 4 - 1 - i = wd + 3 - i by omega]
    generalize hR : r ++ tx la ((bt bits (wd + 4)).take i) = Rw at h2 h3
    have hRl : Rw.length = r.length + (i + (i + 3) / 4) := by rw [← hR, List.length_append, tlen]
    -- one cell more, its flag 0
    have put : ∀ (X : List Nat) (gf gb : Nat → Int32) (x : Nat), r.length ≤ X.length → X.length < 733 → x < 2 → gf 2 = nI X.length → (∀ q, q < X.length → gb q = nI (X.getD q 0 + 2 * f.getD q 0)) → f_X0_append gf gb (nI x) 0 = some (upd gf 2 (nI (X ++ [x]).length), upd gb X.length (nI x)) ∧ ∀ q, q < (X ++ [x]).length → (upd gb X.length (nI x)) q = nI ((X ++ [x]).getD q 0 + 2 * f.getD q 0) := by
      intro X gf gb x hX1 hX2 hx g2 g3
      have hf0 : f.getD X.length 0 = 0 := gD_o (by omega)
      refine ⟨?_, ?_⟩
      · have := c_app (ff := gf) (fb := gb) (q := 0) g2 hX2 hx (by decide)
        rw [len_s]
        exact this
      · intro q hq
        rw [len_s] at hq
        by_cases hqq : q = X.length
        · rw [hqq, up_s, gD_e rfl, hf0, Nat.mul_zero, Nat.add_zero]
        · rw [up_n _ _ hqq, g3 q (by omega), gD_l (by omega)]
    have hq : L_X6_writeFixed_60 (nI wd) (nI bits) k21 (nn + 1) w ff fb (nI i) = if nI wd + 4 ≤ nI i then k21 (w, ff, fb, nI i) else jn (α := (Nat → Int32) × (Nat → Int32)) (fun ⟨x23, x24⟩ => lt (α := Int32) ((nI bits >>> (((nI wd + 3) - nI i) &&& 31)) &&& 1) (fun v27 => bd (f_X0_append x23 x24 v27 0) (fun ⟨u28, u29⟩ => L_X6_writeFixed_60 (nI wd) (nI bits) k21 nn (upd w 1 v27) u28 u29 (nI i + 1)))) (fun k25 => if (nI i - nI i / 4 * 4) = 0 then bd (f_X0_append ff fb (1 - (w 1)) 0) (fun ⟨u31, u32⟩ => k25 (u31, u32)) else k25 (ff, fb)) := rfl
    rw [hq, show nI wd + 4 = nI (wd + 4) from nI_add _ 4, if_neg (nle_l _ (by omega) (by omega)), jnE, show nI i - nI i / 4 * 4 = nI (i % 4) from n_mod (b := 4) (by omega) (by decide), show nI i + 1 = nI (i + 1) from nI_add _ 1, ebit]
    by_cases h4 : i % 4 = 0
    · rw [if_pos (show nI (i % 4) = 0 by rw [h4]; rfl), h1, show (1 : Int32) - nI (txs la ((bt bits (wd + 4)).take i)).2.1 = nI (1 - (txs la ((bt bits (wd + 4)).take i)).2.1) from n_sub (a := 1) (by omega)]
      obtain ⟨p1, p2⟩ := put Rw ff fb (1 - (txs la ((bt bits (wd + 4)).take i)).2.1) (by omega) (by omega) (by omega) h2 h3
      rw [p1, bdS]
      dsimp only
      obtain ⟨p3, p4⟩ := put (Rw ++ [1 - (txs la ((bt bits (wd + 4)).take i)).2.1]) (upd ff 2 (nI (Rw ++ [1 - (txs la ((bt bits (wd + 4)).take i)).2.1]).length)) (upd fb Rw.length (nI (1 - (txs la ((bt bits (wd + 4)).take i)).2.1))) ((bt bits (wd + 4)).getD i 0) (by rw [len_s]; omega) (by rw [len_s]; omega) hb (up_s _ _ _) p2
      rw [ltE, p3, bdS]
      dsimp only
      rw [if_pos h4] at es
      have ert : r ++ tx la ((bt bits (wd + 4)).take (i + 1)) = Rw ++ [1 - (txs la ((bt bits (wd + 4)).take i)).2.1] ++ [(bt bits (wd + 4)).getD i 0] := by
        unfold tx at hR ⊢
        rw [es, ← hR]
        simp only [List.append_assoc]
      obtain ⟨w', ff', fb', t1, t2, t3, t4⟩ := ih (i + 1) nn (upd w 1 (nI ((bt bits (wd + 4)).getD i 0))) (upd (upd ff 2 (nI (Rw ++ [1 - (txs la ((bt bits (wd + 4)).take i)).2.1]).length)) 2 (nI (Rw ++ [1 - (txs la ((bt bits (wd + 4)).take i)).2.1] ++ [(bt bits (wd + 4)).getD i 0]).length)) (upd (upd fb Rw.length (nI (1 - (txs la ((bt bits (wd + 4)).take i)).2.1))) (Rw ++ [1 - (txs la ((bt bits (wd + 4)).take i)).2.1]).length (nI ((bt bits (wd + 4)).getD i 0))) (by omega) (by omega) (by rw [up_s, es]) (by rw [ert]; exact up_s _ _ _) (by rw [ert]; exact p4)
      refine ⟨w', ff', fb', t1, t2, t3, ?_⟩
      intro j hj
      rw [t4 j hj, up_n _ _ hj, up_n _ _ hj]
    · rw [if_neg (show ¬ nI (i % 4) = 0 from ne_l 0 h4 (by omega) (by decide))]
      dsimp only
      obtain ⟨p3, p4⟩ := put Rw ff fb ((bt bits (wd + 4)).getD i 0) (by omega) (by omega) hb h2 h3
      rw [ltE, p3, bdS]
      dsimp only
      rw [if_neg h4, List.append_nil] at es
      have ert : r ++ tx la ((bt bits (wd + 4)).take (i + 1)) = Rw ++ [(bt bits (wd + 4)).getD i 0] := by
        unfold tx at hR ⊢
        rw [es, ← hR]
        simp only [List.append_assoc]
      obtain ⟨w', ff', fb', t1, t2, t3, t4⟩ := ih (i + 1) nn (upd w 1 (nI ((bt bits (wd + 4)).getD i 0))) (upd ff 2 (nI (Rw ++ [(bt bits (wd + 4)).getD i 0]).length)) (upd fb Rw.length (nI ((bt bits (wd + 4)).getD i 0))) (by omega) (by omega) (by rw [up_s, es]) (by rw [ert]; exact up_s _ _ _) (by rw [ert]; exact p4)
      refine ⟨w', ff', fb', t1, t2, t3, ?_⟩
      intro j hj
      rw [t4 j hj, up_n _ _ hj]
/-! the row of a frame -/
def fQ (k id c : Nat) (o : Nat → Nat) : List Nat := if isF k = 1 then plL k id c o else plL k id c o ++ bt (crA (plL k id c o)) 15
def fW (k id c : Nat) (o : Nat → Nat) : WS := if isF k = 1 then wr (arb k) (fQ k id c o) else ws (wr (arb k) (fQ k id c o))
def fC (k id c : Nat) (o : Nat → Nat) : Nat := cto (fW k id c o).2.2.2.2.2
def fS (k id c : Nat) (o : Nat → Nat) : Nat := if 16 < octs k c then crC ((fW k id c o).1 ++ bt (fC k id c o) 4) else crB ((fW k id c o).1 ++ bt (fC k id c o) 4)
def fWd (k c : Nat) : Nat := if 16 < octs k c then 21 else 17
def fT (k id c : Nat) (o : Nat → Nat) : List Nat := if isF k = 1 then tx (fW k id c o).2.2.2.1 (bt (fC k id c o) 4 ++ bt (fS k id c o) (fWd k c)) else []
def rowL (k id c : Nat) (o : Nat → Nat) : List Nat := (fW k id c o).1 ++ fT k id c o ++ List.replicate 10 1
def flgL (k id c : Nat) (o : Nat → Nat) : List Nat := (fW k id c o).2.2.1
theorem fS_lt (k id c : Nat) (o : Nat → Nat) : fS k id c o < 2 ^ fWd k c := by
  unfold fS fWd
  by_cases h : 16 < octs k c
  · rw [if_pos h, if_pos h]; exact crC_lt _
  · rw [if_neg h, if_neg h]; exact crB_lt _
theorem fQ_len {k : Nat} (id c : Nat) (o : Nat → Nat) : (fQ k id c o).length ≤ 553 ∧ hlen (isL k) (isF k) ≤ (fQ k id c o).length := by
  have h1 := hlen_le (l := isL k) (f := isF k)
  have h2 := octs_le k c
  unfold fQ
  by_cases hf : isF k = 1
  · rw [if_pos hf, plL_len]; omega
  · rw [if_neg hf, List.length_append, plL_len, bt_len]
    have h3 : octs k c ≤ 8 := octs_le8 c (by intro h; apply hf; unfold isF; rw [if_pos h])
    omega
theorem fQ_Bt (k id c : Nat) (o : Nat → Nat) : Bt (fQ k id c o) := by
  unfold fQ
  split
  · exact plL_Bt _ _ _ _
  · exact Bt_app (plL_Bt _ _ _ _) (bt_Bt _ _)
theorem fW_ok (k id c : Nat) (o : Nat → Nat) : wOk (fQ k id c o).length (fW k id c o) := by
  unfold fW
  split
  · exact wr_ok _ (fQ_Bt _ _ _ _)
  · exact wOk_ws (wr_ok _ (fQ_Bt _ _ _ _))
theorem c_ones {r f : List Nat} (hr : r.length ≤ 723) (hfl : f.length ≤ r.length) :
    ∀ d i nn ff fb, d + i = 10 → d < nn → ff 2 = nI (r ++ List.replicate i 1).length → (∀ q, q < (r ++ List.replicate i 1).length → fb q = nI ((r ++ List.replicate i 1).getD q 0 + 2 * f.getD q 0)) → ∃ ff' fb', (∀ (k71 : (Nat → Int32) × (Nat → Int32) × Int32 → Option ((Nat → Int32) × (Nat → Int32) × (Nat → Int32) × (Nat → Int32) × (Nat → Int32) × (Nat → Int32))), L_X6_write_171 k71 nn ff fb (nI i) = k71 (ff', fb', nI 10)) ∧ ff' 2 = nI (r ++ List.replicate 10 1).length ∧ (∀ q, q < (r ++ List.replicate 10 1).length → fb' q = nI ((r ++ List.replicate 10 1).getD q 0 + 2 * f.getD q 0)) ∧ ∀ j, j ≠ 2 → ff' j = ff j := by
  intro d
  induction d with
  | zero =>
    intro i nn ff fb hd hnn h2 h3
    obtain ⟨nn, rfl⟩ : ∃ q, nn = q + 1 := ⟨nn - 1, by omega⟩
    have hi : i = 10 := by omega
    subst hi
    refine ⟨ff, fb, ?_, h2, h3, fun _ _ => rfl⟩
    intro k71
    show (if (10 : Int32) ≤ nI 10 then _ else _) = _
    rw [if_pos (by decide)]
  | succ d ih =>
    intro i nn ff fb hd hnn h2 h3
    obtain ⟨nn, rfl⟩ : ∃ q, nn = q + 1 := ⟨nn - 1, by omega⟩
    have hl : (r ++ List.replicate i 1).length = r.length + i := by rw [List.length_append, List.length_replicate]
    have er : r ++ List.replicate (i + 1) 1 = (r ++ List.replicate i 1) ++ [1] := by rw [List.append_assoc, ← List.replicate_succ']
    have e1 := c_app (ff := ff) (fb := fb) (b := 1) (q := 0) h2 (by omega) (by decide) (by decide)
    obtain ⟨ff', fb', t1, t2, t3, t4⟩ := ih (i + 1) nn (upd ff 2 (nI ((r ++ List.replicate i 1).length + 1))) (upd fb (r ++ List.replicate i 1).length (nI 1)) (by omega) (by omega) (by rw [up_s, er, len_s]) (by
      intro q hq
      rw [er, len_s] at hq
      rw [er]
      by_cases hqq : q = (r ++ List.replicate i 1).length
      · rw [hqq, up_s, gD_e rfl, gD_o (by omega)]
      · rw [up_n _ _ hqq, h3 q (by omega), gD_l (a := r ++ List.replicate i 1) (b := [1]) (by omega)])
    refine ⟨ff', fb', ?_, t2, t3, fun j hj => by rw [t4 j hj, up_n _ _ hj]⟩
    intro k71
    show (if (10 : Int32) ≤ nI i then _ else bd (f_X0_append ff fb (nI 1) (nI 0)) _) = _
    rw [if_neg (show ¬ (10 : Int32) ≤ nI i from nle_l (a := 10) i (by omega) (by decide)), e1, bdS]
    dsimp only
    rw [show nI i + 1 = nI (i + 1) from nI_add _ 1]
    exact t1 k71
theorem c_fixed {w b c ff fb : Nat → Int32} {k c0 : Nat} {W : WS} {n : Nat} (hW : wOk n W) (hn : n ≤ 553) (h : CW w b c ff fb W) (h7 : ff 7 = nI (octs k c0)) :
    ∃ w' b' c' ff' fb', f_X6_writeFixed w b c ff fb = some (w', rB (crB b'), rC (crC c'), ff', fb') ∧ ff' 2 = nI (W.1 ++ tx W.2.2.2.1 (bt (cto W.2.2.2.2.2) 4 ++ bt (if 16 < octs k c0 then crC (W.1 ++ bt (cto W.2.2.2.2.2) 4) else crB (W.1 ++ bt (cto W.2.2.2.2.2) 4)) (fWd k c0))).length ∧ (∀ q, q < (W.1 ++ tx W.2.2.2.1 (bt (cto W.2.2.2.2.2) 4 ++ bt (if 16 < octs k c0 then crC (W.1 ++ bt (cto W.2.2.2.2.2) 4) else crB (W.1 ++ bt (cto W.2.2.2.2.2) 4)) (fWd k c0))).length → fb' q = nI ((W.1 ++ tx W.2.2.2.1 (bt (cto W.2.2.2.2.2) 4 ++ bt (if 16 < octs k c0 then crC (W.1 ++ bt (cto W.2.2.2.2.2) 4) else crB (W.1 ++ bt (cto W.2.2.2.2.2) 4)) (fWd k c0))).getD q 0 + 2 * W.2.2.1.getD q 0)) ∧ ∀ j, j ≠ 2 → ff' j = ff j := by
  obtain ⟨r, s, f, la, ru, sb⟩ := W
  obtain ⟨o1, o2, o3, o4, o6, o7, o8, o9, o10, o11, o12, o13, o14, o15⟩ := hW
  obtain ⟨c1, c2, c3, c4, c5, c6, c7⟩ := h
  have hct := cto_lt sb
  have ho := octs_le k c0
  unfold f_X6_writeFixed
  rw [c3, c_count, bdS, jnE, c6, c7]
  have e10 := fun k6 => c_fix10 (u1 := cto sb) (k6 := k6) (by omega) 4 fu r (fu_big (by decide)) (by decide)
  rw [show (3 : Int32) = nI 4 - 1 from rfl, e10]
  dsimp only
  rw [h7, c_width (by omega), bdS, c_ofFlex (by omega), bdS, ltE]
  generalize hS : (if 16 < octs k c0 then crC (r ++ bt (cto sb) 4) else crB (r ++ bt (cto sb) 4)) = S
  have hSlt : S < 2 ^ fWd k c0 := by
    rw [← hS]
    unfold fWd
    by_cases h : 16 < octs k c0
    · rw [if_pos h, if_pos h]; exact crC_lt _
    · rw [if_neg h, if_neg h]; exact crB_lt _
  have hwd : fWd k c0 = (if 16 < octs k c0 then 21 else 17) := rfl
  have hwd2 : fWd k c0 = 21 ∨ fWd k c0 = 17 := by unfold fWd; split <;> omega
  rw [← hwd]
  have hp21 : 2 ^ fWd k c0 ≤ 2 ^ 21 := Nat.pow_le_pow_right (by decide) (by omega)
  have hmul : cto sb * 2 ^ fWd k c0 ≤ 15 * 2 ^ 21 := Nat.mul_le_mul (by omega) hp21
  rw [n_shl _ (by omega), n_orS hSlt, jnE]
  have ebt : bt (cto sb * 2 ^ fWd k c0 + S) (fWd k c0 + 4) = bt (cto sb) 4 ++ bt S (fWd k c0) := by rw [Nat.add_comm (fWd k c0) 4]; exact bt_app hSlt 4
  have hrl : r.length ≤ 691 := by omega
  obtain ⟨w', ff', fb', t1, t2, t3, t4⟩ := c_fix60 (wd := fWd k c0) (bits := cto sb * 2 ^ fWd k c0 + S) (r := r) (f := f) (la := la) (k21 := fun ⟨v17, v18, v19, v20⟩ => some (v17, rB (crB (r ++ bt (cto sb) 4)), rC (crC (r ++ bt (cto sb) 4)), v18, v19)) (by omega) (by omega) hrl o7 o2 (fWd k c0 + 4) 0 fu w ff fb (by omega) (fu_big (by omega)) (by rw [List.take_zero]; exact c1) (by rw [List.take_zero]; show ff 2 = nI (r ++ []).length; rw [List.append_nil]; exact c4) (by rw [List.take_zero]; show ∀ q, q < (r ++ []).length → fb q = nI ((r ++ []).getD q 0 + 2 * f.getD q 0); rw [List.append_nil]; exact c5)
  rw [ebt] at t2 t3
  refine ⟨w', r ++ bt (cto sb) 4, r ++ bt (cto sb) 4, ff', fb', ?_, t2, t3, t4⟩
  simp only [li]
  exact t1
theorem tx_le {k id c : Nat} {o : Nat → Nat} : (fT k id c o).length ≤ 32 := by
  unfold fT
  split
  · rw [tx_len, List.length_append, bt_len, bt_len]
    unfold fWd
    split <;> omega
  · exact Nat.zero_le _
theorem fW_len (k id c : Nat) (o : Nat → Nat) : (fW k id c o).1.length ≤ 691 := by
  have h1 := fW_ok k id c o
  have h2 := (fQ_len (k := k) id c o).1
  generalize fW k id c o = W at h1
  obtain ⟨r, s, f, la, ru, sb⟩ := W
  obtain ⟨o1, o2, o3, o4, o6, o7, o8, o9, o10, o11⟩ := h1
  show r.length ≤ 691
  omega
theorem rowL_len (k id c : Nat) (o : Nat → Nat) : (rowL k id c o).length = (fW k id c o).1.length + (fT k id c o).length + 10 := by
  unfold rowL
  rw [List.length_append, List.length_append, List.length_replicate]
/-- the class's frame holds its row -/
def rowC (ff fb : Nat → Int32) (k id c : Nat) (o : Nat → Nat) : Prop := ff 2 = nI (rowL k id c o).length ∧ ∀ q, q < (rowL k id c o).length → fb q = nI ((rowL k id c o).getD q 0 + 2 * (flgL k id c o).getD q 0)
theorem c_write {w a b c ff fo fb : Nat → Int32} {k id c0 : Nat} {o : Nat → Nat} (hk : k < 6) (hg : (∃ x, a = rA x) ∧ (∃ x, b = rB x) ∧ ∃ x, c = rC x) (h5 : ff 5 = nI k) (h7 : ff 7 = nI (octs k c0)) (ho : ∀ i, i < 64 → o i < 256 ∧ fo i = nI (o i)) :
    ∃ w' a' b' c' ff' fb', f_X6_write w a b c (lN (hdN k id c0)) ff fo fb = some (w', a', b', c', ff', fb') ∧ ((∃ x, a' = rA x) ∧ (∃ x, b' = rB x) ∧ ∃ x, c' = rC x) ∧ rowC ff' fb' k id c0 o ∧ ∀ j, j ≠ 2 → ff' j = ff j := by
  obtain ⟨⟨xa, rfl⟩, ⟨xb, rfl⟩, ⟨xc, rfl⟩⟩ := hg
  have hL2 := isL_lt k
  have hF2 := isF_lt k
  have hlv := hlen_le (l := isL k) (f := isF k)
  have hoc := octs_le k c0
  unfold f_X6_write f_X6_begin
  rw [c_sumsBegin, bdS]
  dsimp only
  rw [bdS]
  dsimp only
  rw [h5, c_isLong k hk, bdS, c_isFlexible k hk, bdS, c_headLength _ hL2 _ hF2, bdS, bdS, ltE, jnE]
  have ear : (if nI (isL k) = 0 then (13 : Int32) else 32) = nI (arb k) := by
    unfold arb
    have : isL k = 0 ∨ isL k = 1 := by omega
    rcases this with h | h <;> rw [h] <;> rfl
  rw [ear]
  have hc0 : CWP (upd (upd (upd w 1 1) 2 0) 3 0) (rA (crA [])) (rB (crB [])) (rC (crC [])) (upd ff 2 0) fb (arb k) ((hdL k id c0).take 0) := by
    rw [List.take_zero]
    refine ⟨rfl, ?_⟩
    rw [wr_nil]
    exact ⟨by simp [upd]; rfl, by simp [upd]; rfl, by simp [upd]; rfl, by simp [upd]; rfl, fun q hq => absurd hq (Nat.not_lt_zero q), rfl, rfl⟩
  obtain ⟨w1, a1, b1, c1, ff1, fb1, e1, e2, e3⟩ := c_headL (k := k) (id := id) (c0 := c0) (hlen (isL k) (isF k)) 0 fu _ _ _ _ _ _ (by omega) (fu_big (by omega)) hc0
  rw [show (0 : Int32) = nI 0 from rfl] at e1 ⊢
  rw [e1]
  dsimp only
  have g7 : ff1 7 = nI (octs k c0) := by rw [e3 7 (by decide), up_n _ _ (by decide)]; exact h7
  obtain ⟨w2, a2, b2, c2, ff2, fb2, t1, t2, t3⟩ := c_octL (k := k) (id := id) (c0 := c0) (n := octs k c0) (o := o) (fo := fo) ho hoc (octs k c0) 0 fu w1 a1 b1 c1 ff1 fb1 (by omega) (fu_big (by omega)) g7 (by show CWP w1 a1 b1 c1 ff1 fb1 (arb k) (hdL k id c0 ++ []); rw [List.append_nil]; exact e2)
  rw [jnE, t1]
  dsimp only
  have g5 : ff2 5 = nI k := by rw [t3 5 (by decide), e3 5 (by decide), up_n _ _ (by decide)]; exact h5
  have g72 : ff2 7 = nI (octs k c0) := by rw [t3 7 (by decide)]; exact g7
  have hQ : hdL k id c0 ++ ocL o (octs k c0) = plL k id c0 o := rfl
  rw [hQ] at t2
  rw [g5, c_isFlexible k hk, bdS, jnE]
  have hlQ := fQ_len (k := k) id c0 o
  have har : arb k < hlen (isL k) (isF k) := by
    unfold arb hlen
    by_cases h : isL k = 1
    · rw [if_pos h, if_neg (by omega)]; split <;> omega
    · rw [if_neg h, if_pos (by omega)]; split <;> omega
  have hfo := fW_ok k id c0 o
  have hfl := fW_len k id c0 o
  have htl := tx_le (k := k) (id := id) (c := c0) (o := o)
  have hflg : (flgL k id c0 o).length = (fW k id c0 o).1.length := by
    unfold flgL
    generalize fW k id c0 o = W at hfo
    obtain ⟨r, s, f, la, ru, sb⟩ := W
    exact hfo.2.1
  -- the end of both roads: ten ones
  have fin : ∀ (w3 a3 b3 c3 ff3 fb3 : Nat → Int32), ((∃ x, a3 = rA x) ∧ (∃ x, b3 = rB x) ∧ ∃ x, c3 = rC x) → ff3 2 = nI ((fW k id c0 o).1 ++ fT k id c0 o).length → (∀ q, q < ((fW k id c0 o).1 ++ fT k id c0 o).length → fb3 q = nI (((fW k id c0 o).1 ++ fT k id c0 o).getD q 0 + 2 * (flgL k id c0 o).getD q 0)) → (∀ j, j ≠ 2 → ff3 j = ff2 j) → ∃ w' a' b' c' ff' fb', (jn (α := (Nat → Int32) × (Nat → Int32) × Int32) (fun ⟨v68, v69, v70⟩ => some (w3, a3, b3, c3, v68, v69)) (fun k71 => L_X6_write_171 k71 fu ff3 fb3 (nI 0))) = some (w', a', b', c', ff', fb') ∧ ((∃ x, a' = rA x) ∧ (∃ x, b' = rB x) ∧ ∃ x, c' = rC x) ∧ rowC ff' fb' k id c0 o ∧ ∀ j, j ≠ 2 → ff' j = ff j := by
    intro w3 a3 b3 c3 ff3 fb3 q1 q2 q3 q4
    obtain ⟨ff', fb', u1, u2, u3, u4⟩ := c_ones (r := (fW k id c0 o).1 ++ fT k id c0 o) (f := flgL k id c0 o) (by rw [List.length_append]; omega) (by rw [List.length_append]; have : (flgL k id c0 o).length = (fW k id c0 o).1.length := hflg; omega) 10 0 fu ff3 fb3 (by omega) (fu_big (by decide)) (by show ff3 2 = nI (_ ++ []).length; rw [List.append_nil]; exact q2) (by show ∀ q, q < (_ ++ []).length → fb3 q = nI ((_ ++ []).getD q 0 + _); rw [List.append_nil]; exact q3)
    rw [jnE, u1]
    refine ⟨w3, a3, b3, c3, ff', fb', rfl, q1, ⟨u2, u3⟩, fun j hj => ?_⟩
    rw [u4 j hj, q4 j hj, t3 j hj, e3 j hj, up_n _ _ hj]
  by_cases hf : isF k = 1
  · have eW : fW k id c0 o = wr (arb k) (plL k id c0 o) := by unfold fW fQ; rw [if_pos hf, if_pos hf]
    have eT : fT k id c0 o = tx (fW k id c0 o).2.2.2.1 (bt (cto (fW k id c0 o).2.2.2.2.2) 4 ++ bt (if 16 < octs k c0 then crC ((fW k id c0 o).1 ++ bt (cto (fW k id c0 o).2.2.2.2.2) 4) else crB ((fW k id c0 o).1 ++ bt (cto (fW k id c0 o).2.2.2.2.2) 4)) (fWd k c0)) := by unfold fT; rw [if_pos hf]; rfl
    obtain ⟨ha, hcw⟩ := t2
    rw [← eW] at hcw
    obtain ⟨w3, b3, c3, ff3, fb3, u1, u2, u3, u4⟩ := c_fixed (k := k) (c0 := c0) hfo hlQ.1 hcw g72
    rw [← eT] at u2 u3
    rw [if_neg (show ¬ nI (isF k) = nI 0 by rw [hf]; decide), u1, bdS]
    exact fin w3 a2 _ _ ff3 fb3 ⟨⟨_, ha⟩, ⟨_, rfl⟩, ⟨_, rfl⟩⟩ u2 u3 u4
  · have hf0 : isF k = 0 := by omega
    have eQ : fQ k id c0 o = plL k id c0 o ++ bt (crA (plL k id c0 o)) 15 := by unfold fQ; rw [if_neg hf]
    have eW : fW k id c0 o = ws (wr (arb k) (fQ k id c0 o)) := by unfold fW; rw [if_neg hf]
    have eT : fT k id c0 o = [] := by unfold fT; rw [if_neg hf]
    have hpl := plL_len k id c0 o
    have ha3 : a2 3 = nI (crA (plL k id c0 o)) := by rw [t2.1]; rfl
    have hcA := crA_lt (plL k id c0 o)
    obtain ⟨w3, a3, b3, c3, ff3, fb3, u1, u2, u3⟩ := c_num (x := crA (plL k id c0 o)) (n := 15) (by omega) (by decide) (plL_Bt k id c0 o) (by have := hlQ.1; rw [eQ, List.length_append, bt_len] at this; exact this) (by rw [hpl]; omega) t2
    rw [← eQ] at u2
    obtain ⟨w4, b4, c4, ff4, fb4, x1, x2, x3⟩ := c_ws (wr_ok (arb k) (fQ_Bt k id c0 o)) hlQ.1 u2.2
    rw [← eW] at x2
    rw [if_pos (show nI (isF k) = nI 0 by rw [hf0]), ha3, show (15 : Int32) = nI 15 from rfl, u1, bdS]
    dsimp only
    rw [x1, bdS]
    dsimp only
    have hx : ff4 2 = nI (fW k id c0 o).1.length ∧ cll fb4 (fW k id c0 o).1 (fW k id c0 o).2.2.1 ∧ (∃ x, b4 = rB x) ∧ (∃ x, c4 = rC x) := by
      generalize fW k id c0 o = W at x2
      obtain ⟨r, s, f, la, ru, sb⟩ := W
      exact ⟨x2.2.2.2.1, x2.2.2.2.2.1, ⟨_, x2.2.2.2.2.2.1⟩, ⟨_, x2.2.2.2.2.2.2⟩⟩
    refine fin w4 a3 b4 c4 ff4 fb4 ⟨⟨_, u2.1⟩, hx.2.2.1, hx.2.2.2⟩ (by rw [eT, List.append_nil]; exact hx.1) (by rw [eT, List.append_nil]; exact hx.2.1) (fun j hj => by rw [x3 j hj, u3 j hj])
