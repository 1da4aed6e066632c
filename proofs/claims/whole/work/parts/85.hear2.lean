theorem b01 {b : Nat} {d : Decidable (nI b = nI 1)} (hb : b < 2) : @ite _ (nI b = nI 1) d (nI 1) (nI 0) = nI b := by
  have : b = 0 ∨ b = 1 := by omega
  rcases this with rfl | rfl
  · exact if_neg (fun e => absurd ((nI_eq (by decide) (by decide)).mp e) (by decide))
  · exact if_pos rfl
theorem h_head {f : Nat → Int32} {P : List Nat} {b : Nat} (hP : Bt P) (hb : b < 2) (hi : ¬ aHl P ≤ P.length) (h9 : f 9 = nI (aLong P)) (h10 : f 10 = nI (aFlex P)) (h11 : f 11 = nI (hE P)) (h12 : f 12 = nI (bE P)) (h13 : f 13 = nI (pE P)) (h14 : f 14 = nI (oC P)) :
    ∃ F, f_X1_hearHead (lN (vl (P.take (hE P)))) f (nI P.length) (nI b) = some (lN (vl ((P ++ [b]).take (hE (P ++ [b])))), F) ∧ F 9 = nI (aLong (P ++ [b])) ∧ F 10 = nI (aFlex (P ++ [b])) ∧ F 11 = nI (hE (P ++ [b])) ∧ F 12 = nI (bE (P ++ [b])) ∧ F 13 = nI (pE (P ++ [b])) ∧ F 14 = nI (oC (P ++ [b])) ∧ ∀ k, (k < 9 ∨ 14 < k) → F k = f k := by
  obtain ⟨hA, hB⟩ := aHl_hd (P := P) b hi
  have hP' := Bt_snoc hP hb
  have hl41 : hE P ≤ 41 := by unfold hE; have := aHl_le P; split <;> omega
  have hl41' : hE (P ++ [b]) ≤ 41 := by unfold hE; have := aHl_le (P ++ [b]); split <;> omega
  have hat := aAt_le (P ++ [b])
  have hat5 := aHl_at (P ++ [b])
  have hAt : aAt (P ++ [b]) = if aLong (P ++ [b]) = 0 then 14 else 33 := rfl
  have hlb : aLong (P ++ [b]) < 2 := Bt_getD _ hP'
  have hfb : aFlex (P ++ [b]) < 2 := Bt_getD _ hP'
  rw [tk_a (Nat.le_of_lt hA), tk_a (show (P ++ [b]).length ≤ hE (P ++ [b]) by rw [len_s]; exact hB)]
  have hv : vl P < 2 ^ 62 := Nat.lt_of_lt_of_le (vl_lt hP) (Nat.pow_le_pow_right (by decide) (by omega))
  have hin := l_in (b := b) hb hv
  have hbE : bE P = 1000000 := kn_n hi
  have hpE : pE P = 1000000 := kn_n hi
  have hoC : oC P = 0 := kn_n hi
  have hx31 : ∀ d, @ite _ (nI (aLong (P ++ [b])) = nI 0) d (nI 14) (nI 33) = nI (aAt (P ++ [b])) := by
    intro d
    simp (disch := omega) only [li, nI_add, nI_leI, nI_ltI, nI_eq, n_m1, n_mod, n_in, nI_clamp, ltE, jnE, bdS, reduceIte, reduceCtorEq, Nat.reduceAdd, Nat.reduceMul, Nat.reduceSub, Nat.reduceEqDiff, Nat.reduceLeDiff, Nat.reduceLT, Nat.reduceMod, Nat.reduceDiv, not_true_eq_false, not_false_eq_true, and_true, true_and, and_false, false_and, or_true, true_or, or_false, false_or]
    rw [hAt]
    split <;> rfl
  unfold f_X1_hearHead
  by_cases h1 : P.length = 13
  · -- the bit that tells long
    have el := aLong_e (P := P) b h1
    have hne : P.length ≠ aAt (P ++ [b]) := by omega
    have ef := aFlex_s (P := P) b hne
    have eh := hE_s (P := P) b hne
    have hh : hE P = 41 := by unfold hE; rw [if_pos (by have := aAt_le P; omega)]
    have hn : ¬ aHl (P ++ [b]) ≤ (P ++ [b]).length := by rw [len_s]; omega
    have hbE' : bE (P ++ [b]) = 1000000 := kn_n hn
    have hpE' : pE (P ++ [b]) = 1000000 := kn_n hn
    have hoC' : oC (P ++ [b]) = 0 := kn_n hn
    refine ⟨upd f 9 (nI b), ?_, by simp [upd, el], by simp [upd, h10, ef], by simp [upd, h11, eh], by simp [upd, h12, hbE, hbE'], by simp [upd, h13, hpE, hpE'], by simp [upd, h14, hoC, hoC'], ?_⟩
    · have e1 : (upd f 9 (nI b)) 9 = nI b := by simp [upd]
      have e2 : (upd f 9 (nI b)) 11 = nI 41 := by simp [upd, h11, hh]
      have e3 : nI 41 - nI 1 = nI 40 := by decide
      have hc : ¬ P.length = (if b = 0 then 14 else 33) := by split <;> omega
      have e4 : ∀ d, @ite _ (nI b = nI 0) d (nI 14) (nI 33) = nI (if b = 0 then 14 else 33) := by intro d; simp (disch := omega) only [li, nI_add, nI_leI, nI_ltI, nI_eq, n_m1, n_mod, n_in, nI_clamp, ltE, jnE, bdS, reduceIte, reduceCtorEq, Nat.reduceAdd, Nat.reduceMul, Nat.reduceSub, Nat.reduceEqDiff, Nat.reduceLeDiff, Nat.reduceLT, Nat.reduceMod, Nat.reduceDiv, not_true_eq_false, not_false_eq_true, and_true, true_and, and_false, false_and, or_true, true_or, or_false, false_or]; split <;> rfl
      have hc2 : (if b = 0 then 14 else 33) < 100 := by split <;> omega
      simp only [ltE, jnE, li, b01 hb, hin]
      rw [← vl_snoc]
      rw [if_pos (by rw [h1])]
      rw [e1, e2, e3, e4]
      rw [if_neg (by rw [nI_eq (by omega) (by omega)]; exact hc), if_neg (by rw [nI_eq (by omega) (by omega)]; omega)]
    · intro k hk
      simp only [upd]
      rw [if_neg (by omega)]
  · have el := aLong_s (P := P) b h1
    rw [← el] at h9
    by_cases h2 : P.length = aAt (P ++ [b])
    · -- the bit that tells flexible
      have ef := aFlex_e (P := P) b h2
      have eh := hE_e (P := P) b h2
      have hn : ¬ aHl (P ++ [b]) ≤ (P ++ [b]).length := by rw [len_s]; omega
      have hbE' : bE (P ++ [b]) = 1000000 := kn_n hn
      have hpE' : pE (P ++ [b]) = 1000000 := kn_n hn
      have hoC' : oC (P ++ [b]) = 0 := kn_n hn
      refine ⟨upd (upd f 10 (nI b)) 11 (nI (aHl (P ++ [b]))), ?_, by simp [upd, h9], by simp [upd, ef], by simp [upd, eh], by simp [upd, h12, hbE, hbE'], by simp [upd, h13, hpE, hpE'], by simp [upd, h14, hoC, hoC'], ?_⟩
      · have e2 : (upd (upd f 10 (nI b)) 11 (nI (aHl (P ++ [b])))) 11 = nI (aHl (P ++ [b])) := by simp [upd]
        have e3 : nI (aHl (P ++ [b])) - nI 1 = nI (aHl (P ++ [b]) - 1) := n_sub (by omega)
        have e4 : f_X7_headLength (nI (aLong (P ++ [b]))) (nI b) = some (nI (aHl (P ++ [b]))) := by
          rw [c_headLength _ hlb _ hb]
          unfold aHl
          rw [ef]
        simp only [ltE, jnE, li, b01 hb, hin]
        rw [← vl_snoc]
        rw [if_neg (by rw [nI_eq (by omega) (by omega)]; exact h1), h9, hx31, if_pos (by rw [h2]), e4, bdS, e2, e3, if_neg (by rw [nI_eq (by omega) (by omega)]; omega)]
      · intro k hk
        simp only [upd]
        rw [if_neg (by omega), if_neg (by omega)]
    · have ef := aFlex_s (P := P) b h2
      have eh := hE_s (P := P) b h2
      rw [← ef] at h10
      rw [← eh] at h11
      have e3 : nI (hE (P ++ [b])) - nI 1 = nI (hE (P ++ [b]) - 1) := n_sub (by omega)
      by_cases h3 : P.length = hE (P ++ [b]) - 1
      · -- the head's last bit
        have hy : aHl (P ++ [b]) ≤ (P ++ [b]).length := by
          rw [len_s]
          unfold hE at h3
          rw [len_s] at h3
          split at h3 <;> omega
        have eh' := hE_y hy
        have e5 := h_kind (f := f) hP' hy h9 h10 h11
        have e6 := h_code hP' hy
        rw [tk_a (show (P ++ [b]).length ≤ hE (P ++ [b]) by rw [len_s]; exact hB)] at e5 e6
        have hk : aKind (P ++ [b]) < 6 := by unfold aKind; split <;> (try split) <;> omega
        have hc : aLen (P ++ [b]) < 16 := by
          unfold aLen
          have := vl_lt (Bt_sl hP' (aHl (P ++ [b]) - 4) 4)
          rw [sl_len (by omega)] at this
          exact this
        have e7 := c_octets (aKind (P ++ [b])) hk (aLen (P ++ [b])) hc
        have hoc : aOc (P ++ [b]) ≤ 64 := octs_le _ _
        refine ⟨upd (upd (upd f 14 (nI (aOc (P ++ [b])))) 12 (nI (aBe (P ++ [b])))) 13 (nI (aPe (P ++ [b]))), ?_, by simp [upd, h9], by simp [upd, h10], by simp [upd, h11], by simp [upd, bE, kn_y hy], by simp [upd, pE, kn_y hy], by simp [upd, oC, kn_y hy], ?_⟩
        · simp only [ltE, jnE, li]
          rw [hin, ← vl_snoc]
          rw [if_neg (by rw [nI_eq (by omega) (by omega)]; exact h1), h9, hx31, if_neg (by rw [nI_eq (by omega) (by omega)]; exact h2), h11, e3, if_pos (by rw [← h3]), e5, bdS, e6, bdS, e7, bdS, h10, eh']
          have e9 : nI (aHl (P ++ [b])) + nI 8 * nI (octs (aKind (P ++ [b])) (aLen (P ++ [b]))) = nI (aBe (P ++ [b])) := by rw [n_mul, nI_add]; rfl
          have e10 : ∀ d, @ite _ (nI (aFlex (P ++ [b])) = nI 0) d (nI (aBe (P ++ [b])) + nI 15) (nI (aBe (P ++ [b]))) = nI (aPe (P ++ [b])) := by
            intro d
            simp (disch := omega) only [li, nI_add, nI_leI, nI_ltI, nI_eq, n_m1, n_mod, n_in, nI_clamp, ltE, jnE, bdS, reduceIte, reduceCtorEq, Nat.reduceAdd, Nat.reduceMul, Nat.reduceSub, Nat.reduceEqDiff, Nat.reduceLeDiff, Nat.reduceLT, Nat.reduceMod, Nat.reduceDiv, not_true_eq_false, not_false_eq_true, and_true, true_and, and_false, false_and, or_true, true_or, or_false, false_or]
            unfold aPe
            split <;> rfl
          rw [e9, e10]
          rfl
        · intro k hk
          simp only [upd]
          rw [if_neg (by omega), if_neg (by omega), if_neg (by omega)]
      · have hn : ¬ aHl (P ++ [b]) ≤ (P ++ [b]).length := by
          rw [len_s]
          intro h7
          have h8 := hE_y (P := P ++ [b]) (by rw [len_s]; exact h7)
          omega
        refine ⟨f, ?_, h9, h10, h11, by rw [h12, hbE, bE, kn_n hn], by rw [h13, hpE, pE, kn_n hn], by rw [h14, hoC, oC, kn_n hn], fun _ _ => rfl⟩
        simp only [ltE, jnE, li]
        rw [hin, ← vl_snoc]
        rw [if_neg (by rw [nI_eq (by omega) (by omega)]; exact h1), h9, hx31, if_neg (by rw [nI_eq (by omega) (by omega)]; exact h2), h11, e3, if_neg (by rw [nI_eq (by omega) (by omega)]; exact h3)]
