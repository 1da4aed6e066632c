/-! the class hears -/
theorem h_ident {P : List Nat} {f : Nat → Int32} (hP : Bt P) (h : aHl P ≤ P.length) (h9 : f 9 = nI (aLong P)) (h11 : f 11 = nI (hE P)) : f_X1_identifier (lN (vl (P.take (hE P)))) f = some (nI (aId P)) := by
  have hb : aLong P < 2 := Bt_getD 13 hP
  have hx := aHl_le P
  have hm := aHl_at P
  have hA : aAt P = if aLong P = 0 then 14 else 33 := rfl
  have hA' := aAt_le P
  rw [hE_y h] at h11 ⊢
  have hv : vl (P.take (aHl P)) < 2 ^ 62 := Nat.lt_of_lt_of_le (vl_lt (Bt_take _ hP)) (Nat.pow_le_pow_right (by decide) (by rw [List.length_take]; omega))
  unfold f_X1_identifier
  have e1 : (lN (vl (P.take (aHl P))) >>> ((f 11 - 12).toInt64 &&& 63)).toInt32 &&& 2047 = nI (vl (sl P 1 11)) := by
    have e0 : f 11 - 12 = nI (aHl P - 12) := by rw [h11]; exact n_sub (b := 12) (by omega)
    rw [e0]
    have := l_sub (k := aHl P - 12) (n := 11) hv (by omega) (by decide)
    rw [show aHl P - 12 = aHl P - (1 + 11) by omega] at this ⊢
    rw [vl_sl hP (by omega) h] at this
    exact this
  rw [e1]
  simp only [ltE]
  unfold aId
  by_cases hl : aLong P = 0
  · rw [if_pos hl, h9, hl, if_pos (by decide)]
  · rw [if_neg hl] at hA
    have hl1 : aLong P = 1 := by omega
    have e2 : (lN (vl (P.take (aHl P))) >>> ((f 11 - 32).toInt64 &&& 63)).toInt32 &&& 262143 = nI (vl (sl P 14 18)) := by
      have e0 : f 11 - 32 = nI (aHl P - 32) := by rw [h11]; exact n_sub (b := 32) (by omega)
      rw [e0]
      have := l_sub (k := aHl P - 32) (n := 18) hv (by omega) (by decide)
      rw [show aHl P - 32 = aHl P - (14 + 18) by omega] at this ⊢
      rw [vl_sl hP (by omega) h] at this
      exact this
    rw [if_neg hl, h9, hl1, if_neg (by decide), e2]
    have e3 : nI (vl (sl P 1 11)) <<< ((18 : Int32) &&& 31) = nI (vl (sl P 1 11) * 2 ^ 18) := n_shl _ (k := 18) (by decide)
    rw [e3, n_orS]
    have := vl_lt (Bt_sl hP 14 18)
    rw [sl_len (by omega)] at this
    exact this
theorem h_code {P : List Nat} (hP : Bt P) (h : aHl P ≤ P.length) : f_X1_code (lN (vl (P.take (hE P)))) = some (nI (aLen P)) := by
  have hm := aHl_at P
  have hA' := aAt_le P
  unfold f_X1_code
  rw [hE_y h, l_i]
  have : nI (vl (P.take (aHl P))) &&& nI (2 ^ 4 - 1) = nI (vl (P.take (aHl P)) % 2 ^ 4) := n_mask _ 4
  show some (nI (vl (P.take (aHl P))) &&& nI (2 ^ 4 - 1)) = _
  rw [this]
  have h2 := vl_sl hP (n := aHl P - 4) (k := 4) (N := aHl P) (by omega) h
  rw [show aHl P - (aHl P - 4 + 4) = 0 by omega, Nat.pow_zero, Nat.div_one] at h2
  rw [h2]
  rfl
theorem h_kind {P : List Nat} {f : Nat → Int32} (hP : Bt P) (h : aHl P ≤ P.length) (h9 : f 9 = nI (aLong P)) (h10 : f 10 = nI (aFlex P)) (h11 : f 11 = nI (hE P)) : f_X1_kind (lN (vl (P.take (hE P)))) f = some (nI (aKind P)) := by
  have hb : aLong P < 2 := Bt_getD 13 hP
  have hf : aFlex P < 2 := Bt_getD _ hP
  have hx := aHl_le P
  have hm := aHl_at P
  have hA : aAt P = if aLong P = 0 then 14 else 33 := rfl
  have hA' := aAt_le P
  rw [hE_y h] at h11 ⊢
  have hv : vl (P.take (aHl P)) < 2 ^ 62 := Nat.lt_of_lt_of_le (vl_lt (Bt_take _ hP)) (Nat.pow_le_pow_right (by decide) (by rw [List.length_take]; omega))
  have hr : aRem P < 2 := Bt_getD _ hP
  unfold f_X1_kind
  have key : ∀ r, r = (if aLong P = 0 then 12 else 32) → ((lg_cmp ((lN (vl (P.take (aHl P))) >>> ((((f 11) - 1) - nI r).toInt64 &&& 63)) &&& 1) 1 = 0) ↔ (aRem P = 1)) := by
    intro r hr'
    have hr2 : r + 2 ≤ aHl P := by by_cases hl : aLong P = 0 <;> simp only [hl, if_true, if_false] at hr' hA <;> omega
    have e0 : f 11 - 1 = nI (aHl P - 1) := by rw [h11]; exact n_sub (b := 1) (by omega)
    rw [e0, n_sub (by omega), l_shr hv (by omega), lg_cmp_eq]
    have e1 : lN (vl (P.take (aHl P)) / 2 ^ (aHl P - 1 - r)) &&& 1 = lN (vl (P.take (aHl P)) / 2 ^ (aHl P - 1 - r) % 2) := wb_a1 (Nat.lt_of_le_of_lt (Nat.div_le_self _ _) (by omega))
    have h2 := vl_sl hP (n := r) (k := 1) (N := aHl P) (by omega) h
    rw [vl_sl1 (by omega)] at h2
    rw [e1, show aHl P - 1 - r = aHl P - (r + 1) by omega]
    rw [show vl (P.take (aHl P)) / 2 ^ (aHl P - (r + 1)) % 2 = P.getD r 0 from h2]
    have e3 : aRem P = P.getD r 0 := by unfold aRem; rw [hr']
    rw [← e3]
    exact l_eq (a := aRem P) (b := 1) (by omega) (by decide)
  unfold aKind
  have hk2 : (aRem P = 1) ↔ ¬ aRem P = 0 := by omega
  by_cases hl : aLong P = 0
  · have k : (lg_cmp ((lN (vl (P.take (aHl P))) >>> ((((f 11) - nI 1) - nI 12).toInt64 &&& 63)) &&& 1) (1 : Int64) = nI 0) ↔ (aRem P = 1) := key 12 (by rw [if_pos hl])
    by_cases hfl : aFlex P = 0
    · by_cases hrm : aRem P = 0
      · simp (disch := omega) only [li, nI_add, nI_leI, nI_ltI, nI_eq, n_m1, n_mod, n_in, nI_clamp, ltE, jnE, bdS, reduceIte, reduceCtorEq, Nat.reduceAdd, Nat.reduceMul, Nat.reduceSub, Nat.reduceEqDiff, Nat.reduceLeDiff, Nat.reduceLT, Nat.reduceMod, Nat.reduceDiv, not_true_eq_false, not_false_eq_true, and_true, true_and, and_false, false_and, or_true, true_or, or_false, false_or, h9, h10, hl, hfl, k, hk2, hrm, if_true, if_false, not_true, reduceCtorEq]
      · simp (disch := omega) only [li, nI_add, nI_leI, nI_ltI, nI_eq, n_m1, n_mod, n_in, nI_clamp, ltE, jnE, bdS, reduceIte, reduceCtorEq, Nat.reduceAdd, Nat.reduceMul, Nat.reduceSub, Nat.reduceEqDiff, Nat.reduceLeDiff, Nat.reduceLT, Nat.reduceMod, Nat.reduceDiv, not_true_eq_false, not_false_eq_true, and_true, true_and, and_false, false_and, or_true, true_or, or_false, false_or, h9, h10, hl, hfl, k, hk2, hrm, if_true, if_false, not_true, not_false_iff]
    · have hf1 : aFlex P = 1 := by omega
      simp (disch := omega) only [li, nI_add, nI_leI, nI_ltI, nI_eq, n_m1, n_mod, n_in, nI_clamp, ltE, jnE, bdS, reduceIte, reduceCtorEq, Nat.reduceAdd, Nat.reduceMul, Nat.reduceSub, Nat.reduceEqDiff, Nat.reduceLeDiff, Nat.reduceLT, Nat.reduceMod, Nat.reduceDiv, not_true_eq_false, not_false_eq_true, and_true, true_and, and_false, false_and, or_true, true_or, or_false, false_or, h9, h10, hl, hf1, if_true, if_false, Nat.one_ne_zero]
  · have k : (lg_cmp ((lN (vl (P.take (aHl P))) >>> ((((f 11) - nI 1) - nI 32).toInt64 &&& 63)) &&& 1) (1 : Int64) = nI 0) ↔ (aRem P = 1) := key 32 (by rw [if_neg hl])
    have hl1 : aLong P = 1 := by omega
    by_cases hfl : aFlex P = 0
    · by_cases hrm : aRem P = 0
      · simp (disch := omega) only [li, nI_add, nI_leI, nI_ltI, nI_eq, n_m1, n_mod, n_in, nI_clamp, ltE, jnE, bdS, reduceIte, reduceCtorEq, Nat.reduceAdd, Nat.reduceMul, Nat.reduceSub, Nat.reduceEqDiff, Nat.reduceLeDiff, Nat.reduceLT, Nat.reduceMod, Nat.reduceDiv, not_true_eq_false, not_false_eq_true, and_true, true_and, and_false, false_and, or_true, true_or, or_false, false_or, h9, h10, hl1, hfl, k, hk2, hrm, if_true, if_false, not_true, Nat.one_ne_zero]
      · simp (disch := omega) only [li, nI_add, nI_leI, nI_ltI, nI_eq, n_m1, n_mod, n_in, nI_clamp, ltE, jnE, bdS, reduceIte, reduceCtorEq, Nat.reduceAdd, Nat.reduceMul, Nat.reduceSub, Nat.reduceEqDiff, Nat.reduceLeDiff, Nat.reduceLT, Nat.reduceMod, Nat.reduceDiv, not_true_eq_false, not_false_eq_true, and_true, true_and, and_false, false_and, or_true, true_or, or_false, false_or, h9, h10, hl1, hfl, k, hk2, hrm, if_true, if_false, not_true, not_false_iff, Nat.one_ne_zero]
    · have hf1 : aFlex P = 1 := by omega
      simp (disch := omega) only [li, nI_add, nI_leI, nI_ltI, nI_eq, n_m1, n_mod, n_in, nI_clamp, ltE, jnE, bdS, reduceIte, reduceCtorEq, Nat.reduceAdd, Nat.reduceMul, Nat.reduceSub, Nat.reduceEqDiff, Nat.reduceLeDiff, Nat.reduceLT, Nat.reduceMod, Nat.reduceDiv, not_true_eq_false, not_false_eq_true, and_true, true_and, and_false, false_and, or_true, true_or, or_false, false_or, h9, h10, hl1, hf1, if_true, if_false, Nat.one_ne_zero]
theorem h_tail {f : Nat → Int32} {j r b : Nat} (h3 : f 3 = nI j) (hj : j ≤ 9) (h16 : f 16 = nI r) (hr : r < 2) (hb : b < 2) : f_X1_hearTail f (nI b) = some (upd f 3 (nI (j + 1)), eC (if j = 1 then 0 else if b = 0 then (if j = 9 then 5 else 2) else if j = 2 then (if r = 0 then 3 else 0) else if j = 8 then 7 else if j = 9 then 8 else 0)) := by
  unfold f_X1_hearTail
  simp (disch := omega) only [li, nI_add, nI_leI, nI_ltI, nI_eq, n_m1, n_mod, n_in, nI_clamp, ltE, jnE, bdS, reduceIte, reduceCtorEq, Nat.reduceAdd, Nat.reduceMul, Nat.reduceSub, Nat.reduceEqDiff, Nat.reduceLeDiff, Nat.reduceLT, Nat.reduceMod, Nat.reduceDiv, not_true_eq_false, not_false_eq_true, and_true, true_and, and_false, false_and, or_true, true_or, or_false, false_or, h3, h16]
  have hj' : j = 0 ∨ j = 1 ∨ j = 2 ∨ j = 3 ∨ j = 4 ∨ j = 5 ∨ j = 6 ∨ j = 7 ∨ j = 8 ∨ j = 9 := by omega
  have hb' : b = 0 ∨ b = 1 := by omega
  have hr' : r = 0 ∨ r = 1 := by omega
  rcases hb' with rfl | rfl <;> rcases hj' with rfl | rfl | rfl | rfl | rfl | rfl | rfl | rfl | rfl | rfl <;> rcases hr' with rfl | rfl <;> rfl
/-- what the class has seen of count and check -/
def snF (T : List Nat) : Nat := if T.length ≤ 4 then vl (nfx T) else vl ((nfx T).drop 4)
theorem nfx_len : ∀ (T : List Nat), (nfx T).length = T.length - (T.length + 4) / 5 := by
  refine sn_ind (by rfl) ?_
  intro l b ih
  rw [nfx_s, len_s]
  by_cases h : l.length % 5 = 0
  · rw [if_pos h, ih]; omega
  · rw [if_neg h, len_s, ih]; omega
theorem snF_s {T : List Nat} {b : Nat} (h : T.length % 5 ≠ 0) : snF (T ++ [b]) = if T.length = 4 then 0 else 2 * snF T + b := by
  unfold snF
  have hl := nfx_len T
  rw [nfx_s, if_neg h, len_s]
  by_cases h1 : T.length = 4
  · rw [if_pos h1, if_neg (by omega), dr_o (by rw [len_s]; omega)]; rfl
  · rw [if_neg h1]
    by_cases h2 : T.length ≤ 4
    · rw [if_pos (by omega), if_pos h2, vl_snoc]
    · rw [if_neg (by omega), if_neg h2, dr_l (by omega), vl_snoc]
theorem snF_z {T : List Nat} {b : Nat} (h : T.length % 5 = 0) : snF (T ++ [b]) = snF T := by
  unfold snF
  rw [nfx_s, if_pos h, len_s]
  by_cases h2 : T.length ≤ 4
  · rw [if_pos (by omega), if_pos h2]
  · rw [if_neg (by omega), if_neg h2]
theorem nf4_s {T : List Nat} {b : Nat} (h : T.length % 5 ≠ 0) : (nfx (T ++ [b])).take 4 = if T.length < 5 then (nfx T).take 4 ++ [b] else (nfx T).take 4 := by
  have hl := nfx_len T
  rw [nfx_s, if_neg h]
  by_cases h2 : T.length < 5
  · rw [if_pos h2, tk_a (by rw [len_s]; omega), tk_a (by omega)]
  · rw [if_neg h2, tk_l (by omega)]
theorem nf4_z {T : List Nat} {b : Nat} (h : T.length % 5 = 0) : (nfx (T ++ [b])).take 4 = (nfx T).take 4 := by rw [nfx_s, if_pos h]
theorem snF_lt {T : List Nat} (hT : Bt T) (h : T.length ≤ 32) : snF T < 2 ^ 25 := by
  have hl := nfx_len T
  unfold snF
  split
  · exact Nat.lt_of_lt_of_le (vl_lt (nfx_Bt hT)) (Nat.pow_le_pow_right (by decide) (by omega))
  · exact Nat.lt_of_lt_of_le (vl_lt (Bt_drop 4 (nfx_Bt hT))) (Nat.pow_le_pow_right (by decide) (by rw [List.length_drop]; omega))
/-- count and check: i fixed, seen, and what comes -/
theorem h_fixed {f : Nat → Int32} {T X : List Nat} {la oc sb b : Nat} (hT : Bt T) (hl : T.length < (if 16 < oc then 32 else 27)) (h3 : f 3 = nI T.length) (h4 : f 4 = nI la) (hla : la < 2) (h6 : f 6 = nI sb) (h14 : f 14 = nI oc) (hoc : oc ≤ 64) (h15 : f 15 = nI (snF T)) (hb : b < 2) :
    ∃ F B C e, f_X1_hearFixed f (rB (crB (X ++ (nfx T).take 4))) (rC (crC (X ++ (nfx T).take 4))) (nI b) = some (F, B, C, eC e)
      ∧ e = (if T.length % 5 = 0 then (if b = la then 1 else 0) else if T.length = 4 then (if vl (nfx (T ++ [b])) = cto sb then 0 else 1) else 0)
      ∧ B = rB (crB (X ++ (nfx (T ++ [b])).take 4)) ∧ C = rC (crC (X ++ (nfx (T ++ [b])).take 4))
      ∧ (∀ k, k ≠ 2 → k ≠ 3 → k ≠ 4 → k ≠ 15 → k ≠ 16 → F k = f k)
      ∧ (e = 0 → if T.length + 1 = (if 16 < oc then 32 else 27) then F 2 = nI 2 ∧ F 3 = nI 0 ∧ F 16 = nI (if vl ((nfx (T ++ [b])).drop 4) = (if 16 < oc then crC (X ++ (nfx (T ++ [b])).take 4) else crB (X ++ (nfx (T ++ [b])).take 4)) then 1 else 0) else F 2 = f 2 ∧ F 3 = nI (T.length + 1) ∧ F 4 = nI b ∧ F 15 = nI (snF (T ++ [b]))) := by
  have hlt : T.length < 32 := by split at hl <;> omega
  have hs := snF_lt hT (by omega)
  have hB := crB_lt (X ++ (nfx T).take 4)
  have hC := crC_lt (X ++ (nfx T).take 4)
  unfold f_X1_hearFixed
  by_cases h5 : T.length % 5 = 0
  · rw [nf4_z h5, if_pos h5]
    by_cases hbl : b = la
    · refine ⟨_, _, _, 1, by simp (disch := omega) only [li, nI_add, nI_leI, nI_ltI, nI_eq, n_m1, n_mod, n_in, nI_clamp, ltE, jnE, bdS, reduceIte, reduceCtorEq, Nat.reduceAdd, Nat.reduceMul, Nat.reduceSub, Nat.reduceEqDiff, Nat.reduceLeDiff, Nat.reduceLT, Nat.reduceMod, Nat.reduceDiv, not_true_eq_false, not_false_eq_true, and_true, true_and, and_false, false_and, or_true, true_or, or_false, false_or, h3, h4, h5, hbl, eC_s, ne_eq]; rfl, by rw [if_pos hbl], rfl, rfl, ?_, fun h => absurd h (by decide)⟩
      intro k k2 k3 k4 k15 k16
      simp [upd, k3]
    · refine ⟨_, _, _, 0, by simp (disch := omega) only [li, nI_add, nI_leI, nI_ltI, nI_eq, n_m1, n_mod, n_in, nI_clamp, ltE, jnE, bdS, reduceIte, reduceCtorEq, Nat.reduceAdd, Nat.reduceMul, Nat.reduceSub, Nat.reduceEqDiff, Nat.reduceLeDiff, Nat.reduceLT, Nat.reduceMod, Nat.reduceDiv, not_true_eq_false, not_false_eq_true, and_true, true_and, and_false, false_and, or_true, true_or, or_false, false_or, h3, h4, h5, hbl, eC_0]; rfl, by rw [if_neg hbl], rfl, rfl, ?_, fun _ => ?_⟩
      · intro k k2 k3 k4 k15 k16
        simp [upd, k3, k4]
      · rw [if_neg (by split <;> omega), snF_z h5]
        refine ⟨by simp [upd], by simp [upd, nI_add], by simp [upd], by simp [upd, h15]⟩
  · rw [if_neg h5]
    by_cases h6' : T.length < 5
    · have hn5 : ¬ 5 ≤ T.length := by omega
      rw [nf4_s h5, if_pos h6', ← List.append_assoc]
      by_cases h7 : T.length = 4
      · have e1 : f_X1_endCount (upd (upd (upd f 3 (nI (T.length + 1))) 4 (nI b)) 15 (nI (2 * snF T + b))) = some (upd (upd (upd (upd f 3 (nI (T.length + 1))) 4 (nI b)) 15 (nI (2 * snF T + b))) 15 (nI 0), if 2 * snF T + b = cto sb then -nI 1 else nI 1) := by
          unfold f_X1_endCount
          have h61 : (upd (upd (upd f 3 (nI (T.length + 1))) 4 (nI b)) 15 (nI (2 * snF T + b))) 6 = nI sb := by simp [upd, h6]
          have h62 : (upd (upd (upd f 3 (nI (T.length + 1))) 4 (nI b)) 15 (nI (2 * snF T + b))) 15 = nI (2 * snF T + b) := by simp [upd]
          have hct := cto_lt sb
          rw [h61, h62, c_count]
          simp (disch := omega) only [li, nI_add, nI_leI, nI_ltI, nI_eq, n_m1, n_mod, n_in, nI_clamp, ltE, jnE, bdS, reduceIte, reduceCtorEq, Nat.reduceAdd, Nat.reduceMul, Nat.reduceSub, Nat.reduceEqDiff, Nat.reduceLeDiff, Nat.reduceLT, Nat.reduceMod, Nat.reduceDiv, not_true_eq_false, not_false_eq_true, and_true, true_and, and_false, false_and, or_true, true_or, or_false, false_or]
        have e2 : vl (nfx (T ++ [b])) = 2 * snF T + b := by rw [nfx_s, if_neg h5, vl_snoc]; unfold snF; rw [if_pos (by omega)]
        have e0 : ¬ T.length % 5 = 0 := h5
        refine ⟨_, _, _, if 2 * snF T + b = cto sb then 0 else 1, by simp (disch := omega) only [li, nI_add, nI_leI, nI_ltI, nI_eq, n_m1, n_mod, n_in, nI_clamp, ltE, jnE, bdS, reduceIte, reduceCtorEq, Nat.reduceAdd, Nat.reduceMul, Nat.reduceSub, Nat.reduceEqDiff, Nat.reduceLeDiff, Nat.reduceLT, Nat.reduceMod, Nat.reduceDiv, not_true_eq_false, not_false_eq_true, and_true, true_and, and_false, false_and, or_true, true_or, or_false, false_or, h3, h4, h15, h5, hn5, c_addOther hb, e1]; rw [if_pos h7]; split <;> rfl, by rw [if_pos h7, e2], rfl, rfl, ?_, fun _ => ?_⟩
        · intro k k2 k3 k4 k15 k16
          simp [upd, k3, k4, k15]
        · rw [if_neg (by split <;> omega), snF_s h5, if_pos h7]
          refine ⟨by simp [upd], by simp [upd], by simp [upd], by simp [upd]⟩
      · refine ⟨_, _, _, 0, by simp (disch := omega) only [li, nI_add, nI_leI, nI_ltI, nI_eq, n_m1, n_mod, n_in, nI_clamp, ltE, jnE, bdS, reduceIte, reduceCtorEq, Nat.reduceAdd, Nat.reduceMul, Nat.reduceSub, Nat.reduceEqDiff, Nat.reduceLeDiff, Nat.reduceLT, Nat.reduceMod, Nat.reduceDiv, not_true_eq_false, not_false_eq_true, and_true, true_and, and_false, false_and, or_true, true_or, or_false, false_or, h3, h4, h15, h5, hn5, c_addOther hb, h7]; rfl, by rw [if_neg h7], rfl, rfl, ?_, fun _ => ?_⟩
        · intro k k2 k3 k4 k15 k16
          simp [upd, k3, k4, k15]
        · rw [if_neg (by split <;> omega), snF_s h5, if_neg h7]
          refine ⟨by simp [upd], by simp [upd], by simp [upd], by simp [upd]⟩
    · have hn5 : 5 ≤ T.length := by omega
      rw [nf4_s h5, if_neg h6', if_neg (by omega : ¬ T.length = 4)]
      have e2 : (vl ((nfx (T ++ [b])).drop 4)) = 2 * snF T + b := by
        have := snF_s (T := T) (b := b) h5
        rw [if_neg (by omega)] at this
        rw [← this]
        unfold snF
        rw [if_neg (by rw [len_s]; omega)]
      rw [e2]
      have e3 := c_width (k := oc) (by omega)
      by_cases h16 : 16 < oc
      · rw [if_pos h16] at e3 hl
        have e4 := c_ofFlex (k := oc) (x := crB (X ++ (nfx T).take 4)) (y := crC (X ++ (nfx T).take 4)) (by omega)
        rw [if_pos h16] at e4
        have e5 : nI 25 + (nI 25 - nI 1) / nI 4 = nI 31 := by decide
        by_cases h31 : T.length = 31
        · refine ⟨_, _, _, 0, by simp (disch := omega) only [li, nI_add, nI_leI, nI_ltI, nI_eq, n_m1, n_mod, n_in, nI_clamp, ltE, jnE, bdS, reduceIte, reduceCtorEq, Nat.reduceAdd, Nat.reduceMul, Nat.reduceSub, Nat.reduceEqDiff, Nat.reduceLeDiff, Nat.reduceLT, Nat.reduceMod, Nat.reduceDiv, not_true_eq_false, not_false_eq_true, and_true, true_and, and_false, false_and, or_true, true_or, or_false, false_or, h3, h4, h14, h15, h5, hn5, e3, e5, e4, h31]; rfl, rfl, rfl, rfl, ?_, fun _ => ?_⟩
          · intro k k2 k3 k4 k15 k16
            simp [upd, k2, k3, k4, k15, k16]
          · rw [if_pos h16, if_pos (by omega), if_pos h16]
            refine ⟨by simp [upd], by simp [upd], ?_⟩
            simp only [upd]
            simp
            split <;> rfl
        · refine ⟨_, _, _, 0, by simp (disch := omega) only [li, nI_add, nI_leI, nI_ltI, nI_eq, n_m1, n_mod, n_in, nI_clamp, ltE, jnE, bdS, reduceIte, reduceCtorEq, Nat.reduceAdd, Nat.reduceMul, Nat.reduceSub, Nat.reduceEqDiff, Nat.reduceLeDiff, Nat.reduceLT, Nat.reduceMod, Nat.reduceDiv, not_true_eq_false, not_false_eq_true, and_true, true_and, and_false, false_and, or_true, true_or, or_false, false_or, h3, h4, h14, h15, h5, hn5, e3, e5, h31]; rfl, rfl, rfl, rfl, ?_, fun _ => ?_⟩
          · intro k k2 k3 k4 k15 k16
            simp [upd, k3, k4, k15]
          · rw [if_pos h16, if_neg (by omega), snF_s h5, if_neg (by omega)]
            refine ⟨by simp [upd], by simp [upd], by simp [upd], by simp [upd]⟩
      · rw [if_neg h16] at e3 hl
        have e4 := c_ofFlex (k := oc) (x := crB (X ++ (nfx T).take 4)) (y := crC (X ++ (nfx T).take 4)) (by omega)
        rw [if_neg h16] at e4
        have e5 : nI 21 + (nI 21 - nI 1) / nI 4 = nI 26 := by decide
        by_cases h31 : T.length = 26
        · refine ⟨_, _, _, 0, by simp (disch := omega) only [li, nI_add, nI_leI, nI_ltI, nI_eq, n_m1, n_mod, n_in, nI_clamp, ltE, jnE, bdS, reduceIte, reduceCtorEq, Nat.reduceAdd, Nat.reduceMul, Nat.reduceSub, Nat.reduceEqDiff, Nat.reduceLeDiff, Nat.reduceLT, Nat.reduceMod, Nat.reduceDiv, not_true_eq_false, not_false_eq_true, and_true, true_and, and_false, false_and, or_true, true_or, or_false, false_or, h3, h4, h14, h15, h5, hn5, e3, e5, e4, h31]; rfl, rfl, rfl, rfl, ?_, fun _ => ?_⟩
          · intro k k2 k3 k4 k15 k16
            simp [upd, k2, k3, k4, k15, k16]
          · rw [if_neg h16, if_pos (by omega), if_neg h16]
            refine ⟨by simp [upd], by simp [upd], ?_⟩
            simp only [upd]
            simp
            split <;> rfl
        · refine ⟨_, _, _, 0, by simp (disch := omega) only [li, nI_add, nI_leI, nI_ltI, nI_eq, n_m1, n_mod, n_in, nI_clamp, ltE, jnE, bdS, reduceIte, reduceCtorEq, Nat.reduceAdd, Nat.reduceMul, Nat.reduceSub, Nat.reduceEqDiff, Nat.reduceLeDiff, Nat.reduceLT, Nat.reduceMod, Nat.reduceDiv, not_true_eq_false, not_false_eq_true, and_true, true_and, and_false, false_and, or_true, true_or, or_false, false_or, h3, h4, h14, h15, h5, hn5, e3, e5, h31]; rfl, rfl, rfl, rfl, ?_, fun _ => ?_⟩
          · intro k k2 k3 k4 k15 k16
            simp [upd, k3, k4, k15]
          · rw [if_neg h16, if_neg (by omega), snF_s h5, if_neg (by omega)]
            refine ⟨by simp [upd], by simp [upd], by simp [upd], by simp [upd]⟩
