/-- the octets, as far as they were heard -/
def okP (P : List Nat) (k : Nat) : List Nat := sl P (aHl P + 8 * k) 8
def OK (o : Nat → Int32) (P : List Nat) : Prop := ∀ k, k < 64 → ∃ y, y < 256 ∧ o k = nI y ∧ (k < oC P → y % 2 ^ (okP P k).length = vl (okP P k))
theorem n_oct {y b : Nat} (hb : b < 2) : ((nI y <<< (nI 1 &&& nI 31)) &&& nI 255) ||| nI b = nI (2 * (y % 128) + b) := by
  have h := n_shl y (k := 1) (by decide)
  have h2 : nI y <<< (nI 1 &&& nI 31) = nI (y * 2 ^ 1) := h
  have h3 : nI (y * 2 ^ 1) &&& nI (2 ^ 8 - 1) = nI (y * 2 ^ 1 % 2 ^ 8) := n_mask _ 8
  rw [h2, show nI 255 = nI (2 ^ 8 - 1) from rfl, h3, show y * 2 ^ 1 % 2 ^ 8 = (y % 128) * 2 ^ 1 by omega, n_orS (k := 1) (by omega), show (y % 128) * 2 ^ 1 + b = 2 * (y % 128) + b by omega]
theorem pw_oct : ∀ n, n < 8 → ∀ y V b : Nat, y % 2 ^ n = V → b < 2 → (2 * (y % 128) + b) % 2 ^ (n + 1) = 2 * V + b := by
  intro n hn y V b h hb
  have hn' : n = 0 ∨ n = 1 ∨ n = 2 ∨ n = 3 ∨ n = 4 ∨ n = 5 ∨ n = 6 ∨ n = 7 := by omega
  rcases hn' with rfl | rfl | rfl | rfl | rfl | rfl | rfl | rfl <;> simp only [Nat.reducePow, Nat.reduceAdd] at h ⊢ <;> omega
theorem h_octet {o : Nat → Int32} {P : List Nat} {b : Nat} (hP : Bt P) (hb : b < 2) (h1 : aHl P ≤ P.length) (h2 : P.length < aBe P) (ho : OK o P) : ∃ O, f_X1_hearOctet o (nI (P.length - aHl P)) (nI b) = some O ∧ OK O (P ++ [b]) := by
  have hst := a_stab (P := P) b h1
  have hoc : aOc P ≤ 64 := octs_le _ _
  have hbe : aBe P = aHl P + 8 * aOc P := rfl
  have hhl := aHl_le P
  have hy : aHl (P ++ [b]) ≤ (P ++ [b]).length := by rw [hst.2.2.1, len_s]; omega
  have hk0 : (P.length - aHl P) / 8 < aOc P := by omega
  obtain ⟨y, y1, y2, y3⟩ := ho ((P.length - aHl P) / 8) (by omega)
  rw [oC, kn_y h1] at y3
  have y3 := y3 hk0
  unfold f_X1_hearOctet
  have e1 : nI (P.length - aHl P) >>> (nI 3 &&& nI 31) = nI ((P.length - aHl P) / 8) := n_shr (k := 3) (by omega) (by decide)
  refine ⟨upd o ((P.length - aHl P) / 8) (nI (2 * (y % 128) + b)), ?_, ?_⟩
  · simp (disch := omega) only [ltE, jnE, li, e1, nI_ltI, nI_leI, nI_clamp]
    rw [if_neg (by omega), if_neg (by omega), gdT _ (in_nI (by omega) (by decide)), gdT _ (in_nI (by omega) (by decide)), y2, n_oct hb]
  · intro k hk
    by_cases hkk : k = (P.length - aHl P) / 8
    · refine ⟨2 * (y % 128) + b, by omega, by rw [hkk, up_s], fun _ => ?_⟩
      have e2 : okP (P ++ [b]) k = okP P ((P.length - aHl P) / 8) ++ [b] := by
        unfold okP sl
        rw [hst.2.2.1, hkk, dr_l (by omega), tk_a (by rw [len_s, List.length_drop]; omega), tk_a (by rw [List.length_drop]; omega)]
      have e3 : (okP P ((P.length - aHl P) / 8)).length < 8 := by
        unfold okP sl
        rw [List.length_take, List.length_drop]
        omega
      rw [e2, len_s, vl_snoc]
      exact pw_oct _ e3 _ _ _ y3 hb
    · obtain ⟨z, z1, z2, z3⟩ := ho k hk
      refine ⟨z, z1, by rw [up_n _ _ hkk]; exact z2, fun hc => ?_⟩
      rw [oC, kn_y hy, hst.2.2.2.2.2.2.1] at hc
      rw [oC, kn_y h1] at z3
      have e2 : okP (P ++ [b]) k = okP P k := by
        unfold okP
        rw [hst.2.2.1]
        rcases Nat.lt_or_ge k ((P.length - aHl P) / 8) with h7 | h7
        · exact sl_app (by omega)
        · unfold sl
          rw [dr_o (by rw [len_s]; omega), dr_o (by omega)]
      rw [e2]
      exact z3 hc
/-- what endPlain leaves -/
def plE (F : Nat → Int32) (P : List Nat) (ru : Nat) : Prop :=
  if P.length = pE P then (if aFlex P = 0 then F 16 = nI (if vl (P.drop (aBe P)) = crA (P.take (aBe P)) then 1 else 0) ∧ F 2 = nI (if ru < 5 then 2 else 0) else F 2 = nI 1) else F 2 = nI 0
theorem h_fin {F1 : Nat → Int32} {P : List Nat} {b ru n : Nat} {h : Int64} {o a' b' c' f : Nat → Int32} (hP : Bt P) (hb : b < 2) (hru : ru ≤ 5) (hpos : aHl P ≤ P.length → P.length ≤ aPe P) (h5 : F1 5 = nI ru) (h7 : F1 7 = nI P.length) (h9 : F1 9 = nI (aLong P)) (h10 : F1 10 = nI (aFlex P)) (h13 : F1 13 = nI (pE P)) (h15 : F1 15 = nI (vl (P.drop (bE P)))) (h2 : F1 2 = nI 0) (ha : a' = rA (crA (P.take (bE P)))) (hf7 : f 7 = nI n) (hn : n + 1 = P.length) (hnl : n < 1000) :
    ∃ F2, (jn (α := Nat → Int32) (fun x11 => jn (α := Int32) (fun x14 => some (h, x11, o, a', b', c', x14)) (fun k21 => if (x11 10) = 0 then k21 (-1) else if nI b = 1 then lt (α := Int32) (if (x11 9) = 0 then 15 else 34) (fun x23 => if (f 7) = x23 then k21 2 else k21 (-1)) else k21 (-1))) (fun k12 => if (F1 7) = (F1 13) then bd (f_X1_endPlain F1 a') (fun u30 => k12 u30) else k12 F1)) = some (h, F2, o, a', b', c', eC (if aFlex P = 1 ∧ b = 1 ∧ P.length = aAt P + 2 then 2 else 0)) ∧ plE F2 P ru ∧ ∀ k, k ≠ 2 → k ≠ 16 → F2 k = F1 k := by
  have hlb : aLong P < 2 := Bt_getD _ hP
  have hfb : aFlex P < 2 := Bt_getD _ hP
  have hAt : aAt P = if aLong P = 0 then 14 else 33 := rfl
  have hpe : pE P < 2000000 := by
    have := (aPe_le hP).2.1
    unfold pE kn
    split <;> omega
  have key : ∀ F2 : Nat → Int32, F2 9 = nI (aLong P) → F2 10 = nI (aFlex P) → (jn (α := Int32) (fun x14 => some (h, F2, o, a', b', c', x14)) (fun k21 => if (F2 10) = 0 then k21 (-1) else if nI b = 1 then lt (α := Int32) (if (F2 9) = 0 then 15 else 34) (fun x23 => if (f 7) = x23 then k21 2 else k21 (-1)) else k21 (-1))) = some (h, F2, o, a', b', c', eC (if aFlex P = 1 ∧ b = 1 ∧ P.length = aAt P + 2 then 2 else 0)) := by
    intro F2 g9 g10
    have hx : ∀ d, @ite _ (nI (aLong P) = nI 0) d (nI 15) (nI 34) = nI (aAt P + 1) := by
      intro d
      simp (disch := omega) only [li, nI_add, nI_leI, nI_ltI, nI_eq, n_m1, n_mod, n_in, nI_clamp, ltE, jnE, bdS, reduceIte, reduceCtorEq, Nat.reduceAdd, Nat.reduceMul, Nat.reduceSub, Nat.reduceEqDiff, Nat.reduceLeDiff, Nat.reduceLT, Nat.reduceMod, Nat.reduceDiv, not_true_eq_false, not_false_eq_true, and_true, true_and, and_false, false_and, or_true, true_or, or_false, false_or]
      rw [hAt]
      split <;> rfl
    have hat := aAt_le P
    simp only [ltE, jnE, li, g9, g10, hf7, hx]
    simp (disch := omega) only [nI_eq]
    by_cases c1 : aFlex P = 0
    · rw [if_pos c1, if_neg (by omega), eC_0]
    · rw [if_neg c1]
      by_cases c2 : b = 1
      · rw [if_pos c2]
        by_cases c3 : n = aAt P + 1
        · rw [if_pos c3, if_pos ⟨by omega, c2, by omega⟩, eC_s (by decide)]
        · rw [if_neg c3, if_neg (by omega), eC_0]
      · rw [if_neg c2, if_neg (by omega), eC_0]
  have jn1 : ∀ {α β : Type} (k : α → β) (g : (α → β) → β), jn k g = g k := fun _ _ => rfl
  rw [jn1]
  have hl : P.length < 2 ^ 31 := by omega
  by_cases hpl : P.length = pE P
  · have hy : aHl P ≤ P.length := by
      rcases Nat.lt_or_ge P.length (aHl P) with h9 | h9
      · rw [pE, kn_n (by omega)] at hpl; omega
      · exact h9
    have hbe : bE P = aBe P := kn_y hy
    have hpe' : pE P = aPe P := kn_y hy
    have c1 : F1 7 = F1 13 := by rw [h7, h13, ← hpl]
    rw [if_pos c1]
    by_cases cf : aFlex P = 0
    · have hvl : vl (P.drop (bE P)) < 2 ^ 15 := by
        refine Nat.lt_of_lt_of_le (vl_lt (Bt_drop _ hP)) (Nat.pow_le_pow_right (by decide) ?_)
        rw [List.length_drop, hbe]
        have : aPe P = aBe P + 15 := if_pos cf
        omega
      have hA := crA_lt (P.take (bE P))
      have e1 : f_X1_endPlain F1 a' = some (if ru < 5 then upd (upd F1 16 (nI (if vl (P.drop (aBe P)) = crA (P.take (aBe P)) then 1 else 0))) 2 (nI 2) else upd F1 16 (nI (if vl (P.drop (aBe P)) = crA (P.take (aBe P)) then 1 else 0))) := by
        have ha3 : a' 3 = nI (crA (P.take (bE P))) := by rw [ha]; rfl
        rw [hbe] at hvl hA h15 ha3
        unfold f_X1_endPlain
        simp (disch := omega) only [ltE, jnE, li, h10, h15, h5, ha3, cf, nI_eq, nI_leI]
        have ei : ∀ d, @ite Int32 (vl (P.drop (aBe P)) = crA (P.take (aBe P))) d (nI 1) (nI 0) = nI (if vl (P.drop (aBe P)) = crA (P.take (aBe P)) then 1 else 0) := by intro d; split <;> rfl
        rw [if_pos trivial, ei]
        by_cases c5 : ru < 5
        · rw [if_pos c5, if_neg (by omega)]
        · rw [if_neg c5, if_pos (by omega)]
      rw [e1, bdS]
      refine ⟨_, key _ ?_ ?_, ?_, ?_⟩
      · split <;> simp [upd, h9]
      · split <;> simp [upd, h10]
      · unfold plE
        rw [if_pos hpl, if_pos cf]
        by_cases c5 : ru < 5
        · rw [if_pos c5, if_pos c5]; exact ⟨by simp [upd], by simp [upd]⟩
        · rw [if_neg c5, if_neg c5]; exact ⟨by simp [upd], by simp [upd, h2]⟩
      · intro k k2 k16
        split <;> simp [upd, k2, k16]
    · have e1 : f_X1_endPlain F1 a' = some (upd F1 2 (nI 1)) := by
        unfold f_X1_endPlain
        simp (disch := omega) only [ltE, jnE, li, h10, nI_eq]
        rw [if_neg cf]
      rw [e1, bdS]
      refine ⟨_, key _ (by simp [upd, h9]) (by simp [upd, h10]), ?_, ?_⟩
      · unfold plE
        rw [if_pos hpl, if_neg cf]
        simp [upd]
      · intro k k2 k16
        simp [upd, k2]
  · have c1 : ¬ F1 7 = F1 13 := by rw [h7, h13, nI_eq hl (by omega)]; exact hpl
    rw [if_neg c1]
    refine ⟨_, key _ h9 h10, ?_, fun _ _ _ => rfl⟩
    unfold plE
    rw [if_neg hpl]
    exact h2
