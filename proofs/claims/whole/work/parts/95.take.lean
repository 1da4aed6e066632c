def aAck : PS → Nat
  | (P, R, la, ru, sb, T) => if aEnd P ru ∧ T.length = aTl P + 1 then aRi P R T else 0
theorem aAck_q (P R : List Nat) (la ru sb : Nat) (T : List Nat) : aAck (P, R, la, ru, sb, T) = if aEnd P ru ∧ T.length = aTl P + 1 then aRi P R T else 0 := rfl
theorem aAck_lt (ps : PS) : aAck ps < 2 := by
  obtain ⟨P, R, la, ru, sb, T⟩ := ps
  rw [aAck_q]
  split
  · exact aRi_lt P R T
  · decide
theorem c_ack {h : Int64} {f o a b c : Nat → Int32} {L : List Nat} (hc : cln L) (hl : LiS h f o a b c (par L)) : f_X1_acknowledges f = some (nI (aAck (par L))) := by
  have hok := par_ok hc
  generalize par L = ps at hl hok ⊢
  obtain ⟨P, R, la, ru, sb, T⟩ := ps
  obtain ⟨a1, a2, a3, a4, a5, a6, a7, a8, a9, a10, a11, a12⟩ := hok
  obtain ⟨l1, l2, l3, l4, l5, l6, l7, l8⟩ := hl
  rw [aAck_q]
  unfold f_X1_acknowledges
  rw [ltE]
  by_cases hen : aEnd P ru
  · rw [if_pos hen] at l8
    by_cases ht : T.length < aTl P
    · rw [if_pos ht] at l8
      rw [if_neg (show ¬ (aEnd P ru ∧ T.length = aTl P + 1) by omega), l8.1, if_neg (by decide)]
      rfl
    · rw [if_neg ht] at l8
      obtain ⟨q1, q2, q3⟩ := l8
      have hr := aRi_lt P R T
      rw [q1, q2, q3, if_pos (by decide)]
      by_cases h1 : T.length - aTl P = 1
      · rw [if_pos (show nI (T.length - aTl P) = 1 by rw [h1]; rfl), if_pos (show aEnd P ru ∧ T.length = aTl P + 1 from ⟨hen, by omega⟩)]
        have : aRi P R T = 0 ∨ aRi P R T = 1 := by omega
        rcases this with h | h <;> rw [h] <;> rfl
      · rw [if_neg (show ¬ nI (T.length - aTl P) = 1 from ne_l 1 h1 (by omega) (by decide)), if_neg (show ¬ (aEnd P ru ∧ T.length = aTl P + 1) by omega)]
        rfl
  · rw [if_neg hen] at l8
    rw [if_neg (show ¬ (aEnd P ru ∧ T.length = aTl P + 1) from fun h => hen h.1), l8.1, if_neg (by decide)]
    rfl
theorem m_answers {v : Nat → Int32} {m : Nat → Nat → Int32} {L : List Nat} {i : Nat} (hc : cln L) (hi : i < 32) (hl : 0 < L.length) (h14 : m 14 i = nI L.length) (hs : sIs m i L) : ∃ v' m', sv v v' ∧ sm m m' ∧ f_X8_answers v m (nI i) = some (v', m', nI (aAck (par L))) := by
  have hL := L_len hc
  have hok := par_ok hc
  obtain ⟨v', m', s1, s2, s3, s4⟩ := m_body (v := v) (m := m) (L := L) (i := i) (N := L.length) hc hi hl h14 (Nat.le_refl _) (by omega) (Or.inl rfl) hs
  have hBL := hc.1
  obtain ⟨P, R, la, ru, sb, T, hp⟩ : ∃ P R la ru sb T, par L = (P, R, la, ru, sb, T) := ⟨_, _, _, _, _, _, rfl⟩
  rw [hp] at hok hL s4 ⊢
  obtain ⟨a1, a2, a3, a4, a5, a6, a7, a8, a9, a10, a11, a12⟩ := hok
  obtain ⟨hl1, hl2, hl3⟩ := hL
  have hl2 : P.length ≤ 553 := hl2
  have hl3 : R.length ≤ 691 := hl3
  obtain ⟨hI, h45⟩ := s4
  rw [aAck_q]
  unfold f_X8_answers
  rw [s3, bdS]
  dsimp only
  rw [jnE, if_pos rfl, h45]
  by_cases hen : aEnd P ru
  · have hkn := known_of (by omega) hen.1
    obtain ⟨f1, f2, f3⟩ := hI.2.2.2.2.2 hkn
    have eL : L.length = R.length + T.length := by rw [a1, List.length_append]
    have htl : aTl P ≤ 32 := by unfold aTl; split <;> (try split) <;> omega
    rw [if_pos hen, if_neg (nm1 (by omega)), gdT _ (in_nI hi (by decide)), m_tail a2 f1 f2, bdS, nI_clamp (by omega), s2 14 (by decide), h14, nI_add, show nI (R.length + aTl P) + 1 = nI (R.length + aTl P + 1) from nI_add _ 1]
    by_cases h1 : T.length = aTl P + 1
    · rw [if_pos (show aEnd P ru ∧ T.length = aTl P + 1 from ⟨hen, h1⟩), if_pos (show nI L.length = nI (R.length + aTl P + 1) by rw [eL, h1]; congr 1)]
      obtain ⟨v'', m'', t1, t2, t3⟩ := m_right (v := v') (m := m') (P := P) (R := R) (T := T) (i := i) (ru := ru) (sb := sb) a2 hl3 hi (by rw [← a1]; exact hBL) (by omega) hen hl2 hI (by rw [h45, if_pos hen]) (by rw [← a1]; exact sIs_sm hs s2)
      rw [t3, bdS]
      dsimp only
      have hr := aRi_lt P R T
      have : aRi P R T = 0 ∨ aRi P R T = 1 := by omega
      refine ⟨v'', m'', sv_t s1 t1, sm_t s2 t2, ?_⟩
      rcases this with h | h <;> rw [h] <;> rfl
    · rw [if_neg (show ¬ (aEnd P ru ∧ T.length = aTl P + 1) from fun h => h1 h.2), if_neg (ne_l _ (by omega) (by omega) (by omega))]
      exact ⟨v', m', s1, s2, rfl⟩
  · rw [if_neg hen, if_pos rfl, if_neg (show ¬ (aEnd P ru ∧ T.length = aTl P + 1) from fun h => hen h.1)]
    exact ⟨v', m', s1, s2, rfl⟩
/-- the octets that are taken -/
theorem take_loop {P : List Nat} {u1 : Nat → Int32} {nt oc hl : Nat} {k22 : (Nat → Nat → Int32) × Int32 → Option ((Nat → Int32) × (Nat → Nat → Int32))} (hP : Bt P) (hPl : P.length ≤ 700) (hoc : oc ≤ 64) (hle : hl + 8 * oc ≤ P.length) (h22 : u1 22 = nI nt) (hnt : nt < 14000) :
    ∀ d k nn m, d + k = oc → d < nn → arr (m 26) P → ∃ m', (∀ j, j ≠ 22 → m' j = m j) ∧ (∀ x, (x < 64 * nt + k ∨ 64 * nt + oc ≤ x) → m' 22 x = m 22 x) ∧ (∀ j, k ≤ j → j < oc → m' 22 (64 * nt + j) &&& 255 = nI (vl (sl P (hl + 8 * j) 8))) ∧ L_X8_take_151 (nI oc) (nI hl) u1 k22 nn m (nI k) = k22 (m', nI oc) := by
  intro d
  induction d with
  | zero =>
    intro k nn m hk hnn h26
    obtain ⟨nn, rfl⟩ : ∃ q, nn = q + 1 := ⟨nn - 1, by omega⟩
    have : k = oc := by omega
    subst this
    refine ⟨m, fun _ _ => rfl, fun _ _ => rfl, fun j h1 h2 => by omega, ?_⟩
    show (if nI k ≤ nI k then _ else _) = _
    rw [if_pos (le_l _ (Nat.le_refl _) (by omega))]
  | succ d ih =>
    intro k nn m hk hnn h26
    obtain ⟨nn, rfl⟩ : ∃ q, nn = q + 1 := ⟨nn - 1, by omega⟩
    have hn := m_number (m := m) (n := hl + 8 * k) (k := 8) h26 hP hPl (by omega) (by decide)
    have hlt : vl (sl P (hl + 8 * k) 8) < 256 := vl_sl_lt hP _ 8
    obtain ⟨m', t1, t2, t3, t4⟩ := ih (k + 1) nn (va_up m 22 (upd (m 22) (64 * nt + k) (vp_nar .byte ((nI (vl (sl P (hl + 8 * k) 8))).toInt8.toInt32)))) (by omega) (by omega) (by rw [vu_n _ _ (by decide)]; exact h26)
    refine ⟨m', ?_, ?_, ?_, ?_⟩
    · intro j hj; rw [t1 j hj, vu_n _ _ hj]
    · intro x hx; rw [t2 x (by omega), vu_s, up_n _ _ (by omega)]
    · intro j h1 h2
      by_cases hjk : j = k
      · subst hjk
        rw [t2 (64 * nt + j) (by omega), vu_s, up_s]
        exact n_byte8 _ hlt
      · exact t3 j (by omega) h2
    · show (if nI oc ≤ nI k then _ else bd _ _) = _
      rw [if_neg (nle_l _ (by omega) (by omega)), show (8 : Int32) * nI k = nI (8 * k) from n_mul 8 k, nI_add, show (8 : Int32) = nI 8 from rfl, hn, bdS, h22, show (64 : Int32) * nI nt = nI (64 * nt) from n_mul 64 nt, nI_add, gdT _ (in_nI (by omega) (by decide)), nI_clamp (by omega), show nI k + 1 = nI (k + 1) from nI_add _ 1]
      exact t4
theorem m_take {v : Nat → Int32} {m : Nat → Nat → Int32} {L : List Nat} {i nt : Nat} (hc : cln L) (hi : i < 32) (hl : 0 < L.length) (h14 : m 14 i = nI L.length) (hs : sIs m i L) (h22 : v 22 = nI nt) (hnt : nt < 14000) (hen : aEnd (par L).1 (par L).2.2.2.1) :
    ∃ v' m', sv v v' ∧ sm m m' ∧ (if (nI (aId (par L).1) &&& m 12 i) = m 13 i then ∃ M : Nat → Nat → Int32, f_X8_take v m (nI i) = some (upd v' 22 (nI (nt + 1)), M) ∧ (∀ k, (k < 17 ∨ 22 < k) → M k = m' k) ∧ M 17 = upd (m 17) nt (nI i) ∧ M 18 = upd (m 18) nt (nI (aId (par L).1)) ∧ M 19 = upd (m 19) nt (nI (aKind (par L).1)) ∧ M 20 = upd (m 20) nt (nI (aLen (par L).1)) ∧ M 21 = upd (m 21) nt (v 2) ∧ (∀ x, x < 64 * nt → M 22 x = m 22 x) ∧ (∀ k, k < aOc (par L).1 → M 22 (64 * nt + k) &&& 255 = nI (vl (okP (par L).1 k))) else f_X8_take v m (nI i) = some (v', m')) := by
  have hL := L_len hc
  have hok := par_ok hc
  obtain ⟨v', m', s1, s2, s3, s4⟩ := m_body (v := v) (m := m) (L := L) (i := i) (N := L.length) hc hi hl h14 (Nat.le_refl _) (by omega) (Or.inl rfl) hs
  obtain ⟨P, R, la, ru, sb, T, hp⟩ : ∃ P R la ru sb T, par L = (P, R, la, ru, sb, T) := ⟨_, _, _, _, _, _, rfl⟩
  rw [hp] at hok hL s4 hen ⊢
  obtain ⟨a1, a2, a3, a4, a5, a6, a7, a8, a9, a10, a11, a12⟩ := hok
  obtain ⟨hl1, hl2, hl3⟩ := hL
  have hl2 : P.length ≤ 553 := hl2
  obtain ⟨hI, h45⟩ := s4
  have hen : aEnd P ru := hen
  have hkn := known_of (by omega) hen.1
  obtain ⟨f1, f2, f3⟩ := hI.2.2.2.2.2 hkn
  have hk6 := aKind_lt a2
  have hl16 := aLen_lt a2
  have hoc64 : aOc P ≤ 64 := octs_le _ _
  have ho : f_X8_octetsOf (nI (aKind P)) (nI (aLen P)) = some (nI (aOc P)) := m_octets (aKind P) hk6 (aLen P) hl16
  have w22 : v' 22 = nI nt := by rw [s1 22 (by decide) (by decide) (by decide) (by decide)]; exact h22
  have w2 : v' 2 = v 2 := s1 2 (by decide) (by decide) (by decide) (by decide)
  have hfrom : (if nI (aKind P) = 2 then (22 : Int32) else if nI (aKind P) = 3 then 41 else if (nI (aKind P) - nI (aKind P) / 2 * 2) = 1 then 39 else 19) = nI (aHl P) := by
    have hlb : aLong P < 2 := Bt_getD _ a2
    have hfb : aFlex P < 2 := Bt_getD _ a2
    have hrb : aRem P < 2 := Bt_getD _ a2
    have h1 : aLong P = 0 ∨ aLong P = 1 := by omega
    have h2 : aFlex P = 0 ∨ aFlex P = 1 := by omega
    have h3 : aRem P = 0 ∨ aRem P = 1 := by omega
    unfold aKind aHl
    rcases h1 with h1 | h1 <;> rcases h2 with h2 | h2 <;> rcases h3 with h3 | h3 <;> rw [h1, h2, h3] <;> decide
  have hble : aHl P + 8 * aOc P ≤ P.length := by
    have h1 := hen.1
    rw [pE, kn_y hkn] at h1
    have h2 := (aPe_le a2).1
    have h3 : aBe P = aHl P + 8 * aOc P := rfl
    omega
  refine ⟨v', m', s1, s2, ?_⟩
  unfold f_X8_take
  rw [s3, bdS]
  dsimp only
  rw [gdT _ (in_nI hi (by decide)), gdT _ (in_nI hi (by decide)), nI_clamp (by omega), f3, f1, f2, s2 12 (by decide), s2 13 (by decide)]
  by_cases hcd : (nI (aId P) &&& m 12 i) = m 13 i
  · rw [if_pos hcd]
    have hg : ∀ {β : Type} (x : Option β), gd (vp_in (v' 22) 14000) x = x := fun x => gdT x (by rw [w22]; exact in_nI hnt (by decide))
    rw [if_pos hcd, hg, hg, hg, hg, hg, ho, bdS, ltE, jnE, hfrom, w22, nI_clamp (by omega), n_byte _ (by omega), n_byte _ (by omega), w2]
    generalize hM0 : va_up (va_up (va_up (va_up (va_up m' 17 (upd (m' 17) nt (nI i))) 18 (upd (m' 18) nt (nI (aId P)))) 19 (upd (m' 19) nt (nI (aKind P)))) 20 (upd (m' 20) nt (nI (aLen P)))) 21 (upd (m' 21) nt (v 2)) = M0
    have h26 : arr (M0 26) P := by rw [← hM0]; simp only [va_up]; exact hI.2.2.2.1
    obtain ⟨M, t1, t2, t3, t4⟩ := take_loop (P := P) (u1 := v') (nt := nt) (oc := aOc P) (hl := aHl P) (k22 := fun ⟨v20, v21⟩ => some ((upd v' 22 ((nI nt) + 1)), v20)) a2 (by omega) hoc64 hble w22 hnt (aOc P) 0 fu M0 (by omega) (fu_big (by omega)) h26
    refine ⟨M, ?_, ?_, ?_, ?_, ?_, ?_, ?_, ?_, ?_⟩
    · refine t4.trans ?_
      dsimp only
      rw [show nI nt + 1 = nI (nt + 1) from nI_add _ 1]
    · intro k hk
      rw [t1 k (by omega), ← hM0, vu_n _ _ (by omega), vu_n _ _ (by omega), vu_n _ _ (by omega), vu_n _ _ (by omega), vu_n _ _ (by omega)]
    · rw [t1 17 (by decide), ← hM0, ← s2 17 (by decide)]; rfl
    · rw [t1 18 (by decide), ← hM0, ← s2 18 (by decide)]; rfl
    · rw [t1 19 (by decide), ← hM0, ← s2 19 (by decide)]; rfl
    · rw [t1 20 (by decide), ← hM0, ← s2 20 (by decide)]; rfl
    · rw [t1 21 (by decide), ← hM0, ← s2 21 (by decide)]; rfl
    · intro x hx
      rw [t2 x (by omega), ← hM0, ← s2 22 (by decide)]; rfl
    · intro k hk
      exact t3 k (by omega) hk
  · rw [if_neg hcd, if_neg hcd]
/-- the class takes -/
theorem add_loop {f o : Nat → Int32} {oc oh : Nat} {k16 : (Nat → Int32) × (Nat → Int32) × Int32 → Option ((Nat → Int32) × (Nat → Int32) × (Nat → Int32))} (h14 : f 14 = nI oc) (hoc : oc ≤ 64) (hoh : oh + oc ≤ 2500) :
    ∀ d k nn tf tk, d + k = oc → d < nn → tf 3 = nI (oh + k) → ∃ tk', (∀ x, (x < oh + k ∨ oh + oc ≤ x) → tk' x = tk x) ∧ (∀ j, k ≤ j → j < oc → tk' (oh + j) = o j) ∧ ∃ tf', (∀ j, j ≠ 3 → tf' j = tf j) ∧ tf' 3 = nI (oh + oc) ∧ L_X5_add_104 f o k16 nn tf tk (nI k) = k16 (tf', tk', nI oc) := by
  intro d
  induction d with
  | zero =>
    intro k nn tf tk hk hnn h3
    obtain ⟨nn, rfl⟩ : ∃ q, nn = q + 1 := ⟨nn - 1, by omega⟩
    have : k = oc := by omega
    subst this
    refine ⟨tk, fun _ _ => rfl, fun j h1 h2 => by omega, tf, fun _ _ => rfl, h3, ?_⟩
    show (if (f 14) ≤ nI k then _ else _) = _
    rw [h14, if_pos (le_l _ (Nat.le_refl _) (by omega))]
  | succ d ih =>
    intro k nn tf tk hk hnn h3
    obtain ⟨nn, rfl⟩ : ∃ q, nn = q + 1 := ⟨nn - 1, by omega⟩
    obtain ⟨tk', t1, t2, tf', t3, t4, t5⟩ := ih (k + 1) nn (upd tf 3 (nI (oh + (k + 1)))) (upd tk (oh + k) (o k)) (by omega) (by omega) (by simp [upd])
    refine ⟨tk', ?_, ?_, tf', ?_, t4, ?_⟩
    · intro x hx; rw [t1 x (by omega), up_n _ _ (by omega)]
    · intro j h1 h2
      by_cases hjk : j = k
      · subst hjk; rw [t1 _ (by omega), up_s]
      · exact t2 j (by omega) h2
    · intro j hj; rw [t3 j hj, up_n _ _ hj]
    · show (if (f 14) ≤ nI k then _ else if 64 ≤ nI k then _ else gd _ (gd _ _)) = _
      rw [h14, if_neg (nle_l _ (by omega) (by omega)), if_neg (show ¬ 64 ≤ nI k from nle_l (a := 64) k (by omega) (by decide)), gdT _ (in_nI (by omega) (by decide)), h3, gdT _ (in_nI (by omega) (by decide)), nI_clamp (by omega), nI_clamp (by omega), show nI (oh + k) + 1 = nI (oh + (k + 1)) from nI_add _ 1, show nI k + 1 = nI (k + 1) from nI_add _ 1]
      exact t5
theorem c_add {h : Int64} {f o a b c' : Nat → Int32} {P R T : List Nat} {la ru sb c oh : Nat} {tf tt tk : Nat → Int32} {p2 : Int32} (hP : Bt P) (hkn : aHl P ≤ P.length) (hl : LiS h f o a b c' (P, R, la, ru, sb, T)) (h2 : tf 2 = nI c) (h3 : tf 3 = nI oh) (hc : c < 436) (hoh : oh + aOc P ≤ 2500) :
    ∃ tf' tt' tk', f_X5_add tf tt tk h f o p2 = some (tf', tt', tk') ∧ tf' 2 = nI (c + 1) ∧ tf' 3 = nI (oh + aOc P) ∧ (∀ x, x < 6 * c → tt' x = tt x) ∧ tt' (6 * c) = nI (aId P) ∧ tt' (6 * c + 1) = nI (aKind P) ∧ tt' (6 * c + 2) = nI (aLen P) ∧ tt' (6 * c + 3) = nI (aOc P) ∧ tt' (6 * c + 4) = p2 ∧ tt' (6 * c + 5) = nI oh ∧ (∀ x, x < oh → tk' x = tk x) ∧ (∀ k, k < aOc P → tk' (oh + k) = o k) := by
  obtain ⟨l1, l2, l3, l4, l5, l6, l7, l8⟩ := hl
  have hoc : oC P = aOc P := kn_y hkn
  have hoc64 : aOc P ≤ 64 := octs_le _ _
  have g14 : f 14 = nI (aOc P) := by rw [l1.2.2.2, hoc]
  obtain ⟨tk', t1, t2, tf', t3, t4, t5⟩ := add_loop (f := f) (o := o) (oc := aOc P) (oh := oh) (k16 := fun ⟨v13, v14, v15⟩ => some ((upd v13 2 ((v13 2) + 1)), (upd (upd (upd (upd (upd (upd tt (6 * c) (nI (aId P))) (6 * c + 1) (nI (aKind P))) (6 * c + 2) (nI (aLen P))) (6 * c + 3) (nI (aOc P))) (6 * c + 4) p2) (6 * c + 5) (nI oh)), v14)) g14 hoc64 hoh (aOc P) 0 fu tf tk (by omega) (fu_big (by omega)) h3
  refine ⟨upd tf' 2 ((tf' 2) + 1), upd (upd (upd (upd (upd (upd tt (6 * c) (nI (aId P))) (6 * c + 1) (nI (aKind P))) (6 * c + 2) (nI (aLen P))) (6 * c + 3) (nI (aOc P))) (6 * c + 4) p2) (6 * c + 5) (nI oh), tk', ?_, ?_, ?_, ?_, ?_, ?_, ?_, ?_, ?_, ?_, ?_, ?_⟩
  rotate_left
  · exact up_s _ _ _ |>.trans (by rw [t3 2 (by decide), h2]; exact nI_add c 1)
  · rw [up_n _ _ (by decide)]; exact t4
  · intro x hx
    rw [up_n _ _ (by omega), up_n _ _ (by omega), up_n _ _ (by omega), up_n _ _ (by omega), up_n _ _ (by omega), up_n _ _ (by omega)]
  · rw [up_n _ _ (by omega), up_n _ _ (by omega), up_n _ _ (by omega), up_n _ _ (by omega), up_n _ _ (by omega), up_s]
  · rw [up_n _ _ (by omega), up_n _ _ (by omega), up_n _ _ (by omega), up_n _ _ (by omega), up_s]
  · rw [up_n _ _ (by omega), up_n _ _ (by omega), up_n _ _ (by omega), up_s]
  · rw [up_n _ _ (by omega), up_n _ _ (by omega), up_s]
  · rw [up_n _ _ (by omega), up_s]
  · rw [up_s]
  · intro x hx; exact t1 x (by omega)
  · intro k hk; exact t2 k (by omega) hk
  · unfold f_X5_add
    rw [h2, h3, if_neg (show ¬ 436 ≤ nI c from nle_l (a := 436) c (by omega) (by decide)), g14, show (2500 : Int32) - nI oh = nI (2500 - oh) from n_sub (a := 2500) (by omega), if_pos (le_l _ (by omega) (by omega)), l2, h_ident hP hkn l1.1 l1.2.2.1, bdS, show nI c * 6 = nI (6 * c) by rw [show (6 : Int32) = nI 6 from rfl, n_mul, Nat.mul_comm], gdT _ (in_nI (by omega) (by decide)), h_kind hP hkn l1.1 l1.2.1 l1.2.2.1, bdS]
    rw [show nI (6 * c) + 1 = nI (6 * c + 1) from nI_add _ 1, show nI (6 * c) + 2 = nI (6 * c + 2) from nI_add _ 2, show nI (6 * c) + 3 = nI (6 * c + 3) from nI_add _ 3, show nI (6 * c) + 4 = nI (6 * c + 4) from nI_add _ 4, show nI (6 * c) + 5 = nI (6 * c + 5) from nI_add _ 5]
    rw [gdT _ (in_nI (by omega) (by decide)), h_code hP hkn, bdS, gdT _ (in_nI (by omega) (by decide)), gdT _ (in_nI (by omega) (by decide)), gdT _ (in_nI (by omega) (by decide)), gdT _ (in_nI (by omega) (by decide)), jnE]
    rw [nI_clamp (by omega), nI_clamp (by omega), nI_clamp (by omega), nI_clamp (by omega), nI_clamp (by omega), nI_clamp (by omega)]
    exact t5
