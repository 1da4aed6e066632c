/-- what is always so of a hearer's octets and registers -/
def LG (o a b c : Nat → Int32) : Prop := (∀ k, k < 64 → ∃ y, y < 256 ∧ o k = nI y) ∧ (∃ x, a = rA x) ∧ (∃ x, b = rB x) ∧ ∃ x, c = rC x
def lsB (f a b c : Nat → Int32) (P R : List Nat) (la ru : Nat) : Prop := f 2 = nI 0 ∧ f 3 = nI 0 ∧ f 4 = nI la ∧ f 5 = nI ru ∧ ends f P ∧ rgs a b c P R ∧ (P.length = pE P → f 16 = nI (aRi P R []))
def lsF (f b c : Nat → Int32) (R T : List Nat) (la : Nat) : Prop := f 2 = nI 1 ∧ f 3 = nI T.length ∧ f 4 = nI la ∧ f 15 = nI (snF T) ∧ b = rB (crB (R ++ (nfx T).take 4)) ∧ c = rC (crC (R ++ (nfx T).take 4))
def lsT (f : Nat → Int32) (P R T : List Nat) : Prop := f 2 = nI 2 ∧ f 3 = nI (T.length - aTl P) ∧ f 16 = nI (aRi P R T)
def LiS (h : Int64) (f o a b c : Nat → Int32) : PS → Prop
  | (P, R, la, ru, sb, T) => hdr f P ∧ h = lN (vl (P.take (hE P))) ∧ OK o P ∧ f 6 = nI sb ∧ (∃ x, a = rA x) ∧ (∃ x, b = rB x) ∧ (∃ x, c = rC x) ∧ (if aEnd P ru then (if T.length < aTl P then lsF f b c R T la else lsT f P R T) else lsB f a b c P R la ru)
theorem LiS_LG {h : Int64} {f o a b c : Nat → Int32} {ps : PS} (hl : LiS h f o a b c ps) : LG o a b c := by
  obtain ⟨P, R, la, ru, sb, T⟩ := ps
  obtain ⟨_, _, h3, _, h5, h6, h7, _⟩ := hl
  exact ⟨fun k hk => by obtain ⟨y, y1, y2, _⟩ := h3 k hk; exact ⟨y, y1, y2⟩, h5, h6, h7⟩
theorem LiS_begin {h : Int64} {f o a b c : Nat → Int32} (hg : LG o a b c) : ∃ f' a' b' c', f_X1_begin h f a b c = some (lN 0, f', a', b', c') ∧ LiS (lN 0) f' o a' b' c' ps0 ∧ LG o a' b' c' := by
  obtain ⟨g1, ⟨xa, rfl⟩, ⟨xb, rfl⟩, ⟨xc, rfl⟩⟩ := hg
  refine ⟨_, _, _, _, by unfold f_X1_begin; rw [c_sumsBegin, bdS]; rfl, ?_, ⟨g1, ⟨_, rfl⟩, ⟨_, rfl⟩, ⟨_, rfl⟩⟩⟩
  have e1 : aEnd [] 0 ↔ False := by decide
  refine ⟨⟨rfl, rfl, rfl, rfl⟩, rfl, ?_, rfl, ⟨_, rfl⟩, ⟨_, rfl⟩, ⟨_, rfl⟩, ?_⟩
  · intro k hk
    obtain ⟨y, y1, y2⟩ := g1 k hk
    exact ⟨y, y1, y2, fun h => absurd (show k < 0 from h) (Nat.not_lt_zero k)⟩
  · rw [if_neg (by decide)]
    exact ⟨rfl, rfl, rfl, rfl, ⟨rfl, rfl, rfl, rfl⟩, ⟨rfl, fun _ => ⟨rfl, rfl⟩, ⟨_, rfl⟩, ⟨_, rfl⟩⟩, fun h => absurd h (by decide)⟩
theorem known_of {P : List Nat} (hl : P.length < 1000) (h : P.length = pE P) : aHl P ≤ P.length := by
  rcases Nat.lt_or_ge P.length (aHl P) with h9 | h9
  · rw [pE, kn_n (by omega)] at h; omega
  · exact h9
theorem aTl_y {P : List Nat} (hP : Bt P) (h : aFlex P ≠ 0) : aFlex P = 1 ∧ aTl P = if 16 < aOc P then 32 else 27 := by
  have : aFlex P < 2 := Bt_getD _ hP
  exact ⟨by omega, if_neg h⟩
theorem pE_len {P : List Nat} (hP : Bt P) (h : P.length ≤ pE P) : P.length ≤ 553 := by
  have h1 := aPe_le hP
  have h2 := aHl_le P
  unfold pE kn at h
  split at h <;> omega
theorem aRi_s {P R T : List Nat} (x : Nat) (h : aTl P ≤ T.length) : aRi P R (T ++ [x]) = aRi P R T := by
  unfold aRi
  rw [tk_l h]
theorem aRi_lt (P R T : List Nat) : aRi P R T < 2 := by unfold aRi; split <;> split <;> (try split) <;> omega
theorem hear {L : List Nat} {h : Int64} {f o a b c : Nat → Int32} {x : Nat} (hc : cln L) (hx : x < 2) (hl : LiS h f o a b c (par L)) :
    ∃ H F O A B C, f_X1_hear h f o a b c (nI x) = some (H, F, O, A, B, C, eC (evt (par L) x)) ∧ LG O A B C ∧ (goodE (evt (par L) x) → LiS H F O A B C (stp (par L) x)) := by
  have hok := par_ok hc
  have hBL := hc.1
  generalize par L = ps at hl hok ⊢
  obtain ⟨P, R, la, ru, sb, T⟩ := ps
  obtain ⟨a1, a2, a3, a4, a5, a6, a7, a8, a9, a10, a11, a12⟩ := hok
  have hG := LiS_LG hl
  obtain ⟨l1, l2, l3, l4, l5, l6, l7, l8⟩ := hl
  have hPl := pE_len a2 a7
  have hBT : Bt T := by rw [a1] at hBL; exact Bt_r hBL
  rw [evt_q, stp_q]
  unfold f_X1_hear
  by_cases hen : aEnd P ru
  · rw [if_pos hen] at l8
    rw [if_pos hen, if_pos hen]
    have hkn := known_of (by omega) hen.1
    have hoc : oC P = aOc P := kn_y hkn
    have hoc64 : aOc P ≤ 64 := octs_le _ _
    by_cases ht : T.length < aTl P
    · rw [if_pos ht] at l8
      obtain ⟨q1, q2, q3, q4, q5, q6⟩ := l8
      have hfl : aFlex P ≠ 0 := fun h => by rw [aTl, if_pos h] at ht; omega
      obtain ⟨hf1, htl⟩ := aTl_y a2 hfl
      obtain ⟨F, B, C, e, e1, e2, e3, e4, e5, e6⟩ := h_fixed (f := f) (T := T) (X := R) (la := la) (oc := aOc P) (sb := sb) (b := x) hBT (by rw [← htl]; exact ht) q2 q3 a3 l4 (by rw [l1.2.2.2, hoc]) hoc64 q4 hx
      have ee : tEv P R la sb T x = e := by rw [e2]; unfold tEv; rw [if_pos ht]
      refine ⟨h, F, o, a, B, C, ?_, ⟨hG.1, hG.2.1, ⟨_, e3⟩, ⟨_, e4⟩⟩, ?_⟩
      · rw [q1, if_neg (by decide), if_pos (by decide), q5, q6, e1, bdS, ee]
      · intro hgd
        rw [ee] at hgd
        have he0 : e = 0 := by
          rcases hgd with h | h
          · exact h
          · rw [e2] at h; split at h <;> (try split at h) <;> (try split at h) <;> omega
        have e6 := e6 he0
        refine ⟨⟨by rw [e5 _ (by decide) (by decide) (by decide) (by decide) (by decide)]; exact l1.1, by rw [e5 _ (by decide) (by decide) (by decide) (by decide) (by decide)]; exact l1.2.1, by rw [e5 _ (by decide) (by decide) (by decide) (by decide) (by decide)]; exact l1.2.2.1, by rw [e5 _ (by decide) (by decide) (by decide) (by decide) (by decide)]; exact l1.2.2.2⟩, l2, l3, by rw [e5 _ (by decide) (by decide) (by decide) (by decide) (by decide)]; exact l4, l5, ⟨_, e3⟩, ⟨_, e4⟩, ?_⟩
        rw [if_pos hen, len_s]
        by_cases h9 : T.length + 1 = aTl P
        · rw [if_pos (by rw [← htl]; exact h9)] at e6
          rw [if_neg (by omega)]
          refine ⟨e6.1, by rw [len_s, h9, Nat.sub_self]; exact e6.2.1, ?_⟩
          rw [e6.2.2]
          unfold aRi
          rw [if_neg hfl, tk_a (n := aTl P) (a := T ++ [x]) (by rw [len_s]; omega)]
        · rw [if_neg (by rw [← htl]; exact h9)] at e6
          rw [if_pos (by omega)]
          exact ⟨by rw [e6.1]; exact q1, by rw [len_s]; exact e6.2.1, e6.2.2.1, e6.2.2.2, e3, e4⟩
    · rw [if_neg ht] at l8
      obtain ⟨q1, q2, q3⟩ := l8
      have e1 := h_tail (f := f) (b := x) q2 (by omega) q3 (aRi_lt P R T) hx
      have ee : tEv P R la sb T x = (if T.length - aTl P = 1 then 0 else if x = 0 then (if T.length - aTl P = 9 then 5 else 2) else if T.length - aTl P = 2 then (if aRi P R T = 0 then 3 else 0) else if T.length - aTl P = 8 then 7 else if T.length - aTl P = 9 then 8 else 0) := by unfold tEv; rw [if_neg ht]
      refine ⟨h, _, o, a, b, c, by rw [q1, if_pos (by decide), e1, bdS, ee], hG, fun _ => ?_⟩
      refine ⟨⟨by simp [upd, l1.1], by simp [upd, l1.2.1], by simp [upd, l1.2.2.1], by simp [upd, l1.2.2.2]⟩, l2, l3, by simp [upd, l4], l5, l6, l7, ?_⟩
      rw [if_pos hen, len_s, if_neg (by omega)]
      refine ⟨by simp [upd, q1], ?_, ?_⟩
      · rw [len_s, up_s]; congr 1; omega
      · rw [aRi_s x (by omega)]; simp [upd, q3]
  · rw [if_neg hen] at l8
    rw [if_neg hen, if_neg hen]
    have hT : T = [] := by
      rcases Nat.eq_zero_or_pos T.length with h9 | h9
      · exact List.length_eq_zero_iff.mp h9
      · exact absurd (a8 h9) hen
    subst hT
    obtain ⟨q1, q2, q3, q4, q5, q6, q7⟩ := l8
    rw [q1, if_neg (by decide), if_neg (by decide), q4]
    have hpl : pE P < 2000000 := by
      have := (aPe_le a2).2.1
      unfold pE kn
      split <;> omega
    by_cases h5 : ru = 5
    · rw [if_pos h5, if_pos h5, if_pos (by rw [h5]; rfl)]
      unfold f_X1_hearStuffBit
      rw [q3]
      by_cases hxl : x = la
      · rw [if_pos hxl, if_pos (by rw [hxl]), bdS]
        exact ⟨h, f, o, a, b, c, rfl, hG, fun hgd => absurd hgd (by unfold goodE; omega)⟩
      · obtain ⟨r1, r2, ⟨xb, rfl⟩, ⟨xc, rfl⟩⟩ := q6
        have hR : ∀ (G : Nat → Int32), (∀ k, k ≠ 2 → k ≠ 4 → k ≠ 5 → k ≠ 6 → G k = f k) → G 4 = nI x → G 5 = nI 1 → G 6 = nI (sb + 1) → (G 2 = if P.length = pE P then nI 2 else nI 0) → LiS h G o a (rB (crB (xb ++ [x]))) (rC (crC (xc ++ [x]))) (P, R ++ [x], x, 1, sb + 1, []) := by
          intro G g0 g4 g5 g6 g2
          have k9 := g0 9 (by decide) (by decide) (by decide) (by decide)
          have k10 := g0 10 (by decide) (by decide) (by decide) (by decide)
          have k11 := g0 11 (by decide) (by decide) (by decide) (by decide)
          have k14 := g0 14 (by decide) (by decide) (by decide) (by decide)
          have k3 := g0 3 (by decide) (by decide) (by decide) (by decide)
          have k7 := g0 7 (by decide) (by decide) (by decide) (by decide)
          have k12 := g0 12 (by decide) (by decide) (by decide) (by decide)
          have k13 := g0 13 (by decide) (by decide) (by decide) (by decide)
          have k15 := g0 15 (by decide) (by decide) (by decide) (by decide)
          have k16 := g0 16 (by decide) (by decide) (by decide) (by decide)
          refine ⟨⟨by rw [k9]; exact l1.1, by rw [k10]; exact l1.2.1, by rw [k11]; exact l1.2.2.1, by rw [k14]; exact l1.2.2.2⟩, l2, l3, g6, l5, ⟨_, rfl⟩, ⟨_, rfl⟩, ?_⟩
          by_cases hpe : P.length = pE P
          · have hfl : aFlex P = 0 := by
              have : aFlex P < 2 := Bt_getD _ a2
              have : ¬ aFlex P = 1 := fun h => hen ⟨hpe, Or.inl h⟩
              omega
            have htl : aTl P = 0 := if_pos hfl
            rw [if_pos ⟨hpe, Or.inr (by decide)⟩, htl, if_neg (by decide)]
            rw [if_pos hpe] at g2
            refine ⟨g2, by rw [k3, htl]; exact q2, ?_⟩
            rw [k16, q7 hpe]
            unfold aRi
            rw [if_pos hfl, if_pos hfl]
          · rw [if_neg (fun h => hpe h.1)]
            rw [if_neg hpe] at g2
            refine ⟨g2, by rw [k3]; exact q2, g4, g5, ⟨by rw [k7]; exact q5.1, by rw [k12]; exact q5.2.1, by rw [k13]; exact q5.2.2.1, by rw [k15]; exact q5.2.2.2⟩, ⟨r1, ?_, ⟨_, rfl⟩, ⟨_, rfl⟩⟩, fun h => absurd h hpe⟩
            intro hle
            obtain ⟨s1, s2⟩ := r2 hle
            have t1 : f_X3_move (rB (crB xb)) (nI x) = f_X3_move (rB (crB R)) (nI x) := by rw [s1]
            have t2 : f_X3_move (rC (crC xc)) (nI x) = f_X3_move (rC (crC R)) (nI x) := by rw [s2]
            rw [c_moveB (crB_lt xb) hx, c_moveB (crB_lt R) hx, Option.some.injEq] at t1
            rw [c_moveC (crC_lt xc) hx, c_moveC (crC_lt R) hx, Option.some.injEq] at t2
            rw [crB_s, crC_s, crB_s, crC_s]
            exact ⟨t1, t2⟩
        rw [if_neg hxl, if_neg (by rw [nI_eq (by omega) (by omega)]; exact hxl), c_addOther hx, bdS]
        dsimp only
        rw [jnE, q5.1, q5.2.2.1, l4, show nI sb + 1 = nI (sb + 1) from nI_add _ 1]
        by_cases hpe : P.length = pE P
        · rw [if_pos (by rw [← hpe])]
          refine ⟨h, _, o, a, _, _, by rw [bdS]; rfl, ⟨hG.1, hG.2.1, ⟨_, rfl⟩, ⟨_, rfl⟩⟩, fun _ => hR _ ?_ ?_ ?_ ?_ ?_⟩
          · intro k k2 k4 k5 k6; simp [upd, k2, k4, k5, k6]
          · simp [upd]
          · simp [upd]; rfl
          · simp [upd]
          · rw [if_pos hpe]; simp [upd]; rfl
        · rw [if_neg (by rw [nI_eq (by omega) (by omega)]; exact hpe)]
          refine ⟨h, _, o, a, _, _, by rw [bdS]; rfl, ⟨hG.1, hG.2.1, ⟨_, rfl⟩, ⟨_, rfl⟩⟩, fun _ => hR _ ?_ ?_ ?_ ?_ ?_⟩
          · intro k k2 k4 k5 k6; simp [upd, k4, k5, k6]
          · simp [upd]
          · simp [upd]; rfl
          · simp [upd]
          · rw [if_neg hpe]; simp [upd, q1]
    · have hru : ru < 5 := by omega
      rw [if_neg h5, if_neg h5, if_neg (show ¬ nI ru = 5 by show ¬ nI ru = nI 5; rw [nI_eq (by omega) (by omega)]; exact h5), ltE, q3]
      have hlt : P.length < pE P := by
        rcases Nat.lt_or_ge P.length (pE P) with h9 | h9
        · exact h9
        · exact absurd ⟨by omega, Or.inr hru⟩ hen
      have er : (if nI x = nI la then nI ru + 1 else 1) = nI (if x = la then ru + 1 else 1) := by
        by_cases hxl : x = la
        · rw [if_pos hxl, if_pos (by rw [hxl])]; exact nI_add _ 1
        · rw [if_neg hxl, if_neg (by rw [nI_eq (by omega) (by omega)]; exact hxl)]; rfl
      rw [er]
      have hru' : (if x = la then ru + 1 else 1) ≤ 5 := by split <;> omega
      generalize (if x = la then ru + 1 else 1) = ru' at hru' ⊢
      obtain ⟨F, O, A, B, C, e1, e2, e3, e4, e5, e6, e7, e8, e9, e10⟩ := h_plain (f := upd (upd f 5 (nI ru')) 4 (nI x)) (o := o) (a := a) (b := b) (c := c) (P := P) (R := R) (x := x) (ru := ru') a2 hx hru' hlt (by simp [upd, q1]) (by simp [upd]) ⟨by simp [upd, l1.1], by simp [upd, l1.2.1], by simp [upd, l1.2.2.1], by simp [upd, l1.2.2.2]⟩ ⟨by simp [upd, q5.1], by simp [upd, q5.2.1], by simp [upd, q5.2.2.1], by simp [upd, q5.2.2.2]⟩ l3 q6
      rw [l2, e1, bdS]
      have hP' := Bt_snoc a2 hx
      have hOk : ∀ k, k < 64 → ∃ y, y < 256 ∧ O k = nI y := fun k hk => by obtain ⟨y, y1, y2, _⟩ := e4 k hk; exact ⟨y, y1, y2⟩
      obtain ⟨r1, r2, ⟨xb, r3⟩, ⟨xc, r4⟩⟩ := e5
      refine ⟨_, F, O, A, B, C, rfl, ⟨hOk, ⟨_, r1⟩, ⟨_, r3⟩, ⟨_, r4⟩⟩, fun _ => ?_⟩
      have f3 : F 3 = nI 0 := by rw [e7]; simp [upd, q2]
      have f4 : F 4 = nI x := by rw [e8]; simp [upd]
      have f5 : F 5 = nI ru' := by rw [e9]; simp [upd]
      have f6 : F 6 = nI sb := by rw [e10]; simp [upd, l4]
      refine ⟨e2, rfl, e4, f6, ⟨_, r1⟩, ⟨_, r3⟩, ⟨_, r4⟩, ?_⟩
      unfold plE at e6
      by_cases hpe : (P ++ [x]).length = pE (P ++ [x])
      · rw [if_pos hpe] at e6
        have hkn := known_of (by rw [len_s]; omega) hpe
        have hbe : bE (P ++ [x]) = aBe (P ++ [x]) := kn_y hkn
        by_cases hfl : aFlex (P ++ [x]) = 0
        · rw [if_pos hfl] at e6
          have htl : aTl (P ++ [x]) = 0 := if_pos hfl
          have hri : aRi (P ++ [x]) (R ++ [x]) [] = if vl ((P ++ [x]).drop (aBe (P ++ [x]))) = crA ((P ++ [x]).take (aBe (P ++ [x]))) then 1 else 0 := by unfold aRi; rw [if_pos hfl]
          by_cases hr5 : ru' < 5
          · rw [if_pos ⟨hpe, Or.inr hr5⟩, htl, if_neg (by decide)]
            rw [if_pos hr5] at e6
            exact ⟨e6.2, by rw [htl]; exact f3, by rw [hri]; exact e6.1⟩
          · rw [if_neg (by intro h; rcases h.2 with h | h <;> omega)]
            rw [if_neg hr5] at e6
            exact ⟨e6.2, f3, f4, f5, e3, ⟨r1, r2, ⟨xb, r3⟩, ⟨xc, r4⟩⟩, fun _ => by rw [hri]; exact e6.1⟩
        · rw [if_neg hfl] at e6
          obtain ⟨hf1, htl⟩ := aTl_y hP' hfl
          have hpb : pE (P ++ [x]) = aBe (P ++ [x]) := by rw [pE, kn_y hkn]; exact if_neg hfl
          rw [if_pos ⟨hpe, Or.inl hf1⟩, if_pos (by rw [htl]; split <;> decide)]
          obtain ⟨s1, s2⟩ := r2 (by omega)
          refine ⟨e6, f3, f4, ?_, ?_, ?_⟩
          · rw [e3.2.2.2, dr_o (by omega)]; rfl
          · rw [s1]; show _ = rB (crB (R ++ [x] ++ [])); rw [List.append_nil]
          · rw [s2]; show _ = rC (crC (R ++ [x] ++ [])); rw [List.append_nil]
      · rw [if_neg hpe] at e6
        rw [if_neg (fun h => hpe h.1)]
        exact ⟨e6, f3, f4, f5, e3, ⟨r1, r2, ⟨xb, r3⟩, ⟨xc, r4⟩⟩, fun h => absurd h hpe⟩
