/-! a node listens -/
theorem tEv_r (P R : List Nat) (la sb : Nat) (T : List Nat) (b : Nat) : tEv P R la sb T b = 0 ∨ tEv P R la sb T b = 1 ∨ tEv P R la sb T b = 2 ∨ tEv P R la sb T b = 3 ∨ tEv P R la sb T b = 5 ∨ tEv P R la sb T b = 7 ∨ tEv P R la sb T b = 8 := by
  unfold tEv
  repeat' split
  all_goals omega
theorem evt_r (ps : PS) (b : Nat) : evt ps b = 0 ∨ evt ps b = 1 ∨ evt ps b = 2 ∨ evt ps b = 3 ∨ evt ps b = 5 ∨ evt ps b = 7 ∨ evt ps b = 8 := by
  obtain ⟨P, R, la, ru, sb, T⟩ := ps
  rw [evt_q]
  split
  · exact tEv_r P R la sb T b
  · split
    · split <;> omega
    · split <;> omega
theorem tEv_7 {P R : List Nat} {la sb : Nat} {T : List Nat} {b : Nat} (h : tEv P R la sb T b = 7) : T.length = aTl P + 8 ∧ b ≠ 0 := by
  unfold tEv at h
  repeat' split at h
  all_goals omega
theorem evt_7 {P R : List Nat} {la ru sb : Nat} {T : List Nat} {b : Nat} (h : evt (P, R, la, ru, sb, T) b = 7) : aEnd P ru ∧ T.length = aTl P + 8 := by
  rw [evt_q] at h
  by_cases he : aEnd P ru
  · rw [if_pos he] at h
    exact ⟨he, (tEv_7 h).1⟩
  · rw [if_neg he] at h
    split at h
    · split at h <;> omega
    · split at h <;> omega
theorem pst_ev {L : List Nat} {b : Nat} (h : pst L) : evt (par L) b = 5 ∨ evt (par L) b = 8 := by
  unfold pst at h
  generalize par L = ps at h
  obtain ⟨P, R, la, ru, sb, T⟩ := ps
  obtain ⟨h1, h2⟩ := h
  have h2 : T.length = aTl P + 9 := h2
  rw [evt_q, if_pos h1]
  unfold tEv
  rw [if_neg (by omega), if_neg (by omega)]
  by_cases hb : b = 0
  · rw [if_pos hb, if_pos (by omega)]; exact Or.inl rfl
  · rw [if_neg hb, if_neg (by omega), if_neg (by omega), if_pos (by omega)]; exact Or.inr rfl
theorem end_len {L : List Nat} (hc : cln L) (he : aEnd (par L).1 (par L).2.2.2.1) : aHl (par L).1 ≤ (par L).1.length ∧ (par L).1.length = aPe (par L).1 ∧ Bt (par L).1 ∧ (par L).1.length + (par L).2.2.2.2.2.length ≤ L.length ∧ 34 ≤ (par L).1.length + aTl (par L).1 := by
  have hok := par_ok hc
  have hl := L_len hc
  generalize par L = ps at *
  obtain ⟨P, R, la, ru, sb, T⟩ := ps
  obtain ⟨a1, a2, a3, a4, a5, a6, a7, a8, a9, a10, a11, a12⟩ := hok
  have he1 : P.length = pE P := he.1
  have hk := known_of (by have : P.length ≤ 553 := hl.2.1; omega) he1
  have hp : P.length = aPe P := by rw [he1]; exact kn_y hk
  refine ⟨hk, hp, a2, by rw [a1, List.length_append]; show P.length + T.length ≤ _; omega, ?_⟩
  show 34 ≤ P.length + aTl P
  have h1 := aHl_at P
  have h2 := aAt_le P
  have hf : aFlex P < 2 := Bt_getD _ a2
  unfold aPe aBe at hp
  unfold aTl
  by_cases h0 : aFlex P = 0
  · rw [if_pos h0] at hp ⊢; omega
  · rw [if_neg h0] at hp ⊢
    split <;> omega
theorem pst_len {L : List Nat} (hc : cln L) (h : pst L) : 43 ≤ L.length := by
  have h1 := end_len hc h.1
  have h2 := h.2
  omega
theorem seF_7 {r1 r2 : Option Nat} {x2 : Int64} {x3 x4 x5 x6 x7 tf tt tk : Nat → Int32} {p2 w : Int32} {nf : Nat → Int32} (hw : f_X1_identifier x2 x3 = some w) : seF r1 r2 x2 x3 x4 x5 x6 x7 tf tt tk p2 (nI 7) nf = if (w &&& nf 4) = nf 5 then bd (f_X5_add tf tt tk x2 x3 x4 p2) (fun y => some (r1, r2, nf, x2, x3, x4, x5, x6, x7, y.1, y.2.1, y.2.2, -1)) else some (r1, r2, nf, x2, x3, x4, x5, x6, x7, tf, tt, tk, -1) := by
  unfold seF f_X2_settle
  rw [if_pos (show nI 7 = 7 from rfl), hw, bdS, jnE]
  split
  · cases f_X5_add tf tt tk x2 x3 x4 p2 with
    | none => rfl
    | some y => rfl
  · rfl
theorem rdK_n {n : Nat} {v : Nat → Int32} {m : Nat → Nat → Int32} : rdK n v m (mE 0) = some (v, m) := by
  rw [show mE 0 = -1 from rfl]
  unfold rdK
  rw [if_neg (by decide), if_neg (by decide), if_pos rfl]
theorem rdK_7 {n : Nat} {v : Nat → Int32} {m : Nat → Nat → Int32} : rdK n v m (mE 7) = f_X8_take v m (nI n) := by
  rw [show mE 7 = nI 10 from rfl]
  unfold rdK
  rw [if_pos (show nI 10 = 10 from rfl)]
theorem rdK_8 {n : Nat} {v : Nat → Int32} {m : Nat → Nat → Int32} : rdK n v m (mE 8) = some (v, mGo m n 6 3) := by
  rw [show mE 8 = nI 11 from rfl]
  unfold rdK
  rw [if_neg (by decide), if_pos (show nI 11 = 11 from rfl)]
theorem rdK_e {n e : Nat} {v : Nat → Int32} {m : Nat → Nat → Int32} (h0 : e ≠ 0) (h6 : e < 6) : rdK n v m (mE e) = f_X8_wrong v m (nI n) (nI e) := by
  have : mE e = nI e := by unfold mE; rw [if_neg h0, if_neg (by omega), if_neg (by omega)]
  rw [this]
  unfold rdK
  rw [if_neg (show ¬ nI e = 10 from ne_l 10 (by omega) (by omega) (by decide)), if_neg (show ¬ nI e = 11 from ne_l 11 (by omega) (by omega) (by decide)), if_neg (nm1 (by omega))]
theorem LiS_oc {h : Int64} {f o a b c : Nat → Int32} {P R : List Nat} {la ru sb : Nat} {T : List Nat} (hl : LiS h f o a b c (P, R, la, ru, sb, T)) (hk : aHl P ≤ P.length) (hp : aBe P ≤ P.length) {k : Nat} (hko : k < aOc P) : o k = nI (vl (okP P k)) := by
  have hoc := octs_le (aKind P) (aLen P)
  have hoc : aOc P ≤ 64 := hoc
  obtain ⟨y, y1, y2, y3⟩ := hl.2.2.1 k (by omega)
  have hl8 : (okP P k).length = 8 := sl_len (by unfold aBe at hp; omega)
  have := y3 (by rw [show oC P = aOc P from kn_y hk]; exact hko)
  rw [hl8, Nat.mod_eq_of_lt (show y < 2 ^ 8 from y1)] at this
  rw [y2, this]
set_option maxHeartbeats 4000000 in
theorem nd_hear {D : FD} {F n t K oh e E T x : Nat} {v0 v : Nat → Int32} {m0 m : Nat → Nat → Int32} {L : List Nat} {r1 r2 : Option Nat} {nf nf1 : Nat → Int32} {h : Int64} {f o a b c tf tt tk : Nat → Int32} (hn : n < 32) (ht : t < 20000) (hNC : NC D F n r1 nf (m0 12 n) (m0 13 n)) (hnf : ∀ k, k = 4 ∨ k = 5 ∨ k = 6 → nf1 k = nf k) (hc : cln L) (hl : LiS h f o a b c (par L)) (h2 : nf1 2 = nI 2) (h9m : m 9 n = nI 2) (h14 : m 14 n = nI L.length) (hseg : ∀ k, k < L.length → sSeg m n k = nI (L.getD k 0)) (hB : (46 * K + L.length ≤ t ∧ 8 * oh + L.length ≤ t) ∨ (pst L ∧ 46 * K + L.length ≤ t + 46 ∧ 8 * oh ≤ t)) (hB3 : 8 * e ≤ t) (hE : E < 92000) (h29 : v0 29 = nI E) (hT : T < 14000) (h22 : v0 22 = nI T) (hv2 : v0 2 = nI t) (htf2 : tf 2 = nI K) (htf3 : tf 3 = nI oh) (hx : x < 2) (hs0 : sv v0 v) (hm0 : nlx (fun _ => False) n m0 m) :
    ∃ R v' m', bd (f_X1_hear h f o a b c (nI x)) (fun ⟨u33, u34, u35, u36, u37, u38, u39⟩ => seF r1 r2 u33 u34 u35 u36 u37 u38 tf tt tk (nI t) u39 nf1) = some (r1, R) ∧ bd (f_X8_see m (nI n) (nI x)) (fun u => bd (f_X8_read v u (nI n)) (fun y => rdK n y.1 y.2.1 y.2.2)) = some (v', m') ∧ LGn R ∧ (oNo D F n t K oh e r1 v0 m0 tf tt tk R v' m' ∨ oEr D F n t K oh e E r1 v0 m0 tf tt tk R v' m' ∨ oTa D F n t K oh e T r1 v0 m0 tt tk R v' m') := by
  have hLl := L_len hc
  obtain ⟨H, F1, O, A, B, C, g1, g2, g3⟩ := hear (x := x) hc hx hl
  have hsI : sIs (mSee m n L.length x) n (L ++ [x]) := by
    refine sIs_seg (fun k hk => ?_)
    rw [len_s] at hk
    rw [mSee_seg]
    by_cases hkL : k = L.length
    · rw [if_pos hkL, hkL, gD_e rfl]
    · rw [if_neg hkL, hseg k (by omega), gD_l (by omega)]
  obtain ⟨v1, m1, e1, e2, e3⟩ := m_read (v := v) (m := mSee m n L.length x) hc hn hx mSee_14 hsI
  have hsv : sv v0 v1 := sv_t hs0 e1
  have hm1 : nlx (fun _ => False) n m0 m1 := nlx_t hm0 (nlx_t (nlx_see (by omega)) (sm_nlx e2))
  have h14' : m1 14 n = nI (L ++ [x]).length := by rw [e2 14 (by decide), mSee_14, len_s]
  have h9' : m1 9 n = nI 2 := by rw [e2 9 (by decide), mSee_o (by decide) (by decide)]; exact h9m
  have hsI1 : sIs m1 n (L ++ [x]) := sIs_sm hsI e2
  have hseg1 : ∀ k, k < (L ++ [x]).length → sSeg m1 n k = nI ((L ++ [x]).getD k 0) := hsI1
  have hNC1 : NC D F n r1 nf1 (m1 12 n) (m1 13 n) := NC_m hNC hnf hm1 (fun h => h) (fun h => h)
  rw [g1, bdS, m_see hn (by omega) hx h14, bdS, e3, bdS]
  dsimp only
  have hlen' : (L ++ [x]).length = L.length + 1 := len_s L x
  rcases evt_r (par L) x with hev | hev | hev | hev | hev | hev | hev
  · -- nothing
    have hnp : ¬ pst L := fun hp => by rcases pst_ev (b := x) hp with h | h <;> omega
    have hB' : 46 * K + L.length ≤ t ∧ 8 * oh + L.length ≤ t := hB.elim id (fun h => absurd h.1 hnp)
    have g4 := g3 (by rw [hev]; exact Or.inl rfl)
    rw [← par_s] at g4
    rw [hev, eC_0, show (-nI 1 : Int32) = -1 from rfl, seF_n, rdK_n]
    exact ⟨_, _, _, rfl, rfl, g2, Or.inl ⟨rfl, hsv, hm1, hNC1, Or.inr (Or.inr (Or.inr (Or.inl ⟨L ++ [x], h2, h9', cln_s hc hx (by rw [hev]; exact Or.inl rfl), by omega, g4, h14', hseg1, Or.inl ⟨by omega, by omega⟩, by omega⟩)))⟩⟩
  all_goals try (
    have hBk : 46 * K ≤ t + 3 ∧ 8 * oh ≤ t := by
      rcases hB with h | h
      · omega
      · have := pst_len hc h.1; omega
    rw [hev, eC_s (by decide), seF_e (by decide), rdK_e (by decide) (by decide), m_wrong hn (by decide) hE (by rw [hsv 29 (by decide) (by decide) (by decide) (by decide)]; exact h29)]
    exact ⟨_, _, _, rfl, rfl, g2, Or.inr (Or.inl (fl_err (by decide) hNC hnf h29 hv2 hsv hm1 hBk.1 (by omega) hB3))⟩)
  · -- taken
    have hnp : ¬ pst L := fun hp => by rcases pst_ev (b := x) hp with h | h <;> omega
    have hB' : 46 * K + L.length ≤ t ∧ 8 * oh + L.length ≤ t := hB.elim id (fun h => absurd h.1 hnp)
    have hc' : cln (L ++ [x]) := cln_s hc hx (by rw [hev]; exact Or.inr rfl)
    have g4 := g3 (by rw [hev]; exact Or.inr rfl)
    obtain ⟨P, R, la, ru, sb, Tl, hp⟩ : ∃ P R la ru sb T, par L = (P, R, la, ru, sb, T) := ⟨_, _, _, _, _, _, rfl⟩
    obtain ⟨q1, q2⟩ := evt_7 (hp ▸ hev)
    have hpar' : par (L ++ [x]) = (P, R, x, ru, sb, Tl ++ [x]) := by rw [par_s, hp, stp_q, if_pos q1]
    rw [hp, stp_q, if_pos q1] at g4
    have hend := end_len hc (by rw [hp]; exact q1)
    rw [hp] at hend
    obtain ⟨d1, d2, d3, d4, d5⟩ := hend
    have d1 : aHl P ≤ P.length := d1
    have d2 : P.length = aPe P := d2
    have d3 : Bt P := d3
    have d4 : P.length + Tl.length ≤ L.length := d4
    have hpe := aPe_le d3
    have hpst : pst (L ++ [x]) := by
      unfold pst
      rw [hpar']
      exact ⟨q1, by rw [len_s, q2]⟩
    have hid : f_X1_identifier H F1 = some (nI (aId P)) := by rw [g4.2.1]; exact h_ident d3 d1 g4.1.1 g4.1.2.2.1
    have hbe : aBe P = aHl P + 8 * aOc P := rfl
    have hoh : oh + aOc P ≤ 2500 := by omega
    obtain ⟨v2, m2, k1, k2, k3⟩ := m_take (v := v1) (m := m1) (L := L ++ [x]) (i := n) (nt := T) hc' hn (by omega) h14' hsI1 (by rw [hsv 22 (by decide) (by decide) (by decide) (by decide)]; exact h22) hT (by rw [hpar']; exact q1)
    rw [hpar'] at k3
    have k3 : if (nI (aId P) &&& m1 12 n) = m1 13 n then ∃ M : Nat → Nat → Int32, f_X8_take v1 m1 (nI n) = some (upd v2 22 (nI (T + 1)), M) ∧ (∀ k, (k < 17 ∨ 22 < k) → M k = m2 k) ∧ M 17 = upd (m1 17) T (nI n) ∧ M 18 = upd (m1 18) T (nI (aId P)) ∧ M 19 = upd (m1 19) T (nI (aKind P)) ∧ M 20 = upd (m1 20) T (nI (aLen P)) ∧ M 21 = upd (m1 21) T (v1 2) ∧ (∀ x, x < 64 * T → M 22 x = m1 22 x) ∧ (∀ k, k < aOc P → M 22 (64 * T + k) &&& 255 = nI (vl (okP P k))) else f_X8_take v1 m1 (nI n) = some (v2, m2) := k3
    rw [hev, eC_s (by decide), seF_7 hid, rdK_7]
    by_cases hfl : (nI (aId P) &&& m1 12 n) = m1 13 n
    · rw [if_pos hfl] at k3
      obtain ⟨M, M1, M2, M3, M4, M5, M6, M7, M8, M9⟩ := k3
      obtain ⟨tf', tt', tk', t1, t2, t3, t4, t5, t6, t7, t8, t9, t10, t11, t12⟩ := c_add (tf := tf) (tt := tt) (tk := tk) (p2 := nI t) d3 d1 g4 htf2 htf3 (by omega) hoh
      rw [if_pos (by rw [hNC1.1, hNC1.2.1]; exact hfl), t1, bdS, M1]
      have g : ∀ k, 17 ≤ k → k ≤ 22 → m1 k = m0 k := fun k h1 h2 => hm1.1 k (fun h => h) (by omega) (by omega)
      have hM2 : nlx (fun _ => False) n m0 m2 := nlx_t hm1 (sm_nlx k2)
      have hM : nlx sT6 n m0 M := by
        refine ⟨fun k h0 h1 h2 => ?_, fun k i hk hi => ?_, fun y hy => ?_⟩
        · have : k < 17 ∨ 22 < k := by unfold sT6 at h0; omega
          rw [M2 k this]; exact hM2.1 k (fun h => h) h1 h2
        · rw [M2 k (by omega)]; exact hM2.2.1 k i hk hi
        · rw [M2 15 (by omega)]; exact hM2.2.2 y hy
      have hvt : v1 2 = nI t := by rw [hsv 2 (by decide) (by decide) (by decide) (by decide)]; exact hv2
      have hnm : ∀ k, (k < 17) → M k = m1 k := fun k hk => by rw [M2 k (by omega), k2 k (by omega)]
      refine ⟨_, _, _, rfl, rfl, g2, Or.inr (Or.inr ⟨P, tf', tt', tk', aKind_lt d3, aLen_lt d3, hoh, rfl, t2, t3, t4, t5, t6, t7, t8, t9, t10, t11, ?_, fun k hk k1' k2' k3' k4' => ?_, up_s _ _ _, hM, ?_, ?_, ?_, ?_, ?_, ?_, M9, ?_, ?_⟩)⟩
      · intro k hk
        rw [t12 k hk]
        exact LiS_oc g4 d1 (by omega) hk
      · rw [up_n _ _ hk]; exact (sv_t hsv k1) k k1' k2' k3' k4'
      · rw [M3, g 17 (by omega) (by omega)]
      · rw [M4, g 18 (by omega) (by omega)]
      · rw [M5, g 19 (by omega) (by omega)]
      · rw [M6, g 20 (by omega) (by omega)]
      · rw [M7, g 21 (by omega) (by omega), hvt]
      · intro y hy; rw [M8 y hy, g 22 (by omega) (by omega)]
      · rw [hnm 12 (by omega), hnm 13 (by omega)]; exact hNC1
      · refine Or.inr (Or.inr (Or.inr (Or.inl ⟨L ++ [x], h2, by rw [hnm 9 (by omega)]; exact h9', hc', by omega, by rw [hpar']; exact g4, by rw [hnm 14 (by omega)]; exact h14', fun k hk => ?_, Or.inr ⟨hpst, by omega, by omega⟩, by omega⟩)))
        have : sSeg M n k = sSeg m1 n k := by unfold sSeg; rw [hnm 15 (by omega)]
        rw [this]
        exact hseg1 k hk
    · rw [if_neg hfl] at k3
      rw [if_neg (by rw [hNC1.1, hNC1.2.1]; exact hfl), k3]
      refine ⟨_, _, _, rfl, rfl, g2, Or.inl ⟨rfl, sv_t hsv k1, nlx_t hm1 (sm_nlx k2), NC_m hNC hnf (nlx_t hm1 (sm_nlx k2)) (fun h => h) (fun h => h), Or.inr (Or.inr (Or.inr (Or.inl ⟨L ++ [x], h2, by rw [k2 9 (by decide)]; exact h9', hc', by omega, by rw [hpar']; exact g4, by rw [k2 14 (by decide)]; exact h14', fun k hk => ?_, Or.inl ⟨by omega, by omega⟩, by omega⟩)))⟩⟩
      have : sSeg m2 n k = sSeg m1 n k := by unfold sSeg; rw [k2 15 (by decide)]
      rw [this]
      exact hseg1 k hk
  · -- ended
    have hBk : 46 * K ≤ t + 3 ∧ 8 * oh ≤ t := by
      rcases hB with h | h
      · omega
      · have := pst_len hc h.1; omega
    rw [hev, eC_s (by decide), seF_8, rdK_8]
    refine ⟨_, _, _, rfl, rfl, g2, Or.inl ⟨rfl, hsv, nlx_t hm1 nlx_go, NC_m hNC (fun k hk => by rw [up3 k hk, hnf k hk]) (nlx_t hm1 nlx_go) (fun h => h) (fun h => h), Or.inr (Or.inr (Or.inr (Or.inr (Or.inr (Or.inr (Or.inr ⟨0, ?_, ?_, by decide, ?_, ?_, by omega, by omega, by omega⟩))))))⟩⟩
    · rw [up_n _ _ (by decide), up_s]; rfl
    · unfold mGo; rw [vu_n _ _ (by decide), vu_s, up_s]; rfl
    · rw [up_s]; rfl
    · unfold mGo; rw [vu_s, up_s]; rfl
