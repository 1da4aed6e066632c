theorem par_end {L1 : List Nat} {P R T : List Nat} {la ru sb : Nat} (h : par L1 = (P, R, la, ru, sb, T)) (he : aEnd P ru) (X : List Nat) : ∃ la', par (L1 ++ X) = (P, R, la', ru, sb, T ++ X) := by
  refine sn_ind (p := fun X => ∃ la', par (L1 ++ X) = (P, R, la', ru, sb, T ++ X)) ?_ ?_ X
  · exact ⟨la, by rw [List.append_nil, List.append_nil]; exact h⟩
  · intro l b ih
    obtain ⟨la', e⟩ := ih
    refine ⟨b, ?_⟩
    rw [← List.append_assoc, par_s, e, stp_q, if_pos he, List.append_assoc]
def sIs (m : Nat → Nat → Int32) (i : Nat) (L : List Nat) : Prop := ∀ k, k < L.length → m 15 (1200 * i + k) = nI (L.getD k 0)
theorem sIs_sm {m m' : Nat → Nat → Int32} {i : Nat} {L : List Nat} (h : sIs m i L) (hs : sm m m') : sIs m' i L := fun k hk => by rw [hs 15 (by decide)]; exact h k hk
def bRes (v : Nat → Int32) (m : Nat → Nat → Int32) : PS → Prop
  | (P, R, la, ru, sb, T) => BI v m P R sb ∧ v 45 = (if aEnd P ru then nI R.length else -1)
theorem evt_body {P R : List Nat} {la ru sb b : Nat} {T : List Nat} (hen : ¬ aEnd P ru) (hg : goodE (evt (P, R, la, ru, sb, T) b)) : evt (P, R, la, ru, sb, T) b = 0 := by
  rw [evt_q, if_neg hen] at hg ⊢
  by_cases h5 : ru = 5
  · rw [if_pos h5] at hg ⊢
    by_cases hb : b = la
    · rw [if_pos hb] at hg; exact absurd hg (by unfold goodE; omega)
    · rw [if_neg hb]
  · rw [if_neg h5] at hg ⊢
    by_cases hb : aFlex (P ++ [b]) = 1 ∧ b = 1 ∧ P.length + 1 = aAt (P ++ [b]) + 2
    · rw [if_pos hb] at hg; exact absurd hg (by unfold goodE; omega)
    · rw [if_neg hb]
theorem L_len {L : List Nat} (hc : cln L) : L.length ≤ 733 ∧ (par L).1.length ≤ 553 ∧ (par L).2.1.length ≤ 691 := by
  have h := par_ok hc
  generalize par L = ps at h
  obtain ⟨P, R, la, ru, sb, T⟩ := ps
  obtain ⟨a1, a2, a3, a4, a5, a6, a7, a8, a9, a10, a11, a12⟩ := h
  have hp := pE_len a2 a7
  have ht : aTl P ≤ 32 := by unfold aTl; split <;> (try split) <;> omega
  refine ⟨?_, hp, by show R.length ≤ 691; omega⟩
  rw [a1, List.length_append]
  omega
theorem body_loop {L : List Nat} {i n : Nat} {k11 : K11} (hc : cln L) (hi : i < 32) (hn : L.length ≤ n + 1) (hn2 : n < 1200) (hn3 : n + 1 = L.length ∨ aEnd (par L).1 (par L).2.2.2.1) (hk11 : ∀ a b c d e f g h, k11 (a, b, c, d, e, f, g, h) = some (a, b, -1)) :
    ∀ d k nn v m P R la ru sb, d + k = L.length → d < nn → par (L.take k) = (P, R, la, ru, sb, []) → ¬ aEnd P ru → BI v m P R sb → v 45 = -1 → sIs m i L → ∃ v' m', sv v v' ∧ sm m m' ∧ L_X8_body_48 (nI n) (nI i) k11 nn v m (nI k) (nI (aFlex P)) (nI (aLong P)) (nI (cA P)) (nI ru) (nI la) = some (v', m', -1) ∧ bRes v' m' (par L) := by
  have hL := (L_len hc).1
  intro d
  induction d with
  | zero =>
    intro k nn v m P R la ru sb hk hnn hp hen hI h45 hs
    obtain ⟨nn, rfl⟩ : ∃ q, nn = q + 1 := ⟨nn - 1, by omega⟩
    have hkL : k = L.length := by omega
    subst hkL
    rw [List.take_length] at hp
    have hn4 : n + 1 = L.length := by
      rcases hn3 with h | h
      · exact h
      · rw [hp] at h; exact absurd h hen
    refine ⟨v, m, sv_r v, sm_r m, ?_, ?_⟩
    · rw [body_q, if_pos (lt_l _ (by omega) (by omega)), hk11]
    · rw [hp]
      exact ⟨hI, by rw [if_neg hen]; exact h45⟩
  | succ d ih =>
    intro k nn v m P R la ru sb hk hnn hp hen hI h45 hs
    obtain ⟨nn, rfl⟩ : ∃ q, nn = q + 1 := ⟨nn - 1, by omega⟩
    have hkl : k < L.length := by omega
    have hck := cln_take hc k
    have hok := par_ok hck
    have hgd := hc.2 k hkl
    rw [hp] at hok hgd
    obtain ⟨a1, a2, a3, a4, a5, a6, a7, a8, a9, a10, a11, a12⟩ := hok
    have hev := evt_body hen hgd
    have hRk : R.length = k := by
      have := congrArg List.length a1
      rw [List.append_nil, List.length_take] at this
      omega
    have hb : L.getD k 0 < 2 := Bt_getD k hc.1
    obtain ⟨v', m', P', R', ru', sb', s1, s2, s3, s4, s5, s6⟩ := (body_step (v := v) (m := m) (P := P) (R := R) (la := la) (ru := ru) (sb := sb) (i := i) (k := k) (b := L.getD k 0) (n := n) (nn := nn) (k11 := k11) hi a2 a3 a5 a7 hRk (by omega) hb (hs k hkl) (by omega) (by omega) hen hI).1 hev
    have hp' : par (L.take (k + 1)) = (P', R', L.getD k 0, ru', sb', []) := by rw [tk_s hkl, par_s, hp, s4]
    rw [s6]
    by_cases hen' : aEnd P' ru'
    · rw [if_pos hen']
      refine ⟨_, m', sv_u s1 45 _ (by decide), s2, rfl, ?_⟩
      obtain ⟨la', e⟩ := par_end hp' hen' (L.drop (k + 1))
      rw [List.take_append_drop] at e
      rw [e]
      obtain ⟨b1, b2, b3, b4, b5, b6⟩ := s5
      refine ⟨⟨by rw [up_n _ _ (by decide)]; exact b1, by rw [up_n _ _ (by decide)]; exact b2, by rw [up_n _ _ (by decide)]; exact b3, b4, b5, ?_⟩, ?_⟩
      · intro hy
        obtain ⟨f1, f2, f3⟩ := b6 hy
        exact ⟨by rw [up_n _ _ (by decide)]; exact f1, by rw [up_n _ _ (by decide)]; exact f2, by rw [up_n _ _ (by decide)]; exact f3⟩
      · rw [if_pos hen', up_s]
        have hok' := par_ok (cln_take hc (k + 1))
        rw [hp'] at hok'
        have := congrArg List.length hok'.1
        rw [List.append_nil, List.length_take] at this
        congr 1
        omega
    · rw [if_neg hen']
      obtain ⟨v'', m'', t1, t2, t3, t4⟩ := ih (k + 1) nn v' m' P' R' (L.getD k 0) ru' sb' (by omega) (by omega) hp' hen' s5 (by rw [s3]; exact h45) (sIs_sm hs s2)
      exact ⟨v'', m'', sv_t s1 t1, sm_t s2 t2, t3, t4⟩
theorem body_reach {L : List Nat} {i n : Nat} {k11 : K11} (hc : cln L) (hi : i < 32) (hn : L.length ≤ n) (hn2 : n < 1200) {P R : List Nat} {la ru sb : Nat} (hp : par L = (P, R, la, ru, sb, [])) (hen : ¬ aEnd P ru) :
    ∀ d k nn v m P0 R0 la0 ru0 sb0, d + k = L.length → par (L.take k) = (P0, R0, la0, ru0, sb0, []) → BI v m P0 R0 sb0 → v 45 = -1 → sIs m i L → ∃ v' m', sv v v' ∧ sm m m' ∧ v' 45 = -1 ∧ BI v' m' P R sb ∧ L_X8_body_48 (nI n) (nI i) k11 (nn + d) v m (nI k) (nI (aFlex P0)) (nI (aLong P0)) (nI (cA P0)) (nI ru0) (nI la0) = L_X8_body_48 (nI n) (nI i) k11 nn v' m' (nI L.length) (nI (aFlex P)) (nI (aLong P)) (nI (cA P)) (nI ru) (nI la) := by
  have hL := (L_len hc).1
  intro d
  induction d with
  | zero =>
    intro k nn v m P0 R0 la0 ru0 sb0 hk hp0 hI h45 hs
    have hkL : k = L.length := by omega
    subst hkL
    rw [List.take_length, hp] at hp0
    injection hp0 with e1 e2
    injection e2 with e2 e3
    injection e3 with e3 e4
    injection e4 with e4 e5
    injection e5 with e5 _
    subst e1 e2 e3 e4 e5
    exact ⟨v, m, sv_r v, sm_r m, h45, hI, rfl⟩
  | succ d ih =>
    intro k nn v m P0 R0 la0 ru0 sb0 hk hp0 hI h45 hs
    have hkl : k < L.length := by omega
    have hck := cln_take hc k
    have hok := par_ok hck
    have hgd := hc.2 k hkl
    have hen0 : ¬ aEnd P0 ru0 := by
      intro he
      obtain ⟨la', e⟩ := par_end hp0 he (L.drop k)
      rw [List.take_append_drop, hp] at e
      injection e with e1 e2
      injection e2 with e2 e3
      injection e3 with e3 e4
      injection e4 with e4 e5
      rw [e1, e4] at hen
      exact hen he
    rw [hp0] at hok hgd
    obtain ⟨a1, a2, a3, a4, a5, a6, a7, a8, a9, a10, a11, a12⟩ := hok
    have hev := evt_body hen0 hgd
    have hRk : R0.length = k := by
      have := congrArg List.length a1
      rw [List.append_nil, List.length_take] at this
      omega
    have hb : L.getD k 0 < 2 := Bt_getD k hc.1
    obtain ⟨v', m', P', R', ru', sb', s1, s2, s3, s4, s5, s6⟩ := (body_step (v := v) (m := m) (P := P0) (R := R0) (la := la0) (ru := ru0) (sb := sb0) (i := i) (k := k) (b := L.getD k 0) (n := n) (nn := nn + d) (k11 := k11) hi a2 a3 a5 a7 hRk (by omega) hb (hs k hkl) (by omega) (by omega) hen0 hI).1 hev
    have hp' : par (L.take (k + 1)) = (P', R', L.getD k 0, ru', sb', []) := by rw [tk_s hkl, par_s, hp0, s4]
    have hen' : ¬ aEnd P' ru' := by
      intro he
      obtain ⟨la', e⟩ := par_end hp' he (L.drop (k + 1))
      rw [List.take_append_drop, hp] at e
      injection e with e1 e2
      injection e2 with e2 e3
      injection e3 with e3 e4
      injection e4 with e4 e5
      rw [e1, e4] at hen
      exact hen he
    rw [show nn + (d + 1) = nn + d + 1 from rfl, s6, if_neg hen']
    obtain ⟨v'', m'', t1, t2, t3, t4, t5⟩ := ih (k + 1) nn v' m' P' R' (L.getD k 0) ru' sb' (by omega) hp' s5 (by rw [s3]; exact h45) (sIs_sm hs s2)
    exact ⟨v'', m'', sv_t s1 t1, sm_t s2 t2, t3, t4, t5⟩
theorem BI_0 {v : Nat → Int32} {m : Nat → Nat → Int32} : BI (upd (upd (upd (upd v 45 (-1)) 46 0) 34 0) 41 0) m [] [] 0 := ⟨by simp [upd]; rfl, by simp [upd]; rfl, by simp [upd]; rfl, arr_nil _, arr_nil _, fun h => absurd h (by decide)⟩
/-- the model parses all that a node has seen -/
theorem m_body {v : Nat → Int32} {m : Nat → Nat → Int32} {L : List Nat} {i N : Nat} (hc : cln L) (hi : i < 32) (hl : 0 < L.length) (h14 : m 14 i = nI N) (hN : L.length ≤ N) (hN2 : N ≤ 1200) (hN3 : N = L.length ∨ aEnd (par L).1 (par L).2.2.2.1) (hs : sIs m i L) : ∃ v' m', sv v v' ∧ sm m m' ∧ f_X8_body v m (nI i) = some (v', m', -1) ∧ bRes v' m' (par L) := by
  have hL := (L_len hc).1
  unfold f_X8_body
  rw [gdT _ (in_nI hi (by decide)), ltE, jnE, nI_clamp (by omega), h14, show nI N - 1 = nI (N - 1) from n_sub (b := 1) (by omega)]
  obtain ⟨v', m', s1, s2, s3, s4⟩ := body_loop (L := L) (i := i) (n := N - 1) (k11 := fun ⟨v3, v4, v5, v6, v7, v8, v9, v10⟩ => some (v3, v4, (-1))) hc hi (by omega) (by omega) (by rcases hN3 with h | h; exact Or.inl (by omega); exact Or.inr h) (fun _ _ _ _ _ _ _ _ => rfl) L.length 0 fu (upd (upd (upd (upd v 45 (-1)) 46 0) 34 0) 41 0) m [] [] 1 0 0 (by omega) (fu_big (by omega)) (by rw [List.take_zero]; rfl) (by decide) BI_0 (by simp [upd]) hs
  refine ⟨v', m', ?_, s2, s3, s4⟩
  exact sv_t (sv_u (sv_u (sv_u (sv_u (sv_r v) 45 _ (by decide)) 46 _ (by decide)) 34 _ (by decide)) 41 _ (by decide)) s1
theorem m_bodyE {v : Nat → Int32} {m : Nat → Nat → Int32} {L : List Nat} {i b : Nat} {P R : List Nat} {la ru sb : Nat} (hc : cln L) (hi : i < 32) (hb : b < 2) (hp : par L = (P, R, la, ru, sb, [])) (hen : ¬ aEnd P ru) (he : evt (par L) b ≠ 0) (h14 : m 14 i = nI (L.length + 1)) (hs : sIs m i (L ++ [b])) : ∃ v' m', sv v v' ∧ sm m m' ∧ f_X8_body v m (nI i) = some (v', m', nI (evt (par L) b)) := by
  have hL := (L_len hc).1
  unfold f_X8_body
  rw [gdT _ (in_nI hi (by decide)), ltE, jnE, nI_clamp (by omega), h14, show nI (L.length + 1) - 1 = nI L.length from n_sub (b := 1) (by omega)]
  have hsL : sIs m i L := fun k hk => by rw [hs k (by rw [len_s]; omega), gD_l hk]
  obtain ⟨q, hq⟩ : ∃ q, fu = q + 1 + L.length := ⟨fu - 1 - L.length, by have : fu = 1000000 := rfl; omega⟩
  obtain ⟨v', m', s1, s2, s3, s4, s5⟩ := body_reach (L := L) (i := i) (n := L.length) (k11 := fun ⟨v3, v4, v5, v6, v7, v8, v9, v10⟩ => some (v3, v4, (-1))) hc hi (Nat.le_refl _) (by omega) hp hen L.length 0 (q + 1) (upd (upd (upd (upd v 45 (-1)) 46 0) 34 0) 41 0) m [] [] 1 0 0 (by omega) (by rw [List.take_zero]; rfl) BI_0 (by simp [upd]) hsL
  have hok := par_ok hc
  rw [hp] at hok he ⊢
  obtain ⟨a1, a2, a3, a4, a5, a6, a7, a8, a9, a10, a11, a12⟩ := hok
  have hRk : R.length = L.length := by rw [a1, List.append_nil]
  have hmb : m' 15 (1200 * i + L.length) = nI b := by
    rw [s2 15 (by decide), hs L.length (by rw [len_s]; omega), gD_e rfl]
  obtain ⟨v'', m'', t1, t2, t3⟩ := (body_step (v := v') (m := m') (P := P) (R := R) (la := la) (ru := ru) (sb := sb) (i := i) (k := L.length) (b := b) (n := L.length) (nn := q) (k11 := fun ⟨v3, v4, v5, v6, v7, v8, v9, v10⟩ => some (v3, v4, (-1))) hi a2 a3 a5 a7 hRk (by omega) hb hmb (Nat.le_refl _) (by omega) hen s4).2 he
  refine ⟨v'', m'', ?_, sm_t s2 t2, ?_⟩
  · exact sv_t (sv_t (sv_u (sv_u (sv_u (sv_u (sv_r v) 45 _ (by decide)) 46 _ (by decide)) 34 _ (by decide)) 41 _ (by decide)) s1) t1
  · rw [hq]
    exact s5.trans t3
