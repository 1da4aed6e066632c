/-! the model writes a row -/
def MI (v : Nat → Int32) (m : Nat → Nat → Int32) (Q r s l : List Nat) : Prop := v 34 = nI Q.length ∧ arr (m 26) Q ∧ v 37 = nI r.length ∧ arr (m 27) r ∧ arr (m 28) s ∧ v 41 = nI l.length ∧ arr (m 30) l
theorem n_bool2 : ∀ q, q < 2 → vp_nar .boolean (nI q) = nI q := by decide +kernel
theorem m_putI {v : Nat → Int32} {m : Nat → Nat → Int32} {Q r s l : List Nat} {b q : Nat} (h : MI v m Q r s l) (hr : r.length < 1200) (hs : s.length = r.length) (hb : b < 2) (hq : q < 2) : ∃ v' m', f_X8_put v m (nI b) (nI q) = some (v', m') ∧ MI v' m' Q (r ++ [b]) (s ++ [q]) l ∧ v' 38 = v 38 ∧ sv v v' ∧ sm m m' := by
  obtain ⟨h1, h2, h3, h4, h5, h6, h7⟩ := h
  refine ⟨_, _, by unfold f_X8_put; rw [h3, gdT _ (in_nI hr (by decide)), gdT _ (in_nI hr (by decide)), nI_clamp (by omega), n_byte _ (by omega), n_bool2 _ hq, show nI r.length + 1 = nI (r.length + 1) from nI_add _ 1], ⟨?_, ?_, ?_, ?_, ?_, ?_, ?_⟩, ?_, sv_u (sv_r v) 37 _ (by omega), sm_u (sm_u (sm_r m) 27 _ (by omega)) 28 _ (by omega)⟩
  · rw [up_n _ _ (by decide)]; exact h1
  · rw [vu_n _ _ (by decide), vu_n _ _ (by decide)]; exact h2
  · rw [up_s, len_s]
  · rw [vu_n _ _ (by decide), vu_s]; exact arr_s h4 rfl
  · rw [vu_s]; exact arr_s h5 hs.symm
  · rw [up_n _ _ (by decide)]; exact h6
  · rw [vu_n _ _ (by decide), vu_n _ _ (by decide)]; exact h7
  · rw [up_n _ _ (by decide)]
theorem m_checkI {v : Nat → Int32} {m : Nat → Nat → Int32} {Q r s l : List Nat} {b : Nat} (h : MI v m Q r s l) (hl : l.length < 1200) (hb : b < 2) : ∃ v' m', f_X8_check v m (nI b) = some (v', m') ∧ MI v' m' Q r s (l ++ [b]) ∧ v' 38 = v 38 ∧ sv v v' ∧ sm m m' := by
  obtain ⟨h1, h2, h3, h4, h5, h6, h7⟩ := h
  refine ⟨_, _, m_check h6 hl hb, ⟨?_, ?_, ?_, ?_, ?_, ?_, ?_⟩, ?_, sv_u (sv_r v) 41 _ (by omega), sm_u (sm_r m) 30 _ (by omega)⟩
  · rw [up_n _ _ (by decide)]; exact h1
  · rw [vu_n _ _ (by decide)]; exact h2
  · rw [up_n _ _ (by decide)]; exact h3
  · rw [vu_n _ _ (by decide)]; exact h4
  · rw [vu_n _ _ (by decide)]; exact h5
  · rw [up_s, len_s]
  · rw [vu_s]; exact arr_s h7 rfl
  · rw [up_n _ _ (by decide)]
theorem m_five {v : Nat → Int32} {m : Nat → Nat → Int32} {r s f : List Nat} {la ru sb n : Nat} (hW : wOk n (r, s, f, la, ru, sb)) (hn : 0 < n) (hrl : r.length < 1200) (h37 : v 37 = nI r.length) (h27 : arr (m 27) r) (h28 : arr (m 28) s) : f_X8_five v m = some (nI (if ru = 5 then 1 else 0)) := by
  obtain ⟨o1, o2, o3, o4, o6, o7, o8, o9, o10, o11, o12, o13, o14, o15⟩ := hW
  have hru := o15 hn
  have key : ∀ (k3 : Int32 × Int32 → Option Int32), (∀ a b, k3 (a, b) = some (if b = 5 then 1 else 0)) → ∀ d j nn, d + (j + 1) = ru → d < nn → L_X8_five_9 m k3 nn (nI (r.length - 1 - j)) (nI (j + 1)) = some (nI (if ru = 5 then 1 else 0)) := by
    intro k3 hk3 d
    have fin : ∀ a, k3 (a, nI ru) = some (nI (if ru = 5 then 1 else 0)) := by
      intro a
      rw [hk3]
      by_cases h5 : ru = 5
      · rw [if_pos h5, if_pos (show nI ru = 5 by rw [h5]; rfl)]; rfl
      · rw [if_neg h5, if_neg (show ¬ nI ru = 5 from ne_l 5 h5 (by omega) (by decide))]; rfl
    have unf : ∀ nn a b, L_X8_five_9 m k3 (nn + 1) a b = if a ≤ 0 then k3 (a, b) else gd (vp_in a 1200) (gd (vp_in (a - 1) 1200) (if ((m 27) a.toNatClampNeg) = ((m 27) ((a - 1).toNatClampNeg)) then gd (vp_in a 1200) (if ((m 28) a.toNatClampNeg) = 0 then if 5 ≤ b then k3 (a, b) else L_X8_five_9 m k3 nn (a + (-1)) (b + 1) else k3 (a, b)) else k3 (a, b))) := fun _ _ _ => rfl
    induction d with
    | zero =>
      intro j nn hd hnn
      obtain ⟨nn, rfl⟩ : ∃ q, nn = q + 1 := ⟨nn - 1, by omega⟩
      have hj : j + 1 = ru := by omega
      rw [unf, hj]
      by_cases h0 : ru = r.length
      · rw [if_pos (show nI (r.length - 1 - j) ≤ 0 from le_l (a := r.length - 1 - j) 0 (by omega) (by decide))]
        exact fin _
      · rw [if_neg (show ¬ nI (r.length - 1 - j) ≤ 0 from nle_l 0 (by omega) (by omega)), gdT _ (in_nI (by omega) (by decide)), show nI (r.length - 1 - j) - 1 = nI (r.length - 1 - j - 1) from n_sub (b := 1) (by omega), gdT _ (in_nI (by omega) (by decide)), nI_clamp (by omega), nI_clamp (by omega), h27 _ (by omega), h27 _ (by omega)]
        have e1 := o11 j (by omega)
        have e2 := o13 (by omega)
        rw [show r.length - 1 - j - 1 = r.length - 1 - ru by omega, e1, if_neg (ne_l _ (fun e => e2 e.symm) (by omega) (by have := Bt_getD (r.length - 1 - ru) o3; omega))]
        exact fin _
    | succ d ih =>
      intro j nn hd hnn
      obtain ⟨nn, rfl⟩ : ∃ q, nn = q + 1 := ⟨nn - 1, by omega⟩
      rw [unf, if_neg (show ¬ nI (r.length - 1 - j) ≤ 0 from nle_l 0 (by omega) (by omega)), gdT _ (in_nI (by omega) (by decide)), show nI (r.length - 1 - j) - 1 = nI (r.length - 1 - j - 1) from n_sub (b := 1) (by omega), gdT _ (in_nI (by omega) (by decide)), nI_clamp (by omega), nI_clamp (by omega), h27 _ (by omega), h27 _ (by omega), h28 _ (by omega)]
      have e1 := o11 j (by omega)
      have e2 := o11 (j + 1) (by omega)
      have e3 := o12 j (by omega)
      rw [e1, show r.length - 1 - j - 1 = r.length - 1 - (j + 1) by omega, e2, if_pos rfl, gdT _ (in_nI (by omega) (by decide)), e3, if_pos (show nI 0 = 0 from rfl), if_neg (show ¬ 5 ≤ nI (j + 1) from nle_l (a := 5) _ (by omega) (by decide)), show nI (r.length - 1 - j) + (-1) = nI (r.length - 1 - j) - 1 from (Int32.sub_eq_add_neg _ _).symm, show nI (r.length - 1 - j) - 1 = nI (r.length - 1 - (j + 1)) from (n_sub (b := 1) (by omega)).trans (by congr 1), show nI (j + 1) + 1 = nI (j + 1 + 1) from nI_add _ 1]
      exact ih (j + 1) nn (by omega) (by omega)
  unfold f_X8_five
  rw [jnE, h37, show nI r.length - 1 = nI (r.length - 1 - 0) from n_sub (b := 1) (by omega)]
  exact key (fun ⟨v1, v2⟩ => lt (α := Int32) (if v2 = 5 then 1 else 0) (fun x12 => some (x12))) (fun a b => rfl) (ru - 1) 0 fu (by omega) (fu_big (by omega))
theorem m_105 {Q : List Nat} {r s : List Nat} (hQ : Bt Q) (hQl : Q.length ≤ 700) {k21 : (Nat → Int32) × (Nat → Nat → Int32) × Int32 → Option ((Nat → Int32) × (Nat → Nat → Int32))} :
    ∀ d i nn v m, d + i = Q.length → d < nn → MI v m Q r s (Q.take i) → ∃ v' m', L_X8_write_105 k21 nn v m (nI i) = k21 (v', m', nI Q.length) ∧ MI v' m' Q r s Q ∧ v' 38 = v 38 ∧ sv v v' ∧ sm m m' := by
  intro d
  induction d with
  | zero =>
    intro i nn v m hd hnn h
    obtain ⟨nn, rfl⟩ : ∃ q, nn = q + 1 := ⟨nn - 1, by omega⟩
    have hi : i = Q.length := by omega
    refine ⟨v, m, ?_, by rw [tk_a (by omega)] at h; exact h, rfl, sv_r v, sm_r m⟩
    show (if (v 34) ≤ nI i then k21 (v, m, nI i) else _) = _
    rw [h.1, if_pos (le_l _ (by omega) (by omega)), hi]
  | succ d ih =>
    intro i nn v m hd hnn h
    obtain ⟨nn, rfl⟩ : ∃ q, nn = q + 1 := ⟨nn - 1, by omega⟩
    have hb : Q.getD i 0 < 2 := Bt_getD i hQ
    obtain ⟨v1, m1, e1, e2, e3, e4, e5⟩ := m_checkI (b := Q.getD i 0) h (by rw [List.length_take]; omega) hb
    rw [← tk_s (by omega)] at e2
    obtain ⟨v2, m2, t1, t2, t3, t4, t5⟩ := ih (i + 1) nn v1 m1 (by omega) (by omega) e2
    refine ⟨v2, m2, ?_, t2, by rw [t3, e3], sv_t e4 t4, sm_t e5 t5⟩
    show (if (v 34) ≤ nI i then _ else gd (vp_in (nI i) 700) (bd (f_X8_check v m ((m 26) (nI i).toNatClampNeg)) (fun ⟨u24, u25⟩ => L_X8_write_105 k21 nn u24 u25 (nI i + 1)))) = _
    rw [h.1, if_neg (nle_l _ (by omega) (by omega)), gdT _ (in_nI (by omega) (by decide)), nI_clamp (by omega), h.2.1 i (by omega), e1, bdS]
    dsimp only
    rw [show nI i + 1 = nI (i + 1) from nI_add _ 1]
    exact t1
/-- where the arbitration ends -/
def abp (ar : Nat) (Q : List Nat) : Nat := (wr ar (Q.take (ar + 1))).1.length
/-- what the model has written after i plain bits -/
def mWs (fl ar : Nat) (Q : List Nat) (i : Nat) : WS := if fl = 1 ∧ i = Q.length then wr ar (Q.take i) else ws (wr ar (Q.take i))
theorem m_165 {fl ar n0 : Nat} {Q : List Nat} {v18 : Nat → Int32} (hQ : Bt Q) (hQl : Q.length ≤ 553) (hfl : fl < 2) (har : ar ≤ 32) (h18 : v18 34 = nI n0) (hn0 : fl = 1 → n0 = Q.length) {k38 : (Nat → Int32) × (Nat → Nat → Int32) × Int32 × Int32 → Option ((Nat → Int32) × (Nat → Nat → Int32))} :
    ∀ d i nn v m, d + i = Q.length → d < nn → MI v m Q (mWs fl ar Q i).1 (mWs fl ar Q i).2.1 (mWs fl ar Q i).1 → (ar < i → v 38 = nI (abp ar Q)) → ∃ v' m', L_X8_write_165 (nI ar) (nI fl) v18 k38 nn v m (nI i) (nI (mWs fl ar Q i).2.2.2.2.2) = k38 (v', m', nI Q.length, nI (mWs fl ar Q Q.length).2.2.2.2.2) ∧ MI v' m' Q (mWs fl ar Q Q.length).1 (mWs fl ar Q Q.length).2.1 (mWs fl ar Q Q.length).1 ∧ (ar < Q.length → v' 38 = nI (abp ar Q)) ∧ sv v v' ∧ sm m m' := by
  intro d
  induction d with
  | zero =>
    intro i nn v m hd hnn h h38
    obtain ⟨nn, rfl⟩ : ∃ q, nn = q + 1 := ⟨nn - 1, by omega⟩
    have hi : i = Q.length := by omega
    subst hi
    refine ⟨v, m, ?_, h, h38, sv_r v, sm_r m⟩
    show (if (v 34) ≤ nI Q.length then _ else _) = _
    rw [h.1, if_pos (le_l _ (Nat.le_refl _) (by omega))]
  | succ d ih =>
    intro i nn v m hd hnn h h38
    obtain ⟨nn, rfl⟩ : ∃ q, nn = q + 1 := ⟨nn - 1, by omega⟩
    have hb : Q.getD i 0 < 2 := Bt_getD i hQ
    have hlt : (Q.take i).length = i := by rw [List.length_take]; omega
    have hlt1 : (Q.take (i + 1)).length = i + 1 := by rw [List.length_take]; omega
    have hWi : mWs fl ar Q i = ws (wr ar (Q.take i)) := by unfold mWs; rw [if_neg (by omega)]
    have hok0 : wOk i (ws (wr ar (Q.take i))) := by have := wOk_ws (wr_ok ar (Bt_take i hQ)); rwa [hlt] at this
    have hok1 : wOk (i + 1) (wr ar (Q.take (i + 1))) := by have := wr_ok ar (Bt_take (i + 1) hQ); rwa [hlt1] at this
    have hst : wr ar (Q.take (i + 1)) = wq (ws (wr ar (Q.take i))) (Q.getD i 0) (if i ≤ ar then 1 else 0) := by rw [tk_s (by omega), wr_s, hlt]; rfl
    have hnx : mWs fl ar Q (i + 1) = if fl = 1 ∧ i + 1 = Q.length then wr ar (Q.take (i + 1)) else ws (wr ar (Q.take (i + 1))) := rfl
    rw [hWi] at h ⊢
    have habp : abp ar Q = (wr ar (Q.take (ar + 1))).1.length := rfl
    generalize hW0 : ws (wr ar (Q.take i)) = W0 at h hok0 hst
    obtain ⟨r, s, g, la, ru, sb⟩ := W0
    rw [wq_q] at hst
    rw [hst] at hok1 hnx
    obtain ⟨p1, p2, p3, p4, p5, p6, p7, p8, p9⟩ := id hok0
    have hrl : r.length ≤ 691 := by omega
    obtain ⟨v1, m1, a1, a2, a3, a4, a5⟩ := m_putI (b := Q.getD i 0) (q := 0) h (by show r.length < 1200; omega) p1 hb (by decide)
    obtain ⟨v2, m2, b1, b2, b3, b4, b5⟩ := m_checkI (b := Q.getD i 0) a2 (by show r.length < 1200; omega) hb
    have h5 := m_five (v := upd v2 38 (if nI i = nI ar then v2 37 else v2 38)) (m := m2) hok1 (by omega) (by rw [len_s]; omega) (by rw [up_n _ _ (by decide)]; exact b2.2.2.1) b2.2.2.2.1 b2.2.2.2.2.1
    have unf : ∀ sbx, L_X8_write_165 (nI ar) (nI fl) v18 k38 (nn + 1) v m (nI i) sbx = if (v 34) ≤ nI i then k38 (v, m, nI i, sbx) else gd (vp_in (nI i) 700) (bd (f_X8_put v m ((m 26) (nI i).toNatClampNeg) 0) (fun ⟨u41, u42⟩ => gd (vp_in (nI i) 700) (bd (f_X8_check u41 u42 ((u42 26) (nI i).toNatClampNeg)) (fun ⟨u45, u46⟩ => lt (α := Int32) (if nI i = nI ar then (u45 37) else (u45 38)) (fun x48 => bd (f_X8_five (upd u45 38 x48) u46) (fun u52 => jn (α := Int32 × (Nat → Int32) × (Nat → Nat → Int32)) (fun ⟨x54, x55, x56⟩ => L_X8_write_165 (nI ar) (nI fl) v18 k38 nn x55 x56 (nI i + 1) x54) (fun k57 => if u52 = 0 then k57 (sbx, (upd u45 38 x48), u46) else if nI fl = 0 then gd (vp_in (nI i) 700) (bd (f_X8_put (upd u45 38 x48) u46 (1 - ((u46 26) (nI i).toNatClampNeg)) 1) (fun ⟨u60, u61⟩ => gd (vp_in (nI i) 700) (bd (f_X8_check u60 u61 (1 - ((u61 26) (nI i).toNatClampNeg))) (fun ⟨u64, u65⟩ => k57 (sbx + 1, u64, u65))))) else if ((v18 34) - 1) ≤ nI i then k57 (sbx, (upd u45 38 x48), u46) else gd (vp_in (nI i) 700) (bd (f_X8_put (upd u45 38 x48) u46 (1 - ((u46 26) (nI i).toNatClampNeg)) 1) (fun ⟨u68, u69⟩ => gd (vp_in (nI i) 700) (bd (f_X8_check u68 u69 (1 - ((u69 26) (nI i).toNatClampNeg))) (fun ⟨u72, u73⟩ => k57 (sbx + 1, u72, u73)))))))))))) := fun _ => rfl
    rw [unf, h.1, if_neg (nle_l _ (by omega) (by omega)), gdT _ (in_nI (by omega) (by decide)), nI_clamp (by omega), h.2.1 i (by omega), show (0 : Int32) = nI 0 from rfl, a1, bdS]
    dsimp only
    rw [gdT _ (in_nI (by omega) (by decide)), a2.2.1 i (by omega), b1, bdS]
    dsimp only
    rw [ltE, h5, bdS, jnE]
    -- the state behind the plain bit
    have hx38 : ar < i + 1 → (upd v2 38 (if nI i = nI ar then v2 37 else v2 38)) 38 = nI (abp ar Q) := by
      intro hai
      rw [up_s]
      by_cases hia : i = ar
      · rw [if_pos (by rw [hia]), b2.2.2.1, habp, show ar + 1 = i + 1 by omega, hst]
      · rw [if_neg (ne_l _ hia (by omega) (by omega)), b3, a3]
        exact h38 (by omega)
    have b2' : MI (upd v2 38 (if nI i = nI ar then v2 37 else v2 38)) m2 Q (r ++ [Q.getD i 0]) (s ++ [0]) (r ++ [Q.getD i 0]) := by
      obtain ⟨c1, c2, c3, c4, c5, c6, c7⟩ := b2
      exact ⟨by rw [up_n _ _ (by decide)]; exact c1, c2, by rw [up_n _ _ (by decide)]; exact c3, c4, c5, by rw [up_n _ _ (by decide)]; exact c6, c7⟩
    have sv2 : sv v (upd v2 38 (if nI i = nI ar then v2 37 else v2 38)) := sv_u (sv_t a4 b4) 38 _ (by omega)
    have sm2 : sm m m2 := sm_t a5 b5
    generalize hv2 : upd v2 38 (if nI i = nI ar then v2 37 else v2 38) = u2 at b2' sv2 hx38
    -- no stuff bit
    have nost : mWs fl ar Q (i + 1) = (r ++ [Q.getD i 0], s ++ [0], g ++ [if i ≤ ar then 1 else 0], Q.getD i 0, if Q.getD i 0 = la then ru + 1 else 1, sb) → ∃ v' m', L_X8_write_165 (nI ar) (nI fl) v18 k38 nn u2 m2 (nI i + 1) (nI sb) = k38 (v', m', nI Q.length, nI (mWs fl ar Q Q.length).2.2.2.2.2) ∧ MI v' m' Q (mWs fl ar Q Q.length).1 (mWs fl ar Q Q.length).2.1 (mWs fl ar Q Q.length).1 ∧ (ar < Q.length → v' 38 = nI (abp ar Q)) ∧ sv v v' ∧ sm m m' := by
      intro hq
      obtain ⟨v3, m3, t1, t2, t3, t4, t5⟩ := ih (i + 1) nn u2 m2 (by omega) (by omega) (by rw [hq]; exact b2') hx38
      rw [hq] at t1
      refine ⟨v3, m3, ?_, t2, t3, sv_t sv2 t4, sm_t sm2 t5⟩
      rw [show nI i + 1 = nI (i + 1) from nI_add _ 1]
      exact t1
    -- a stuff bit
    have stf : (if Q.getD i 0 = la then ru + 1 else 1) = 5 → ¬ (fl = 1 ∧ i + 1 = Q.length) → ∃ v' m', gd (vp_in (nI i) 700) (bd (f_X8_put u2 m2 (1 - ((m2 26) i)) 1) (fun ⟨u60, u61⟩ => gd (vp_in (nI i) 700) (bd (f_X8_check u60 u61 (1 - ((u61 26) i))) (fun ⟨u64, u65⟩ => L_X8_write_165 (nI ar) (nI fl) v18 k38 nn u64 u65 (nI i + 1) (nI sb + 1))))) = k38 (v', m', nI Q.length, nI (mWs fl ar Q Q.length).2.2.2.2.2) ∧ MI v' m' Q (mWs fl ar Q Q.length).1 (mWs fl ar Q Q.length).2.1 (mWs fl ar Q Q.length).1 ∧ (ar < Q.length → v' 38 = nI (abp ar Q)) ∧ sv v v' ∧ sm m m' := by
      intro hr5 hne
      have hq : mWs fl ar Q (i + 1) = (r ++ [Q.getD i 0] ++ [1 - Q.getD i 0], s ++ [0] ++ [1], g ++ [if i ≤ ar then 1 else 0] ++ [0], 1 - Q.getD i 0, 1, sb + 1) := by rw [hnx, if_neg hne, ws_q, if_pos hr5]
      obtain ⟨v3, m3, c1, c2, c3, c4, c5⟩ := m_putI (b := 1 - Q.getD i 0) (q := 1) b2' (by rw [len_s]; omega) (by rw [len_s, len_s, p1]) (by omega) (by decide)
      obtain ⟨v4, m4, d1, d2, d3, d4, d5⟩ := m_checkI (b := 1 - Q.getD i 0) c2 (by rw [len_s]; omega) (by omega)
      obtain ⟨v5, m5, t1, t2, t3, t4, t5⟩ := ih (i + 1) nn v4 m4 (by omega) (by omega) (by rw [hq]; exact d2) (fun hai => by rw [d3, c3]; exact hx38 hai)
      rw [hq] at t1
      refine ⟨v5, m5, ?_, t2, t3, sv_t sv2 (sv_t c4 (sv_t d4 t4)), sm_t sm2 (sm_t c5 (sm_t d5 t5))⟩
      rw [gdT _ (in_nI (by omega) (by decide)), b2'.2.1 i (by omega), show (1 : Int32) - nI (Q.getD i 0) = nI (1 - Q.getD i 0) from n_sub (a := 1) (by omega), show (1 : Int32) = nI 1 from rfl, c1, bdS]
      dsimp only
      rw [gdT _ (in_nI (by omega) (by decide)), c2.2.1 i (by omega), show nI 1 - nI (Q.getD i 0) = nI (1 - Q.getD i 0) from n_sub (a := 1) (by omega), d1, bdS]
      dsimp only
      rw [nI_add, nI_add]
      exact t1
    by_cases hr5 : (if Q.getD i 0 = la then ru + 1 else 1) = 5
    · rw [if_pos hr5, if_neg (show ¬ nI 1 = nI 0 by decide)]
      by_cases hf1 : fl = 1
      · rw [if_neg (show ¬ nI fl = nI 0 by rw [hf1]; decide), h18, show nI n0 - 1 = nI (n0 - 1) from n_sub (b := 1) (by have := hn0 hf1; omega)]
        have hn1 := hn0 hf1
        by_cases hlast : i + 1 = Q.length
        · rw [if_pos (le_l _ (by omega) (by omega))]
          exact nost (by rw [hnx, if_pos ⟨hf1, hlast⟩])
        · rw [if_neg (nle_l _ (by omega) (by omega))]
          exact stf hr5 (fun h => hlast h.2)
      · rw [if_pos (show nI fl = nI 0 by rw [show fl = 0 by omega])]
        exact stf hr5 (fun h => hf1 h.1)
    · rw [if_neg hr5, if_pos rfl]
      refine nost ?_
      rw [hnx]
      by_cases hx : fl = 1 ∧ i + 1 = Q.length
      · rw [if_pos hx]
      · rw [if_neg hx, ws_q, if_neg hr5]
