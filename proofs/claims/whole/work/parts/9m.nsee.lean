/-! a node sees its bit -/
theorem m_pau_w {v : Nat → Int32} {m : Nat → Nat → Int32} {n l : Nat} (hn : n < 32) (hl : l < 100) (h10 : m 10 n = nI (l + 1)) : f_X8_pauses v m (nI n) (nI 0) = f_X8_wrong v m (nI n) (nI 5) := by
  have hg : ∀ {β : Type} (x : Option β), gd (vp_in (nI n) 32) x = x := fun x => gdT x (in_nI hn (by decide))
  unfold f_X8_pauses
  rw [jnE, if_pos (show nI 0 = 0 from rfl), hg, nI_clamp (by omega), h10, if_neg (show ¬ nI (l + 1) ≤ 0 from nle_l 0 (by omega) (by omega))]
  exact bd_id (f_X8_wrong v m (nI n) 5)
theorem m_pau_0 {v : Nat → Int32} {m : Nat → Nat → Int32} {n : Nat} (hn : n < 32) (h10 : m 10 n = nI 0) : f_X8_pauses v m (nI n) (nI 0) = bd (f_X8_first v (mSee (va_up m 14 (upd (m 14) n 0)) n 0 0) (nI n)) (fun y => some (y.1, va_up (va_up y.2.1 11 (upd (y.2.1 11) n y.2.2)) 9 (upd (y.2.1 9) n (if y.2.2 = -1 then 2 else 1)))) := by
  have hg : ∀ {β : Type} (x : Option β), gd (vp_in (nI n) 32) x = x := fun x => gdT x (in_nI hn (by decide))
  unfold f_X8_pauses
  have hse : f_X8_see (va_up m 14 (upd (m 14) n 0)) (nI n) 0 = some (mSee (va_up m 14 (upd (m 14) n 0)) n 0 0) := m_see (i := 0) (b := 0) hn (by decide) (by decide) (by rw [vu_s, up_s]; rfl)
  rw [jnE, if_pos (show nI 0 = 0 from rfl), hg, nI_clamp (by omega), h10, if_pos (show nI 0 ≤ 0 by decide), if_pos (show nI 0 = 0 from rfl), hg, hse, bdS]
  congr 1
  funext y
  obtain ⟨a, b, c⟩ := y
  dsimp only
  rw [hg, hg, ltE, hg, up_s]
theorem m_pau_1 {v : Nat → Int32} {m : Nat → Nat → Int32} {n : Nat} (hn : n < 32) : f_X8_pauses v m (nI n) (nI 1) = if m 10 n = 0 then some (v, va_up m 9 (upd (m 9) n 0)) else some (v, m) := by
  have hg : ∀ {β : Type} (x : Option β), gd (vp_in (nI n) 32) x = x := fun x => gdT x (in_nI hn (by decide))
  unfold f_X8_pauses
  rw [jnE, if_neg (by decide), if_neg (by decide), hg, nI_clamp (by omega)]
  split
  · rw [hg]
  · rfl
set_option maxHeartbeats 4000000 in
theorem nd_see {D : FD} {F n t K oh e E T dn x : Nat} {s : CS} {v : Nat → Int32} {m : Nat → Nat → Int32} {r1 r2 : Option Nat} {nf : Nat → Int32} {h : Int64} {f o a b c tf tt tk : Nat → Int32} (hn : n < 32) (hF : F ≤ 200) (ht : t < 20000) (hV : ∀ f, f < F → FVo D f) (h4 : v 4 = nI F) (hM : ∀ f, f < F → FMo m D f) (hC : ∀ f, f < F → FCo s D f) (hg : LG o a b c) (hN : NSt 1 D F n t K oh e r1 r2 nf h f o a b c (m 9 n) (m 10 n) (m 11 n) (m 14 n) (m 12 n) (m 13 n) (sSeg m n)) (hE : E < 92000) (h29 : v 29 = nI E) (hT : T < 14000) (h22 : v 22 = nI T) (hdn : dn < 200 ∨ ∀ f, f < F → fDn D f ≠ 0) (h11v : v 11 = nI dn) (hv2 : v 2 = nI t) (htf2 : tf 2 = nI K) (htf3 : tf 3 = nI oh) (hx : x < 2) :
    ∃ R v' m', f_X2_see r1 r2 nf h f o a b c tf tt tk (s.1 13) (s.1 15) (nI x) (nI t) = some (r1, R) ∧ f_X8_sees v m (nI n) (nI x) = some (v', m') ∧ LGn R ∧ (oNo D F n t K oh e r1 v m tf tt tk R v' m' ∨ oEr D F n t K oh e E r1 v m tf tt tk R v' m' ∨ oDo D F n t K oh e dn v m nf tf tt tk R v' m' ∨ oTa D F n t K oh e T r1 v m tt tk R v' m') := by
  obtain ⟨hNC, hcs⟩ := hN
  have hx01 : x = 0 ∨ x = 1 := by omega
  have hfs : ∀ j, fs D n F = some j → j < 200 := fun j hj => by have := fs_ok F j hj; omega
  have fin3 : ∀ {R : SeeR} {v' : Nat → Int32} {m' : Nat → Nat → Int32}, (oNo D F n t K oh e r1 v m tf tt tk R v' m' ∨ oEr D F n t K oh e E r1 v m tf tt tk R v' m' ∨ oTa D F n t K oh e T r1 v m tt tk R v' m') → (oNo D F n t K oh e r1 v m tf tt tk R v' m' ∨ oEr D F n t K oh e E r1 v m tf tt tk R v' m' ∨ oDo D F n t K oh e dn v m nf tf tt tk R v' m' ∨ oTa D F n t K oh e T r1 v m tt tk R v' m') := by
    intro R v' m' h9
    rcases h9 with h9 | h9 | h9
    · exact Or.inl h9
    · exact Or.inr (Or.inl h9)
    · exact Or.inr (Or.inr (Or.inr h9))
  have fin3' : ∀ {R : SeeR} {v' : Nat → Int32} {m' : Nat → Nat → Int32}, (oNo D F n t K oh e r1 v m tf tt tk R v' m' ∨ oEr D F n t K oh e E r1 v m tf tt tk R v' m' ∨ oDo D F n t K oh e dn v m nf tf tt tk R v' m') → (oNo D F n t K oh e r1 v m tf tt tk R v' m' ∨ oEr D F n t K oh e E r1 v m tf tt tk R v' m' ∨ oDo D F n t K oh e dn v m nf tf tt tk R v' m' ∨ oTa D F n t K oh e T r1 v m tt tk R v' m') := by
    intro R v' m' h9
    rcases h9 with h9 | h9 | h9
    · exact Or.inl h9
    · exact Or.inr (Or.inl h9)
    · exact Or.inr (Or.inr (Or.inl h9))
  have sk : ∀ z, nf 2 = nI z → z < 7 → z ≠ 0 → z ≠ 1 → (x = 0 → z = 6 → nf 3 = 2 → ∃ j, r1 = some j ∧ j < 200) → f_X2_see r1 r2 nf h f o a b c tf tt tk (s.1 13) (s.1 15) (nI x) (nI t) = seK r1 r2 tf tt tk (s.1 13) (s.1 15) (nI x) (nI t) nf h f o a b c := by
    intro z hz hz7 hz0 hz1 h6
    rw [see_q]
    by_cases hx0 : x = 0
    · rw [if_pos (show nI x = 0 by rw [hx0]; rfl), t_same hz hz7 hz0 (h6 hx0) (fun e => absurd e hz1), bdS]
    · rw [if_neg (show ¬ nI x = 0 from ne_l 0 hx0 (by omega) (by decide))]
  have dnl : ∀ j, j < F → fDn D j = 0 → dn < 200 := fun j hj hd => hdn.elim id (fun h9 => absurd hd (h9 j hj))
  -- the first of the model, behind a change of the node's own cells
  have mfirst : ∀ m1 : Nat → Nat → Int32, nlx (fun _ => False) n m m1 → ∃ v' m', f_X8_first v m1 (nI n) = some (v', m', oI (fs D n F)) ∧ sv v v' ∧ sm m1 m' := by
    intro m1 hm1
    refine m_first hn hF hV h4 (fun g hg9 => ?_)
    have := hM g hg9
    exact ⟨frM_o this.1 (fun j hj => hm1.1 j (fun h => h) (by omega) (by omega)), by rw [hm1.1 1 (fun h => h) (by omega) (by omega)]; exact this.2.1, by rw [hm1.1 6 (fun h => h) (by omega) (by omega)]; exact this.2.2⟩
  have hm14 : nlx (fun _ => False) n m (va_up m 14 (upd (m 14) n 0)) := nlx_u (by omega)
  rcases hcs with ⟨h01, hq⟩ | ⟨_, hqs⟩ | hot
  · -- quiet, nothing to send
    have hr1 : r1 = none := h01.elim (fun h9 => absurd h9 (by decide)) id
    obtain ⟨q1, q2, q3, q4, q5⟩ := id hq
    have hfn : fs D n F = none := by rw [← hNC.2.2.2, hr1]
    obtain ⟨v1, m1, e1, e2, e3⟩ := mfirst _ hm14
    rw [hfn] at e1
    have hm1 : nlx (fun _ => False) n m m1 := nlx_t hm14 (sm_nlx e3)
    rw [m_sees0 hn q2, e1, bdS]
    dsimp only
    rw [if_pos (show oI none = -1 from rfl)]
    rcases hx01 with hx0 | hx1
    · subst hx0
      rw [if_neg (by decide), see_q, if_pos (show nI 0 = 0 from rfl)]
      obtain ⟨f', a', b', c', t1, t2⟩ := t_begin (r1 := r1) (r2 := r2) (nf := nf) (h := h) (f := f) (φ := s.1 13) (φb := s.1 15) (Or.inl q1) hg
      rw [t1, bdS]
      dsimp only
      unfold seK
      rw [if_neg (show ¬ (upd (upd nf 2 2) 3 0) 2 = 1 by rw [up_n _ _ (by decide), up_s]; decide), if_pos (show (upd (upd nf 2 2) 3 0) 2 = 2 by rw [up_n _ _ (by decide), up_s])]
      have hmA : nlx (fun _ => False) n m (va_up (va_up m1 9 (upd (m1 9) n 2)) 11 (upd (m1 11) n (oI none))) := by
        have : va_up (va_up m1 9 (upd (m1 9) n 2)) 11 (upd (m1 11) n (oI none)) = va_up (va_up m1 9 (upd (m1 9) n 2)) 11 (upd ((va_up m1 9 (upd (m1 9) n 2)) 11) n (oI none)) := by rw [vu_n (j := 11) _ _ (by decide)]
        rw [this]
        exact nlx_t hm1 (nlx_t (nlx_u (by omega)) (nlx_u (by omega)))
      obtain ⟨R, v', m', w1, w2, w3, w4⟩ := nd_hear (D := D) (F := F) (K := K) (oh := oh) (e := e) (E := E) (T := T) (x := 0) (v0 := v) (m0 := m) (v := v1) (L := []) (r1 := r1) (r2 := r2) (nf := nf) (nf1 := upd (upd nf 2 2) 3 0) (tf := tf) (tt := tt) (tk := tk) hn ht hNC up3 cln_nil t2 (by rw [up_n _ _ (by decide), up_s]; rfl) (by rw [vu_n _ _ (by decide), vu_s, up_s]; rfl) (by rw [vu_n _ _ (by decide), vu_n _ _ (by decide), e3 14 (by decide), vu_s, up_s]; rfl) (fun k hk => absurd hk (Nat.not_lt_zero k)) (Or.inl ⟨by show 46 * K + 0 ≤ t; omega, by show 8 * oh + 0 ≤ t; omega⟩) q5 hE h29 hT h22 hv2 htf2 htf3 (by decide) e2 hmA
      exact ⟨R, v', m', w1, w2, w3, fin3 w4⟩
    · subst hx1
      rw [if_pos (show nI 1 = 1 from rfl), see_q, if_neg (by decide)]
      unfold seK
      rw [if_neg (show ¬ nf 2 = 1 by rw [q1]; decide), if_neg (show ¬ nf 2 = 2 by rw [q1]; decide), if_neg (show ¬ nf 2 = 3 by rw [q1]; decide), if_neg (show ¬ nf 2 = 4 by rw [q1]; decide), if_neg (show ¬ nf 2 = 5 by rw [q1]; decide), if_neg (show ¬ nf 2 = 6 by rw [q1]; decide), seF_n]
      refine ⟨_, _, _, rfl, rfl, hg, Or.inl ⟨rfl, e2, hm1, NC_m hNC (fun _ _ => rfl) hm1 (fun h => h) (fun h => h), Or.inl ⟨Or.inl rfl, q1, ?_, by omega, by omega, by omega⟩⟩⟩
      rw [e3 9 (by decide), vu_n _ _ (by decide)]; exact q2
  · -- its first frame begins
    obtain ⟨⟨j, j1, j2⟩, q1, q2, q3, q4, q5, q6⟩ := hqs
    have hfn : fs D n F = some j := by rw [← hNC.2.2.2, j1]
    have hjj := fs_ok F j hfn
    obtain ⟨v1, m1, e1, e2, e3⟩ := mfirst _ hm14
    rw [hfn] at e1
    have hm1 : nlx (fun _ => False) n m m1 := nlx_t hm14 (sm_nlx e3)
    rw [m_sees0 hn q3, e1, bdS]
    dsimp only
    rw [if_neg (show ¬ oI (some j) = -1 from nm1 (by omega)), j2]
    have hmA : nlx (fun _ => False) n m (va_up (va_up m1 9 (upd (m1 9) n 1)) 11 (upd (m1 11) n (oI (some j)))) := by
      have : va_up (va_up m1 9 (upd (m1 9) n 1)) 11 (upd (m1 11) n (oI (some j))) = va_up (va_up m1 9 (upd (m1 9) n 1)) 11 (upd ((va_up m1 9 (upd (m1 9) n 1)) 11) n (oI (some j))) := by rw [vu_n (j := 11) _ _ (by decide)]
      rw [this]
      exact nlx_t hm1 (nlx_t (nlx_u (by omega)) (nlx_u (by omega)))
    have hMj := hM j hjj.1
    have hlen := rowL_29 (fKi D j) (fId D j) (fCo D j) (fOc D j)
    have hlen : 29 ≤ (fR D j).length := hlen
    obtain ⟨R, v', m', w1, w2, w3, w4⟩ := nd_send (D := D) (F := F) (K := K) (oh := oh) (e := e) (E := E) (dn := dn) (i := 0) (j := j) (x := x) (s := s) (v0 := v) (v := v1) (m0 := m) (r1 := r1) (nf := nf) (h := h) (f := f) (tf := tf) (tt := tt) (tk := tk) hn hF (hV j hjj.1) ⟨frM_o hMj.1 (fun q hq => hmA.1 q (fun h => h) (by omega) (by omega)), by rw [hmA.1 1 (fun h => h) (by omega) (by omega)]; exact hMj.2.1, by rw [hmA.1 6 (fun h => h) (by omega) (by omega)]; exact hMj.2.2⟩ (hC j hjj.1) hNC hg hjj.1 hjj.2.1 hjj.2.2 (by omega) q1 q2 (by rw [vu_s, up_s]; rfl) (by rw [vu_n _ _ (by decide), vu_n _ _ (by decide), e3 14 (by decide), vu_s, up_s]; rfl) (by rw [vu_n _ _ (by decide), vu_s, up_s]; rfl) (fun k hk => absurd hk (Nat.not_lt_zero k)) (by omega) (by omega) q6 hE h29 (dnl j hjj.1 hjj.2.2) h11v hv2 hx e2 hmA
    exact ⟨R, v', m', w1, w2, w3, fin3' w4⟩
  · rcases hot with hse | hli | hfl | hwa | hcl | hpa
    · obtain ⟨j, i, s1, s2, s3, s4, s5, s6, s7, s8, s9, s10, s11, s12, s13, s14⟩ := hse
      rw [m_sees1 hn s3, s1]
      obtain ⟨R, v', m', w1, w2, w3, w4⟩ := nd_send (D := D) (F := F) (K := K) (oh := oh) (e := e) (E := E) (dn := dn) (i := i) (j := j) (x := x) (s := s) (v0 := v) (v := v) (m0 := m) (m := m) (r1 := r1) (nf := nf) (h := h) (f := f) (tf := tf) (tt := tt) (tk := tk) hn hF (hV j s7) (hM j s7) (hC j s7) hNC hg s7 s8 s9 s10 s2 s4 s5 s6 s3 s11 s12 s13 s14 hE h29 (dnl j s7 s9) h11v hv2 hx (sv_r v) (sm_nlx (sm_r m))
      exact ⟨R, v', m', w1, w2, w3, fin3' w4⟩
    · obtain ⟨L, l1, l2, l3, l4, l5, l6, l7, l8, l9⟩ := hli
      rw [m_sees2 hn l2, sk 2 l1 (by decide) (by decide) (by decide) (fun _ e9 => absurd e9 (by decide))]
      unfold seK
      rw [if_neg (show ¬ nf 2 = 1 by rw [l1]; decide), if_pos (show nf 2 = 2 by rw [l1]; rfl)]
      obtain ⟨R, v', m', w1, w2, w3, w4⟩ := nd_hear (D := D) (F := F) (K := K) (oh := oh) (e := e) (E := E) (T := T) (x := x) (v0 := v) (m0 := m) (v := v) (m := m) (L := L) (r1 := r1) (r2 := r2) (nf := nf) (nf1 := nf) (tf := tf) (tt := tt) (tk := tk) hn ht hNC (fun _ _ => rfl) l3 l5 l1 l2 l6 l7 l8 l9 hE h29 hT h22 hv2 htf2 htf3 hx (sv_r v) (sm_nlx (sm_r m))
      exact ⟨R, v', m', w1, w2, w3, fin3 w4⟩
    · obtain ⟨q, l1, l2, l3, l4, l5, l6, l7, l8⟩ := hfl
      rw [m_sees3 hn l2, sk 3 l1 (by decide) (by decide) (by decide) (fun _ e9 => absurd e9 (by decide))]
      unfold seK
      rw [if_neg (show ¬ nf 2 = 1 by rw [l1]; decide), if_neg (show ¬ nf 2 = 2 by rw [l1]; decide), if_pos (show nf 2 = 3 by rw [l1]; rfl), l5, show nI (6 - q) - 1 = nI (6 - q - 1) from n_sub (b := 1) (by omega)]
      unfold f_X2_seeFlagging f_X2_enter
      rw [jnE, l4, show nI q + 1 = nI (q + 1) from nI_add _ 1]
      have hmm : ∀ z : Int32, nlx (fun _ => False) n m (va_up (va_up m 10 (upd (m 10) n (nI (6 - q - 1)))) 9 (upd (m 9) n z)) := by
        intro z
        have : va_up (va_up m 10 (upd (m 10) n (nI (6 - q - 1)))) 9 (upd (m 9) n z) = va_up (va_up m 10 (upd (m 10) n (nI (6 - q - 1)))) 9 (upd ((va_up m 10 (upd (m 10) n (nI (6 - q - 1)))) 9) n z) := by rw [vu_n (j := 9) _ _ (by decide)]
        rw [this]
        exact nlx_t (nlx_u (by omega)) (nlx_u (by omega))
      by_cases h6 : q + 1 = 6
      · rw [if_pos (show nI (q + 1) = 6 by rw [h6]; rfl), if_pos (show nI (6 - q - 1) = 0 by rw [show 6 - q - 1 = 0 by omega]; rfl), bdS, bdS, seF_n]
        refine ⟨_, _, _, rfl, rfl, hg, Or.inl ⟨rfl, sv_r v, hmm _, NC_m hNC (fun k hk => by rw [up3 k hk, up_n _ _ (by omega)]) (hmm _) (fun h => h) (fun h => h), Or.inr (Or.inr (Or.inr (Or.inr (Or.inr (Or.inl ⟨?_, ?_, by omega, by omega, by omega⟩)))))⟩⟩
        · rw [up_n _ _ (by decide), up_s]; rfl
        · rw [vu_s, up_s]; rfl
      · rw [if_neg (show ¬ nI (q + 1) = 6 from ne_l 6 h6 (by omega) (by decide)), if_neg (show ¬ nI (6 - q - 1) = 0 from ne_l 0 (by omega) (by omega) (by decide)), bdS, seF_n]
        refine ⟨_, _, _, rfl, rfl, hg, Or.inl ⟨rfl, sv_r v, hmm _, NC_m hNC (fun k hk => by rw [up_n _ _ (by omega)]) (hmm _) (fun h => h) (fun h => h), Or.inr (Or.inr (Or.inr (Or.inr (Or.inl ⟨q + 1, ?_, ?_, by omega, up_s _ _ _, ?_, by omega, by omega, by omega⟩))))⟩⟩
        · rw [up_n _ _ (by decide)]; exact l1
        · rw [vu_s, up_s]; rfl
        · rw [vu_n _ _ (by decide), vu_s, up_s]; rfl
    · obtain ⟨l1, l2, l6, l7, l8⟩ := hwa
      rw [m_sees4 hn l2, sk 4 l1 (by decide) (by decide) (by decide) (fun _ e9 => absurd e9 (by decide))]
      unfold seK
      rw [if_neg (show ¬ nf 2 = 1 by rw [l1]; decide), if_neg (show ¬ nf 2 = 2 by rw [l1]; decide), if_neg (show ¬ nf 2 = 3 by rw [l1]; decide), if_pos (show nf 2 = 4 by rw [l1]; rfl)]
      have hmm : nlx (fun _ => False) n m (va_up m 10 (upd (m 10) n (m 10 n - 1))) := nlx_u (by omega)
      rcases hx01 with hx0 | hx1
      · subst hx0
        rw [if_neg (by decide), if_neg (by decide), seF_n]
        refine ⟨_, _, _, rfl, rfl, hg, Or.inl ⟨rfl, sv_r v, hmm, NC_m hNC (fun _ _ => rfl) hmm (fun h => h) (fun h => h), Or.inr (Or.inr (Or.inr (Or.inr (Or.inr (Or.inl ⟨l1, ?_, by omega, by omega, by omega⟩)))))⟩⟩
        rw [vu_n _ _ (by decide)]; exact l2
      · subst hx1
        unfold f_X2_enter
        rw [if_pos (show nI 1 = 1 from rfl), if_pos (show nI 1 = 1 from rfl), bdS, seF_n]
        refine ⟨_, _, _, rfl, rfl, hg, Or.inl ⟨rfl, sv_r v, nlx_t hmm nlx_go, NC_m hNC up3 (nlx_t hmm nlx_go) (fun h => h) (fun h => h), Or.inr (Or.inr (Or.inr (Or.inr (Or.inr (Or.inr (Or.inl ⟨0, ?_, ?_, by decide, ?_, ?_, by omega, by omega, by omega⟩))))))⟩⟩
        · rw [up_n _ _ (by decide), up_s]; rfl
        · unfold mGo; rw [vu_n _ _ (by decide), vu_s, up_s]; rfl
        · rw [up_s]; rfl
        · unfold mGo; rw [vu_s, up_s]; rfl
    · obtain ⟨q, l1, l2, l3, l4, l5, l6, l7, l8⟩ := hcl
      rw [m_sees5 hn l2, sk 5 l1 (by decide) (by decide) (by decide) (fun _ e9 => absurd e9 (by decide))]
      unfold seK f_X2_seeClearing
      rw [if_neg (show ¬ nf 2 = 1 by rw [l1]; decide), if_neg (show ¬ nf 2 = 2 by rw [l1]; decide), if_neg (show ¬ nf 2 = 3 by rw [l1]; decide), if_neg (show ¬ nf 2 = 4 by rw [l1]; decide), if_pos (show nf 2 = 5 by rw [l1]; rfl), l5, show nI (7 - q) - 1 = nI (7 - q - 1) from n_sub (b := 1) (by omega), l4, show nI q + 1 = nI (q + 1) from nI_add _ 1]
      have hmm : nlx (fun _ => False) n m (va_up m 10 (upd (m 10) n (nI (7 - q - 1)))) := nlx_u (by omega)
      have hu : ∀ k, k = 4 ∨ k = 5 ∨ k = 6 → upd nf 3 (nI (q + 1)) k = nf k := fun k hk => up_n _ _ (by omega)
      rcases hx01 with hx0 | hx1
      · subst hx0
        rw [if_pos (show nI 0 = 0 from rfl), if_pos (show nI 0 = 0 from rfl), ltE, bdS]
        dsimp only
        by_cases h7 : q + 1 = 7
        · rw [if_pos (show nI (q + 1) = 7 by rw [h7]; rfl), if_pos (show nI (7 - q - 1) = 0 by rw [show 7 - q - 1 = 0 by omega]; rfl), show (5 : Int32) = nI 5 from rfl, seF_e (by decide), m_wrong hn (by decide) hE h29]
          exact ⟨_, _, _, rfl, rfl, hg, Or.inr (Or.inl (fl_err (by decide) hNC hu h29 hv2 (sv_r v) hmm (by omega) (by omega) l8))⟩
        · rw [if_neg (show ¬ nI (q + 1) = 7 from ne_l 7 h7 (by omega) (by decide)), if_neg (show ¬ nI (7 - q - 1) = 0 from ne_l 0 (by omega) (by omega) (by decide)), show (2 : Int32) = nI 2 from rfl, seF_e (by decide), m_wrong hn (by decide) hE h29]
          exact ⟨_, _, _, rfl, rfl, hg, Or.inr (Or.inl (fl_err (by decide) hNC hu h29 hv2 (sv_r v) hmm (by omega) (by omega) l8))⟩
      · subst hx1
        rw [if_neg (show ¬ nI 1 = 0 by decide), if_neg (show ¬ nI 1 = 0 by decide), ltE, bdS]
        dsimp only
        by_cases h7 : q + 1 = 7
        · rw [if_pos (show nI (q + 1) = 7 by rw [h7]; rfl), if_pos (show nI (7 - q - 1) = 0 by rw [show 7 - q - 1 = 0 by omega]; rfl), show (8 : Int32) = nI 8 from rfl, seF_8]
          refine ⟨_, _, _, rfl, rfl, hg, Or.inl ⟨rfl, sv_r v, nlx_t hmm nlx_go, NC_m hNC (fun k hk => by rw [up3 k hk, hu k hk]) (nlx_t hmm nlx_go) (fun h => h) (fun h => h), Or.inr (Or.inr (Or.inr (Or.inr (Or.inr (Or.inr (Or.inr ⟨0, ?_, ?_, by decide, ?_, ?_, by omega, by omega, by omega⟩))))))⟩⟩
          · rw [up_n _ _ (by decide), up_s]; rfl
          · unfold mGo; rw [vu_n _ _ (by decide), vu_s, up_s]; rfl
          · rw [up_s]; rfl
          · unfold mGo; rw [vu_s, up_s]; rfl
        · rw [if_neg (show ¬ nI (q + 1) = 7 from ne_l 7 h7 (by omega) (by decide)), if_neg (show ¬ nI (7 - q - 1) = 0 from ne_l 0 (by omega) (by omega) (by decide)), seF_n]
          refine ⟨_, _, _, rfl, rfl, hg, Or.inl ⟨rfl, sv_r v, hmm, NC_m hNC hu hmm (fun h => h) (fun h => h), Or.inr (Or.inr (Or.inr (Or.inr (Or.inr (Or.inr (Or.inl ⟨q + 1, ?_, ?_, by omega, up_s _ _ _, ?_, by omega, by omega, by omega⟩))))))⟩⟩
          · rw [up_n _ _ (by decide)]; exact l1
          · rw [vu_n _ _ (by decide)]; exact l2
          · rw [vu_s, up_s]; rfl
    · obtain ⟨q, l1, l2, l3, l4, l5, l6, l7, l8⟩ := hpa
      rw [m_sees6 hn l2, l5, show nI (3 - q) - 1 = nI (3 - q - 1) from n_sub (b := 1) (by omega)]
      have hmm : nlx (fun _ => False) n m (va_up m 10 (upd (m 10) n (nI (3 - q - 1)))) := nlx_u (by omega)
      have h10 : (va_up m 10 (upd (m 10) n (nI (3 - q - 1)))) 10 n = nI (3 - q - 1) := by rw [vu_s, up_s]
      have h9e : (va_up m 10 (upd (m 10) n (nI (3 - q - 1)))) 9 = m 9 := vu_n _ _ (by decide)
      generalize hmA : va_up m 10 (upd (m 10) n (nI (3 - q - 1))) = mA at hmm h10 h9e
      have hu : ∀ k, k = 4 ∨ k = 5 ∨ k = 6 → upd nf 3 (nI (q + 1)) k = nf k := fun k hk => up_n _ _ (by omega)
      have kpa : seK r1 r2 tf tt tk (s.1 13) (s.1 15) (nI x) (nI t) nf h f o a b c = bd (f_X2_seePausing r1 r2 nf (nI x)) (fun y => seF y.1 y.2.1 h f o a b c tf tt tk (nI t) y.2.2.2 y.2.2.1) := by
        unfold seK
        rw [if_neg (show ¬ nf 2 = 1 by rw [l1]; decide), if_neg (show ¬ nf 2 = 2 by rw [l1]; decide), if_neg (show ¬ nf 2 = 3 by rw [l1]; decide), if_neg (show ¬ nf 2 = 4 by rw [l1]; decide), if_neg (show ¬ nf 2 = 5 by rw [l1]; decide), if_pos (show nf 2 = 6 by rw [l1]; rfl)]
      by_cases hq2 : q = 2
      · subst hq2
        have h10 : mA 10 n = nI 0 := h10
        rcases hx01 with hx0 | hx1
        · subst hx0
          rw [m_pau_0 hn h10]
          have hm14 : nlx (fun _ => False) n m (mSee (va_up mA 14 (upd (mA 14) n 0)) n 0 0) := nlx_t hmm (nlx_t (nlx_u (by omega)) (nlx_see (by decide)))
          obtain ⟨v1, m1, e1, e2, e3⟩ := mfirst _ hm14
          rw [e1, bdS]
          dsimp only
          have hm1 : nlx (fun _ => False) n m m1 := nlx_t hm14 (sm_nlx e3)
          have hm2 : ∀ z y : Int32, nlx (fun _ => False) n m (va_up (va_up m1 11 (upd (m1 11) n z)) 9 (upd (m1 9) n y)) := by
            intro z y
            have : va_up (va_up m1 11 (upd (m1 11) n z)) 9 (upd (m1 9) n y) = va_up (va_up m1 11 (upd (m1 11) n z)) 9 (upd ((va_up m1 11 (upd (m1 11) n z)) 9) n y) := by rw [vu_n (j := 9) _ _ (by decide)]
            rw [this]
            exact nlx_t hm1 (nlx_t (nlx_u (by omega)) (nlx_u (by omega)))
          have h14 : m1 14 n = nI 1 := by rw [e3 14 (by decide), mSee_14]
          have hsg : sSeg m1 n 0 = nI 0 := by
            have : sSeg m1 n 0 = sSeg (mSee (va_up mA 14 (upd (mA 14) n 0)) n 0 0) n 0 := by unfold sSeg; rw [e3 15 (by decide)]
            rw [this, mSee_seg, if_pos rfl]
          cases hr : r1 with
          | none =>
            have hfn : fs D n F = none := by rw [← hNC.2.2.2, hr]
            rw [hfn, if_pos (show oI none = -1 from rfl), see_q, if_pos (show nI 0 = 0 from rfl)]
            obtain ⟨f', a', b', c', t1, t2⟩ := t_begin (r1 := none) (r2 := r2) (nf := nf) (h := h) (f := f) (φ := s.1 13) (φb := s.1 15) (Or.inr ⟨l1, l4, rfl⟩) hg
            rw [t1, bdS]
            dsimp only
            unfold seK
            rw [if_neg (show ¬ (upd (upd nf 2 2) 3 0) 2 = 1 by rw [up_n _ _ (by decide), up_s]; decide), if_pos (show (upd (upd nf 2 2) 3 0) 2 = 2 by rw [up_n _ _ (by decide), up_s])]
            obtain ⟨H, F1, O, A, B, C, g1, g2, g3⟩ := hear (x := 0) cln_nil (by decide) t2
            have hev : evt (par []) 0 = 0 := by decide
            have g4 := g3 (by rw [hev]; exact Or.inl rfl)
            rw [← par_s] at g4
            rw [g1, bdS, hev, eC_0, show (-nI 1 : Int32) = -1 from rfl]
            dsimp only
            rw [seF_n, ← hr]
            refine ⟨_, _, _, rfl, rfl, g2, Or.inl ⟨rfl, e2, hm2 _ _, NC_m hNC up3 (hm2 _ _) (fun h => h) (fun h => h), Or.inr (Or.inr (Or.inr (Or.inl ⟨[] ++ [0], ?_, ?_, cln_s cln_nil (by decide) (by rw [hev]; exact Or.inl rfl), by decide, g4, ?_, ?_, Or.inl ⟨by show 46 * K + 1 ≤ t + 1; omega, by show 8 * oh + 1 ≤ t + 1; omega⟩, by omega⟩)))⟩⟩
            · rw [up_n _ _ (by decide), up_s]; rfl
            · rw [vu_s, up_s]; rfl
            · rw [vu_n _ _ (by decide), vu_n _ _ (by decide)]; exact h14
            · intro k hk
              have hk0 : k = 0 := by have : k < 1 := hk; omega
              subst hk0
              have : sSeg (va_up (va_up m1 11 (upd (m1 11) n (oI r1))) 9 (upd (m1 9) n 2)) n 0 = sSeg m1 n 0 := by unfold sSeg; rw [vu_n _ _ (by decide), vu_n _ _ (by decide)]
              rw [this, hsg]; rfl
          | some j =>
            have hfn : fs D n F = some j := by rw [← hNC.2.2.2, hr]
            have hjj := fs_ok F j hfn
            have hlen := rowL_29 (fKi D j) (fId D j) (fCo D j) (fOc D j)
            have hlen : 29 ≤ (fR D j).length := hlen
            have hr0 : (fR D j).getD 0 0 = 0 := row0 _ _ _ _
            rw [hfn, if_neg (show ¬ oI (some j) = -1 from nm1 (by omega)), ← hr, sk 6 l1 (by decide) (by decide) (by decide) (fun _ _ _ => ⟨j, hr, by omega⟩), kpa]
            unfold f_X2_seePausing f_X2_startSending f_X2_enter
            rw [l4, show nI 2 + 1 = nI 3 from rfl, if_pos (show (3 : Int32) ≤ nI 3 by decide), jnE, if_neg (by decide), bdS, bdS, bdS]
            dsimp only
            rw [seF_n]
            refine ⟨_, _, _, rfl, rfl, hg, Or.inl ⟨rfl, e2, hm2 _ _, NC_m hNC (fun k hk => by rw [up_n _ _ (by omega), up3 k hk, up_n _ _ (by omega)]) (hm2 _ _) (fun h => h) (fun h => h), Or.inr (Or.inr (Or.inl ⟨j, 1, hr, ?_, ?_, ?_, ?_, ?_, hjj.1, hjj.2.1, hjj.2.2, by omega, ?_, by omega, by omega, by omega⟩))⟩⟩
            · rw [up_n _ _ (by decide), up_n _ _ (by decide), up_s]; rfl
            · rw [vu_s, up_s]; rfl
            · rw [up_s]; rfl
            · rw [vu_n _ _ (by decide), vu_s, up_s, hr]; rfl
            · rw [vu_n _ _ (by decide), vu_n _ _ (by decide)]; exact h14
            · intro k hk _
              have hk0 : k = 0 := by omega
              subst hk0
              have : sSeg (va_up (va_up m1 11 (upd (m1 11) n (oI r1))) 9 (upd (m1 9) n 1)) n 0 = sSeg m1 n 0 := by unfold sSeg; rw [vu_n _ _ (by decide), vu_n _ _ (by decide)]
              rw [this, hsg, hr0]
        · subst hx1
          rw [m_pau_1 hn, h10, if_pos (show nI 0 = 0 from rfl), sk 6 l1 (by decide) (by decide) (by decide) (fun e9 => absurd e9 (by decide)), kpa]
          unfold f_X2_seePausing f_X2_enter
          rw [l4, show nI 2 + 1 = nI 3 from rfl, if_pos (show (3 : Int32) ≤ nI 3 by decide), jnE, if_pos (show nI 1 = 1 from rfl), bdS, bdS]
          dsimp only
          rw [seF_n]
          have hm9 : nlx (fun _ => False) n m (va_up mA 9 (upd (mA 9) n 0)) := nlx_t hmm (nlx_u (by omega))
          refine ⟨_, _, _, rfl, rfl, hg, Or.inl ⟨rfl, sv_r v, hm9, NC_m hNC (fun k hk => by rw [up3 k hk, up_n _ _ (by omega)]) hm9 (fun h => h) (fun h => h), Or.inl ⟨Or.inl rfl, ?_, ?_, by omega, by omega, by omega⟩⟩⟩
          · rw [up_n _ _ (by decide), up_s]; rfl
          · rw [vu_s, up_s]; rfl
      · have hseeP : f_X2_seePausing r1 r2 nf (nI x) = some (r1, r2, upd nf 3 (nI (q + 1)), if nI x = 0 then 5 else -1) := by
          unfold f_X2_seePausing
          rw [l4, show nI q + 1 = nI (q + 1) from nI_add _ 1, if_neg (show ¬ 3 ≤ nI (q + 1) from nle_l (a := 3) _ (by omega) (by decide))]
          rfl
        rw [sk 6 l1 (by decide) (by decide) (by decide) (fun _ _ e9 => by rw [l4] at e9; exact absurd ((nI_eq (by omega) (by decide)).mp (show nI q = nI 2 from e9)) hq2), kpa, hseeP, bdS]
        dsimp only
        rcases hx01 with hx0 | hx1
        · subst hx0
          rw [if_pos (show nI 0 = 0 from rfl), m_pau_w (l := 3 - q - 2) hn (by omega) (by rw [h10]; congr 1; omega), show (5 : Int32) = nI 5 from rfl, seF_e (by decide), m_wrong hn (by decide) hE h29]
          exact ⟨_, _, _, rfl, rfl, hg, Or.inr (Or.inl (fl_err (by decide) hNC hu h29 hv2 (sv_r v) hmm (by omega) (by omega) l8))⟩
        · subst hx1
          rw [if_neg (by decide), m_pau_1 hn, h10, if_neg (show ¬ nI (3 - q - 1) = 0 from ne_l 0 (by omega) (by omega) (by decide)), seF_n]
          refine ⟨_, _, _, rfl, rfl, hg, Or.inl ⟨rfl, sv_r v, hmm, NC_m hNC hu hmm (fun h => h) (fun h => h), Or.inr (Or.inr (Or.inr (Or.inr (Or.inr (Or.inr (Or.inr ⟨q + 1, ?_, ?_, by omega, up_s _ _ _, ?_, by omega, by omega, by omega⟩))))))⟩⟩
          · rw [up_n _ _ (by decide)]; exact l1
          · rw [h9e]; exact l2
          · rw [h10]; congr 1
