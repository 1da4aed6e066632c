/-! the calls -/
theorem nn_of {p : Int32} (h : ¬ p < 0) : ∃ n, n < 2 ^ 31 ∧ p = nI n := by
  have h1 : ¬ p.toInt < 0 := fun e => h (by rw [Int32.lt_iff_toInt_lt]; exact e)
  have h2 := Int32.toInt_lt p
  refine ⟨p.toInt.toNat, by omega, ?_⟩
  apply Int32.toInt_inj.mp
  rw [nI_toInt (by omega)]
  omega
theorem lt0 (n : Nat) (h : n < 2 ^ 31) : ¬ nI n < 0 := nlt_l (a := n) 0 (by omega) h
theorem bxL {α β : Type} (e : Nat) (k : α → Option (Nat ⊕ β)) : bx (some (.inl e)) k = some (.inl e) := rfl
theorem bxR {α β : Type} (x : α) (k : α → Option (Nat ⊕ β)) : bx (some (.inr x)) k = k x := rfl
theorem RI_c {s : CS} {v v' : Nat → Int32} {m m' : Nat → Nat → Int32} (h : RI s v m) (hv : vG v v') (hm : sm m m') : RI s v' m' := by
  obtain ⟨D, F, N, t, T, E, hG, hL, hN⟩ := h
  exact ⟨D, F, N, t, T, E, Gl_c hG (sG_r s) hv (sm_mG hm), hL, fun n hn => gNo_sm (hN n hn) (sNd_r n s) hm⟩
theorem vG_0 {v : Nat → Int32} {x : Int32} : vG v (upd v 0 x) := fun k hk => up_n _ _ (by omega)
theorem vG_00 {v : Nat → Int32} {x y : Int32} : vG v (upd (upd v 0 x) 0 y) := fun k hk => by rw [up_n _ _ (by omega), up_n _ _ (by omega)]
/-- a node, or none -/
theorem node_c {s : CS} {v : Nat → Int32} {N t : Nat} (hA : gA s v N t) (p : Int32) : (∃ n, n < N ∧ p = nI n ∧ f_X7_needNode s p = some (.inr ()) ∧ f_X8_noNode v p = some 0) ∨ (f_X7_needNode s p = some (.inl 1) ∧ f_X8_noNode v p = some 1) := by
  have hN := hA.1
  unfold f_X7_needNode f_X8_noNode
  rw [hA.2.1, hA.2.2.1, ltE]
  by_cases h : p < 0
  · exact Or.inr ⟨by rw [if_pos h], by rw [if_pos h]⟩
  · obtain ⟨n, n1, rfl⟩ := nn_of h
    rw [if_neg h, if_neg h]
    by_cases hn : n < N
    · rw [if_pos (lt_l _ hn (by omega)), if_pos (lt_l _ hn (by omega))]
      exact Or.inl ⟨n, hn, rfl, rfl, rfl⟩
    · rw [if_neg (nlt_l _ hn n1), if_neg (nlt_l _ hn n1)]
      exact Or.inr ⟨rfl, rfl⟩
theorem frame_c {s : CS} {v : Nat → Int32} {m : Nat → Nat → Int32} {D : FD} {F N : Nat} (hF : gF s v m D F N) (p : Int32) : (∃ f, f < F ∧ p = nI f ∧ f_X7_needFrame s p = some (.inr ()) ∧ f_X8_noFrame v p = some 0) ∨ (f_X7_needFrame s p = some (.inl 1) ∧ f_X8_noFrame v p = some 1) := by
  have hN := hF.1
  unfold f_X7_needFrame f_X8_noFrame
  rw [hF.2.1, hF.2.2.1, ltE]
  by_cases h : p < 0
  · exact Or.inr ⟨by rw [if_pos h], by rw [if_pos h]⟩
  · obtain ⟨n, n1, rfl⟩ := nn_of h
    rw [if_neg h, if_neg h]
    by_cases hn : n < F
    · rw [if_pos (lt_l _ hn (by omega)), if_pos (lt_l _ hn (by omega))]
      exact Or.inl ⟨n, hn, rfl, rfl, rfl⟩
    · rw [if_neg (nlt_l _ hn n1), if_neg (nlt_l _ hn n1)]
      exact Or.inr ⟨rfl, rfl⟩
theorem NSt0_st {D : FD} {F n t K oh e : Nat} {r1 r2 : Option Nat} {nf : Nat → Int32} {h : Int64} {f o a b c : Nat → Int32} {st lf sd sc mk mt : Int32} {sn : Nat → Int32} (hN : NSt 0 D F n t K oh e r1 r2 nf h f o a b c st lf sd sc mk mt sn) : nf 2 = st := by
  rcases hN.2 with ⟨_, q⟩ | ⟨q, _⟩ | hse | hli | hfl | hwa | hcl | hpa
  · rw [q.1, q.2.1]
  · cases q
  · obtain ⟨j, i, s1, s2, s3, _⟩ := hse; rw [s2, s3]
  · obtain ⟨L, l1, l2, _⟩ := hli; rw [l1, l2]
  · obtain ⟨q, l1, l2, _⟩ := hfl; rw [l1, l2]
  · rw [hwa.1, hwa.2.1]
  · obtain ⟨q, l1, l2, _⟩ := hcl; rw [l1, l2]
  · obtain ⟨q, l1, l2, _⟩ := hpa; rw [l1, l2]
theorem st_time {s : CS} {v : Nat → Int32} {m : Nat → Nat → Int32} (h : RI s v m) : ∃ s' v' m', Step_time s v m s' v' m' ∧ RI s' v' m' := by
  obtain ⟨D, F, N, t, T, E, hG, hL, hN⟩ := id h
  refine ⟨s, upd v 0 0, m, ⟨nI t, ?_, ?_, rfl, rfl⟩, RI_c h vG_0 (sm_r m)⟩
  · unfold f_X7_time; rw [hG.1.2.2.2.2.1]
  · unfold f_X8_time; rw [hG.1.2.2.2.2.2]
theorem st_bit {s : CS} {v : Nat → Int32} {m : Nat → Nat → Int32} (h : RI s v m) (p1 : Int32) : ∃ s' v' m', Step_bit p1 s v m s' v' m' ∧ RI s' v' m' := by
  obtain ⟨D, F, N, t, T, E, hG, hL, hN⟩ := id h
  have ht := hG.1.2.2.2.1
  by_cases h0 : p1 < 0
  · refine ⟨s, upd v 0 1, m, ⟨0, ?_, rfl, Or.inr ⟨rfl, ?_, up_s _ _ _⟩⟩, RI_c h vG_0 (sm_r m)⟩
    · unfold f_X8_bit; rw [if_pos h0, ltE, jnE, if_neg (by decide)]
    · unfold f_X7_bit; rw [if_pos h0]
  · obtain ⟨k, k1, rfl⟩ := nn_of h0
    by_cases hk : k < t
    · obtain ⟨b, b1, b2, b3⟩ := hG.2.2.2.2.1 k hk
      refine ⟨s, upd v 0 0, m, ⟨nI b, ?_, rfl, Or.inl ⟨?_, up_s _ _ _, rfl⟩⟩, RI_c h vG_0 (sm_r m)⟩
      · unfold f_X8_bit; rw [if_neg h0, hG.1.2.2.2.2.2, if_pos (lt_l _ hk (by omega)), ltE, jnE, if_pos (by decide), gdT _ (in_nI (by omega) (by decide)), nI_clamp (by omega), b3]
      · unfold f_X7_bit; rw [if_neg h0, hG.1.2.2.2.2.1, if_pos (lt_l _ hk (by omega)), gdT _ (in_nI (by omega) (by decide)), nI_clamp (by omega), b2]
    · refine ⟨s, upd v 0 1, m, ⟨0, ?_, rfl, Or.inr ⟨rfl, ?_, up_s _ _ _⟩⟩, RI_c h vG_0 (sm_r m)⟩
      · unfold f_X8_bit; rw [if_neg h0, hG.1.2.2.2.2.2, if_neg (nlt_l _ hk k1), ltE, jnE, if_neg (by decide)]
      · unfold f_X7_bit; rw [if_neg h0, hG.1.2.2.2.2.1, if_neg (nlt_l _ hk k1)]
theorem st_state {s : CS} {v : Nat → Int32} {m : Nat → Nat → Int32} (h : RI s v m) (p1 : Int32) : ∃ s' v' m', Step_state p1 s v m s' v' m' ∧ RI s' v' m' := by
  obtain ⟨D, F, N, t, T, E, hG, hL, hN⟩ := id h
  rcases node_c hG.1 p1 with ⟨n, n1, rfl, n2, n3⟩ | ⟨n2, n3⟩
  · have h32 := hG.1.1
    obtain ⟨oh, g1, g2, g3, g4, g5⟩ := hN n n1
    refine ⟨s, upd v 0 0, m, ⟨m 9 n, ?_, rfl, Or.inl ⟨?_, up_s _ _ _, rfl⟩⟩, RI_c h vG_0 (sm_r m)⟩
    · unfold f_X8_state; rw [n3, bdS, if_pos rfl, ltE, jnE, if_pos (by decide), gdT _ (in_nI (by omega) (by decide)), nI_clamp (by omega)]
    · unfold f_X7_state; rw [n2, bxR, gdT _ (in_nI (by omega) (by decide)), nI_clamp (by omega), NSt0_st g5]
  · refine ⟨s, upd v 0 1, m, ⟨0, ?_, rfl, Or.inr ⟨rfl, ?_, up_s _ _ _⟩⟩, RI_c h vG_0 (sm_r m)⟩
    · unfold f_X8_state; rw [n3, bdS, if_neg (by decide), ltE, jnE, if_neg (by decide)]
    · unfold f_X7_state; rw [n2, bxL]
theorem wt_loop {v : Nat → Int32} {m : Nat → Nat → Int32} {D : FD} {F n : Nat} (hn : n < 32) (hF : F ≤ 200) (h4 : v 4 = nI F) (hV : ∀ f, f < F → FVo D f) (hM : ∀ f, f < F → FMo m D f) {k9 : Int32 × Int32 → Option ((Nat → Int32) × Int32)} :
    ∀ d f nn, d + f = F → d < nn → L_X8_waiting_21 v 0 m (nI n) k9 nn (nI f) (nI (wt D n f)) = k9 (nI F, nI (wt D n F)) := by
  intro d
  induction d with
  | zero =>
    intro f nn hd hnn
    obtain ⟨nn, rfl⟩ : ∃ q, nn = q + 1 := ⟨nn - 1, by omega⟩
    have hf : f = F := by omega
    subst hf
    show (if (v 4) ≤ nI f then k9 (nI f, nI (wt D n f)) else _) = _
    rw [h4, if_pos (le_l _ (Nat.le_refl _) (by omega))]
  | succ d ih =>
    intro f nn hd hnn
    obtain ⟨nn, rfl⟩ : ∃ q, nn = q + 1 := ⟨nn - 1, by omega⟩
    have hVf := hV f (by omega)
    have hMf := hM f (by omega)
    have ih' := ih (f + 1) nn (by omega) (by omega)
    show (if (v 4) ≤ nI f then _ else if (0 : Int32) = 0 then gd (vp_in (nI f) 200) (jn (α := Int32) (fun x12 => L_X8_waiting_21 v 0 m (nI n) k9 nn (nI f + 1) x12) (fun k14 => if ((m 1) (nI f).toNatClampNeg) = nI n then gd (vp_in (nI f) 200) (if ((m 6) (nI f).toNatClampNeg) = 0 then k14 (nI (wt D n f) + 1) else k14 (nI (wt D n f))) else k14 (nI (wt D n f)))) else _) = _
    rw [h4, if_neg (nle_l _ (by omega) (by omega)), if_pos rfl, gdT _ (in_nI (by omega) (by decide)), jnE, nI_clamp (by omega), hMf.2.1, hMf.2.2, show nI f + 1 = nI (f + 1) from nI_add _ 1, show nI (wt D n f) + 1 = nI (wt D n f + 1) from nI_add _ 1]
    have ho := hVf.2.1
    have hd2 := hVf.2.2
    rw [wt_s] at ih'
    by_cases hw : fOw D f = n
    · rw [if_pos (by rw [hw]), gdT _ (in_nI (by omega) (by decide))]
      by_cases hdn : fDn D f = 0
      · rw [if_pos ⟨hw, hdn⟩] at ih'
        rw [if_pos (show nI (fDn D f) = 0 by rw [hdn]; rfl)]
        exact ih'
      · rw [if_neg (fun e => hdn e.2)] at ih'
        rw [if_neg (show ¬ nI (fDn D f) = 0 from ne_l 0 hdn (by omega) (by decide))]
        exact ih'
    · rw [if_neg (fun e => hw e.1)] at ih'
      rw [if_neg (ne_l _ hw (by omega) (by omega))]
      exact ih'
theorem st_waiting {s : CS} {v : Nat → Int32} {m : Nat → Nat → Int32} (h : RI s v m) (p1 : Int32) : ∃ s' v' m', Step_waiting p1 s v m s' v' m' ∧ RI s' v' m' := by
  obtain ⟨D, F, N, t, T, E, hG, hL, hN⟩ := id h
  have hFF := hG.2.1
  rcases node_c hG.1 p1 with ⟨n, n1, rfl, n2, n3⟩ | ⟨n2, n3⟩
  · have h32 := hG.1.1
    obtain ⟨oh, g1, g2, g3, g4, g5⟩ := hN n n1
    refine ⟨s, upd v 0 0, m, ⟨nI (wt D n F), ?_, rfl, Or.inl ⟨?_, up_s _ _ _, rfl⟩⟩, RI_c h vG_0 (sm_r m)⟩
    · unfold f_X8_waiting
      rw [n3, bdS, if_pos rfl, ltE, jnE]
      exact wt_loop (k9 := fun ⟨v7, v8⟩ => some ((upd v 0 0), v8)) (by omega) hFF.1 hFF.2.2.1 (fun f hf => (hFF.2.2.2 f hf).1) (fun f hf => (hFF.2.2.2 f hf).2.2.1) F 0 fu (by omega) (fu_big (by have := hFF.1; omega))
    · unfold f_X7_waiting; rw [n2, bxR, gdT _ (in_nI (by omega) (by decide)), nI_clamp (by omega), g5.1.2.2.1]
  · refine ⟨s, upd v 0 1, m, ⟨0, ?_, rfl, Or.inr ⟨rfl, ?_, up_s _ _ _⟩⟩, RI_c h vG_0 (sm_r m)⟩
    · have unf : ∀ K, L_X8_waiting_21 v 1 m p1 K fu 0 0 = if (v 4) ≤ 0 then K (0, 0) else if (1 : Int32) = 0 then gd (vp_in 0 200) (jn (α := Int32) (fun x12 => L_X8_waiting_21 v 1 m p1 K 999999 (0 + 1) x12) (fun k14 => if ((m 1) (0 : Int32).toNatClampNeg) = p1 then gd (vp_in 0 200) (if ((m 6) (0 : Int32).toNatClampNeg) = 0 then k14 (0 + 1) else k14 0) else k14 0)) else K (0, 0) := fun _ => rfl
      unfold f_X8_waiting
      rw [n3, bdS, if_neg (by decide), ltE, jnE, unf, if_neg (show ¬ (1 : Int32) = 0 by decide)]
      split <;> rfl
    · unfold f_X7_waiting; rw [n2, bxL]
theorem st_stuffed {s : CS} {v : Nat → Int32} {m : Nat → Nat → Int32} (h : RI s v m) (p1 : Int32) : ∃ s' v' m', Step_stuffed p1 s v m s' v' m' ∧ RI s' v' m' := by
  obtain ⟨D, F, N, t, T, E, hG, hL, hN⟩ := id h
  have hFF := hG.2.1
  have hF := hFF.1
  rcases frame_c hFF p1 with ⟨f, f1, rfl, f2, f3⟩ | ⟨f2, f3⟩
  · obtain ⟨b1, b2, b3, b4⟩ := hFF.2.2.2 f f1
    obtain ⟨v', m', e1, e2, e3, e4, e5⟩ := m_write (v := upd v 0 0) (m := m) (show f < 200 by omega) b1.1 b3.1
    refine ⟨s, v', m', ⟨nI (rowL (fKi D f) (fId D f) (fCo D f) (fOc D f)).length, ?_, Or.inl ⟨?_, ?_, rfl⟩⟩, RI_c h (fun k hk => by rw [sv_vG e2 k hk]; exact vG_0 k hk) e3⟩
    · unfold f_X8_stuffed; rw [f3, bdS, if_pos rfl, ltE, if_pos (by decide), e1, bdS, ← e4]
    · unfold f_X7_stuffed; rw [f2, bxR, gdT _ (in_nI (by omega) (by decide)), nI_clamp (by omega), b4.2.2.2.2.2.2.2.1]
    · rw [e2 0 (by decide) (by decide) (by decide) (by decide), up_s]
  · refine ⟨s, upd v 0 1, m, ⟨0, ?_, Or.inr ⟨rfl, ?_, up_s _ _ _⟩⟩, RI_c h vG_0 (sm_r m)⟩
    · unfold f_X8_stuffed; rw [f3, bdS, if_neg (by decide), ltE, if_neg (by decide)]
    · unfold f_X7_stuffed; rw [f2, bxL]
theorem st_filter {s : CS} {v : Nat → Int32} {m : Nat → Nat → Int32} (h : RI s v m) (p1 p2 p3 : Int32) : ∃ s' v' m', Step_filter p1 p2 p3 s v m s' v' m' ∧ RI s' v' m' := by
  obtain ⟨D, F, N, t, T, E, hG, hL, hN⟩ := id h
  rcases node_c hG.1 p1 with ⟨n, n1, rfl, n2, n3⟩ | ⟨n2, n3⟩
  · have h32 := hG.1.1
    have hin : vp_in (nI n) 32 := in_nI (by omega) (by decide)
    refine ⟨sZ s 3 n (upd (upd (s.1 3 n) 4 p2) 5 p3), upd v 0 0, va_up (va_up m 12 (upd (m 12) n p2)) 13 (upd (m 13) n p3), ⟨?_, Or.inl ⟨?_, up_s _ _ _⟩⟩, D, F, N, t, T, E, ?_, ?_, ?_⟩
    · unfold f_X8_filter; rw [n3, bdS, if_pos rfl, ltE, if_pos (by decide), gdT _ hin, gdT _ hin, nI_clamp (by omega)]
    · unfold f_X7_filter
      rw [n2, bxR, gdT _ hin, ltE, gdT _ hin, ltE, nI_clamp (by omega), sZ_s, sZ_same]
    · refine Gl_c hG ⟨fun a j ha => sZ_n (by omega), fun a ha => sZ_n (by omega), fun _ => rfl⟩ vG_0 (fun k hk => ?_)
      rw [vu_n _ _ (by omega), vu_n _ _ (by omega)]
    · intro j hj
      rw [sZ_n (by omega), sZ_n (by omega), sZ_n (by omega), sZ_n (by omega)]
      exact hL j hj
    · intro j hj
      have mo : ∀ k, k ≠ 12 → k ≠ 13 → (va_up (va_up m 12 (upd (m 12) n p2)) 13 (upd (m 13) n p3)) k = m k := fun k h1 h2 => by rw [vu_n _ _ h2, vu_n _ _ h1]
      have m12 : (va_up (va_up m 12 (upd (m 12) n p2)) 13 (upd (m 13) n p3)) 12 = upd (m 12) n p2 := by rw [vu_n _ _ (by decide), vu_s]
      have m13 : (va_up (va_up m 12 (upd (m 12) n p2)) 13 (upd (m 13) n p3)) 13 = upd (m 13) n p3 := vu_s _ _ _
      by_cases hjn : j = n
      · subst hjn
        obtain ⟨oh, g1, g2, g3, g4, g5⟩ := hN j hj
        unfold gNo
        have hseg : sSeg (va_up (va_up m 12 (upd (m 12) j p2)) 13 (upd (m 13) j p3)) j = sSeg m j := by unfold sSeg; rw [mo 15 (by decide) (by decide)]
        rw [sZ_s, sZ_n (by omega), sZ_n (by omega), sZ_n (by omega), sZ_n (by omega), sZ_n (by omega), sZ_n (by omega), sZ_n (by omega), sZ_n (by omega), mo 17 (by decide) (by decide), mo 24 (by decide) (by decide), mo 9 (by decide) (by decide), mo 10 (by decide) (by decide), mo 11 (by decide) (by decide), mo 14 (by decide) (by decide), m12, m13, up_s, up_s, hseg]
        refine ⟨oh, g1, g2, g3, TKr_c g4 (fun k _ => by rw [mo 17 (by decide) (by decide), mo 18 (by decide) (by decide), mo 19 (by decide) (by decide), mo 20 (by decide) (by decide), mo 21 (by decide) (by decide)]; exact ⟨rfl, rfl, rfl, rfl, rfl⟩) (fun y _ => by rw [mo 22 (by decide) (by decide)]) (Or.inl rfl), ?_⟩
        obtain ⟨hNC, hcs⟩ := g5
        have e2 : ∀ k, k ≠ 4 → k ≠ 5 → upd (upd (s.1 3 j) 4 p2) 5 p3 k = s.1 3 j k := fun k h1 h2 => by rw [up_n _ _ h2, up_n _ _ h1]
        refine ⟨⟨by rw [up_n _ _ (by decide), up_s], up_s _ _ _, by rw [e2 6 (by decide) (by decide)]; exact hNC.2.2.1, hNC.2.2.2⟩, ?_⟩
        have d2 := e2 2 (by decide) (by decide)
        have d3 := e2 3 (by decide) (by decide)
        have d9 := e2 9 (by decide) (by decide)
        unfold cQU cQS cOT cSE cLI cFL cWA cCL cPA at hcs ⊢
        rw [d2, d3, d9]
        exact hcs
      · refine gNo_c (hN j hj) ⟨fun a h1 h2 => sZ_n (by omega), rfl, rfl⟩ (fun k hk => ?_) (fun k _ => by unfold sSeg; rw [mo 15 (by decide) (by decide)]) (fun k _ => by rw [mo 17 (by decide) (by decide), mo 18 (by decide) (by decide), mo 19 (by decide) (by decide), mo 20 (by decide) (by decide), mo 21 (by decide) (by decide)]; exact ⟨rfl, rfl, rfl, rfl, rfl⟩) (fun y _ => by rw [mo 22 (by decide) (by decide)]) (Or.inl rfl) (fun k _ => by rw [mo 24 (by decide) (by decide)]) (Or.inl rfl) rfl rfl (fun q _ hq => ⟨hq, rfl, rfl⟩)
        by_cases h12 : k = 12
        · subst h12; rw [m12, up_n _ _ hjn]
        · by_cases h13 : k = 13
          · subst h13; rw [m13, up_n _ _ hjn]
          · rw [mo k h12 h13]
  · refine ⟨s, upd v 0 1, m, ⟨?_, Or.inr ⟨rfl, ?_, up_s _ _ _⟩⟩, RI_c h vG_0 (sm_r m)⟩
    · unfold f_X8_filter; rw [n3, bdS, if_neg (by decide), ltE, if_neg (by decide)]
    · unfold f_X7_filter; rw [n2, bxL]
theorem st_run {s : CS} {v : Nat → Int32} {m : Nat → Nat → Int32} (h : RI s v m) (p1 : Int32) : ∃ s' v' m', Step_run p1 s v m s' v' m' ∧ RI s' v' m' := by
  obtain ⟨D, F, N, t, T, E, hG, hL, hN⟩ := id h
  have ht := hG.1.2.2.2.1
  have e20 : (20000 : Int32) - nI t = nI (20000 - t) := n_sub (a := 20000) ht
  by_cases h0 : p1 < 0
  · have h0' : ¬ 0 ≤ p1 := fun e => by
      rw [Int32.lt_iff_toInt_lt] at h0
      rw [Int32.le_iff_toInt_le] at e
      omega
    refine ⟨s, upd v 0 1, m, ⟨0, ?_, Or.inr ⟨rfl, Or.inl ⟨?_, up_s _ _ _⟩⟩⟩, RI_c h vG_0 (sm_r m)⟩
    · unfold f_X8_run; rw [if_neg h0', ltE, if_neg (by decide)]
    · unfold f_X7_run; rw [if_neg h0']
  · obtain ⟨B, B1, rfl⟩ := nn_of h0
    have h0' : (0 : Int32) ≤ nI B := le_l (a := 0) B (Nat.zero_le _) B1
    by_cases hB : B ≤ 20000 - t
    · obtain ⟨s', v', m', D', T', E', r1, r2, r3, r4, r5, r6⟩ := run_loop (F := F) (N := N) (B := B) (by omega) B 0 fu fu s (upd v 0 0) m D T E t (by omega) (by omega) (fu_big (by omega)) (fu_big (by omega)) (Gl_c hG (sG_r s) vG_0 (sm_mG (sm_r m))) hL hN
      have d1 := hG.2.2.1
      have d2 := r4.2.2.1
      refine ⟨s', v', m', ⟨nI (dcn D' F) - nI (dcn D F), ?_, Or.inl ⟨?_, ?_⟩⟩, D', F, N, t + B, T', E', r4, r5, r6⟩
      · unfold f_X8_run
        rw [if_pos h0', hG.1.2.2.2.2.2, e20, if_pos (le_l _ hB (by omega)), ltE, if_pos (by decide), jnE, show (0 : Int32) = nI 0 from rfl]
        rw [show (0 : Int32) = nI 0 from rfl] at r2
        rw [r2]
        dsimp only
        rw [d2.2.1, d1.2.1]
      · unfold f_X7_run
        rw [if_pos h0', hG.1.2.2.2.2.1, e20, if_pos (le_l _ hB (by omega)), jnE, show (0 : Int32) = nI 0 from rfl, r1]
        dsimp only
        rw [d2.1, d1.1]
      · rw [r3, up_s]
    · refine ⟨s, upd v 0 2, m, ⟨0, ?_, Or.inr ⟨rfl, Or.inr ⟨?_, up_s _ _ _⟩⟩⟩, RI_c h vG_0 (sm_r m)⟩
      · unfold f_X8_run; rw [if_pos h0', hG.1.2.2.2.2.2, e20, if_neg (nle_l _ hB B1), ltE, if_neg (by decide)]
      · unfold f_X7_run; rw [if_pos h0', hG.1.2.2.2.2.1, e20, if_neg (nle_l _ hB B1)]
