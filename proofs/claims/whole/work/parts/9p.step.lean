/-! one node of a bit time -/
def sFin (s : CS) (D : FD) (F n j dn t : Nat) : CS := sR (sZ (sZ (sZ (sZ (sZ s 13 j (upd (s.1 13 j) 8 1)) 17 2 (upd (s.1 17 2) dn (nI j))) 17 3 (upd (s.1 17 3) dn (nI t))) 0 0 (upd (s.1 0 0) 10 (nI (dn + 1)))) 3 n (upd (s.1 3 n) 6 (nI (wt D n F - 1)))) n (fs (dDo D j) n F, some j)
theorem sFin_1 {s : CS} {D : FD} {F n j dn t a i : Nat} (h : ¬ (a = 13 ∧ i = j) ∧ ¬ (a = 17 ∧ (i = 2 ∨ i = 3)) ∧ ¬ (a = 0 ∧ i = 0) ∧ ¬ (a = 3 ∧ i = n)) : (sFin s D F n j dn t).1 a i = s.1 a i := by
  unfold sFin
  show (sZ (sZ (sZ (sZ (sZ s 13 j (upd (s.1 13 j) 8 1)) 17 2 (upd (s.1 17 2) dn (nI j))) 17 3 (upd (s.1 17 3) dn (nI t))) 0 0 (upd (s.1 0 0) 10 (nI (dn + 1)))) 3 n (upd (s.1 3 n) 6 (nI (wt D n F - 1)))).1 a i = _
  rw [sZ_n (by omega), sZ_n (by omega), sZ_n (by omega), sZ_n (by omega), sZ_n (by omega)]
theorem sFin_13 {s : CS} {D : FD} {F n j dn t : Nat} : (sFin s D F n j dn t).1 13 j = upd (s.1 13 j) 8 1 := by
  unfold sFin
  show (sZ (sZ (sZ (sZ (sZ s 13 j (upd (s.1 13 j) 8 1)) 17 2 (upd (s.1 17 2) dn (nI j))) 17 3 (upd (s.1 17 3) dn (nI t))) 0 0 (upd (s.1 0 0) 10 (nI (dn + 1)))) 3 n (upd (s.1 3 n) 6 (nI (wt D n F - 1)))).1 13 j = _
  rw [sZ_n (by omega), sZ_n (by omega), sZ_n (by omega), sZ_n (by omega), sZ_s]
theorem sFin_172 {s : CS} {D : FD} {F n j dn t : Nat} : (sFin s D F n j dn t).1 17 2 = upd (s.1 17 2) dn (nI j) := by
  unfold sFin
  show (sZ (sZ (sZ (sZ (sZ s 13 j (upd (s.1 13 j) 8 1)) 17 2 (upd (s.1 17 2) dn (nI j))) 17 3 (upd (s.1 17 3) dn (nI t))) 0 0 (upd (s.1 0 0) 10 (nI (dn + 1)))) 3 n (upd (s.1 3 n) 6 (nI (wt D n F - 1)))).1 17 2 = _
  rw [sZ_n (by omega), sZ_n (by omega), sZ_n (by omega), sZ_s]
theorem sFin_173 {s : CS} {D : FD} {F n j dn t : Nat} : (sFin s D F n j dn t).1 17 3 = upd (s.1 17 3) dn (nI t) := by
  unfold sFin
  show (sZ (sZ (sZ (sZ (sZ s 13 j (upd (s.1 13 j) 8 1)) 17 2 (upd (s.1 17 2) dn (nI j))) 17 3 (upd (s.1 17 3) dn (nI t))) 0 0 (upd (s.1 0 0) 10 (nI (dn + 1)))) 3 n (upd (s.1 3 n) 6 (nI (wt D n F - 1)))).1 17 3 = _
  rw [sZ_n (by omega), sZ_n (by omega), sZ_s]
theorem sFin_0 {s : CS} {D : FD} {F n j dn t : Nat} : (sFin s D F n j dn t).1 0 0 = upd (s.1 0 0) 10 (nI (dn + 1)) := by
  unfold sFin
  show (sZ (sZ (sZ (sZ (sZ s 13 j (upd (s.1 13 j) 8 1)) 17 2 (upd (s.1 17 2) dn (nI j))) 17 3 (upd (s.1 17 3) dn (nI t))) 0 0 (upd (s.1 0 0) 10 (nI (dn + 1)))) 3 n (upd (s.1 3 n) 6 (nI (wt D n F - 1)))).1 0 0 = _
  rw [sZ_n (by omega), sZ_s]
theorem sFin_3 {s : CS} {D : FD} {F n j dn t : Nat} : (sFin s D F n j dn t).1 3 n = upd (s.1 3 n) 6 (nI (wt D n F - 1)) := by
  unfold sFin
  show (sZ (sZ (sZ (sZ (sZ s 13 j (upd (s.1 13 j) 8 1)) 17 2 (upd (s.1 17 2) dn (nI j))) 17 3 (upd (s.1 17 3) dn (nI t))) 0 0 (upd (s.1 0 0) 10 (nI (dn + 1)))) 3 n (upd (s.1 3 n) 6 (nI (wt D n F - 1)))).1 3 n = _
  rw [sZ_s]
theorem sFin_21 {s : CS} {D : FD} {F n j dn t : Nat} : (sFin s D F n j dn t).2.1 = s.2.1 := rfl
theorem FVo_d {D : FD} {j f : Nat} (h : FVo D f) : FVo (dDo D j) f := by
  obtain ⟨a1, a2, a3, a4, a5, a6⟩ := dDo_f D j f
  unfold FVo
  rw [a1, a2, a3, a4, a5]
  refine ⟨h.1, h.2.1, ?_⟩
  by_cases hf : f = j
  · subst hf; rw [(dDo_s D f).2.2.2.2.1]; decide
  · rw [a6 hf]; exact h.2.2
theorem FCv_d {D : FD} {j f : Nat} {h : Int64} {g g' o b : Nat → Int32} (hC : FCv h g o b D f) (hg : ∀ k, k ≠ 8 → g' k = g k) (h8 : g' 8 = nI (fDn (dDo D j) f)) : FCv h g' o b (dDo D j) f := by
  obtain ⟨a1, a2, a3, a4, a5, a6⟩ := dDo_f D j f
  obtain ⟨c1, c2, c3, c4, c5, c6, c7, c8⟩ := hC
  unfold FCv
  rw [a1, a2, a3, a4, a5, hg 3 (by decide), hg 4 (by decide), hg 5 (by decide), hg 7 (by decide)]
  exact ⟨c1, c2, c3, c4, h8, c6, c7, by rw [hg 2 (by decide)]; exact c8.1, c8.2⟩
theorem keep_d {s : CS} {D : FD} {F n j dn t : Nat} (hn : n < 32) (hF : F ≤ 200) (h9 : s.1 0 0 9 = nI F) (hV : ∀ f, f < F → FVo D f) (hC : ∀ f, f < F → FCo s D f) (hj : j < F) (hjo : fOw D j = n) (hjd : fDn D j = 0) (hr : (s.2.2 n).2 = some j) (h10 : s.1 0 0 10 = nI dn) (hdn : dn < 200) (h13 : s.1 0 0 13 = nI t) (h6 : s.1 3 n 6 = nI (wt D n F)) : f_X7_keep s (nI n) (nI 6) = some (sFin s D F n j dn t) := by
  have hw := (dDo_w1 hjo hjd F).1 hj
  have hwl := wt_le D n F
  have hnum : s.1 13 j 3 = nI j := (hC j hj).1
  unfold f_X7_keep f_X7_finish
  rw [jnE, if_pos (show nI 6 = 6 from rfl), gdT _ (in_nI hn (by decide)), nI_clamp (by omega), ltE, hr, ocS, gdT _ (by omega), h10, if_pos (show nI dn < 200 from lt_l 200 hdn (by decide)), ltE, sZ_n (t := 13) (t' := 0) (by omega), h10, gdT _ (in_nI hdn (by decide)), nI_clamp (by omega), ltE, sZ_n (t := 17) (t' := 0) (by omega), sZ_n (t := 13) (t' := 0) (by omega), h10, gdT _ (in_nI hdn (by decide)), nI_clamp (by omega), ltE, ltE, ltE, ltE]
  have e1 : (sZ s 13 j (upd (s.1 13 j) 8 1)).1 13 j 3 = nI j := by rw [sZ_s, up_n _ _ (by decide)]; exact hnum
  rw [e1, sZ_n (s := s) (t := 13) (t' := 17) (by omega), sZ_n (s := sZ s 13 j (upd (s.1 13 j) 8 1)) (t := 17) (i := 2) (t' := 17) (i' := 3) (by omega), sZ_n (s := s) (t := 13) (t' := 17) (by omega)]
  rw [sZ_n (t := 17) (i := 3) (t' := 0) (by omega), sZ_n (t := 17) (i := 2) (t' := 0) (by omega), sZ_n (t := 13) (t' := 0) (by omega)]
  rw [h10, h13, show nI dn + 1 = nI (dn + 1) from nI_add _ 1]
  rw [sZ_n (t := 0) (t' := 3) (by omega), sZ_n (t := 17) (i := 3) (t' := 3) (by omega), sZ_n (t := 17) (i := 2) (t' := 3) (by omega), sZ_n (t := 13) (t' := 3) (by omega), h6, show nI (wt D n F) - 1 = nI (wt D n F - 1) from n_sub (b := 1) (by omega)]
  generalize hs12 : sZ (sZ (sZ (sZ (sZ s 13 j (upd (s.1 13 j) 8 1)) 17 2 (upd (s.1 17 2) dn (nI j))) 17 3 (upd (s.1 17 3) dn (nI t))) 0 0 (upd (s.1 0 0) 10 (nI (dn + 1)))) 3 n (upd (s.1 3 n) 6 (nI (wt D n F - 1))) = s12
  have g0 : s12.1 0 0 9 = nI F := by rw [← hs12, sZ_n (by omega), sZ_s, up_n _ _ (by decide)]; exact h9
  have gC : ∀ f, f < F → FCo s12 (dDo D j) f := by
    intro f hf
    have e2 : s12.2.1 13 f = s.2.1 13 f := by rw [← hs12]; rfl
    have e14 : s12.1 14 f = s.1 14 f := by rw [← hs12, sZ_n (by omega), sZ_n (by omega), sZ_n (by omega), sZ_n (by omega), sZ_n (by omega)]
    have e15 : s12.1 15 f = s.1 15 f := by rw [← hs12, sZ_n (by omega), sZ_n (by omega), sZ_n (by omega), sZ_n (by omega), sZ_n (by omega)]
    unfold FCo
    rw [e2, e14, e15]
    by_cases hfj : f = j
    · subst hfj
      have e13 : s12.1 13 f = upd (s.1 13 f) 8 1 := by rw [← hs12, sZ_n (by omega), sZ_n (by omega), sZ_n (by omega), sZ_n (by omega), sZ_s]
      rw [e13]
      exact FCv_d (hC f hf) (fun k hk => up_n _ _ hk) (by rw [up_s, (dDo_s D f).2.2.2.2.1]; rfl)
    · have e13 : s12.1 13 f = s.1 13 f := by rw [← hs12, sZ_n (by omega), sZ_n (by omega), sZ_n (by omega), sZ_n (by omega), sZ_n (by omega)]
      rw [e13]
      exact FCv_d (hC f hf) (fun _ _ => rfl) (by rw [(dDo_f D j f).2.2.2.2.2 hfj]; exact (hC f hf).2.2.2.2.1)
  rw [c_first hn hF g0 (fun f hf => FVo_d (hV f hf)) gC, bdS, ltE, bdS]
  have e3 : (s12.2.2 n).2 = some j := by rw [← hs12]; exact hr
  rw [e3, ← hs12]
  rfl
/-! the step -/
def MidS (s : CS) (v : Nat → Int32) (m : Nat → Nat → Int32) (D : FD) (F N t T E i : Nat) : Prop := Gl s v m D F N t T E (t + 1) ∧ gLg s ∧ (∀ n, n < i → n < N → gNo 0 s m D F n (t + 1) T E) ∧ ∀ n, i ≤ n → n < N → gNo 1 s m D F n t T E
theorem mid_rk {s : CS} {v : Nat → Int32} {m : Nat → Nat → Int32} {D : FD} {F N t T E i : Nat} (h : MidS s v m D F N t T E i) (ht : t < 20000) : (∀ n, n < 32 → rk (m 24) n E ≤ 2500 ∧ rk (m 17) n T ≤ 434) ∧ E ≤ 80000 ∧ T ≤ 13888 := by
  obtain ⟨hG, hL, h0, h1⟩ := h
  have hN := hG.1.1
  have hE := hG.2.2.2.1
  have hT := hG.2.2.2.2.2.2.2
  have key : ∀ n, n < 32 → rk (m 24) n E ≤ 2500 ∧ rk (m 17) n T ≤ 434 := by
    intro n hn
    by_cases hnN : n < N
    · by_cases hni : n < i
      · obtain ⟨oh, g1, g2, g3, g4, g5⟩ := h0 n hni hnN
        have := NSt_bd g5; omega
      · obtain ⟨oh, g1, g2, g3, g4, g5⟩ := h1 n (by omega) hnN
        have := NSt_bd g5; omega
    · rw [rk_0 (N := N) (by omega) hn E (fun k hk => by obtain ⟨kd, nd, tm, x1, x2, x3, x4, x5, _⟩ := hE.2.2 k hk; exact ⟨nd, x2, x5⟩), rk_0 (N := N) (by omega) hn T (fun k hk => hT.2 k hk)]
      omega
  refine ⟨key, ?_, ?_⟩
  · have := rk_bd (g := m 24) (T := E) (B := 2500) (fun k hk => by obtain ⟨kd, nd, tm, x1, x2, x3, x4, x5, _⟩ := hE.2.2 k hk; exact ⟨nd, by omega, x5⟩) (fun n hn => (key n hn).1)
    omega
  · have := rk_bd (g := m 17) (T := T) (B := 434) (fun k hk => by obtain ⟨nd, x1, x2⟩ := hT.2 k hk; exact ⟨nd, by omega, x2⟩) (fun n hn => (key n hn).2)
    omega
theorem nlx_own {S : Nat → Prop} {i n : Nat} {m m' : Nat → Nat → Int32} (h : nlx S i m m') (hni : n ≠ i) (h12 : ¬ S 12) (h13 : ¬ S 13) : (∀ k, k = 9 ∨ k = 10 ∨ k = 11 ∨ k = 12 ∨ k = 13 ∨ k = 14 → m' k n = m k n) ∧ ∀ k, k < 1200 → sSeg m' n k = sSeg m n k := by
  refine ⟨fun k hk => ?_, fun k hk => ?_⟩
  · by_cases h1 : k = 12
    · subst h1; rw [h.1 12 h12 (by omega) (by omega)]
    · by_cases h2 : k = 13
      · subst h2; rw [h.1 13 h13 (by omega) (by omega)]
      · exact h.2.1 k n (by omega) hni
  · unfold sSeg
    refine h.2.2 _ ?_
    rcases Nat.lt_or_gt_of_ne hni with h9 | h9
    · exact Or.inl (by omega)
    · exact Or.inr (by omega)
/-- another node, when this one changed nothing that is told -/
theorem gNo_nl {ph : Nat} {s s' : CS} {m m' : Nat → Nat → Int32} {D : FD} {F n i t T E : Nat} (h : gNo ph s m D F n t T E) (hs : sNd n s s') (hm : nlx (fun _ => False) i m m') (hni : n ≠ i) : gNo ph s' m' D F n t T E := by
  obtain ⟨o1, o2⟩ := nlx_own hm hni (fun h => h) (fun h => h)
  have g : ∀ k, 16 ≤ k → k ≤ 25 → m' k = m k := fun k h1 h2 => hm.1 k (fun h => h) (by omega) (by omega)
  exact gNo_c h hs o1 o2 (fun k _ => by rw [g 17 (by omega) (by omega), g 18 (by omega) (by omega), g 19 (by omega) (by omega), g 20 (by omega) (by omega), g 21 (by omega) (by omega)]; exact ⟨rfl, rfl, rfl, rfl, rfl⟩) (fun x _ => by rw [g 22 (by omega) (by omega)]) (Or.inl rfl) (fun k _ => by rw [g 24 (by omega) (by omega)]) (Or.inl rfl) rfl rfl (fun j _ hj => ⟨hj, rfl, rfl⟩)
