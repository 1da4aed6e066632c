/-! a frame changes, or comes -/
theorem D_f {D D' : FD} {f : Nat} (h : D' f = D f) : fOw D' f = fOw D f ∧ fKi D' f = fKi D f ∧ fId D' f = fId D f ∧ fCo D' f = fCo D f ∧ fDn D' f = fDn D f ∧ fOc D' f = fOc D f ∧ fP D' f = fP D f ∧ fR D' f = fR D f := by
  have e : fOw D' f = fOw D f ∧ fKi D' f = fKi D f ∧ fId D' f = fId D f ∧ fCo D' f = fCo D f ∧ fDn D' f = fDn D f ∧ fOc D' f = fOc D f := by
    unfold fOw fKi fId fCo fDn fOc
    rw [h]
    exact ⟨rfl, rfl, rfl, rfl, rfl, rfl⟩
  obtain ⟨a1, a2, a3, a4, a5, a6⟩ := e
  refine ⟨a1, a2, a3, a4, a5, a6, ?_, ?_⟩
  · unfold fP; rw [a2, a3, a4, a6]
  · unfold fR; rw [a2, a3, a4, a6]
theorem FVo_f {D D' : FD} {f : Nat} (h : D' f = D f) (hV : FVo D f) : FVo D' f := by
  obtain ⟨a1, a2, a3, a4, a5, a6, _⟩ := D_f h
  unfold FVo
  rw [a1, a2, a3, a4, a5, a6]
  exact hV
theorem FMo_f {D D' : FD} {m : Nat → Nat → Int32} {f : Nat} (h : D' f = D f) (hV : FMo m D f) : FMo m D' f := by
  obtain ⟨a1, a2, a3, a4, a5, a6, _⟩ := D_f h
  unfold FMo
  rw [a1, a2, a3, a4, a5, a6]
  exact hV
theorem FCo_f {D D' : FD} {s : CS} {f : Nat} (h : D' f = D f) (hV : FCo s D f) : FCo s D' f := by
  obtain ⟨a1, a2, a3, a4, a5, a6, _⟩ := D_f h
  unfold FCo FCv at *
  rw [a1, a2, a3, a4, a5, a6]
  exact hV
set_option maxHeartbeats 1000000 in
theorem RI_frame {s s' : CS} {v v' : Nat → Int32} {m m' : Nat → Nat → Int32} {D D' : FD} {F F' N t T E g n : Nat} (hG : Gl s v m D F N t T E t) (hL : gLg s) (hN : ∀ n, n < N → gNo 0 s m D F n t T E)
    (h0 : ∀ k, k ≠ 9 → s'.1 0 0 k = s.1 0 0 k) (h09 : s'.1 0 0 9 = nI F') (h17 : s'.1 17 = s.1 17) (hw : gWr s')
    (hfr : ∀ f, f ≠ g → s'.1 13 f = s.1 13 f ∧ s'.1 14 f = s.1 14 f ∧ s'.1 15 f = s.1 15 f ∧ s'.2.1 13 f = s.2.1 13 f) (hfg : FCo s' D' g)
    (hno : ∀ j, j < 32 → j ≠ n → sNd j s s') (hn1 : ∀ a, 4 ≤ a → a ≤ 12 → a ≠ 6 → s'.1 a n = s.1 a n) (hn2 : s'.2.1 4 n = s.2.1 4 n) (hn3 : ∀ k, k ≠ 6 → s'.1 3 n k = s.1 3 n k) (hn6 : s'.1 3 n 6 = nI (wt D' n F')) (hnr : s'.2.2 n = (fs D' n F', (s.2.2 n).2))
    (hv : ∀ k, k = 1 ∨ k = 2 ∨ k = 11 ∨ k = 22 ∨ k = 29 → v' k = v k) (hv4 : v' 4 = nI F')
    (hm : ∀ k, 7 ≤ k ∨ k = 0 → m' k = m k) (hmf : ∀ f, f < F → f ≠ g → FMo m' D f) (hmg : FMo m' D' g)
    (hD : ∀ f, f ≠ g → D' f = D f) (hVg : FVo D' g) (hgo : fOw D' g = n) (hgd : fDn D' g = 0) (hnN : n < N) (hF' : F' ≤ 200) (hFF : (F' = F ∧ g < F ∧ fOw D g = n ∧ fDn D g = 0) ∨ (F' = F + 1 ∧ g = F))
    (hse : s.1 3 n 2 = nI 1 → (s.2.2 n).2 ≠ some g) : RI s' v' m' := by
  obtain ⟨a1, a2, a3, a4, a5, a6, a7, a8⟩ := hG
  have h32 := a1.1
  have hold : ∀ f, f < F' → f ≠ g → f < F := fun f h1 h2 => by omega
  have hgF : g < F' := by omega
  -- counts
  have key : ∀ j, j ≠ n → ∀ q, q < F → (fOw D q = j ∧ fDn D q = 0 ↔ fOw D' q = j ∧ fDn D' q = 0) ∧ (fOw D q = j → fP D' q = fP D q) := by
    intro j hj q hq
    by_cases hqg : q = g
    · rcases hFF with ⟨_, _, e1, _⟩ | ⟨_, e1⟩
      · subst hqg
        exact ⟨⟨fun e => absurd (e.1.symm.trans e1) hj, fun e => absurd (e.1.symm.trans hgo) hj⟩, fun e => absurd (e.symm.trans e1) hj⟩
      · omega
    · obtain ⟨b1, b2, b3, b4, b5, b6, b7, b8⟩ := D_f (hD q hqg)
      rw [b1, b5]
      exact ⟨Iff.rfl, fun _ => b7⟩
  have hwt : ∀ j, j ≠ n → wt D' j F' = wt D j F ∧ fs D' j F' = fs D j F := by
    intro j hj
    have e1 := wt_eq (D := D) (D' := D') (n := j) F (fun q hq => (key j hj q hq).1)
    have e2 := fs_eq (D := D) (D' := D') (n := j) F (fun q hq => key j hj q hq)
    rcases hFF with ⟨e, _⟩ | ⟨e, e9⟩
    · rw [e]; exact ⟨e1, e2⟩
    · have hne : ¬ (fOw D' F = j ∧ fDn D' F = 0) := fun h9 => hj (by rw [← h9.1, ← e9, hgo])
      rw [e, wt_s, if_neg hne, fs_n hne]
      exact ⟨e1, e2⟩
  have hdc : dcn D' F' = dcn D F := by
    have e1 : ∀ q, q < F → (fDn D' q = 0 ↔ fDn D q = 0) := by
      intro q hq
      by_cases hqg : q = g
      · rcases hFF with ⟨_, _, _, e1⟩ | ⟨_, e1⟩
        · subst hqg; exact ⟨fun _ => e1, fun _ => hgd⟩
        · omega
      · rw [(D_f (hD q hqg)).2.2.2.2.1]
    rcases hFF with ⟨e, _⟩ | ⟨e, e9⟩
    · rw [e]; exact dcn_eq F e1
    · rw [e, dcn_s, ← e9, if_pos hgd, e9, dcn_eq F e1]; rfl
  refine ⟨D', F', N, t, T, E, ⟨?_, ?_, ?_, ?_, ?_, ?_, hw, ?_⟩, ?_, ?_⟩
  · unfold gA; rw [h0 8 (by decide), h0 13 (by decide), hv 1 (by omega), hv 2 (by omega)]; exact a1
  · refine ⟨hF', h09, hv4, fun f hf => ?_⟩
    by_cases hfg' : f = g
    · subst hfg'
      exact ⟨hVg, by rw [hgo]; exact hnN, hmg, hfg⟩
    · obtain ⟨c1, c2, c3, c4⟩ := a2.2.2.2 f (hold f hf hfg')
      obtain ⟨d1, d2, d3, d4⟩ := hfr f hfg'
      refine ⟨FVo_f (hD f hfg') c1, by rw [(D_f (hD f hfg')).1]; exact c2, FMo_f (hD f hfg') (hmf f (hold f hf hfg') hfg'), FCo_f (hD f hfg') ?_⟩
      unfold FCo at c4 ⊢
      rw [d1, d2, d3, d4]
      exact c4
  · unfold gDn; rw [h0 10 (by decide), hv 11 (by omega), hdc, h17, hm 7 (by omega), hm 8 (by omega)]; exact a3
  · unfold gEr; rw [h0 11 (by decide), hv 29 (by omega), h17, hm 23 (by omega), hm 24 (by omega), hm 25 (by omega)]; exact a4
  · unfold gBu; rw [h17, hm 0 (by omega)]; exact a5
  · unfold gFl; rw [h0 12 (by decide), h17, hm 16 (by omega)]; exact a6
  · unfold gTk; rw [hv 22 (by omega), hm 17 (by omega)]; exact a8
  · intro j hj
    by_cases hjn : j = n
    · subst hjn
      rw [hn1 5 (by omega) (by omega) (by omega), hn1 7 (by omega) (by omega) (by omega), hn1 8 (by omega) (by omega) (by omega), hn1 9 (by omega) (by omega) (by omega)]
      exact hL j hj
    · have e := hno j hj hjn
      rw [e.1 5 (by omega) (by omega), e.1 7 (by omega) (by omega), e.1 8 (by omega) (by omega), e.1 9 (by omega) (by omega)]
      exact hL j hj
  · intro j hj
    have hseg : sSeg m' j = sSeg m j := by unfold sSeg; rw [hm 15 (by omega)]
    obtain ⟨oh, g1, g2, g3, g4, g5⟩ := hN j hj
    have hTK : TKr m' T j oh (s.1 11 j) (s.1 12 j) := TKr_c g4 (fun k _ => by rw [hm 17 (by omega), hm 18 (by omega), hm 19 (by omega), hm 20 (by omega), hm 21 (by omega)]; exact ⟨rfl, rfl, rfl, rfl, rfl⟩) (fun x _ => by rw [hm 22 (by omega)]) (Or.inl rfl)
    unfold gNo
    by_cases hjn : j = n
    · subst hjn
      rw [hnr, hn2, hn1 4 (by omega) (by omega) (by omega), hn1 5 (by omega) (by omega) (by omega), hn1 7 (by omega) (by omega) (by omega), hn1 8 (by omega) (by omega) (by omega), hn1 9 (by omega) (by omega) (by omega), hn1 10 (by omega) (by omega) (by omega), hn1 11 (by omega) (by omega) (by omega), hn1 12 (by omega) (by omega) (by omega), hseg, hm 17 (by omega), hm 24 (by omega), hm 9 (by omega), hm 10 (by omega), hm 11 (by omega), hm 12 (by omega), hm 13 (by omega), hm 14 (by omega)]
      refine ⟨oh, g1, g2, g3, hTK, ?_⟩
      obtain ⟨hNC, hcs⟩ := g5
      have d2 := hn3 2 (by decide)
      have d3 := hn3 3 (by decide)
      have d9 := hn3 9 (by decide)
      refine ⟨⟨by rw [hn3 4 (by decide)]; exact hNC.1, by rw [hn3 5 (by decide)]; exact hNC.2.1, hn6, rfl⟩, ?_⟩
      rcases hcs with ⟨q0, q⟩ | ⟨q, _⟩ | hs9 | hli | hfl | hwa | hcl | hpa
      · unfold cQU at q ⊢; rw [d2]; exact Or.inl ⟨Or.inl rfl, q⟩
      · cases q
      · obtain ⟨y, i, s1, s2, s3, s4, s5, s6, s7, s8, s9, s10, s11, s12⟩ := hs9
        have hyg : y ≠ g := fun e => hse s2 (by rw [s1, e])
        obtain ⟨b1, b2, b3, b4, b5, b6, b7, b8⟩ := D_f (hD y hyg)
        refine Or.inr (Or.inr (Or.inl ⟨y, i, s1, by rw [d2]; exact s2, s3, by rw [d9]; exact s4, s5, s6, by omega, by rw [b1]; exact s8, by rw [b5]; exact s9, by rw [b8]; exact s10, by rw [b8]; exact s11, s12⟩))
      · unfold cLI at hli; rw [← d2] at hli; exact Or.inr (Or.inr (Or.inr (Or.inl hli)))
      · unfold cFL at hfl; rw [← d2, ← d3] at hfl; exact Or.inr (Or.inr (Or.inr (Or.inr (Or.inl hfl))))
      · unfold cWA at hwa; rw [← d2] at hwa; exact Or.inr (Or.inr (Or.inr (Or.inr (Or.inr (Or.inl hwa)))))
      · unfold cCL at hcl; rw [← d2, ← d3] at hcl; exact Or.inr (Or.inr (Or.inr (Or.inr (Or.inr (Or.inr (Or.inl hcl))))))
      · unfold cPA at hpa; rw [← d2, ← d3] at hpa; exact Or.inr (Or.inr (Or.inr (Or.inr (Or.inr (Or.inr (Or.inr hpa))))))
    · have e := hno j (by omega) hjn
      obtain ⟨w1, w2⟩ := hwt j hjn
      rw [e.1 3 (by omega) (by omega), e.1 4 (by omega) (by omega), e.1 5 (by omega) (by omega), e.1 7 (by omega) (by omega), e.1 8 (by omega) (by omega), e.1 9 (by omega) (by omega), e.1 10 (by omega) (by omega), e.1 11 (by omega) (by omega), e.1 12 (by omega) (by omega), e.2.1, e.2.2, hseg, hm 17 (by omega), hm 24 (by omega), hm 9 (by omega), hm 10 (by omega), hm 11 (by omega), hm 12 (by omega), hm 13 (by omega), hm 14 (by omega)]
      refine ⟨oh, g1, g2, g3, hTK, ?_⟩
      obtain ⟨hNC, hcs⟩ := g5
      refine ⟨⟨hNC.1, hNC.2.1, by rw [w1]; exact hNC.2.2.1, by rw [w2]; exact hNC.2.2.2⟩, ?_⟩
      rcases hcs with q | q | hs9 | ho
      · exact Or.inl q
      · exact Or.inr (Or.inl q)
      · obtain ⟨y, i, s1, s2, s3, s4, s5, s6, s7, s8, s9, s10, s11, s12⟩ := hs9
        have hyg : y ≠ g := fun e9 => by
          rcases hFF with ⟨_, _, e1, _⟩ | ⟨_, e1⟩
          · exact hjn (by rw [← s8, e9, e1])
          · omega
        obtain ⟨b1, b2, b3, b4, b5, b6, b7, b8⟩ := D_f (hD y hyg)
        exact Or.inr (Or.inr (Or.inl ⟨y, i, s1, s2, s3, s4, s5, s6, by omega, by rw [b1]; exact s8, by rw [b5]; exact s9, by rw [b8]; exact s10, by rw [b8]; exact s11, s12⟩))
      · exact Or.inr (Or.inr (Or.inr ho))
theorem c_fbL {k3 : (Nat → Int32) × Int32 → Option ((Nat → Int32) × (Nat → Int32))} : ∀ d i nn fo, d + i = 64 → d < nn → (∀ k, k < i → fo k = 0) → ∃ fo', L_X0_begin_29 k3 nn fo (nI i) = k3 (fo', nI 64) ∧ ∀ k, k < 64 → fo' k = 0 := by
  intro d
  induction d with
  | zero =>
    intro i nn fo hd hnn h
    obtain ⟨nn, rfl⟩ : ∃ q, nn = q + 1 := ⟨nn - 1, by omega⟩
    have hi : i = 64 := by omega
    subst hi
    refine ⟨fo, ?_, h⟩
    show (if (64 : Int32) ≤ nI 64 then k3 (fo, nI 64) else _) = _
    rw [if_pos (by decide)]
  | succ d ih =>
    intro i nn fo hd hnn h
    obtain ⟨nn, rfl⟩ : ∃ q, nn = q + 1 := ⟨nn - 1, by omega⟩
    obtain ⟨fo', t1, t2⟩ := ih (i + 1) nn (upd fo i 0) (by omega) (by omega) (fun k hk => by
      by_cases hki : k = i
      · rw [hki, up_s]
      · rw [up_n _ _ hki]; exact h k (by omega))
    refine ⟨fo', ?_, t2⟩
    show (if (64 : Int32) ≤ nI i then _ else gd (vp_in (nI i) 64) (L_X0_begin_29 k3 nn (upd fo (nI i).toNatClampNeg 0) (nI i + 1))) = _
    rw [if_neg (show ¬ (64 : Int32) ≤ nI i from nle_l (a := 64) i (by omega) (by decide)), gdT _ (in_nI (by omega) (by decide)), nI_clamp (by omega), show nI i + 1 = nI (i + 1) from nI_add _ 1]
    exact t1
theorem c_fbegin (ff fo : Nat → Int32) (p1 p2 p3 p4 : Int32) : ∃ fo', f_X0_begin ff fo p1 p2 p3 p4 = some (upd (upd (upd (upd (upd ff 3 p1) 4 p2) 5 p3) 7 p4) 8 0, fo') ∧ ∀ k, k < 64 → fo' k = 0 := by
  obtain ⟨fo', t1, t2⟩ := c_fbL (k3 := fun ⟨v1, v2⟩ => some ((upd (upd (upd (upd (upd ff 3 p1) 4 p2) 5 p3) 7 p4) 8 0), v1)) 64 0 fu fo (by omega) (fu_big (by decide)) (fun k hk => absurd hk (Nat.not_lt_zero k))
  refine ⟨fo', ?_, t2⟩
  unfold f_X0_begin
  rw [jnE]
  exact t1
theorem m_sendL {v : Nat → Int32} {F : Nat} (hF : F < 200) (h4 : v 4 = nI F) {k25 : (Nat → Nat → Int32) × Int32 → Option ((Nat → Int32) × (Nat → Nat → Int32) × Int32)} : ∀ d i nn m, d + i = 64 → d < nn → (∀ k, k < i → m 5 (64 * F + k) = 0) → ∃ m', L_X8_send_154 v k25 nn m (nI i) = k25 (m', nI 64) ∧ (∀ k, k < 64 → m' 5 (64 * F + k) = 0) ∧ (∀ x, x < 64 * F → m' 5 x = m 5 x) ∧ ∀ k, k ≠ 5 → m' k = m k := by
  intro d
  induction d with
  | zero =>
    intro i nn m hd hnn h
    obtain ⟨nn, rfl⟩ : ∃ q, nn = q + 1 := ⟨nn - 1, by omega⟩
    have hi : i = 64 := by omega
    subst hi
    refine ⟨m, ?_, h, fun _ _ => rfl, fun _ _ => rfl⟩
    show (if (64 : Int32) ≤ nI 64 then k25 (m, nI 64) else _) = _
    rw [if_pos (by decide)]
  | succ d ih =>
    intro i nn m hd hnn h
    obtain ⟨nn, rfl⟩ : ∃ q, nn = q + 1 := ⟨nn - 1, by omega⟩
    obtain ⟨m', t1, t2, t3, t4⟩ := ih (i + 1) nn (va_up m 5 (upd (m 5) (64 * F + i) 0)) (by omega) (by omega) (fun k hk => by
      rw [vu_s]
      by_cases hki : k = i
      · rw [hki, up_s]
      · rw [up_n _ _ (by omega)]; exact h k (by omega))
    refine ⟨m', ?_, t2, fun x hx => by rw [t3 x hx, vu_s, up_n _ _ (by omega)], fun k hk => by rw [t4 k hk, vu_n _ _ hk]⟩
    show (if (64 : Int32) ≤ nI i then _ else gd (vp_in ((64 * (v 4)) + nI i) 12800) (L_X8_send_154 v k25 nn (va_up m 5 (upd (m 5) (((64 * (v 4)) + nI i).toNatClampNeg) 0)) (nI i + 1))) = _
    rw [if_neg (show ¬ (64 : Int32) ≤ nI i from nle_l (a := 64) i (by omega) (by decide)), h4, e64, gdT _ (in_nI (by omega) (by decide)), nI_clamp (by omega), show nI i + 1 = nI (i + 1) from nI_add _ 1]
    exact t1
