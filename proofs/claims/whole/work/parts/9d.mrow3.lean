theorem m_writeTail {v : Nat → Int32} {m : Nat → Nat → Int32} {Q r s : List Nat} {la cn su wd : Nat} (hr0 : 0 < r.length) (hrl : r.length ≤ 691) (hrB : Bt r) (hla : r.getD (r.length - 1) 0 = la) (hla2 : la < 2) (hs : s.length = r.length) (hcn : cn < 16) (hwd : (wd = 21 ∧ su = crC (r ++ bt cn 4)) ∨ (wd = 17 ∧ su = crB (r ++ bt cn 4))) (h : MI v m Q r s r) :
    ∃ v' m', f_X8_writeTail v m (nI cn) (nI wd) = some (v', m') ∧ MI v' m' Q (r ++ tx la (bt cn 4 ++ bt su wd)) (s ++ List.replicate (tx la (bt cn 4 ++ bt su wd)).length 0) (r ++ bt cn 4) ∧ v' 38 = v 38 ∧ sv v v' ∧ sm m m' := by
  have hsu : su < 2 ^ 31 := by
    rcases hwd with ⟨_, h2⟩ | ⟨_, h2⟩
    · have := crC_lt (r ++ bt cn 4); omega
    · have := crB_lt (r ++ bt cn 4); omega
  unfold f_X8_writeTail
  rw [jnE, show (3 : Int32) = nI 4 - 1 from rfl]
  have hll : (r ++ bt cn 4).length = r.length + 4 := by rw [List.length_append, bt_len]
  obtain ⟨v1, m1, a1, a2, a3, a4, a5⟩ := m_wt2 (x := cn) (by omega) (k4 := fun ⟨v1, v2, v3⟩ => bd (f_X8_checkOf v1 v2 (nI wd)) (fun u10 => jn (α := (Nat → Int32) × (Nat → Nat → Int32) × Int32) (fun ⟨v12, v13, v14⟩ => some (v12, v13)) (fun k15 => L_X8_writeTail_30 (nI wd) u10 (nI cn) k15 fu v1 v2 0))) 4 fu v m r (fu_big (by decide)) (by decide) (by omega) h
  rw [a1]
  dsimp only
  have hsum : f_X8_checkOf v1 m1 (nI wd) = some (nI su) := by
    rcases hwd with ⟨h1, h2⟩ | ⟨h1, h2⟩
    · rw [h1, h2]; exact m_sumC a2.2.2.2.2.2.1 a2.2.2.2.2.2.2 (by omega) (Bt_app hrB (bt_Bt _ _))
    · rw [h1, h2]; exact m_sumB a2.2.2.2.2.2.1 a2.2.2.2.2.2.2 (by omega) (Bt_app hrB (bt_Bt _ _))
  rw [hsum, bdS, jnE]
  obtain ⟨v2, m2, b1, b2, b3, b4, b5⟩ := m_wt30 (wd := wd) (k15 := fun ⟨v12, v13, v14⟩ => some (v12, v13)) hr0 hrl hla hla2 hs hcn hsu (by omega) (4 + wd) 0 fu v1 m1 (by omega) (fu_big (by omega)) (by rw [List.take_zero]; show MI v1 m1 Q (r ++ []) (s ++ []) _; rw [List.append_nil, List.append_nil]; exact a2)
  exact ⟨v2, m2, b1, b2, by rw [b3, a3], sv_t a4 b4, sm_t a5 b5⟩
theorem m_x10 : ∀ k, k < 6 → (if nI k - nI k / 2 * 2 = 1 then (32 : Int32) else 13) = nI (arb k) := by decide +kernel
theorem arb_lt (k : Nat) : arb k < hlen (isL k) (isF k) ∧ arb k ≤ 32 := by
  have h1 := isL_lt k
  unfold arb hlen
  by_cases h : isL k = 1
  · rw [if_pos h, if_neg (by omega)]; split <;> omega
  · rw [if_neg h, if_pos (by omega)]; split <;> omega
theorem mWs_0 (fl ar : Nat) (Q : List Nat) : mWs fl ar Q 0 = w0 := by
  unfold mWs
  rw [List.take_zero, wr_nil]
  split
  · rfl
  · rfl
theorem mWs_e {k id c : Nat} {o : Nat → Nat} : mWs (isF k) (arb k) (fQ k id c o) (fQ k id c o).length = fW k id c o := by
  unfold mWs fW
  rw [tk_a (Nat.le_refl _)]
  by_cases h : isF k = 1
  · rw [if_pos ⟨h, rfl⟩, if_pos h]
  · rw [if_neg (fun h9 => h h9.1), if_neg h]
theorem fW_FB (k id c : Nat) (o : Nat → Nat) : FB (abp (arb k) (fQ k id c o)) (fW k id c o) := by
  have h1 := fQ_len (k := k) id c o
  have h2 := arb_lt k
  have h3 := FB_wr (ar := arb k) (Q := fQ k id c o) (by omega)
  unfold fW
  split
  · exact h3
  · exact FB_ws h3
set_option maxHeartbeats 4000000 in
theorem m_write {v : Nat → Int32} {m : Nat → Nat → Int32} {f k id c : Nat} {o : Nat → Nat} (hf : f < 200) (hV : frV k id c o) (hM : frM m f k id c o) :
    ∃ v' m', f_X8_write v m (nI f) = some (v', m') ∧ sv v v' ∧ sm m m' ∧ v' 37 = nI (rowL k id c o).length ∧ arr (m' 27) (rowL k id c o) ∧ v' 38 = nI (abp (arb k) (fQ k id c o)) ∧ abp (arb k) (fQ k id c o) ≤ 691 ∧ ∀ i, i < (rowL k id c o).length → ∃ q, q < 2 ∧ m' 28 i = nI q ∧ ((i < abp (arb k) (fQ k id c o) ∧ q = 0) ↔ (flgL k id c o).getD i 0 = 1) := by
  have hk := hV.1
  have hF := isF_lt k
  have hlQ := fQ_len (k := k) id c o
  have hAr := arb_lt k
  have hP := plL_Bt k id c o
  have hpl := plL_len k id c o
  have hoc := octs_le k c
  have hlv := hlen_le (l := isL k) (f := isF k)
  have hPl : (plL k id c o).length ≤ 553 := by omega
  have hcA := crA_lt (plL k id c o)
  obtain ⟨u1, u2, a1, a2, a3, a4⟩ := m_writePlain (v := v) hf hV hM
  have hM2 := frM_26 hM a4
  unfold f_X8_write
  rw [a1, bdS]
  dsimp only
  rw [gdT _ (in_nI hf (by decide)), nI_clamp (by omega), hM2.2.1, m_x7 hk (in_nI hf (by decide)), gdT _ (in_nI hf (by decide)), m_x10 k hk, ltE]
  -- the check's width
  have hx14 : ∀ {β : Type} (g : Int32 → Option β), jn g (fun k16 => if nI (isF k) = 0 then k16 15 else gd (vp_in (nI f) 200) (gd (vp_in (nI f) 200) (bd (f_X8_octetsOf (nI k) ((u2 4) f)) (fun u107 => if u107 ≤ 16 then k16 17 else k16 21)))) = g (nI (if isF k = 1 then fWd k c else 15)) := by
    intro β g
    rw [jnE]
    by_cases h1 : isF k = 1
    · rw [if_neg (show ¬ nI (isF k) = 0 by rw [h1]; decide), gdT _ (in_nI hf (by decide)), gdT _ (in_nI hf (by decide)), hM2.2.2.1, m_octets k hk c hV.2.1, bdS, if_pos h1]
      unfold fWd
      by_cases h16 : 16 < octs k c
      · rw [if_pos h16, if_neg (show ¬ nI (octs k c) ≤ 16 from nle_l 16 (by omega) (by omega))]; rfl
      · rw [if_neg h16, if_pos (show nI (octs k c) ≤ 16 from le_l 16 (by omega) (by decide))]; rfl
    · rw [if_pos (show nI (isF k) = 0 by rw [show isF k = 0 by omega]; rfl), if_neg h1]; rfl
  rw [hx14, jnE]
  have hMI0 : MI (upd (upd u1 37 0) 41 0) u2 (plL k id c o) [] [] ((plL k id c o).take 0) := by
    rw [List.take_zero]
    exact ⟨by rw [up_n _ _ (by decide), up_n _ _ (by decide)]; exact a2.1, a2.2, by rw [up_n _ _ (by decide), up_s]; rfl, arr_nil _, arr_nil _, by rw [up_s]; rfl, arr_nil _⟩
  obtain ⟨v1, m1, b1, b2, b3, b4, b5⟩ := m_105 hP (by omega) (k21 := fun ⟨v18, v19, v20⟩ => bd (f_X8_checkOf v18 v19 15) (fun u28 => jn (α := (Nat → Int32) × (Nat → Nat → Int32)) (fun ⟨x30, x31⟩ => jn (α := (Nat → Int32) × (Nat → Nat → Int32) × Int32 × Int32) (fun ⟨v34, v35, v36, v37⟩ => jn (α := (Nat → Int32) × (Nat → Nat → Int32)) (fun ⟨x79, x80⟩ => jn (α := (Nat → Int32) × (Nat → Nat → Int32) × Int32) (fun ⟨v83, v84, v85⟩ => some (v83, v84)) (fun k86 => L_X8_write_292  k86 fu x79 x80 0)) (fun k81 => if nI (isF k) = 0 then k81 (v34, v35) else bd (f_X8_countOf v37) (fun u93 => bd (f_X8_writeTail v34 v35 u93 (nI (if isF k = 1 then fWd k c else 15))) (fun ⟨u95, u96⟩ => k81 (u95, u96))))) (fun k38 => L_X8_write_165 (nI (arb k)) (nI (isF k)) v18 k38 fu x30 x31 0 0)) (fun k32 => if nI (isF k) = 0 then bd (f_X8_bits (upd v18 41 0) v19 u28 15) (fun ⟨u100, u101⟩ => k32 (u100, u101)) else k32 ((upd v18 41 0), v19)))) (plL k id c o).length 0 fu _ u2 (by omega) (fu_big (by omega)) hMI0
  have svA : sv v v1 := sv_t (sv_u (sv_u (o34_sv a3) 37 _ (by omega)) 41 _ (by omega)) b4
  have smA : sm m m1 := sm_t (o26_sm a4) b5
  rw [show (0 : Int32) = nI 0 from rfl] at b1 ⊢
  rw [b1]
  dsimp only
  have hsum : f_X8_checkOf v1 m1 15 = some (nI (crA (plL k id c o))) := m_sumA b2.2.2.2.2.2.1 b2.2.2.2.2.2.2 (by omega) hP
  rw [hsum, bdS, jnE]
  -- the end: ones
  have fin : ∀ (v3 : Nat → Int32) (m3 : Nat → Nat → Int32) (l : List Nat), MI v3 m3 (fQ k id c o) ((fW k id c o).1 ++ fT k id c o) ((fW k id c o).2.1 ++ List.replicate (fT k id c o).length 0) l → v3 38 = nI (abp (arb k) (fQ k id c o)) → sv v v3 → sm m m3 → ∃ v' m', (jn (α := (Nat → Int32) × (Nat → Nat → Int32) × Int32) (fun ⟨v83, v84, v85⟩ => some (v83, v84)) (fun k86 => L_X8_write_292 k86 fu v3 m3 (nI 0))) = some (v', m') ∧ sv v v' ∧ sm m m' ∧ v' 37 = nI (rowL k id c o).length ∧ arr (m' 27) (rowL k id c o) ∧ v' 38 = nI (abp (arb k) (fQ k id c o)) ∧ abp (arb k) (fQ k id c o) ≤ 691 ∧ ∀ i, i < (rowL k id c o).length → ∃ q, q < 2 ∧ m' 28 i = nI q ∧ ((i < abp (arb k) (fQ k id c o) ∧ q = 0) ↔ (flgL k id c o).getD i 0 = 1) := by
    intro v3 m3 l h1 h2 h3 h4
    have hfo := fW_ok k id c o
    have hfb := fW_FB k id c o
    have hfl := fW_len k id c o
    have htl := tx_le (k := k) (id := id) (c := c) (o := o)
    have hrow : rowL k id c o = (fW k id c o).1 ++ fT k id c o ++ List.replicate 10 1 := rfl
    have hflg : flgL k id c o = (fW k id c o).2.2.1 := rfl
    rw [hrow, hflg]
    generalize fT k id c o = T at h1 htl
    generalize fW k id c o = W at h1 hfo hfb hfl
    obtain ⟨r, s, g, la, ru, sb⟩ := W
    obtain ⟨f1, f2, f3, f4⟩ := hfb
    obtain ⟨o1, o2, o3, o4, o5⟩ := hfo
    have hfl : r.length ≤ 691 := hfl
    obtain ⟨v4, m4, c1, c2, c3, c4, c5⟩ := m_ones (r := r ++ T) (s := s ++ List.replicate T.length 0) (k86 := fun ⟨v83, v84, v85⟩ => some (v83, v84)) (by rw [List.length_append]; omega) (by rw [List.length_append, List.length_append, List.length_replicate, o1]) 10 0 fu v3 m3 (by omega) (fu_big (by decide)) (by show MI v3 m3 _ (r ++ T ++ []) (s ++ List.replicate T.length 0 ++ []) l; rw [List.append_nil, List.append_nil]; exact h1)
    rw [jnE]
    refine ⟨v4, m4, c1, sv_t h3 c4, sm_t h4 c5, c2.2.2.1, c2.2.2.2.1, by rw [c3]; exact h2, Nat.le_trans f3 hfl, ?_⟩
    intro i hi
    have hSl : (s ++ List.replicate T.length 0 ++ List.replicate 10 0).length = (r ++ T ++ List.replicate 10 1).length := by simp only [List.length_append, List.length_replicate, o1]
    have hSB : Bt (s ++ List.replicate T.length 0 ++ List.replicate 10 0) := Bt_app (Bt_app o4 (fun x hx => by rw [List.eq_of_mem_replicate hx]; decide)) (fun x hx => by rw [List.eq_of_mem_replicate hx]; decide)
    have hi : i < (r ++ T ++ List.replicate 10 1).length := hi
    refine ⟨_, Bt_getD i hSB, c2.2.2.2.2.1 i (by omega), ?_⟩
    show (i < abp (arb k) (fQ k id c o) ∧ _) ↔ g.getD i 0 = 1
    have f3 : abp (arb k) (fQ k id c o) ≤ r.length := f3
    by_cases hir : i < r.length
    · rw [List.append_assoc, gD_l (by omega), f4 i hir]
      exact And.comm
    · rw [gD_o (a := g) (by have : g.length = r.length := f2; omega)]
      omega
  have hW := fW_ok k id c o
  have hWe : mWs (isF k) (arb k) (fQ k id c o) (fQ k id c o).length = fW k id c o := mWs_e
  -- behind the plain bits
  have mid : ∀ (v2 : Nat → Int32) (m2 : Nat → Nat → Int32), MI v2 m2 (fQ k id c o) [] [] [] → sv v v2 → sm m m2 → ∃ v' m', (jn (α := (Nat → Int32) × (Nat → Nat → Int32) × Int32 × Int32) (fun ⟨v34, v35, v36, v37⟩ => jn (α := (Nat → Int32) × (Nat → Nat → Int32)) (fun ⟨x79, x80⟩ => jn (α := (Nat → Int32) × (Nat → Nat → Int32) × Int32) (fun ⟨v83, v84, v85⟩ => some (v83, v84)) (fun k86 => L_X8_write_292  k86 fu x79 x80 (nI 0))) (fun k81 => if nI (isF k) = nI 0 then k81 (v34, v35) else bd (f_X8_countOf v37) (fun u93 => bd (f_X8_writeTail v34 v35 u93 (nI (if isF k = 1 then fWd k c else 15))) (fun ⟨u95, u96⟩ => k81 (u95, u96))))) (fun k38 => L_X8_write_165 (nI (arb k)) (nI (isF k)) v1 k38 fu v2 m2 (nI 0) (nI 0))) = some (v', m') ∧ sv v v' ∧ sm m m' ∧ v' 37 = nI (rowL k id c o).length ∧ arr (m' 27) (rowL k id c o) ∧ v' 38 = nI (abp (arb k) (fQ k id c o)) ∧ abp (arb k) (fQ k id c o) ≤ 691 ∧ ∀ i, i < (rowL k id c o).length → ∃ q, q < 2 ∧ m' 28 i = nI q ∧ ((i < abp (arb k) (fQ k id c o) ∧ q = 0) ↔ (flgL k id c o).getD i 0 = 1) := by
    intro v2 m2 h1 h2 h3
    have e0 := mWs_0 (isF k) (arb k) (fQ k id c o)
    obtain ⟨v3, m3, c1, c2, c3, c4, c5⟩ := m_165 (fl := isF k) (ar := arb k) (n0 := (plL k id c o).length) (Q := fQ k id c o) (v18 := v1) (fQ_Bt k id c o) hlQ.1 hF hAr.2 b2.1 (fun h => by unfold fQ; rw [if_pos h]) (k38 := fun ⟨v34, v35, v36, v37⟩ => jn (α := (Nat → Int32) × (Nat → Nat → Int32)) (fun ⟨x79, x80⟩ => jn (α := (Nat → Int32) × (Nat → Nat → Int32) × Int32) (fun ⟨v83, v84, v85⟩ => some (v83, v84)) (fun k86 => L_X8_write_292  k86 fu x79 x80 (nI 0))) (fun k81 => if nI (isF k) = nI 0 then k81 (v34, v35) else bd (f_X8_countOf v37) (fun u93 => bd (f_X8_writeTail v34 v35 u93 (nI (if isF k = 1 then fWd k c else 15))) (fun ⟨u95, u96⟩ => k81 (u95, u96))))) (fQ k id c o).length 0 fu v2 m2 (by omega) (fu_big (by omega)) (by rw [e0]; exact h1) (fun h => absurd h (Nat.not_lt_zero _))
    rw [e0, hWe] at c1
    rw [hWe] at c2
    rw [jnE]
    rw [show nI 0 = nI w0.2.2.2.2.2 from rfl] at c1 ⊢
    rw [c1]
    dsimp only
    rw [jnE]
    by_cases hf1 : isF k = 1
    · rw [if_neg (show ¬ nI (isF k) = nI w0.2.2.2.2.2 by rw [hf1]; decide), if_pos hf1]
      have hsb : (fW k id c o).2.2.2.2.2 < 2 ^ 31 := by
        generalize fW k id c o = W at hW
        obtain ⟨r, s, g, la, ru, sb⟩ := W
        have := hW.2.2.2.2.2.2.2.2.1
        show sb < _
        omega
      rw [m_count hsb, bdS]
      have hTe : fT k id c o = tx (fW k id c o).2.2.2.1 (bt (cto (fW k id c o).2.2.2.2.2) 4 ++ bt (fS k id c o) (fWd k c)) := by unfold fT; rw [if_pos hf1]; rfl
      have hSe : (fWd k c = 21 ∧ fS k id c o = crC ((fW k id c o).1 ++ bt (cto (fW k id c o).2.2.2.2.2) 4)) ∨ (fWd k c = 17 ∧ fS k id c o = crB ((fW k id c o).1 ++ bt (cto (fW k id c o).2.2.2.2.2) 4)) := by
        unfold fS fWd
        by_cases h16 : 16 < octs k c
        · rw [if_pos h16, if_pos h16]; exact Or.inl ⟨rfl, rfl⟩
        · rw [if_neg h16, if_neg h16]; exact Or.inr ⟨rfl, rfl⟩
      have hfl := fW_len k id c o
      have hWp : 0 < (fW k id c o).1.length ∧ Bt (fW k id c o).1 ∧ (fW k id c o).1.getD ((fW k id c o).1.length - 1) 0 = (fW k id c o).2.2.2.1 ∧ (fW k id c o).2.2.2.1 < 2 ∧ (fW k id c o).2.1.length = (fW k id c o).1.length := by
        generalize fW k id c o = W at hW
        obtain ⟨r, s, g, la, ru, sb⟩ := W
        obtain ⟨o1, o2, o3, o4, o6, o7, o8, o9, o10, o11, o12, o13, o14, o15⟩ := hW
        have h0 := o15 (by omega)
        refine ⟨by show 0 < r.length; omega, o3, ?_, o7, o1⟩
        have := o11 0 h0
        exact this
      obtain ⟨v4, m4, d1, d2, d3, d4, d5⟩ := m_writeTail hWp.1 hfl hWp.2.1 hWp.2.2.1 hWp.2.2.2.1 hWp.2.2.2.2 (cto_lt _) hSe c2
      rw [← hTe] at d2
      rw [d1, bdS]
      dsimp only
      exact fin v4 m4 _ d2 (by rw [d3]; exact c3 (by omega)) (sv_t h2 (sv_t c4 d4)) (sm_t h3 (sm_t c5 d5))
    · rw [if_pos (show nI (isF k) = nI w0.2.2.2.2.2 by rw [show isF k = 0 by omega]; rfl)]
      have hTe : fT k id c o = [] := by unfold fT; rw [if_neg hf1]
      exact fin v3 m3 (fW k id c o).1 (by rw [hTe]; show MI v3 m3 _ (_ ++ []) (_ ++ []) _; rw [List.append_nil, List.append_nil]; exact c2) (c3 (by omega)) (sv_t h2 c4) (sm_t h3 c5)
  by_cases hf1 : isF k = 1
  · rw [if_neg (show ¬ nI (isF k) = nI 0 by rw [hf1]; decide)]
    have hq : fQ k id c o = plL k id c o := by unfold fQ; rw [if_pos hf1]
    refine mid (upd v1 41 (nI 0)) m1 ?_ (sv_u svA 41 _ (by omega)) smA
    rw [hq]
    exact ⟨by rw [up_n _ _ (by decide)]; exact b2.1, b2.2.1, by rw [up_n _ _ (by decide)]; exact b2.2.2.1, arr_nil _, arr_nil _, up_s _ _ _, arr_nil _⟩
  · rw [if_pos (show nI (isF k) = nI 0 by rw [show isF k = 0 by omega])]
    have hq : fQ k id c o = plL k id c o ++ bt (crA (plL k id c o)) 15 := by unfold fQ; rw [if_neg hf1]
    obtain ⟨v2, m2, d1, d2, d3, d4⟩ := m_bits (v := upd v1 41 (nI 0)) (m := m1) (P := plL k id c o) (x := crA (plL k id c o)) (n := 15) (by omega) (by decide) (by omega) ⟨by rw [up_n _ _ (by decide)]; exact b2.1, b2.2.1⟩
    rw [show (15 : Int32) = nI 15 from rfl, d1, bdS]
    dsimp only
    refine mid v2 m2 ?_ (sv_t (sv_u svA 41 _ (by omega)) (o34_sv d3)) (sm_t smA (o26_sm d4))
    rw [hq]
    exact ⟨d2.1, d2.2, by rw [d3 37 (by decide), up_n _ _ (by decide)]; exact b2.2.2.1, arr_nil _, arr_nil _, by rw [d3 41 (by decide), up_s]; rfl, arr_nil _⟩
