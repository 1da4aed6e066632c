/-- the class's state behind a node's seeing -/
def qR (s : CS) (n : Nat) (r1 : Option Nat) : SeeR → CS
  | (r2, nf, h, f, o, a, b, c, tf, tt, tk, _) => qNd s n r1 r2 nf h f o a b c tf tt tk
def evR : SeeR → Int32
  | (_, _, _, _, _, _, _, _, _, _, _, ev) => ev
theorem up_lt {g : Nat → Int32} {T k : Nat} {x : Int32} (h : k < T) : upd g T x k = g k := up_n _ _ (by omega)
set_option maxHeartbeats 4000000 in
theorem see_step {s : CS} {v : Nat → Int32} {m : Nat → Nat → Int32} {D : FD} {F N t T E i x : Nat} (h : MidS s v m D F N t T E i) (hi : i < N) (ht : t < 20000) (hx : x < 2) :
    ∃ R v' m' s' D' T' E', f_X2_see (s.2.2 i).1 (s.2.2 i).2 (s.1 3 i) (s.2.1 4 i) (s.1 4 i) (s.1 5 i) (s.1 7 i) (s.1 8 i) (s.1 9 i) (s.1 10 i) (s.1 11 i) (s.1 12 i) (s.1 13) (s.1 15) (nI x) (nI t) = some ((s.2.2 i).1, R) ∧ f_X7_keep (qR s i (s.2.2 i).1 R) (nI i) (evR R) = some s' ∧ f_X8_sees v m (nI i) (nI x) = some (v', m') ∧ s'.1 17 1 = s.1 17 1 ∧ v' 0 = v 0 ∧ MidS s' v' m' D' F N t T' E' (i + 1) := by
  obtain ⟨bd1, bd2, bd3⟩ := mid_rk h ht
  obtain ⟨hG, hL, h0, h1⟩ := id h
  have hN := hG.1.1
  have hi32 : i < 32 := by omega
  have hFF := hG.2.1
  have hDn := hG.2.2.1
  have hEr := hG.2.2.2.1
  have hTk := hG.2.2.2.2.2.2.2
  obtain ⟨oh, g1, g2, g3, g4, g5⟩ := h1 i (Nat.le_refl _) hi
  have hdn : dcn D F < 200 ∨ ∀ f, f < F → fDn D f ≠ 0 := by
    by_cases hc : ∃ f, f < F ∧ fDn D f = 0
    · obtain ⟨f, f1, f2⟩ := hc
      have := dcn_lt f2 F f1
      have := hFF.1
      exact Or.inl (by omega)
    · exact Or.inr (fun f hf e => hc ⟨f, hf, e⟩)
  obtain ⟨R, v', m', w1, w2, w3, w4⟩ := nd_see (s := s) (T := T) (E := E) (tf := s.1 10 i) (tt := s.1 11 i) (tk := s.1 12 i) hi32 hFF.1 ht (fun f hf => (hFF.2.2.2 f hf).1) hFF.2.2.1 (fun f hf => (hFF.2.2.2 f hf).2.2.1) (fun f hf => (hFF.2.2.2 f hf).2.2.2) (hL i hi32) g5 (by omega) hEr.2.1 (by omega) hTk.1 hdn hDn.2.1 hG.1.2.2.2.2.2 g1 g2 hx
  refine ⟨R, v', m', ?_⟩
  obtain ⟨r2, nf, hh, f, o, a, b, c, tf, tt, tk, ev⟩ := R
  have w3 : LG o a b c := w3
  have hsG : sG s (qNd s i (s.2.2 i).1 r2 nf hh f o a b c tf tt tk) := qN_G hi32
  have hLq : gLg (qNd s i (s.2.2 i).1 r2 nf hh f o a b c tf tt tk) := gLg_q hL w3
  have hsN : ∀ n, n ≠ i → sNd n s (qNd s i (s.2.2 i).1 r2 nf hh f o a b c tf tt tk) := fun n hn => qN_N hn
  rcases w4 with hno | her | hdo | hta
  · -- nothing told
    obtain ⟨n1, n2, n3, n4⟩ := hno
    obtain ⟨rfl, rfl, rfl, rfl⟩ : tf = s.1 10 i ∧ tt = s.1 11 i ∧ tk = s.1 12 i ∧ ev = -1 := by
      have n1 : (tf, tt, tk, ev) = (s.1 10 i, s.1 11 i, s.1 12 i, -1) := n1
      injection n1 with a1 a2
      injection a2 with a2 a3
      injection a3 with a3 a4
      exact ⟨a1, a2, a3, a4⟩
    refine ⟨_, D, T, E, w1, keep_n, w2, hsG.1 17 1 (by omega), n2 0 (by decide) (by decide) (by decide) (by decide), Gl_c hG hsG (sv_vG n2) (nl_mG n3), hLq, ?_, ?_⟩
    · intro n hn hnN
      by_cases hni : n = i
      · subst hni
        have e17 : m' 17 = m 17 := n3.1 17 (fun h => h) (by omega) (by omega)
        have e24 : m' 24 = m 24 := n3.1 24 (fun h => h) (by omega) (by omega)
        refine gNo_q (oh := oh) (by rw [e17]; exact g1) g2 g3 (TKr_c g4 (fun k _ => ?_) (fun y _ => by rw [n3.1 22 (fun h => h) (by omega) (by omega)]) (Or.inl rfl)) ?_
        · rw [e17, n3.1 18 (fun h => h) (by omega) (by omega), n3.1 19 (fun h => h) (by omega) (by omega), n3.1 20 (fun h => h) (by omega) (by omega), n3.1 21 (fun h => h) (by omega) (by omega)]
          exact ⟨rfl, rfl, rfl, rfl, rfl⟩
        · rw [e17, e24]; exact n4
      · exact gNo_nl (h0 n (by omega) hnN) (hsN n hni) n3 hni
    · intro n hn hnN
      exact gNo_nl (h1 n (by omega) hnN) (hsN n (by omega)) n3 (by omega)
  · -- an error
    obtain ⟨er, r1', r2', r3, r4, r5, r6, r7, r8, r9⟩ := her
    obtain ⟨rfl, rfl, rfl, rfl⟩ : tf = s.1 10 i ∧ tt = s.1 11 i ∧ tk = s.1 12 i ∧ ev = nI er := by
      have r2' : (tf, tt, tk, ev) = (s.1 10 i, s.1 11 i, s.1 12 i, nI er) := r2'
      injection r2' with a1 a2
      injection a2 with a2 a3
      injection a3 with a3 a4
      exact ⟨a1, a2, a3, a4⟩
    have k17 : ∀ k, 16 ≤ k → k ≤ 22 → m' k = m k := fun k p1 p2 => r5.1 k (by unfold sE3; omega) (by omega) (by omega)
    have rki : rk (m' 24) i (E + 1) = rk (m 24) i E + 1 := by rw [rk_s, r7, up_s, if_pos rfl, rk_eq (g := m 24) E (fun k hk => up_lt hk)]
    have rkn : ∀ n, n < 32 → n ≠ i → rk (m' 24) n (E + 1) = rk (m 24) n E := fun n hn hne => by rw [rk_s, r7, up_s, if_neg (ne_l _ (fun e => hne e.symm) (by omega) (by omega)), rk_eq (g := m 24) E (fun k hk => up_lt hk)]; rfl
    have hNSn : NSt 0 D F i (t + 1) (rk (m' 17) i T) oh (rk (m' 24) i (E + 1)) (s.2.2 i).1 r2 nf hh f o a b c (m' 9 i) (m' 10 i) (m' 11 i) (m' 14 i) (m' 12 i) (m' 13 i) (sSeg m' i) := by rw [rki, k17 17 (by omega) (by omega)]; exact r9
    have hE8 : E < 80000 := by
      have := rk_bd (g := m' 24) (T := E + 1) (B := 2500) (fun k hk => by
        by_cases hkE : k = E
        · exact ⟨i, hi32, by rw [r7, hkE, up_s]⟩
        · obtain ⟨kd, nd, tm, x1, x2, x3, x4, x5, _⟩ := hEr.2.2 k (by omega)
          exact ⟨nd, by omega, by rw [r7, up_n _ _ hkE]; exact x5⟩) (fun n hn => by
        by_cases hni : n = i
        · subst hni; have := NSt_bd hNSn; omega
        · rw [rkn n hn hni]; exact (bd1 n hn).1)
      omega
    have q0 : (qNd s i (s.2.2 i).1 r2 nf hh f o a b c (s.1 10 i) (s.1 11 i) (s.1 12 i)).1 0 0 = s.1 0 0 := hsG.1 0 0 (by omega)
    have hk := keep_e (s := qNd s i (s.2.2 i).1 r2 nf hh f o a b c (s.1 10 i) (s.1 11 i) (s.1 12 i)) (n := i) (e := er) (t := t) (E := E) hi32 r1' ht hE8 (by rw [q0]; exact hEr.1) (by rw [q0]; exact hG.1.2.2.2.2.1)
    refine ⟨_, D, T, E + 1, w1, hk, w2, by rw [sZ_n (by omega), sZ_n (by omega)]; exact hsG.1 17 1 (by omega), r3 0 (by decide) (by decide) (by decide) (by decide) (by decide), ?_, ?_, ?_, ?_⟩
    · -- all but the errors
      have q17 : ∀ j, (qNd s i (s.2.2 i).1 r2 nf hh f o a b c (s.1 10 i) (s.1 11 i) (s.1 12 i)).1 17 j = s.1 17 j := fun j => hsG.1 17 j (by omega)
      generalize hq : qNd s i (s.2.2 i).1 r2 nf hh f o a b c (s.1 10 i) (s.1 11 i) (s.1 12 i) = q at *
      have z0 : (sZ (sZ q 0 0 (upd (q.1 0 0) 11 (nI (E + 1)))) 17 4 (upd (q.1 17 4) E (nI (t * 256 + i * 8 + er)))).1 0 0 = upd (s.1 0 0) 11 (nI (E + 1)) := by rw [sZ_n (by omega), sZ_s, q0]
      have z174 : (sZ (sZ q 0 0 (upd (q.1 0 0) 11 (nI (E + 1)))) 17 4 (upd (q.1 17 4) E (nI (t * 256 + i * 8 + er)))).1 17 4 = upd (s.1 17 4) E (nI (t * 256 + i * 8 + er)) := by rw [sZ_s, q17]
      have z17 : ∀ j, j ≠ 4 → (sZ (sZ q 0 0 (upd (q.1 0 0) 11 (nI (E + 1)))) 17 4 (upd (q.1 17 4) E (nI (t * 256 + i * 8 + er)))).1 17 j = s.1 17 j := fun j hj => by rw [sZ_n (by omega), sZ_n (by omega), q17]
      have zo : ∀ a j, a ≠ 0 → a ≠ 17 → (sZ (sZ q 0 0 (upd (q.1 0 0) 11 (nI (E + 1)))) 17 4 (upd (q.1 17 4) E (nI (t * 256 + i * 8 + er)))).1 a j = q.1 a j := fun a j h1 h2 => by rw [sZ_n (by omega), sZ_n (by omega)]
      have z2 : (sZ (sZ q 0 0 (upd (q.1 0 0) 11 (nI (E + 1)))) 17 4 (upd (q.1 17 4) E (nI (t * 256 + i * 8 + er)))).2.1 = q.2.1 := rfl
      generalize sZ (sZ q 0 0 (upd (q.1 0 0) 11 (nI (E + 1)))) 17 4 (upd (q.1 17 4) E (nI (t * 256 + i * 8 + er))) = z at z0 z174 z17 zo z2
      obtain ⟨a1, a2, a3, a4, a5, a6, a7, a8⟩ := hG
      have hv : ∀ k, k = 1 ∨ k = 2 ∨ k = 4 ∨ k = 11 ∨ k = 22 → v' k = v k := fun k hk => r3 k (by omega) (by omega) (by omega) (by omega) (by omega)
      have hm : ∀ k, k < 9 ∨ (16 ≤ k ∧ k ≤ 22) → m' k = m k := fun k hk => r5.1 k (by unfold sE3; omega) (by omega) (by omega)
      refine ⟨?_, ?_, ?_, ?_, ?_, ?_, ?_, ?_⟩
      · unfold gA
        rw [z0, up_n _ _ (by decide), up_n _ _ (by decide), hv 1 (by omega), hv 2 (by omega)]
        exact a1
      · unfold gF
        rw [z0, up_n _ _ (by decide), hv 4 (by omega)]
        refine ⟨a2.1, a2.2.1, a2.2.2.1, fun f9 hf9 => ?_⟩
        obtain ⟨b1, b2, b3, b4⟩ := a2.2.2.2 f9 hf9
        refine ⟨b1, b2, ⟨frM_o b3.1 (fun j hj => hm j (by omega)), by rw [hm 1 (by omega)]; exact b3.2.1, by rw [hm 6 (by omega)]; exact b3.2.2⟩, ?_⟩
        have := FCo_sG b4 hsG
        unfold FCo at this ⊢
        rw [z2, zo 13 f9 (by decide) (by decide), zo 14 f9 (by decide) (by decide), zo 15 f9 (by decide) (by decide)]
        exact this
      · unfold gDn
        rw [z0, up_n _ _ (by decide), hv 11 (by omega), z17 2 (by decide), z17 3 (by decide), hm 7 (by omega), hm 8 (by omega)]
        exact a3
      · unfold gEr
        rw [z0, up_s, r4, z174, r6, r7, r8]
        refine ⟨rfl, rfl, fun k hk => ?_⟩
        by_cases hkE : k = E
        · subst hkE
          exact ⟨er, i, t, by omega, hi, ht, up_s _ _ _, up_s _ _ _, up_s _ _ _, up_s _ _ _⟩
        · obtain ⟨kd, nd, tm, x1, x2, x3, x4, x5, x6, x7⟩ := a4.2.2 k (by omega)
          exact ⟨kd, nd, tm, x1, x2, x3, by rw [up_n _ _ hkE]; exact x4, by rw [up_n _ _ hkE]; exact x5, by rw [up_n _ _ hkE]; exact x6, by rw [up_n _ _ hkE]; exact x7⟩
      · unfold gBu
        rw [z17 0 (by decide), hm 0 (by omega)]
        exact a5
      · unfold gFl
        rw [z0, up_n _ _ (by decide), z17 1 (by decide), hm 16 (by omega)]
        exact a6
      · unfold gWr
        rw [zo 7 32 (by decide) (by decide), zo 8 32 (by decide) (by decide), zo 9 32 (by decide) (by decide), hsG.2.1 7 (by omega), hsG.2.1 8 (by omega), hsG.2.1 9 (by omega)]
        exact a7
      · unfold gTk
        rw [hv 22 (by omega), hm 17 (by omega)]
        exact a8
    · intro n hn
      rw [sZ_n (by omega), sZ_n (by omega), sZ_n (by omega), sZ_n (by omega), sZ_n (by omega), sZ_n (by omega), sZ_n (by omega), sZ_n (by omega)]
      exact hLq n hn
    · intro n hn hnN
      have zN : sNd n (qNd s i (s.2.2 i).1 r2 nf hh f o a b c (s.1 10 i) (s.1 11 i) (s.1 12 i)) (sZ (sZ (qNd s i (s.2.2 i).1 r2 nf hh f o a b c (s.1 10 i) (s.1 11 i) (s.1 12 i)) 0 0 (upd ((qNd s i (s.2.2 i).1 r2 nf hh f o a b c (s.1 10 i) (s.1 11 i) (s.1 12 i)).1 0 0) 11 (nI (E + 1)))) 17 4 (upd ((qNd s i (s.2.2 i).1 r2 nf hh f o a b c (s.1 10 i) (s.1 11 i) (s.1 12 i)).1 17 4) E (nI (t * 256 + i * 8 + er)))) := ⟨fun a h1 h2 => by rw [sZ_n (by omega), sZ_n (by omega)], rfl, rfl⟩
      by_cases hni : n = i
      · subst hni
        have := gNo_q (s := s) (m := m') (E := E + 1) (oh := oh) (by rw [k17 17 (by omega) (by omega)]; exact g1) g2 g3 (TKr_c (m' := m') g4 (fun k _ => by rw [k17 17 (by omega) (by omega), k17 18 (by omega) (by omega), k17 19 (by omega) (by omega), k17 20 (by omega) (by omega), k17 21 (by omega) (by omega)]; exact ⟨rfl, rfl, rfl, rfl, rfl⟩) (fun y _ => by rw [k17 22 (by omega) (by omega)]) (Or.inl rfl)) hNSn
        exact gNo_sm this zN (sm_r m')
      · obtain ⟨o1, o2⟩ := nlx_own r5 hni (by unfold sE3; omega) (by unfold sE3; omega)
        exact gNo_c (h0 n (by omega) hnN) (sNd_t (hsN n hni) zN) o1 o2 (fun k _ => by rw [k17 17 (by omega) (by omega), k17 18 (by omega) (by omega), k17 19 (by omega) (by omega), k17 20 (by omega) (by omega), k17 21 (by omega) (by omega)]; exact ⟨rfl, rfl, rfl, rfl, rfl⟩) (fun y _ => by rw [k17 22 (by omega) (by omega)]) (Or.inl rfl) (fun k hk => by rw [r7]; exact up_lt hk) (Or.inr ⟨rfl, by rw [r7, up_s]; exact ne_l _ (fun e => hni e.symm) (by omega) (by omega)⟩) rfl rfl (fun j _ hj => ⟨hj, rfl, rfl⟩)
    · intro n hn hnN
      have zN : sNd n (qNd s i (s.2.2 i).1 r2 nf hh f o a b c (s.1 10 i) (s.1 11 i) (s.1 12 i)) (sZ (sZ (qNd s i (s.2.2 i).1 r2 nf hh f o a b c (s.1 10 i) (s.1 11 i) (s.1 12 i)) 0 0 (upd ((qNd s i (s.2.2 i).1 r2 nf hh f o a b c (s.1 10 i) (s.1 11 i) (s.1 12 i)).1 0 0) 11 (nI (E + 1)))) 17 4 (upd ((qNd s i (s.2.2 i).1 r2 nf hh f o a b c (s.1 10 i) (s.1 11 i) (s.1 12 i)).1 17 4) E (nI (t * 256 + i * 8 + er)))) := ⟨fun a h1 h2 => by rw [sZ_n (by omega), sZ_n (by omega)], rfl, rfl⟩
      have hni : n ≠ i := by omega
      obtain ⟨o1, o2⟩ := nlx_own r5 hni (by unfold sE3; omega) (by unfold sE3; omega)
      exact gNo_c (h1 n (by omega) hnN) (sNd_t (hsN n hni) zN) o1 o2 (fun k _ => by rw [k17 17 (by omega) (by omega), k17 18 (by omega) (by omega), k17 19 (by omega) (by omega), k17 20 (by omega) (by omega), k17 21 (by omega) (by omega)]; exact ⟨rfl, rfl, rfl, rfl, rfl⟩) (fun y _ => by rw [k17 22 (by omega) (by omega)]) (Or.inl rfl) (fun k hk => by rw [r7]; exact up_lt hk) (Or.inr ⟨rfl, by rw [r7, up_s]; exact ne_l _ (fun e => hni e.symm) (by omega) (by omega)⟩) rfl rfl (fun j _ hj => ⟨hj, rfl, rfl⟩)
  · -- a frame is done
    obtain ⟨j, d1, d2, d3, d4, d5, d6, d7, d8, d9, d10, d11, d12, d13⟩ := hdo
    have d4 : r2 = some j := d4
    subst d4
    obtain ⟨rfl, rfl, rfl, rfl⟩ : tf = s.1 10 i ∧ tt = s.1 11 i ∧ tk = s.1 12 i ∧ ev = nI 6 := by
      have d5 : (tf, tt, tk, ev) = (s.1 10 i, s.1 11 i, s.1 12 i, nI 6) := d5
      injection d5 with a1 a2
      injection a2 with a2 a3
      injection a3 with a3 a4
      exact ⟨a1, a2, a3, a4⟩
    have d12 : ∀ k, k = 4 ∨ k = 5 ∨ k = 6 → nf k = s.1 3 i k := d12
    have d13 : cPA (t + 1) (rk (m 17) i T) oh (rk (m 24) i E) nf (m' 9 i) (m' 10 i) := d13
    have hdl := dcn_lt d3 F d1
    have hF200 := hFF.1
    have hv : ∀ k, k = 1 ∨ k = 2 ∨ k = 4 ∨ k = 22 ∨ k = 29 → v' k = v k := fun k hk => d6 k (by omega) (by omega) (by omega) (by omega) (by omega)
    have hm : ∀ k, k < 6 ∨ (16 ≤ k ∧ k ≤ 25) → m' k = m k := fun k hk => d8.1 k (by unfold sD3; omega) (by omega) (by omega)
    have q0 : (qNd s i (s.2.2 i).1 (some j) nf hh f o a b c (s.1 10 i) (s.1 11 i) (s.1 12 i)).1 0 0 = s.1 0 0 := hsG.1 0 0 (by omega)
    have q17 : ∀ y, (qNd s i (s.2.2 i).1 (some j) nf hh f o a b c (s.1 10 i) (s.1 11 i) (s.1 12 i)).1 17 y = s.1 17 y := fun y => hsG.1 17 y (by omega)
    have q3 : (qNd s i (s.2.2 i).1 (some j) nf hh f o a b c (s.1 10 i) (s.1 11 i) (s.1 12 i)).1 3 i = nf := qNd_g3
    have qr : ((qNd s i (s.2.2 i).1 (some j) nf hh f o a b c (s.1 10 i) (s.1 11 i) (s.1 12 i)).2.2 i).2 = some j := by rw [qNd_r]; rfl
    have qC : ∀ f9, f9 < F → FCo (qNd s i (s.2.2 i).1 (some j) nf hh f o a b c (s.1 10 i) (s.1 11 i) (s.1 12 i)) D f9 := fun f9 hf9 => FCo_sG (hFF.2.2.2 f9 hf9).2.2.2 hsG
    have qi : ∀ y, (3 < y ∧ y ≤ 12) → y ≠ 6 → (qNd s i (s.2.2 i).1 (some j) nf hh f o a b c (s.1 10 i) (s.1 11 i) (s.1 12 i)).1 y i = (match y with | 4 => f | 5 => o | 7 => a | 8 => b | 9 => c | 10 => s.1 10 i | 11 => s.1 11 i | _ => s.1 12 i) := by
      intro y h1 h2
      rcases (show y = 4 ∨ y = 5 ∨ y = 7 ∨ y = 8 ∨ y = 9 ∨ y = 10 ∨ y = 11 ∨ y = 12 by omega) with rfl | rfl | rfl | rfl | rfl | rfl | rfl | rfl
      · exact qNd_g4
      · exact qNd_g5
      · exact qNd_g7
      · exact qNd_g8
      · exact qNd_g9
      · exact qNd_g10
      · exact qNd_g11
      · exact qNd_g12
    have qh : (qNd s i (s.2.2 i).1 (some j) nf hh f o a b c (s.1 10 i) (s.1 11 i) (s.1 12 i)).2.1 4 i = hh := qNd_h
    have hk := keep_d (s := qNd s i (s.2.2 i).1 (some j) nf hh f o a b c (s.1 10 i) (s.1 11 i) (s.1 12 i)) (D := D) (F := F) (n := i) (j := j) (dn := dcn D F) (t := t) hi32 hF200 (by rw [q0]; exact hFF.2.1) (fun f9 hf9 => (hFF.2.2.2 f9 hf9).1) qC d1 d2 d3 qr (by rw [q0]; exact hDn.1) (by omega) (by rw [q0]; exact hG.1.2.2.2.2.1) (by rw [q3, d12 6 (by omega)]; exact g5.1.2.2.1)
    refine ⟨_, dDo D j, T, E, w1, hk, w2, by rw [sFin_1 (by omega)]; exact hsG.1 17 1 (by omega), d6 0 (by decide) (by decide) (by decide) (by decide) (by decide), ?_⟩
    have hsN' : ∀ n, n ≠ i → sNd n s (sFin (qNd s i (s.2.2 i).1 (some j) nf hh f o a b c (s.1 10 i) (s.1 11 i) (s.1 12 i)) D F i j (dcn D F) t) := by
      intro n hn
      refine sNd_t (hsN n hn) ⟨fun y h1 h2 => sFin_1 (by omega), rfl, ?_⟩
      unfold sFin
      rw [sR_n hn]
      rfl
    have hr2 : (sFin (qNd s i (s.2.2 i).1 (some j) nf hh f o a b c (s.1 10 i) (s.1 11 i) (s.1 12 i)) D F i j (dcn D F) t).2.2 i = (fs (dDo D j) i F, some j) := by unfold sFin; exact sR_s
    have qsG := hsG
    generalize qNd s i (s.2.2 i).1 (some j) nf hh f o a b c (s.1 10 i) (s.1 11 i) (s.1 12 i) = q at *
    refine ⟨?_, ?_, ?_, ?_⟩
    · obtain ⟨a1, a2, a3, a4, a5, a6, a7, a8⟩ := hG
      refine ⟨?_, ?_, ?_, ?_, ?_, ?_, ?_, ?_⟩
      · unfold gA
        rw [sFin_0, up_n _ _ (by decide), up_n _ _ (by decide), q0, hv 1 (by omega), hv 2 (by omega)]
        exact a1
      · unfold gF
        rw [sFin_0, up_n _ _ (by decide), q0, hv 4 (by omega)]
        refine ⟨a2.1, a2.2.1, a2.2.2.1, fun f9 hf9 => ?_⟩
        obtain ⟨b1, b2, b3, b4⟩ := a2.2.2.2 f9 hf9
        obtain ⟨c1, c2, c3, c4, c5, c6⟩ := dDo_f D j f9
        refine ⟨FVo_d b1, by rw [c1]; exact b2, ⟨?_, ?_, ?_⟩, ?_⟩
        · rw [c2, c3, c4, c5]; exact frM_o b3.1 (fun y hy => hm y (by omega))
        · rw [c1, hm 1 (by omega)]; exact b3.2.1
        · rw [d9]
          by_cases hfj : f9 = j
          · subst hfj; rw [up_s, (dDo_s D f9).2.2.2.2.1]
          · rw [up_n _ _ hfj, c6 hfj]; exact b3.2.2
        · have hq := qC f9 hf9
          unfold FCo at hq ⊢
          rw [sFin_21, sFin_1 (a := 14) (by omega), sFin_1 (a := 15) (by omega)]
          by_cases hfj : f9 = j
          · subst hfj
            rw [sFin_13]
            exact FCv_d hq (fun k hk => up_n _ _ hk) (by rw [up_s, (dDo_s D f9).2.2.2.2.1]; rfl)
          · rw [sFin_1 (a := 13) (by omega)]
            exact FCv_d hq (fun _ _ => rfl) (by rw [c6 hfj]; exact hq.2.2.2.2.1)
      · unfold gDn
        rw [sFin_0, up_s, d7, (dDo_c d3 F).1 d1, sFin_172, sFin_173, d10, d11, q17, q17]
        refine ⟨rfl, rfl, fun k hk => ?_⟩
        by_cases hkd : k = dcn D F
        · subst hkd
          rw [up_s, up_s, up_s, up_s]
          exact ⟨rfl, rfl⟩
        · rw [up_n _ _ hkd, up_n _ _ hkd, up_n _ _ hkd, up_n _ _ hkd]
          exact a3.2.2 k (by omega)
      · unfold gEr
        rw [sFin_0, up_n _ _ (by decide), q0, hv 29 (by omega), sFin_1 (a := 17) (i := 4) (by omega), q17, hm 23 (by omega), hm 24 (by omega), hm 25 (by omega)]
        exact a4
      · unfold gBu
        rw [sFin_1 (a := 17) (i := 0) (by omega), q17, hm 0 (by omega)]
        exact a5
      · unfold gFl
        rw [sFin_0, up_n _ _ (by decide), q0, sFin_1 (a := 17) (i := 1) (by omega), q17, hm 16 (by omega)]
        exact a6
      · unfold gWr
        rw [sFin_1 (by omega), sFin_1 (by omega), sFin_1 (by omega), qsG.2.1 7 (by omega), qsG.2.1 8 (by omega), qsG.2.1 9 (by omega)]
        exact a7
      · unfold gTk
        rw [hv 22 (by omega), hm 17 (by omega)]
        exact a8
    · intro n hn
      rw [sFin_1 (by omega), sFin_1 (by omega), sFin_1 (by omega), sFin_1 (by omega)]
      exact hLq n hn
    · intro n hn hnN
      by_cases hni : n = i
      · subst hni
        have hw := (dDo_w1 d2 d3 F).1 d1
        unfold gNo
        rw [hr2, sFin_3, sFin_21, qh, q3, sFin_1 (a := 4) (by omega), sFin_1 (a := 5) (by omega), sFin_1 (a := 7) (by omega), sFin_1 (a := 8) (by omega), sFin_1 (a := 9) (by omega), sFin_1 (a := 10) (by omega), sFin_1 (a := 11) (by omega), sFin_1 (a := 12) (by omega), qi 4 (by omega) (by omega), qi 5 (by omega) (by omega), qi 7 (by omega) (by omega), qi 8 (by omega) (by omega), qi 9 (by omega) (by omega), qi 10 (by omega) (by omega), qi 11 (by omega) (by omega), qi 12 (by omega) (by omega), hm 17 (by omega), hm 24 (by omega)]
        refine ⟨oh, g1, g2, g3, TKr_c g4 (fun k _ => by rw [hm 17 (by omega), hm 18 (by omega), hm 19 (by omega), hm 20 (by omega), hm 21 (by omega)]; exact ⟨rfl, rfl, rfl, rfl, rfl⟩) (fun y _ => by rw [hm 22 (by omega)]) (Or.inl rfl), ⟨?_, ?_, ?_, rfl⟩, ?_⟩
        · rw [up_n _ _ (by decide), d12 4 (by omega), d8.1 12 (by unfold sD3; omega) (by omega) (by omega)]; exact g5.1.1
        · rw [up_n _ _ (by decide), d12 5 (by omega), d8.1 13 (by unfold sD3; omega) (by omega) (by omega)]; exact g5.1.2.1
        · rw [up_s]; congr 1; omega
        · obtain ⟨q9, l1, l2, l3, l4, l5⟩ := d13
          exact Or.inr (Or.inr (Or.inr (Or.inr (Or.inr (Or.inr (Or.inr ⟨q9, by rw [up_n _ _ (by decide)]; exact l1, l2, l3, by rw [up_n _ _ (by decide)]; exact l4, l5⟩))))))
      · obtain ⟨o1, o2⟩ := nlx_own d8 hni (by unfold sD3; omega) (by unfold sD3; omega)
        obtain ⟨u1, u2⟩ := dDo_wt (D := D) (j := j) (n := n) (by rw [d2]; exact fun e => hni e.symm) F
        exact gNo_c (h0 n (by omega) hnN) (hsN' n hni) o1 o2 (fun k _ => by rw [hm 17 (by omega), hm 18 (by omega), hm 19 (by omega), hm 20 (by omega), hm 21 (by omega)]; exact ⟨rfl, rfl, rfl, rfl, rfl⟩) (fun y _ => by rw [hm 22 (by omega)]) (Or.inl rfl) (fun k _ => by rw [hm 24 (by omega)]) (Or.inl rfl) u1 u2 (fun y _ hy => ⟨by rw [(dDo_f D j y).1]; exact hy, (dDo_f D j y).2.2.2.2.2 (fun e => hni (by rw [← hy, e, d2])), (dDo_P D j y).2⟩)
    · intro n hn hnN
      have hni : n ≠ i := by omega
      obtain ⟨o1, o2⟩ := nlx_own d8 hni (by unfold sD3; omega) (by unfold sD3; omega)
      obtain ⟨u1, u2⟩ := dDo_wt (D := D) (j := j) (n := n) (by rw [d2]; exact fun e => hni e.symm) F
      exact gNo_c (h1 n (by omega) hnN) (hsN' n hni) o1 o2 (fun k _ => by rw [hm 17 (by omega), hm 18 (by omega), hm 19 (by omega), hm 20 (by omega), hm 21 (by omega)]; exact ⟨rfl, rfl, rfl, rfl, rfl⟩) (fun y _ => by rw [hm 22 (by omega)]) (Or.inl rfl) (fun k _ => by rw [hm 24 (by omega)]) (Or.inl rfl) u1 u2 (fun y _ hy => ⟨by rw [(dDo_f D j y).1]; exact hy, (dDo_f D j y).2.2.2.2.2 (fun e => hni (by rw [← hy, e, d2])), (dDo_P D j y).2⟩)
  · -- a frame is taken
    obtain ⟨P, tf', tt', tk', p1, p2, p3, p4, p5, p6, p7, p8, p9, p10, p11, p12, p13, p14, p15, p16, p17, p18, p19, p20, p21, p22, p23, p24, p25, p26⟩ := hta
    obtain ⟨rfl, rfl, rfl, rfl⟩ : tf = tf' ∧ tt = tt' ∧ tk = tk' ∧ ev = -1 := by
      have p4 : (tf, tt, tk, ev) = (tf', tt', tk', -1) := p4
      injection p4 with a1 a2
      injection a2 with a2 a3
      injection a3 with a3 a4
      exact ⟨a1, a2, a3, a4⟩
    have hv : ∀ k, k = 1 ∨ k = 2 ∨ k = 4 ∨ k = 11 ∨ k = 29 → v' k = v k := fun k hk => p16 k (by omega) (by omega) (by omega) (by omega) (by omega)
    have hm : ∀ k, k < 9 ∨ k = 16 ∨ (23 ≤ k ∧ k ≤ 25) → m' k = m k := fun k hk => p18.1 k (by unfold sT6; omega) (by omega) (by omega)
    have rki : rk (m' 17) i (T + 1) = rk (m 17) i T + 1 := by rw [rk_s, p19, up_s, if_pos rfl, rk_eq (g := m 17) T (fun k hk => up_lt hk)]
    refine ⟨_, D, T + 1, E, w1, keep_n, w2, hsG.1 17 1 (by omega), p16 0 (by decide) (by decide) (by decide) (by decide) (by decide), ?_, hLq, ?_, ?_⟩
    · obtain ⟨a1, a2, a3, a4, a5, a6, a7, a8⟩ := hG
      have e0 := hsG.1 0 0 (by omega)
      have e17 : ∀ j, (qNd s i (s.2.2 i).1 r2 nf hh f o a b c tf tt tk).1 17 j = s.1 17 j := fun j => hsG.1 17 j (by omega)
      show Gl (qNd s i (s.2.2 i).1 r2 nf hh f o a b c tf tt tk) v' m' D F N t (T + 1) E (t + 1)
      refine ⟨?_, ?_, ?_, ?_, ?_, ?_, ?_, ?_⟩
      · unfold gA; rw [e0, hv 1 (by omega), hv 2 (by omega)]; exact a1
      · unfold gF
        rw [e0, hv 4 (by omega)]
        refine ⟨a2.1, a2.2.1, a2.2.2.1, fun f9 hf9 => ?_⟩
        obtain ⟨b1, b2, b3, b4⟩ := a2.2.2.2 f9 hf9
        exact ⟨b1, b2, ⟨frM_o b3.1 (fun j hj => hm j (by omega)), by rw [hm 1 (by omega)]; exact b3.2.1, by rw [hm 6 (by omega)]; exact b3.2.2⟩, FCo_sG b4 hsG⟩
      · unfold gDn; rw [e0, hv 11 (by omega), e17, e17, hm 7 (by omega), hm 8 (by omega)]; exact a3
      · unfold gEr; rw [e0, hv 29 (by omega), e17, hm 23 (by omega), hm 24 (by omega), hm 25 (by omega)]; exact a4
      · unfold gBu; rw [e17, hm 0 (by omega)]; exact a5
      · unfold gFl; rw [e0, e17, hm 16 (by omega)]; exact a6
      · unfold gWr; rw [hsG.2.1 7 (by omega), hsG.2.1 8 (by omega), hsG.2.1 9 (by omega)]; exact a7
      · unfold gTk
        refine ⟨p17, fun k hk => ?_⟩
        rw [p19]
        by_cases hkT : k = T
        · exact ⟨i, hi, by rw [hkT, up_s]⟩
        · rw [up_n _ _ hkT]; exact a8.2 k (by omega)
    · intro n hn hnN
      by_cases hni : n = i
      · subst hni
        refine gNo_q (oh := oh + aOc P) (by rw [rki]; exact p5) p6 p3 ?_ (by rw [rki, hm 24 (by omega)]; exact p26)
        intro k hk h17
        by_cases hkT : k = T
        · subst hkT
          have hr : rk (m' 17) n k = rk (m 17) n k := rk_eq k (fun q hq => by rw [p19]; exact up_lt hq)
          rw [hr, p20, p21, p22, p23, up_s, up_s, up_s, up_s]
          exact ⟨aKind P, aLen P, oh, p1, p2, rfl, rfl, p8, p9, p10, p11, p12, p13, Nat.le_refl _, fun q hq => by rw [p15 q hq, p25 q hq]⟩
        · have hkT' : k < T := by omega
          have h17' : m 17 k = nI n := by rw [p19, up_n _ _ hkT] at h17; exact h17
          have hr : rk (m' 17) n k = rk (m 17) n k := rk_eq k (fun q hq => by rw [p19]; exact up_lt (by omega))
          have hrk1 : rk (m 17) n k + 1 ≤ rk (m 17) n T := by
            have e1 := rk_le (g := m 17) (n := n) (show k + 1 ≤ T by omega)
            rw [rk_s, if_pos h17'] at e1
            exact e1
          obtain ⟨kd, cd, off, x1, x2, x3, x4, x5, x6, x7, x8, x9, x10, x11, x12⟩ := g4 k hkT' h17'
          rw [hr, p20, p21, p22, p23, up_n _ _ hkT, up_n _ _ hkT, up_n _ _ hkT, up_n _ _ hkT, p7 _ (by omega), p7 _ (by omega), p7 _ (by omega), p7 _ (by omega), p7 _ (by omega), p7 _ (by omega)]
          have hoc := octs_le kd cd
          exact ⟨kd, cd, off, x1, x2, x3, x4, x5, x6, x7, x8, x9, x10, by omega, fun q hq => by rw [p14 _ (by omega), p24 _ (by omega)]; exact x12 q hq⟩
      · obtain ⟨o1, o2⟩ := nlx_own p18 hni (by unfold sT6; omega) (by unfold sT6; omega)
        exact gNo_c (h0 n (by omega) hnN) (hsN n hni) o1 o2 (fun k hk => by rw [p19, p20, p21, p22, p23]; exact ⟨up_lt hk, up_lt hk, up_lt hk, up_lt hk, up_lt hk⟩) p24 (Or.inr ⟨rfl, by rw [p19, up_s]; exact ne_l _ (fun e => hni e.symm) (by omega) (by omega)⟩) (fun k _ => by rw [hm 24 (by omega)]) (Or.inl rfl) rfl rfl (fun j _ hj => ⟨hj, rfl, rfl⟩)
    · intro n hn hnN
      have hni : n ≠ i := by omega
      obtain ⟨o1, o2⟩ := nlx_own p18 hni (by unfold sT6; omega) (by unfold sT6; omega)
      exact gNo_c (h1 n (by omega) hnN) (hsN n hni) o1 o2 (fun k hk => by rw [p19, p20, p21, p22, p23]; exact ⟨up_lt hk, up_lt hk, up_lt hk, up_lt hk, up_lt hk⟩) p24 (Or.inr ⟨rfl, by rw [p19, up_s]; exact ne_l _ (fun e => hni e.symm) (by omega) (by omega)⟩) (fun k _ => by rw [hm 24 (by omega)]) (Or.inl rfl) rfl rfl (fun j _ hj => ⟨hj, rfl, rfl⟩)
