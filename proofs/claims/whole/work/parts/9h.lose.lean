/-! a node that loses: what it put so far is heard without an error -/
theorem fl_pre (ar : Nat) (P : List Nat) : Bt P → ∀ i, i < (wr ar P).1.length → (wr ar P).2.2.1.getD i 0 = 1 → ∃ p, p < P.length ∧ p ≤ ar ∧ (wr ar P).1.take i = (ws (wr ar (P.take p))).1 := by
  refine sn_ind (p := fun P => Bt P → ∀ i, i < (wr ar P).1.length → (wr ar P).2.2.1.getD i 0 = 1 → ∃ p, p < P.length ∧ p ≤ ar ∧ (wr ar P).1.take i = (ws (wr ar (P.take p))).1) (fun _ i h => absurd h (Nat.not_lt_zero i)) ?_ P
  intro l b ih hB i hi hf
  have hok := wr_ok ar (Bt_l hB)
  have ih' := ih (Bt_l hB) i
  have hws : ws (wr ar ((l ++ [b]).take l.length)) = ws (wr ar l) := by rw [tk_l (Nat.le_refl _), List.take_length]
  have up : (∃ p, p < l.length ∧ p ≤ ar ∧ (wr ar l).1.take i = (ws (wr ar (l.take p))).1) → ∃ p, p < (l ++ [b]).length ∧ p ≤ ar ∧ (wr ar l).1.take i = (ws (wr ar ((l ++ [b]).take p))).1 := by
    rintro ⟨p, p1, p2, p3⟩
    exact ⟨p, by rw [len_s]; omega, p2, by rw [tk_l (by omega)]; exact p3⟩
  rw [wr_s] at hi hf ⊢
  unfold wp at hi hf ⊢
  generalize hW : wr ar l = W at *
  obtain ⟨r, s, f, la, ru, sb⟩ := W
  obtain ⟨o1, o2, o3⟩ := hok
  by_cases h5 : ru = 5
  · rw [ws_q, if_pos h5, wq_q] at hi hf
    rw [ws_q, if_pos h5, wq_q]
    have hi : i < (r ++ [1 - la] ++ [b]).length := hi
    rw [len_s, len_s] at hi
    have hf : (f ++ [0] ++ [if l.length ≤ ar then 1 else 0]).getD i 0 = 1 := hf
    show ∃ p, _ ∧ _ ∧ (r ++ [1 - la] ++ [b]).take i = _
    rcases (show i < r.length ∨ i = r.length ∨ i = r.length + 1 by omega) with h | h | h
    · rw [gD_l (by rw [len_s]; omega), gD_l (by omega)] at hf
      rw [tk_l (by rw [len_s]; omega), tk_l (by omega)]
      exact up (ih' h hf)
    · rw [gD_l (by rw [len_s]; omega), gD_e (by omega)] at hf
      cases hf
    · rw [gD_e (by rw [len_s]; omega)] at hf
      refine ⟨l.length, by rw [len_s]; omega, ?_, ?_⟩
      · split at hf
        · assumption
        · cases hf
      · rw [hws, ws_q, if_pos h5, h, tk_l (by rw [len_s]; omega), tk_a (by rw [len_s]; omega)]
  · rw [ws_q, if_neg h5, wq_q] at hi hf
    rw [ws_q, if_neg h5, wq_q]
    have hi : i < (r ++ [b]).length := hi
    rw [len_s] at hi
    have hf : (f ++ [if l.length ≤ ar then 1 else 0]).getD i 0 = 1 := hf
    show ∃ p, _ ∧ _ ∧ (r ++ [b]).take i = _
    rcases (show i < r.length ∨ i = r.length by omega) with h | h
    · rw [gD_l (by omega)] at hf
      rw [tk_l (by omega)]
      exact up (ih' h hf)
    · rw [gD_e (by omega)] at hf
      refine ⟨l.length, by rw [len_s]; omega, ?_, ?_⟩
      · split at hf
        · assumption
        · cases hf
      · rw [hws, ws_q, if_neg h5, h, tk_l (by omega), tk_a (by omega)]
theorem fQ_13 (k id c : Nat) (o : Nat → Nat) : (fQ k id c o).getD 13 0 = isL k := by
  have hlv := hlen_le (l := isL k) (f := isF k)
  have hp : (plL k id c o).getD 13 0 = isL k := by unfold plL; rw [gD_l (by rw [hdL_len]; omega), hdL_13]
  unfold fQ
  split
  · exact hp
  · rw [gD_l (by rw [plL_len]; omega)]; exact hp
theorem tk_aAt {k id c : Nat} {o : Nat → Nat} {p : Nat} (hp : 13 < p) (hk : isL k = 1) : aAt ((fQ k id c o).take p) = 33 := by
  unfold aAt aLong
  rw [gD_take hp, fQ_13, hk, if_neg (by decide)]
theorem pre_nE {k id c : Nat} {o : Nat → Nat} {p : Nat} (hp : p ≤ arb k) : ((fQ k id c o).take p).length = p ∧ ¬ aHl ((fQ k id c o).take p) ≤ p ∧ ∀ ru, ¬ aEnd ((fQ k id c o).take p) ru := by
  have hQ := fQ_len (k := k) id c o
  have hA := arb_lt k
  have hl : ((fQ k id c o).take p).length = p := by rw [List.length_take]; omega
  have h1 : ¬ aHl ((fQ k id c o).take p) ≤ p := by
    have h2 := aHl_at ((fQ k id c o).take p)
    have h3 := aAt_le ((fQ k id c o).take p)
    by_cases h13 : p ≤ 13
    · omega
    · have hL : isL k = 1 := by
        unfold arb at hp
        split at hp
        · assumption
        · omega
      rw [tk_aAt (by omega) hL] at h2
      omega
  refine ⟨hl, h1, fun ru he => ?_⟩
  have h4 := he.1
  rw [hl] at h4
  unfold pE at h4
  rw [kn_n (by rw [hl]; exact h1)] at h4
  omega
/-- a writer's state as a hearer has it -/
def wPS (P : List Nat) : WS → PS
  | (r, _, _, la, ru, sb) => (P, r, la, ru, sb, [])
theorem pre_ws {k id c : Nat} {o : Nat → Nat} {p n : Nat} {W : WS} (hp : p ≤ arb k) (hW : wOk n W) (hc : cln W.1) (hpar : par W.1 = wPS ((fQ k id c o).take p) W) : cln (ws W).1 ∧ par (ws W).1 = wPS ((fQ k id c o).take p) (ws W) := by
  obtain ⟨r, s, f, la, ru, sb⟩ := W
  rw [ws_q]
  by_cases h5 : ru = 5
  · rw [if_pos h5]
    have hne := (pre_nE (id := id) (c := c) (o := o) hp).2.2 ru
    have hla := hW.2.2.2.2.2.1
    have hpar : par r = ((fQ k id c o).take p, r, la, ru, sb, []) := hpar
    have hev : evt (par r) (1 - la) = 0 := by rw [hpar, evt_q, if_neg hne, if_pos h5, if_neg (by omega)]
    refine ⟨cln_s hc (by omega) (by rw [hev]; exact Or.inl rfl), ?_⟩
    show par (r ++ [1 - la]) = _
    rw [par_s, hpar, stp_q, if_neg hne, if_pos h5]
    rfl
  · rw [if_neg h5]; exact ⟨hc, hpar⟩
theorem pre_par {k id c : Nat} {o : Nat → Nat} : ∀ p, p ≤ arb k → cln (wr (arb k) ((fQ k id c o).take p)).1 ∧ par (wr (arb k) ((fQ k id c o).take p)).1 = wPS ((fQ k id c o).take p) (wr (arb k) ((fQ k id c o).take p))
  | 0, _ => by
    rw [List.take_zero, wr_nil]
    exact ⟨cln_nil, rfl⟩
  | p + 1, hp => by
    have hQ := fQ_len (k := k) id c o
    have hA := arb_lt k
    obtain ⟨i1, i2⟩ := pre_par (k := k) (id := id) (c := c) (o := o) p (by omega)
    have hok := wr_ok (arb k) (Bt_take p (fQ_Bt k id c o))
    obtain ⟨j1, j2⟩ := pre_ws (k := k) (id := id) (c := c) (o := o) (p := p) (by omega) hok i1 i2
    have hn5 := ws_n5 hok
    obtain ⟨q1, q2, q3⟩ := pre_nE (id := id) (c := c) (o := o) (show p ≤ arb k by omega)
    have hb : (fQ k id c o).getD p 0 < 2 := Bt_getD p (fQ_Bt k id c o)
    have hst : (fQ k id c o).take (p + 1) = (fQ k id c o).take p ++ [(fQ k id c o).getD p 0] := tk_s (by omega)
    have hwr : wr (arb k) ((fQ k id c o).take (p + 1)) = wq (ws (wr (arb k) ((fQ k id c o).take p))) ((fQ k id c o).getD p 0) (if p ≤ arb k then 1 else 0) := by rw [hst, wr_s, q1]; rfl
    rw [hwr]
    generalize ws (wr (arb k) ((fQ k id c o).take p)) = W at j1 j2 hn5
    obtain ⟨r, s, f, la, ru, sb⟩ := W
    have j2 : par r = ((fQ k id c o).take p, r, la, ru, sb, []) := j2
    have hn5 : ru ≠ 5 := hn5
    rw [wq_q]
    have hnf : ¬ (aFlex ((fQ k id c o).take p ++ [(fQ k id c o).getD p 0]) = 1 ∧ (fQ k id c o).getD p 0 = 1 ∧ ((fQ k id c o).take p).length + 1 = aAt ((fQ k id c o).take p ++ [(fQ k id c o).getD p 0]) + 2) := by
      rintro ⟨_, _, h9⟩
      rw [← hst, q1] at h9
      have h3 := aAt_le ((fQ k id c o).take (p + 1))
      have hL : isL k = 1 := by
        unfold arb at hp
        split at hp
        · assumption
        · omega
      rw [tk_aAt (by omega) hL] at h9
      omega
    have hev : evt (par r) ((fQ k id c o).getD p 0) = 0 := by rw [j2, evt_q, if_neg (q3 ru), if_neg hn5, if_neg hnf]
    refine ⟨cln_s j1 hb (by rw [hev]; exact Or.inl rfl), ?_⟩
    show par (r ++ [(fQ k id c o).getD p 0]) = _
    rw [par_s, j2, stp_q, if_neg (q3 ru), if_neg hn5, hst]
    rfl
/-- at a place where a node may lose: all before it is heard well, and a 0 there too -/
theorem lose_cln {k id c : Nat} {o : Nat → Nat} {i : Nat} (hi : i < (rowL k id c o).length) (hf : (flgL k id c o).getD i 0 = 1) : cln ((rowL k id c o).take i) ∧ evt (par ((rowL k id c o).take i)) 0 = 0 ∧ i + 9 < (rowL k id c o).length := by
  have hfl : i < (fW k id c o).1.length := by
    rcases Nat.lt_or_ge i (fW k id c o).1.length with h | h
    · exact h
    · have h2 := (fW_p k id c o).2.2.2
      unfold flgL at hf
      rw [gD_o (by omega)] at hf
      cases hf
  have hrow : (rowL k id c o).take i = (fW k id c o).1.take i := by unfold rowL; rw [tk_l (by rw [List.length_append]; omega), tk_l (by omega)]
  have hpre : ∃ p, p < (fQ k id c o).length ∧ p ≤ arb k ∧ (fW k id c o).1.take i = (ws (wr (arb k) ((fQ k id c o).take p))).1 := by
    unfold flgL at hf
    have key := fl_pre (arb k) (fQ k id c o) (fQ_Bt k id c o) i
    have hok := wr_ok (arb k) (fQ_Bt k id c o)
    unfold fW at hf hfl ⊢
    by_cases hF : isF k = 1
    · rw [if_pos hF] at hf hfl ⊢
      exact key hfl hf
    · rw [if_neg hF] at hf hfl ⊢
      generalize wr (arb k) (fQ k id c o) = W at *
      obtain ⟨r, s, f, la, ru, sb⟩ := W
      obtain ⟨o1, o2, o3⟩ := hok
      rw [ws_q] at hf hfl ⊢
      by_cases h5 : ru = 5
      · rw [if_pos h5] at hf hfl ⊢
        have hfl : i < (r ++ [1 - la]).length := hfl
        rw [len_s] at hfl
        have hf : (f ++ [0]).getD i 0 = 1 := hf
        show ∃ p, _ ∧ _ ∧ (r ++ [1 - la]).take i = _
        rcases (show i < r.length ∨ i = r.length by omega) with h | h
        · rw [gD_l (by omega)] at hf
          rw [tk_l (by omega)]
          exact key h hf
        · rw [gD_e (by omega)] at hf
          cases hf
      · rw [if_neg h5] at hf hfl ⊢
        exact key hfl hf
  obtain ⟨p, p1, p2, p3⟩ := hpre
  obtain ⟨a1, a2⟩ := pre_par (k := k) (id := id) (c := c) (o := o) p p2
  have hok := wr_ok (arb k) (Bt_take p (fQ_Bt k id c o))
  obtain ⟨b1, b2⟩ := pre_ws p2 hok a1 a2
  have hn5 := ws_n5 hok
  rw [hrow, p3]
  refine ⟨b1, ?_, by rw [rowL_len]; omega⟩
  rw [b2]
  obtain ⟨q1, q2, q3⟩ := pre_nE (id := id) (c := c) (o := o) p2
  generalize ws (wr (arb k) ((fQ k id c o).take p)) = W at hn5
  obtain ⟨r, s, f, la, ru, sb⟩ := W
  have hn5 : ru ≠ 5 := hn5
  show evt ((fQ k id c o).take p, r, la, ru, sb, []) 0 = 0
  rw [evt_q, if_neg (q3 ru), if_neg hn5, if_neg (by rintro ⟨_, h, _⟩; cases h)]
/-! the class turns to listening -/
theorem t_begin {r1 r2 : Option Nat} {nf : Nat → Int32} {h : Int64} {f o a b c : Nat → Int32} {φ φb : Nat → Nat → Int32} (hz : nf 2 = nI 0 ∨ (nf 2 = nI 6 ∧ nf 3 = nI 2 ∧ r1 = none)) (hg : LG o a b c) : ∃ f' a' b' c', f_X2_turnToListening r1 r2 nf h f o a b c φ φb = some (upd (upd nf 2 2) 3 0, lN 0, f', o, a', b', c') ∧ LiS (lN 0) f' o a' b' c' (par []) := by
  obtain ⟨f', a', b', c', e1, e2, _⟩ := LiS_begin (h := h) (f := f) hg
  refine ⟨f', a', b', c', ?_, e2⟩
  have hn1 : ¬ nf 2 = 1 := by
    rcases hz with h9 | h9
    · rw [h9]; decide
    · rw [h9.1]; decide
  have e0 : ∀ {β : Type} (k : Int32 → Option β), jn k (fun k3 => if nf 2 = 0 then k3 1 else if nf 2 = 6 then if nf 3 = 2 then oc r1 (k3 1) (fun j95 => gd (j95 < 200) (k3 0)) else k3 0 else k3 0) = k 1 := by
    intro β k3
    rw [jnE]
    rcases hz with h9 | ⟨h9, h8, h7⟩
    · rw [if_pos (show nf 2 = 0 by rw [h9]; rfl)]
    · rw [if_neg (show ¬ nf 2 = 0 by rw [h9]; decide), if_pos (show nf 2 = 6 by rw [h9]; rfl), if_pos (show nf 3 = 2 by rw [h8]; rfl), h7, ocN]
  unfold f_X2_turnToListening
  rw [e0, jnE, if_neg hn1]
  dsimp only
  rw [if_neg (by decide)]
  unfold f_X2_enter
  rw [bdS, e1, bdS]
  dsimp only
  rw [jnE, if_pos rfl]
theorem t_same {r1 r2 : Option Nat} {nf : Nat → Int32} {h : Int64} {f o a b c : Nat → Int32} {φ φb : Nat → Nat → Int32} {z : Nat} (hz : nf 2 = nI z) (hz7 : z < 7) (hz0 : z ≠ 0) (h6 : z = 6 → nf 3 = 2 → ∃ j, r1 = some j ∧ j < 200) (h1 : z = 1 → ∃ j, r2 = some j ∧ j < 200 ∧ f_X0_canLoseAt (φ j) (φb j) (nf 9) = some 0) : f_X2_turnToListening r1 r2 nf h f o a b c φ φb = some (nf, h, f, o, a, b, c) := by
  have e0 : ∀ {β : Type} (k : Int32 → Option β), jn k (fun k3 => if nf 2 = 0 then k3 1 else if nf 2 = 6 then if nf 3 = 2 then oc r1 (k3 1) (fun j95 => gd (j95 < 200) (k3 0)) else k3 0 else k3 0) = k 0 := by
    intro β k3
    rw [jnE]
    rw [if_neg (show ¬ nf 2 = 0 by rw [hz]; exact ne_l 0 hz0 (by omega) (by decide))]
    by_cases hz6 : z = 6
    · rw [if_pos (show nf 2 = 6 by rw [hz, hz6]; rfl)]
      by_cases h3 : nf 3 = 2
      · obtain ⟨j, j1, j2⟩ := h6 hz6 h3
        rw [if_pos h3, j1, ocS, gdT _ j2]
      · rw [if_neg h3]
    · rw [if_neg (show ¬ nf 2 = 6 by rw [hz]; exact ne_l 6 hz6 (by omega) (by decide))]
  have e1 : ∀ {β : Type} (k : Int32 → Option β), jn k (fun k7 => if nf 2 = 1 then oc r2 (k7 0) (fun j89 => gd (j89 < 200) (bd (f_X0_canLoseAt (φ j89) (φb j89) (nf 9)) (fun u91 => if u91 = 0 then k7 0 else k7 1))) else k7 0) = k 0 := by
    intro β k7
    rw [jnE]
    by_cases hz1 : z = 1
    · obtain ⟨j, j1, j2, j3⟩ := h1 hz1
      rw [if_pos (show nf 2 = 1 by rw [hz, hz1]; rfl), j1, ocS, gdT _ j2, j3, bdS, if_pos rfl]
    · rw [if_neg (show ¬ nf 2 = 1 by rw [hz]; exact ne_l 1 hz1 (by omega) (by decide))]
  unfold f_X2_turnToListening
  rw [e0, e1]
  rw [if_pos rfl, if_pos rfl]
theorem t_loop {R : List Nat} {i j : Nat} {u48 : Nat → Int32} {φ φb : Nat → Nat → Int32} (hj : j < 200) (hi : i ≤ R.length) (hil : i < 1000) (h9 : u48 9 = nI i) (hRB : Bt R) (hc : cln (R.take i)) (hrow : ∀ q, q < i → f_X0_rowBit (φ j) (φb j) (nI q) = some (nI (R.getD q 0))) {k71 : Int64 × (Nat → Int32) × (Nat → Int32) × (Nat → Int32) × (Nat → Int32) × (Nat → Int32) × Int32 → Option ((Nat → Int32) × Int64 × (Nat → Int32) × (Nat → Int32) × (Nat → Int32) × (Nat → Int32) × (Nat → Int32))} :
    ∀ d q nn h f o a b c, d + q = i → d < nn → LiS h f o a b c (par (R.take q)) → ∃ H F O A B C, L_X2_turnToListening_99_2 u48 (some j) φ φb k71 nn h f o a b c (nI q) = k71 (H, F, O, A, B, C, nI i) ∧ LiS H F O A B C (par (R.take i)) := by
  intro d
  induction d with
  | zero =>
    intro q nn h f o a b c hd hnn hl
    obtain ⟨nn, rfl⟩ : ∃ q, nn = q + 1 := ⟨nn - 1, by omega⟩
    have hq : q = i := by omega
    subst hq
    refine ⟨h, f, o, a, b, c, ?_, hl⟩
    show (if (u48 9) ≤ nI q then k71 (h, f, o, a, b, c, nI q) else _) = _
    rw [h9, if_pos (le_l _ (Nat.le_refl _) (by omega))]
  | succ d ih =>
    intro q nn h f o a b c hd hnn hl
    obtain ⟨nn, rfl⟩ : ∃ q, nn = q + 1 := ⟨nn - 1, by omega⟩
    have hcq : cln (R.take q) := by have := cln_take hc q; rwa [List.take_take, show min q i = q by omega] at this
    have hx : R.getD q 0 < 2 := Bt_getD q hRB
    have hgood : goodE (evt (par (R.take q)) (R.getD q 0)) := by
      have := hc.2 q (by rw [List.length_take]; omega)
      rwa [List.take_take, show min q i = q by omega, gD_take (by omega)] at this
    obtain ⟨H, F, O, A, B, C, e1, e2, e3⟩ := hear (x := R.getD q 0) hcq hx hl
    have e4 := e3 hgood
    rw [← par_s, ← tk_s (by omega)] at e4
    obtain ⟨H2, F2, O2, A2, B2, C2, t1, t2⟩ := ih (q + 1) nn H F O A B C (by omega) (by omega) e4
    refine ⟨H2, F2, O2, A2, B2, C2, ?_, t2⟩
    show (if (u48 9) ≤ nI q then _ else oc (some j) none (fun j73 => gd (j73 < 200) (bd (f_X0_rowBit (φ j73) (φb j73) (nI q)) (fun u74 => bd (f_X1_hear h f o a b c u74) (fun ⟨u76, u77, u78, u79, u80, u81, u82⟩ => L_X2_turnToListening_99_2 u48 (some j) φ φb k71 nn u76 u77 u78 u79 u80 u81 (nI q + 1)))))) = _
    rw [h9, if_neg (nle_l _ (by omega) (by omega)), ocS, gdT _ hj, hrow q (by omega), bdS, e1, bdS]
    dsimp only
    rw [show nI q + 1 = nI (q + 1) from nI_add _ 1]
    exact t1
theorem t_lose {r1 : Option Nat} {nf : Nat → Int32} {h : Int64} {f o a b c : Nat → Int32} {φ φb : Nat → Nat → Int32} {R : List Nat} {i j : Nat} (hj : j < 200) (h2 : nf 2 = nI 1) (h9 : nf 9 = nI i) (hi : i ≤ R.length) (hil : i < 1000) (hRB : Bt R) (hc : cln (R.take i)) (hrow : ∀ q, q < i → f_X0_rowBit (φ j) (φb j) (nI q) = some (nI (R.getD q 0))) (hcl : f_X0_canLoseAt (φ j) (φb j) (nI i) = some (nI 1)) (hg : LG o a b c) :
    ∃ H F O A B C, f_X2_turnToListening r1 (some j) nf h f o a b c φ φb = some (upd (upd nf 2 2) 3 0, H, F, O, A, B, C) ∧ LiS H F O A B C (par (R.take i)) := by
  obtain ⟨f', a', b', c', e1, e2, _⟩ := LiS_begin (h := h) (f := f) hg
  have e2 : LiS (lN 0) f' o a' b' c' (par (R.take 0)) := by rw [List.take_zero]; exact e2
  obtain ⟨H, F, O, A, B, C, t1, t2⟩ := t_loop (u48 := upd (upd nf 2 2) 3 0) (φ := φ) (φb := φb) (k71 := fun x => some (upd (upd nf 2 2) 3 0, x.1, x.2.1, x.2.2.1, x.2.2.2.1, x.2.2.2.2.1, x.2.2.2.2.2.1)) hj hi hil (by rw [up_n _ _ (by decide), up_n _ _ (by decide)]; exact h9) hRB hc hrow i 0 fu (lN 0) f' o a' b' c' (by omega) (fu_big (by omega)) e2
  refine ⟨H, F, O, A, B, C, ?_, t2⟩
  unfold f_X2_turnToListening
  rw [jnE, if_neg (show ¬ nf 2 = 0 by rw [h2]; decide), if_neg (show ¬ nf 2 = 6 by rw [h2]; decide)]
  dsimp only
  rw [jnE, if_pos (show nf 2 = 1 by rw [h2]; rfl), ocS, gdT _ hj, h9, hcl, bdS, if_neg (by decide)]
  dsimp only
  rw [if_pos rfl, if_neg (by decide)]
  unfold f_X2_enter
  rw [bdS, e1, bdS]
  dsimp only
  rw [jnE, if_neg (by decide), jnE]
  exact t1
