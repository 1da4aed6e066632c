abbrev WS := List Nat × List Nat × List Nat × Nat × Nat × Nat
def ws : WS → WS
  | (r, s, f, la, ru, sb) => if ru = 5 then (r ++ [1 - la], s ++ [1], f ++ [0], 1 - la, 1, sb + 1) else (r, s, f, la, ru, sb)
def wq : WS → Nat → Nat → WS
  | (r, s, f, la, ru, sb), b, q => (r ++ [b], s ++ [0], f ++ [q], b, if b = la then ru + 1 else 1, sb)
def wp (W : WS) (b q : Nat) : WS := wq (ws W) b q
def w0 : WS := ([], [], [], 1, 0, 0)
def wrs (ar : Nat) (P : List Nat) : WS × Nat := P.foldl (fun x b => (wp x.1 b (if x.2 ≤ ar then 1 else 0), x.2 + 1)) (w0, 0)
def wr (ar : Nat) (P : List Nat) : WS := (wrs ar P).1
theorem ws_q (r s f : List Nat) (la ru sb : Nat) : ws (r, s, f, la, ru, sb) = if ru = 5 then (r ++ [1 - la], s ++ [1], f ++ [0], 1 - la, 1, sb + 1) else (r, s, f, la, ru, sb) := rfl
theorem wq_q (r s f : List Nat) (la ru sb b q : Nat) : wq (r, s, f, la, ru, sb) b q = (r ++ [b], s ++ [0], f ++ [q], b, if b = la then ru + 1 else 1, sb) := rfl
theorem wrs_2 (ar : Nat) (P : List Nat) : (wrs ar P).2 = P.length := by
  refine sn_ind (p := fun P => (wrs ar P).2 = P.length) rfl ?_ P
  intro l b ih
  unfold wrs at ih ⊢
  rw [List.foldl_append, len_s, ← ih]
  rfl
theorem wr_nil (ar : Nat) : wr ar [] = w0 := rfl
theorem wr_s (ar : Nat) (P : List Nat) (b : Nat) : wr ar (P ++ [b]) = wp (wr ar P) b (if P.length ≤ ar then 1 else 0) := by
  rw [← wrs_2 ar P]
  unfold wr wrs
  rw [List.foldl_append]
  rfl
theorem ws_ws (W : WS) : ws (ws W) = ws W := by
  obtain ⟨r, s, f, la, ru, sb⟩ := W
  rw [ws_q r s f la ru sb]
  by_cases h : ru = 5
  · rw [if_pos h, ws_q, if_neg (by decide)]
  · rw [if_neg h, ws_q, if_neg h]
/-- what holds of a row that is being written, n plain bits so far -/
def wOk (n : Nat) : WS → Prop
  | (r, s, f, la, ru, sb) => s.length = r.length ∧ f.length = r.length ∧ Bt r ∧ Bt s ∧ Bt f ∧ la < 2 ∧ ru ≤ 5 ∧ r.length = n + sb ∧ 4 * sb + ru ≤ n ∧ (∀ j, j < ru → r.getD (r.length - 1 - j) 0 = la) ∧ (∀ j, j + 1 < ru → s.getD (r.length - 1 - j) 0 = 0) ∧ (ru < r.length → r.getD (r.length - 1 - ru) 0 ≠ la) ∧ ru ≤ r.length ∧ (0 < n → 0 < ru)
theorem wOk_0 : wOk 0 w0 := by
  refine ⟨rfl, rfl, Bt_nil, Bt_nil, Bt_nil, by decide, by decide, rfl, by decide, fun j h => absurd h (Nat.not_lt_zero j), fun j h => absurd h (Nat.not_lt_zero _), fun h => absurd h (by decide), by decide, fun h => absurd h (by decide)⟩
theorem wOk_ws {n : Nat} {W : WS} (h : wOk n W) : wOk n (ws W) := by
  obtain ⟨r, s, f, la, ru, sb⟩ := W
  rw [ws_q]
  by_cases h5 : ru = 5
  · rw [if_pos h5]
    obtain ⟨h1, h2, h3, h4, h6, h7, h8, h9, h10, h11, h12, h13, h14, h15⟩ := h
    have hl := len_s r (1 - la)
    refine ⟨by rw [len_s, len_s, h1], by rw [len_s, len_s, h2], Bt_snoc h3 (by omega), Bt_snoc h4 (by decide), Bt_snoc h6 (by decide), by omega, by decide, by rw [len_s]; omega, by omega, ?_, ?_, ?_, by rw [len_s]; omega, fun _ => by decide⟩
    · intro j hj
      have : j = 0 := by omega
      subst this
      exact gD_e (by omega)
    · intro j hj; omega
    · intro hr
      rw [hl, gD_l (by omega), show r.length + 1 - 1 - 1 = r.length - 1 - 0 by omega, h11 0 (by omega)]
      omega
  · rw [if_neg h5]
    exact h
theorem wOk_wq {n b q : Nat} {W : WS} (h : wOk n W) (hb : b < 2) (hq : q < 2) (h5 : W.2.2.2.2.1 ≠ 5) : wOk (n + 1) (wq W b q) := by
  obtain ⟨r, s, f, la, ru, sb⟩ := W
  have h5 : ru ≠ 5 := h5
  rw [wq_q]
  obtain ⟨h1, h2, h3, h4, h6, h7, h8, h9, h10, h11, h12, h13, h14, h15⟩ := h
  have hl := len_s r b
  refine ⟨by rw [len_s, len_s, h1], by rw [len_s, len_s, h2], Bt_snoc h3 hb, Bt_snoc h4 (by decide), Bt_snoc h6 hq, hb, by split <;> omega, by rw [len_s]; omega, by split <;> omega, ?_, ?_, ?_, by rw [len_s]; split <;> omega, fun _ => by split <;> omega⟩
  · intro j hj
    by_cases hj0 : j = 0
    · subst hj0; exact gD_e (by omega)
    · by_cases hbl : b = la
      · rw [if_pos hbl] at hj
        rw [hl, gD_l (by omega), show r.length + 1 - 1 - j = r.length - 1 - (j - 1) by omega, h11 (j - 1) (by omega), hbl]
      · rw [if_neg hbl] at hj; omega
  · intro j hj
    by_cases hbl : b = la
    · rw [if_pos hbl] at hj
      by_cases hj0 : j = 0
      · subst hj0; exact gD_e (by omega)
      · rw [hl, gD_l (by omega), show r.length + 1 - 1 - j = r.length - 1 - (j - 1) by omega]
        exact h12 (j - 1) (by omega)
    · rw [if_neg hbl] at hj; omega
  · intro hr
    by_cases hbl : b = la
    · rw [if_pos hbl] at hr ⊢
      rw [hl] at hr
      rw [hl, gD_l (by omega), show r.length + 1 - 1 - (ru + 1) = r.length - 1 - ru by omega, hbl]
      exact h13 (by omega)
    · rw [if_neg hbl] at hr ⊢
      rw [hl] at hr
      rw [hl, gD_l (by omega), show r.length + 1 - 1 - 1 = r.length - 1 - 0 by omega, h11 0 (h15 (by omega))]
      omega
theorem ws_n5 {n : Nat} {W : WS} (h : wOk n W) : (ws W).2.2.2.2.1 ≠ 5 := by
  obtain ⟨r, s, f, la, ru, sb⟩ := W
  rw [ws_q]
  by_cases h5 : ru = 5
  · rw [if_pos h5]; show 1 ≠ 5; decide
  · rw [if_neg h5]; exact h5
theorem wOk_wp {n b q : Nat} {W : WS} (h : wOk n W) (hb : b < 2) (hq : q < 2) : wOk (n + 1) (wp W b q) := wOk_wq (wOk_ws h) hb hq (ws_n5 h)
theorem wr_ok (ar : Nat) {P : List Nat} (hP : Bt P) : wOk P.length (wr ar P) := by
  have : Bt P → wOk P.length (wr ar P) := by
    refine sn_ind (p := fun P => Bt P → wOk P.length (wr ar P)) (fun _ => wOk_0) ?_ P
    intro l b ih h
    rw [wr_s, len_s]
    exact wOk_wp (ih (Bt_l h)) (Bt_r h b (by simp)) (by split <;> decide)
  exact this hP
/-! the class writes -/
def cll (fb : Nat → Int32) (r f : List Nat) : Prop := ∀ k, k < r.length → fb k = nI (r.getD k 0 + 2 * f.getD k 0)
theorem cll_s {fb : Nat → Int32} {r f : List Nat} {b q : Nat} (h : cll fb r f) (hf : f.length = r.length) : cll (upd fb r.length (nI (b + 2 * q))) (r ++ [b]) (f ++ [q]) := by
  intro k hk
  rw [len_s] at hk
  by_cases hkk : k = r.length
  · subst hkk; rw [up_s, gD_e rfl, gD_e hf.symm]
  · rw [up_n _ _ hkk, h k (by omega), gD_l (by omega), gD_l (by omega)]
theorem c_app {ff fb : Nat → Int32} {n b q : Nat} (h2 : ff 2 = nI n) (hn : n < 733) (hb : b < 2) (hq : q < 2) : f_X0_append ff fb (nI b) (nI q) = some (upd ff 2 (nI (n + 1)), upd fb n (nI (b + 2 * q))) := by
  unfold f_X0_append
  rw [jnE, h2, if_neg (show ¬ 733 ≤ nI n from nle_l (a := 733) n (by omega) (by decide)), ltE, gdT _ (in_nI hn (by decide)), nI_clamp (by omega), show nI n + 1 = nI (n + 1) from nI_add _ 1]
  have hb' : b = 0 ∨ b = 1 := by omega
  have hq' : q = 0 ∨ q = 1 := by omega
  rcases hb' with rfl | rfl <;> rcases hq' with rfl | rfl <;> rfl
def CW (w b c ff fb : Nat → Int32) : WS → Prop
  | (r, s, f, la, ru, sb) => w 1 = nI la ∧ w 2 = nI ru ∧ w 3 = nI sb ∧ ff 2 = nI r.length ∧ cll fb r f ∧ b = rB (crB r) ∧ c = rC (crC r)
theorem c_ws {w b c ff fb : Nat → Int32} {W : WS} {n : Nat} (hW : wOk n W) (hn : n ≤ 553) (h : CW w b c ff fb W) : ∃ w' b' c' ff' fb', f_X6_writeStuffBit w b c ff fb = some (w', b', c', ff', fb') ∧ CW w' b' c' ff' fb' (ws W) ∧ ∀ k, k ≠ 2 → ff' k = ff k := by
  obtain ⟨r, s, f, la, ru, sb⟩ := W
  obtain ⟨o1, o2, o3, o4, o6, o7, o8, o9, o10, o11, o12, o13, o14, o15⟩ := hW
  obtain ⟨c1, c2, c3, c4, c5, c6, c7⟩ := h
  unfold f_X6_writeStuffBit
  rw [jnE, c2, ws_q]
  by_cases h5 : ru = 5
  · rw [if_pos (show nI ru = 5 by rw [h5]; rfl), if_pos h5, c1, show (1 : Int32) - nI la = nI (1 - la) from n_sub (a := 1) (by omega), c6, c7, c_addOther (by omega), bdS]
    dsimp only
    rw [show (0 : Int32) = nI 0 from rfl, c_app c4 (by omega) (by omega) (by decide), bdS, c3, show nI sb + 1 = nI (sb + 1) from nI_add _ 1]
    refine ⟨_, _, _, _, _, rfl, ⟨by simp [upd], by simp [upd]; rfl, by simp [upd], by simp [upd, len_s], ?_, rfl, rfl⟩, ?_⟩
    · exact cll_s c5 o2
    · intro k hk; simp [upd, hk]
  · rw [if_neg (show ¬ nI ru = 5 from ne_l 5 h5 (by omega) (by decide)), if_neg h5]
    exact ⟨w, b, c, ff, fb, rfl, ⟨c1, c2, c3, c4, c5, c6, c7⟩, fun _ _ => rfl⟩
theorem c_wp {w a b c ff fb : Nat → Int32} {W : WS} {n x q : Nat} {P : List Nat} (hW : wOk n W) (hn : n < 553) (ha : a = rA (crA P)) (hx : x < 2) (hq : q < 2) (h : CW w b c ff fb W) : ∃ w' b' c' ff' fb', f_X6_writePlain w a b c ff fb (nI x) (nI q) = some (w', rA (crA (P ++ [x])), b', c', ff', fb') ∧ CW w' b' c' ff' fb' (wp W x q) ∧ ∀ k, k ≠ 2 → ff' k = ff k := by
  obtain ⟨w1, b1, c1, ff1, fb1, e1, e2, e3⟩ := c_ws hW (by omega) h
  have hW1 := wOk_ws hW
  have h5 := ws_n5 hW
  unfold f_X6_writePlain wp
  rw [e1, bdS]
  dsimp only
  generalize ws W = W1 at e2 hW1 h5
  obtain ⟨r, s, f, la, ru, sb⟩ := W1
  have h5 : ru ≠ 5 := h5
  obtain ⟨o1, o2, o3, o4, o6, o7, o8, o9, o10, o11, o12, o13, o14, o15⟩ := hW1
  obtain ⟨d1, d2, d3, d4, d5, d6, d7⟩ := e2
  rw [ha, d6, d7, c_addPlain hx, bdS]
  dsimp only
  have er : (if nI x = w1 1 then (w1 2) + 1 else 1) = nI (if x = la then ru + 1 else 1) := by
    rw [d1, d2]
    by_cases hxl : x = la
    · rw [if_pos hxl, if_pos (by rw [hxl])]; exact nI_add _ 1
    · rw [if_neg hxl, if_neg (ne_l _ hxl (by omega) (by omega))]; rfl
  rw [ltE, er, c_app d4 (by omega) hx hq, bdS, wq_q]
  refine ⟨_, _, _, _, _, rfl, ⟨by simp [upd], by simp [upd], by simp [upd, d3], by simp [upd, len_s], ?_, rfl, rfl⟩, ?_⟩
  · exact cll_s d5 o2
  · intro k hk; show upd ff1 2 _ k = _; rw [up_n _ _ hk, e3 k hk]
