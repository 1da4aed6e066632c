def arb (k : Nat) : Nat := if isL k = 1 then 32 else 13
def CWP (w a b c ff fb : Nat → Int32) (ar : Nat) (P : List Nat) : Prop := a = rA (crA P) ∧ CW w b c ff fb (wr ar P)
theorem c_plain {w a b c ff fb : Nat → Int32} {ar x q : Nat} {P : List Nat} (hP : Bt P) (hn : P.length < 553) (hx : x < 2) (hq : q = if P.length ≤ ar then 1 else 0) (h : CWP w a b c ff fb ar P) : ∃ w' a' b' c' ff' fb', f_X6_writePlain w a b c ff fb (nI x) (nI q) = some (w', a', b', c', ff', fb') ∧ CWP w' a' b' c' ff' fb' ar (P ++ [x]) ∧ ∀ k, k ≠ 2 → ff' k = ff k := by
  obtain ⟨w', b', c', ff', fb', e1, e2, e3⟩ := c_wp (x := x) (q := q) (wr_ok ar hP) hn h.1 hx (by rw [hq]; split <;> decide) h.2
  refine ⟨w', _, b', c', ff', fb', e1, ⟨rfl, ?_⟩, e3⟩
  rw [wr_s, ← hq]
  exact e2
theorem c_numL {x ar : Nat} (hx : x < 2 ^ 31) {k8 : (Nat → Int32) × (Nat → Int32) × (Nat → Int32) × (Nat → Int32) × (Nat → Int32) × (Nat → Int32) × Int32 → Option ((Nat → Int32) × (Nat → Int32) × (Nat → Int32) × (Nat → Int32) × (Nat → Int32) × (Nat → Int32))} :
    ∀ j nn w a b c ff fb P, j < nn → j < 32 → Bt P → P.length + j ≤ 553 → ar < P.length → CWP w a b c ff fb ar P → ∃ w' a' b' c' ff' fb', L_X6_writeNumber_5 (nI x) k8 nn w a b c ff fb (nI j - 1) = k8 (w', a', b', c', ff', fb', -1) ∧ CWP w' a' b' c' ff' fb' ar (P ++ bt x j) ∧ ∀ k, k ≠ 2 → ff' k = ff k := by
  intro j
  induction j with
  | zero =>
    intro nn w a b c ff fb P hnn hj hP hl har h
    obtain ⟨nn, rfl⟩ : ∃ q, nn = q + 1 := ⟨nn - 1, by omega⟩
    refine ⟨w, a, b, c, ff, fb, ?_, by show CWP w a b c ff fb ar (P ++ []); rw [List.append_nil]; exact h, fun _ _ => rfl⟩
    show (if nI 0 - 1 < 0 then k8 (w, a, b, c, ff, fb, nI 0 - 1) else _) = _
    rw [if_pos (by decide)]
    rfl
  | succ j ih =>
    intro nn w a b c ff fb P hnn hj hP hl har h
    obtain ⟨nn, rfl⟩ : ∃ q, nn = q + 1 := ⟨nn - 1, by omega⟩
    obtain ⟨w1, a1, b1, c1, ff1, fb1, e1, e2, e3⟩ := c_plain (x := x / 2 ^ j % 2) (q := 0) hP (by omega) (Nat.mod_lt _ (by decide)) (by rw [if_neg (by omega)]) h
    obtain ⟨w2, a2, b2, c2, ff2, fb2, t1, t2, t3⟩ := ih nn w1 a1 b1 c1 ff1 fb1 (P ++ [x / 2 ^ j % 2]) (by omega) (by omega) (Bt_snoc hP (Nat.mod_lt _ (by decide))) (by rw [len_s]; omega) (by rw [len_s]; omega) e2
    refine ⟨w2, a2, b2, c2, ff2, fb2, ?_, ?_, fun k hk => by rw [t3 k hk, e3 k hk]⟩
    · rw [show nI (j + 1) - 1 = nI j from n_sub (b := 1) (by omega)]
      show (if nI j < 0 then _ else bd (f_X6_writePlain w a b c ff fb ((nI x >>> (nI j &&& 31)) &&& 1) (nI 0)) _) = _
      rw [if_neg (show ¬ nI j < 0 from nlt_l 0 (by omega) (by omega)), n_bit hx (by omega), e1, bdS]
      dsimp only
      rw [show nI j + (-1) = nI j - 1 from (Int32.sub_eq_add_neg _ _).symm]
      exact t1
    · rw [List.append_assoc] at t2
      exact t2
theorem c_num {w a b c ff fb : Nat → Int32} {P : List Nat} {x n ar : Nat} (hx : x < 2 ^ 31) (hn : n < 32) (hP : Bt P) (hl : P.length + n ≤ 553) (har : ar < P.length) (h : CWP w a b c ff fb ar P) : ∃ w' a' b' c' ff' fb', f_X6_writeNumber w a b c ff fb (nI x) (nI n) = some (w', a', b', c', ff', fb') ∧ CWP w' a' b' c' ff' fb' ar (P ++ bt x n) ∧ ∀ k, k ≠ 2 → ff' k = ff k := by
  obtain ⟨w', a', b', c', ff', fb', e1, e2, e3⟩ := c_numL (k8 := fun ⟨v1, v2, v3, v4, v5, v6, v7⟩ => some (v1, v2, v3, v4, v5, v6)) hx n fu w a b c ff fb P (fu_big (by omega)) hn hP hl har h
  refine ⟨w', a', b', c', ff', fb', ?_, e2, e3⟩
  unfold f_X6_writeNumber
  rw [jnE]
  exact e1
theorem c_headL {k id c0 : Nat} :
    ∀ d i nn w a b c ff fb, d + i = hlen (isL k) (isF k) → d < nn → CWP w a b c ff fb (arb k) ((hdL k id c0).take i) → ∃ w' a' b' c' ff' fb', (∀ (k25 : (Nat → Int32) × (Nat → Int32) × (Nat → Int32) × (Nat → Int32) × (Nat → Int32) × (Nat → Int32) × Int32 → Option ((Nat → Int32) × (Nat → Int32) × (Nat → Int32) × (Nat → Int32) × (Nat → Int32) × (Nat → Int32))), L_X6_write_48 (nI (hlen (isL k) (isF k))) (nI (arb k)) (lN (hdN k id c0)) k25 nn w a b c ff fb (nI i) = k25 (w', a', b', c', ff', fb', nI (hlen (isL k) (isF k)))) ∧ CWP w' a' b' c' ff' fb' (arb k) (hdL k id c0) ∧ ∀ j, j ≠ 2 → ff' j = ff j := by
  have hll := hdL_len k id c0
  have hlv := hlen_le (l := isL k) (f := isF k)
  have har : arb k ≤ 32 := by unfold arb; split <;> omega
  intro d
  induction d with
  | zero =>
    intro i nn w a b c ff fb hd hnn h
    obtain ⟨nn, rfl⟩ : ∃ q, nn = q + 1 := ⟨nn - 1, by omega⟩
    have hi : i = hlen (isL k) (isF k) := by omega
    subst hi
    refine ⟨w, a, b, c, ff, fb, ?_, by rw [tk_a (by omega)] at h; exact h, fun _ _ => rfl⟩
    intro k25
    show (if nI (hlen (isL k) (isF k)) ≤ nI (hlen (isL k) (isF k)) then _ else _) = _
    rw [if_pos (le_l _ (Nat.le_refl _) (by omega))]
  | succ d ih =>
    intro i nn w a b c ff fb hd hnn h
    obtain ⟨nn, rfl⟩ : ∃ q, nn = q + 1 := ⟨nn - 1, by omega⟩
    have hil : i < (hdL k id c0).length := by omega
    have hb : (hdL k id c0).getD i 0 < 2 := Bt_getD i (hdL_Bt k id c0)
    have hlt : ((hdL k id c0).take i).length = i := by rw [List.length_take]; omega
    obtain ⟨w1, a1, b1, c1, ff1, fb1, e1, e2, e3⟩ := c_plain (x := (hdL k id c0).getD i 0) (q := if i ≤ arb k then 1 else 0) (Bt_take i (hdL_Bt k id c0)) (by rw [hlt]; omega) hb (by rw [hlt]) h
    rw [← tk_s hil] at e2
    obtain ⟨w2, a2, b2, c2, ff2, fb2, t1, t2, t3⟩ := ih (i + 1) nn w1 a1 b1 c1 ff1 fb1 (by omega) (by omega) e2
    refine ⟨w2, a2, b2, c2, ff2, fb2, ?_, t2, fun j hj => by rw [t3 j hj, e3 j hj]⟩
    have hH := hdN_lt k id c0
    have ebit : (lN (hdN k id c0) >>> (((40 : Int32) - nI i).toInt64 &&& 63)).toInt32 &&& 1 = nI ((hdL k id c0).getD i 0) := by
      rw [show (40 : Int32) - nI i = nI (40 - i) from n_sub (a := 40) (by omega), l_shr (by omega) (by omega), l_i, n_a1, hdN_bit (by omega)]
    have eq : (if nI (arb k) < nI i then (0 : Int32) else 1) = nI (if i ≤ arb k then 1 else 0) := by
      by_cases hc : i ≤ arb k
      · rw [if_pos hc, if_neg (nlt_l _ (by omega) (by omega))]; rfl
      · rw [if_neg hc, if_pos (lt_l _ (by omega) (by omega))]; rfl
    intro k25
    show (if nI (hlen (isL k) (isF k)) ≤ nI i then _ else lt _ _) = _
    rw [if_neg (nle_l _ (by omega) (by omega)), ltE, ebit, eq, e1, bdS]
    dsimp only
    rw [show nI i + 1 = nI (i + 1) from nI_add _ 1]
    exact t1 k25
theorem c_octL {k id c0 n : Nat} {o : Nat → Nat} {fo : Nat → Int32} (ho : ∀ i, i < 64 → o i < 256 ∧ fo i = nI (o i)) (hn : n ≤ 64) :
    ∀ d i nn w a b c ff fb, d + i = n → d < nn → ff 7 = nI n → CWP w a b c ff fb (arb k) (hdL k id c0 ++ ocL o i) → ∃ w' a' b' c' ff' fb', (∀ (k46 : (Nat → Int32) × (Nat → Int32) × (Nat → Int32) × (Nat → Int32) × (Nat → Int32) × (Nat → Int32) × Int32 → Option ((Nat → Int32) × (Nat → Int32) × (Nat → Int32) × (Nat → Int32) × (Nat → Int32) × (Nat → Int32))), L_X6_write_92 fo k46 nn w a b c ff fb (nI i) = k46 (w', a', b', c', ff', fb', nI n)) ∧ CWP w' a' b' c' ff' fb' (arb k) (hdL k id c0 ++ ocL o n) ∧ ∀ j, j ≠ 2 → ff' j = ff j := by
  have hll := hdL_len k id c0
  have hlv := hlen_le (l := isL k) (f := isF k)
  have har : arb k < hlen (isL k) (isF k) := by
    have h1 := isL_lt k
    unfold arb hlen
    by_cases h : isL k = 1
    · rw [if_pos h, if_neg (by omega)]; split <;> omega
    · rw [if_neg h, if_pos (by omega)]; split <;> omega
  intro d
  induction d with
  | zero =>
    intro i nn w a b c ff fb hd hnn h7 h
    obtain ⟨nn, rfl⟩ : ∃ q, nn = q + 1 := ⟨nn - 1, by omega⟩
    have hi : i = n := by omega
    subst hi
    refine ⟨w, a, b, c, ff, fb, ?_, h, fun _ _ => rfl⟩
    intro k46
    show (if (ff 7) ≤ nI i then _ else _) = _
    rw [h7, if_pos (le_l _ (Nat.le_refl _) (by omega))]
  | succ d ih =>
    intro i nn w a b c ff fb hd hnn h7 h
    obtain ⟨nn, rfl⟩ : ∃ q, nn = q + 1 := ⟨nn - 1, by omega⟩
    obtain ⟨ho1, ho2⟩ := ho i (by omega)
    have hlP : (hdL k id c0 ++ ocL o i).length = hlen (isL k) (isF k) + 8 * i := by rw [List.length_append, hll, ocL_len]
    obtain ⟨w1, a1, b1, c1, ff1, fb1, e1, e2, e3⟩ := c_num (x := o i) (n := 8) (by omega) (by decide) (Bt_app (hdL_Bt k id c0) (ocL_Bt o i)) (by rw [hlP]; omega) (by rw [hlP]; omega) h
    rw [List.append_assoc] at e2
    obtain ⟨w2, a2, b2, c2, ff2, fb2, t1, t2, t3⟩ := ih (i + 1) nn w1 a1 b1 c1 ff1 fb1 (by omega) (by omega) (by rw [e3 7 (by decide)]; exact h7) e2
    refine ⟨w2, a2, b2, c2, ff2, fb2, ?_, t2, fun j hj => by rw [t3 j hj, e3 j hj]⟩
    intro k46
    show (if (ff 7) ≤ nI i then _ else if 64 ≤ nI i then _ else gd _ (bd _ _)) = _
    rw [h7, if_neg (nle_l _ (by omega) (by omega)), if_neg (show ¬ 64 ≤ nI i from nle_l (a := 64) i (by omega) (by decide)), gdT _ (in_nI (by omega) (by decide)), nI_clamp (by omega), ho2, show (8 : Int32) = nI 8 from rfl, e1, bdS]
    dsimp only
    rw [show nI i + 1 = nI (i + 1) from nI_add _ 1]
    exact t1 k46
/-! count and check -/
def txs (la : Nat) (B : List Nat) : List Nat × Nat × Nat := B.foldl (fun x b => (x.1 ++ (if x.2.2 % 4 = 0 then [1 - x.2.1] else []) ++ [b], b, x.2.2 + 1)) ([], la, 0)
def tx (la : Nat) (B : List Nat) : List Nat := (txs la B).1
theorem txs_s (la : Nat) (B : List Nat) (b : Nat) : txs la (B ++ [b]) = ((txs la B).1 ++ (if (txs la B).2.2 % 4 = 0 then [1 - (txs la B).2.1] else []) ++ [b], b, (txs la B).2.2 + 1) := by unfold txs; rw [List.foldl_append]; rfl
theorem txs_n (la : Nat) (B : List Nat) : (txs la B).2.2 = B.length := by
  refine sn_ind (p := fun B => (txs la B).2.2 = B.length) rfl ?_ B
  intro l b ih
  rw [txs_s, len_s, ← ih]
theorem tx_len (la : Nat) (B : List Nat) : (tx la B).length = B.length + (B.length + 3) / 4 := by
  refine sn_ind (p := fun B => (tx la B).length = B.length + (B.length + 3) / 4) rfl ?_ B
  intro l b ih
  unfold tx at ih ⊢
  rw [txs_s, txs_n]
  show ((txs la l).1 ++ (if l.length % 4 = 0 then [1 - (txs la l).2.1] else []) ++ [b]).length = _
  rw [len_s, len_s, List.length_append, ih]
  by_cases h : l.length % 4 = 0
  · rw [if_pos h]; show _ + 1 + 1 = _; omega
  · rw [if_neg h]; show _ + 0 + 1 = _; omega
theorem tx_Bt {la : Nat} (hla : la < 2) {B : List Nat} (hB : Bt B) : Bt (tx la B) ∧ (txs la B).2.1 < 2 := by
  have : Bt B → (Bt (tx la B) ∧ (txs la B).2.1 < 2) := by
    refine sn_ind (p := fun B => Bt B → (Bt (tx la B) ∧ (txs la B).2.1 < 2)) (fun _ => ⟨Bt_nil, hla⟩) ?_ B
    intro l b ih h
    have hb : b < 2 := Bt_r h b (by simp)
    obtain ⟨i1, i2⟩ := ih (Bt_l h)
    unfold tx at i1 ⊢
    rw [txs_s]
    refine ⟨Bt_snoc (Bt_app i1 ?_) hb, hb⟩
    split
    · exact Bt_one (by omega)
    · exact Bt_nil
  exact this hB
theorem bt_mod {x y w : Nat} : ∀ {n}, n ≤ w → bt (x * 2 ^ w + y) n = bt y n
  | 0, _ => rfl
  | n + 1, h => by
    show ((x * 2 ^ w + y) / 2 ^ n % 2) :: bt (x * 2 ^ w + y) n = (y / 2 ^ n % 2) :: bt y n
    rw [bt_mod (n := n) (by omega)]
    congr 1
    rw [show 2 ^ w = 2 ^ n * (2 * 2 ^ (w - n - 1)) by rw [← Nat.mul_assoc, Nat.mul_comm (2 ^ n) 2, Nat.mul_assoc, ← Nat.pow_add, ← Nat.pow_succ']; congr 1; omega, show x * (2 ^ n * (2 * 2 ^ (w - n - 1))) = 2 ^ n * (2 * (x * 2 ^ (w - n - 1))) by rw [← Nat.mul_assoc, Nat.mul_comm x, Nat.mul_assoc]; congr 1; rw [← Nat.mul_assoc, Nat.mul_comm x 2, Nat.mul_assoc], Nat.mul_add_div (Nat.two_pow_pos _)]
    omega
theorem bt_app {x y w : Nat} (hy : y < 2 ^ w) : ∀ n, bt (x * 2 ^ w + y) (n + w) = bt x n ++ bt y w
  | 0 => by rw [Nat.zero_add, bt_mod (Nat.le_refl _)]; rfl
  | n + 1 => by
    rw [show n + 1 + w = (n + w) + 1 by omega]
    show ((x * 2 ^ w + y) / 2 ^ (n + w) % 2) :: bt (x * 2 ^ w + y) (n + w) = (x / 2 ^ n % 2) :: bt x n ++ bt y w
    rw [bt_app hy n]
    show _ = (x / 2 ^ n % 2) :: (bt x n ++ bt y w)
    congr 2
    rw [Nat.add_comm n w, Nat.pow_add, ← Nat.div_div_eq_div_mul, Nat.mul_comm x, Nat.mul_add_div (Nat.two_pow_pos _), Nat.div_eq_of_lt hy, Nat.add_zero]
theorem bt_getD {x : Nat} : ∀ {n i}, i < n → (bt x n).getD i 0 = x / 2 ^ (n - 1 - i) % 2
  | n + 1, 0, _ => by show x / 2 ^ n % 2 = _; rw [show n + 1 - 1 - 0 = n by omega]
  | n + 1, i + 1, h => by
    show (bt x n).getD i 0 = _
    rw [bt_getD (by omega), show n + 1 - 1 - (i + 1) = n - 1 - i by omega]
