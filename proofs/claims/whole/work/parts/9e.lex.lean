/-! by plain bits: which frame goes first -/
def lx : List Nat → List Nat → Nat
  | a :: A, b :: B => if a = b then lx A B else if a < b then 1 else 0
  | _, _ => 0
theorem lx_c (a b : Nat) (A B : List Nat) : lx (a :: A) (b :: B) = if a = b then lx A B else if a < b then 1 else 0 := rfl
theorem lx_n1 (B : List Nat) : lx [] B = 0 := by cases B <;> rfl
theorem lx_n2 (A : List Nat) : lx A [] = 0 := by cases A <;> rfl
theorem lx_lt : ∀ A B : List Nat, lx A B < 2
  | [], B => by rw [lx_n1]; decide
  | a :: A, [] => by rw [lx_n2]; decide
  | a :: A, b :: B => by
    rw [lx_c]
    split
    · exact lx_lt A B
    · split <;> decide
theorem vl_inj : ∀ {A B : List Nat}, Bt A → Bt B → A.length = B.length → vl A = vl B → A = B
  | [], [], _, _, _, _ => rfl
  | a :: A, b :: B, hA, hB, hl, h => by
    have hl' : A.length = B.length := by simpa using hl
    have hA' : Bt A := fun x hx => hA x (List.mem_cons_of_mem _ hx)
    have hB' : Bt B := fun x hx => hB x (List.mem_cons_of_mem _ hx)
    rw [vl_cons, vl_cons, hl'] at h
    have h1 := vl_lt hA'
    have h2 := vl_lt hB'
    rw [hl'] at h1
    have ha : a < 2 := hA a List.mem_cons_self
    have hb : b < 2 := hB b List.mem_cons_self
    have hab : a = b := by
      rcases (show (a = 0 ∨ a = 1) ∧ (b = 0 ∨ b = 1) by omega) with ⟨h3 | h3, h4 | h4⟩
      · omega
      · rw [h3, h4] at h; omega
      · rw [h3, h4] at h; omega
      · omega
    subst hab
    rw [vl_inj hA' hB' hl' (by omega)]
theorem lx_vl : ∀ {A B : List Nat}, Bt A → Bt B → A.length = B.length → lx A B = if vl A < vl B then 1 else 0
  | [], [], _, _, _ => rfl
  | a :: A, b :: B, hA, hB, hl => by
    have hl' : A.length = B.length := by simpa using hl
    have hA' : Bt A := fun x hx => hA x (List.mem_cons_of_mem _ hx)
    have hB' : Bt B := fun x hx => hB x (List.mem_cons_of_mem _ hx)
    rw [vl_cons, vl_cons, hl', lx_c, lx_vl hA' hB' hl']
    have h1 := vl_lt hA'
    have h2 := vl_lt hB'
    rw [hl'] at h1
    have ha : a < 2 := hA a List.mem_cons_self
    have hb : b < 2 := hB b List.mem_cons_self
    rcases (show (a = 0 ∨ a = 1) ∧ (b = 0 ∨ b = 1) by omega) with ⟨h3 | h3, h4 | h4⟩
    · subst h3; subst h4
      rw [if_pos rfl]
      by_cases h : vl A < vl B
      · rw [if_pos h, if_pos (by omega)]
      · rw [if_neg h, if_neg (by omega)]
    · subst h3; subst h4
      rw [if_neg (by decide), if_pos (by decide), if_pos (by omega)]
    · subst h3; subst h4
      rw [if_neg (by decide), if_neg (by decide), if_neg (by omega)]
    · subst h3; subst h4
      rw [if_pos rfl]
      by_cases h : vl A < vl B
      · rw [if_pos h, if_pos (by omega)]
      · rw [if_neg h, if_neg (by omega)]
theorem lx_same : ∀ (A X Y : List Nat), lx (A ++ X) (A ++ Y) = lx X Y
  | [], _, _ => rfl
  | a :: A, X, Y => by
    show lx (a :: (A ++ X)) (a :: (A ++ Y)) = _
    rw [lx_c, if_pos rfl, lx_same A X Y]
theorem lx_app : ∀ {A B : List Nat} (X Y : List Nat), A.length = B.length → A ≠ B → lx (A ++ X) (B ++ Y) = lx A B
  | [], [], _, _, _, h => absurd rfl h
  | a :: A, b :: B, X, Y, hl, h => by
    show lx (a :: (A ++ X)) (b :: (B ++ Y)) = _
    rw [lx_c, lx_c]
    by_cases hab : a = b
    · rw [if_pos hab, if_pos hab]
      exact lx_app X Y (by simpa using hl) (fun e => h (by rw [hab, e]))
    · rw [if_neg hab, if_neg hab]
theorem pad_cut {A : List Nat} {p : Nat} (hA : Bt A) (hp : p ≤ A.length) (hl : A.length ≤ 41) : ∃ x, x < 2 ^ (41 - p) ∧ vl A * 2 ^ (41 - A.length) = vl (A.take p) * 2 ^ (41 - p) + x := by
  have e : A = A.take p ++ A.drop p := (List.take_append_drop p A).symm
  have hd : (A.drop p).length = A.length - p := List.length_drop
  have h1 := vl_lt (Bt_drop p hA)
  rw [hd] at h1
  refine ⟨vl (A.drop p) * 2 ^ (41 - A.length), ?_, ?_⟩
  · have e2 : 2 ^ (41 - p) = 2 ^ (A.length - p) * 2 ^ (41 - A.length) := by rw [← Nat.pow_add]; congr 1; omega
    rw [e2]
    exact Nat.mul_lt_mul_of_pos_right h1 (Nat.two_pow_pos _)
  · have e3 : vl A = vl (A.take p) * 2 ^ (A.length - p) + vl (A.drop p) := by
      have := vl_app (A.take p) (A.drop p)
      rwa [← e, hd] at this
    rw [e3, Nat.add_mul, Nat.mul_assoc, ← Nat.pow_add, show A.length - p + (41 - A.length) = 41 - p by omega]
theorem mul_lt_iff {a b x y q : Nat} (hx : x < q) (hy : y < q) (hab : a ≠ b) : (a * q + x < b * q + y ↔ a < b) ∧ a * q + x ≠ b * q + y := by
  rcases Nat.lt_or_gt_of_ne hab with h | h
  · have : (a + 1) * q ≤ b * q := Nat.mul_le_mul_right q h
    rw [Nat.add_mul, Nat.one_mul] at this
    omega
  · have : (b + 1) * q ≤ a * q := Nat.mul_le_mul_right q h
    rw [Nat.add_mul, Nat.one_mul] at this
    omega
theorem lx_pad {A B : List Nat} {p : Nat} (X Y : List Nat) (hA : Bt A) (hB : Bt B) (hpA : p ≤ A.length) (hpB : p ≤ B.length) (hlA : A.length ≤ 41) (hlB : B.length ≤ 41) (he : A.take p = B.take p → A.length = p ∧ B.length = p) :
    lx (A ++ X) (B ++ Y) = (if vl A * 2 ^ (41 - A.length) = vl B * 2 ^ (41 - B.length) then lx X Y else if vl A * 2 ^ (41 - A.length) < vl B * 2 ^ (41 - B.length) then 1 else 0) ∧ (vl A * 2 ^ (41 - A.length) = vl B * 2 ^ (41 - B.length) → A = B) := by
  by_cases h : A.take p = B.take p
  · obtain ⟨h1, h2⟩ := he h
    rw [tk_a (by omega), tk_a (by omega)] at h
    subst h
    rw [if_pos rfl]
    exact ⟨lx_same A X Y, fun _ => rfl⟩
  · obtain ⟨x, x1, x2⟩ := pad_cut hA hpA hlA
    obtain ⟨y, y1, y2⟩ := pad_cut hB hpB hlB
    have lA : (A.take p).length = p := by rw [List.length_take]; omega
    have lB : (B.take p).length = p := by rw [List.length_take]; omega
    have hv : vl (A.take p) ≠ vl (B.take p) := fun e => h (vl_inj (Bt_take p hA) (Bt_take p hB) (by omega) e)
    obtain ⟨m1, m2⟩ := mul_lt_iff (q := 2 ^ (41 - p)) x1 y1 hv
    rw [x2, y2, if_neg m2]
    refine ⟨?_, fun e => absurd e m2⟩
    have eA : A ++ X = A.take p ++ (A.drop p ++ X) := by rw [← List.append_assoc, List.take_append_drop]
    have eB : B ++ Y = B.take p ++ (B.drop p ++ Y) := by rw [← List.append_assoc, List.take_append_drop]
    rw [eA, eB, lx_app _ _ (by omega) h, lx_vl (Bt_take p hA) (Bt_take p hB) (by omega)]
    by_cases hlt : vl (A.take p) < vl (B.take p)
    · rw [if_pos hlt, if_pos (m1.mpr hlt)]
    · rw [if_neg hlt, if_neg (fun e => hlt (m1.mp e))]
theorem gD_take {A : List Nat} {p i : Nat} (h : i < p) : (A.take p).getD i 0 = A.getD i 0 := by
  rw [List.getD_eq_getElem?_getD, List.getD_eq_getElem?_getD, List.getElem?_take, if_pos h]
theorem gD_app {A B : List Nat} {i : Nat} (h : A.length ≤ i) : (A ++ B).getD i 0 = B.getD (i - A.length) 0 := by
  rw [List.getD_eq_getElem?_getD, List.getD_eq_getElem?_getD, List.getElem?_append_right h]
theorem hdL_13 (k id c : Nat) : (hdL k id c).getD 13 0 = isL k := by
  have h1 := isL_lt k
  unfold hdL
  by_cases h : isL k = 1
  · rw [if_pos h, if_pos h, List.append_assoc, List.append_assoc, gD_app (by simp [bt_len])]
    have : ([0] ++ bt (id / 2 ^ 18) 11).length = 12 := by simp [bt_len]
    rw [this, h]; rfl
  · rw [if_neg h, if_neg h, List.append_assoc, List.append_assoc, gD_app (by simp [bt_len])]
    have : ([0] ++ bt id 11).length = 12 := by simp [bt_len]
    rw [this, show isL k = 0 by omega]; rfl
theorem hdL_at (k id c : Nat) : (hdL k id c).getD (if isL k = 1 then 33 else 14) 0 = isF k := by
  have h1 := isL_lt k
  have h2 := isF_lt k
  unfold hdL
  by_cases h : isL k = 1
  · simp only [if_pos h]
    rw [List.append_assoc, gD_app (by simp [bt_len])]
    have : ([0] ++ bt (id / 2 ^ 18) 11 ++ ([1] ++ [1] ++ bt (id % 2 ^ 18) 18 ++ [isR k])).length = 33 := by simp [bt_len]
    rw [this]
    by_cases hf : isF k = 1
    · rw [if_pos hf, hf]; rfl
    · rw [if_neg hf, show isF k = 0 by omega]; rfl
  · simp only [if_neg h]
    rw [List.append_assoc, gD_app (by simp [bt_len])]
    have : ([0] ++ bt id 11 ++ ([isR k] ++ [0])).length = 14 := by simp [bt_len]
    rw [this]
    by_cases hf : isF k = 1
    · rw [if_pos hf, hf]; rfl
    · rw [if_neg hf, show isF k = 0 by omega]; rfl
theorem hdL_r (k id c : Nat) : (hdL k id c).getD (if isL k = 1 then 32 else 12) 0 = isR k := by
  have h1 := isL_lt k
  unfold hdL
  by_cases h : isL k = 1
  · simp only [if_pos h]
    rw [show [0] ++ bt (id / 2 ^ 18) 11 ++ ([1] ++ [1] ++ bt (id % 2 ^ 18) 18 ++ [isR k]) ++ (if isF k = 1 then bt 8 4 else bt 0 2) ++ bt c 4 = ([0] ++ bt (id / 2 ^ 18) 11 ++ [1] ++ [1] ++ bt (id % 2 ^ 18) 18) ++ ([isR k] ++ ((if isF k = 1 then bt 8 4 else bt 0 2) ++ bt c 4)) by simp only [List.append_assoc], gD_app (by simp [bt_len])]
    have : ([0] ++ bt (id / 2 ^ 18) 11 ++ [1] ++ [1] ++ bt (id % 2 ^ 18) 18).length = 32 := by simp [bt_len]
    rw [this]; rfl
  · simp only [if_neg h]
    rw [show [0] ++ bt id 11 ++ ([isR k] ++ [0]) ++ (if isF k = 1 then bt 8 4 else bt 0 1) ++ bt c 4 = ([0] ++ bt id 11) ++ ([isR k] ++ ([0] ++ ((if isF k = 1 then bt 8 4 else bt 0 1) ++ bt c 4))) by simp only [List.append_assoc], gD_app (by simp [bt_len])]
    have : ([0] ++ bt id 11).length = 12 := by simp [bt_len]
    rw [this]; rfl
theorem k_of : ∀ k, k < 6 → ∀ j, j < 6 → isL k = isL j → isF k = isF j → isR k = isR j → k = j := by decide +kernel
theorem hdL_c {k id c : Nat} (hc : c < 16) : vl (hdL k id c) % 16 = c := by
  unfold hdL
  have h := vl_lo ([0] ++ bt (if isL k = 1 then id / 2 ^ 18 else id) 11 ++ (if isL k = 1 then [1] ++ [1] ++ bt (id % 2 ^ 18) 18 ++ [isR k] else [isR k] ++ [0]) ++ (if isF k = 1 then bt 8 4 else bt 0 (if isL k = 1 then 2 else 1))) (bt c 4) (bt_Bt c 4)
  rw [bt_len, vl_bt] at h
  have h2 : vl ([0] ++ bt (if isL k = 1 then id / 2 ^ 18 else id) 11 ++ (if isL k = 1 then [1] ++ [1] ++ bt (id % 2 ^ 18) 18 ++ [isR k] else [isR k] ++ [0]) ++ (if isF k = 1 then bt 8 4 else bt 0 (if isL k = 1 then 2 else 1)) ++ bt c 4) % 16 = c % 16 := h
  rw [h2, Nat.mod_eq_of_lt hc]
theorem hdL_inj {k id c k' id' c' : Nat} (hk : k < 6) (hk' : k' < 6) (hc : c < 16) (hc' : c' < 16) (h : hdL k id c = hdL k' id' c') : k = k' ∧ c = c' := by
  have e1 : isL k = isL k' := by rw [← hdL_13 k id c, ← hdL_13 k' id' c', h]
  have e2 : isF k = isF k' := by rw [← hdL_at k id c, ← hdL_at k' id' c', h, e1]
  have e3 : isR k = isR k' := by rw [← hdL_r k id c, ← hdL_r k' id' c', h, e1]
  refine ⟨k_of k hk k' hk' e1 e2 e3, ?_⟩
  rw [← hdL_c (k := k) (id := id) hc, h, hdL_c hc']
theorem lx_pl {k id c k' id' c' : Nat} {o o' : Nat → Nat} (hk : k < 6) (hk' : k' < 6) (hc : c < 16) (hc' : c' < 16) :
    lx (plL k id c o) (plL k' id' c' o') = (if hdN k id c = hdN k' id' c' then lx (ocL o (octs k c)) (ocL o' (octs k' c')) else if hdN k id c < hdN k' id' c' then 1 else 0) ∧ (hdN k id c = hdN k' id' c' → octs k c = octs k' c') := by
  have hA := hdL_Bt k id c
  have hB := hdL_Bt k' id' c'
  have lA := hdL_len k id c
  have lB := hdL_len k' id' c'
  have vA := hlen_le (l := isL k) (f := isF k)
  have vB := hlen_le (l := isL k') (f := isF k')
  have l1 := isL_lt k
  have l2 := isL_lt k'
  have f1 := isF_lt k
  have f2 := isF_lt k'
  have hN : hdN k id c = vl (hdL k id c) * 2 ^ (41 - (hdL k id c).length) := by unfold hdN; rw [lA]
  have hN' : hdN k' id' c' = vl (hdL k' id' c') * 2 ^ (41 - (hdL k' id' c').length) := by unfold hdN; rw [lB]
  rw [hN, hN']
  unfold plL
  have fin : ∀ p, p ≤ (hdL k id c).length → p ≤ (hdL k' id' c').length → ((hdL k id c).take p = (hdL k' id' c').take p → (hdL k id c).length = p ∧ (hdL k' id' c').length = p) → lx (hdL k id c ++ ocL o (octs k c)) (hdL k' id' c' ++ ocL o' (octs k' c')) = (if vl (hdL k id c) * 2 ^ (41 - (hdL k id c).length) = vl (hdL k' id' c') * 2 ^ (41 - (hdL k' id' c').length) then lx (ocL o (octs k c)) (ocL o' (octs k' c')) else if vl (hdL k id c) * 2 ^ (41 - (hdL k id c).length) < vl (hdL k' id' c') * 2 ^ (41 - (hdL k' id' c').length) then 1 else 0) ∧ (vl (hdL k id c) * 2 ^ (41 - (hdL k id c).length) = vl (hdL k' id' c') * 2 ^ (41 - (hdL k' id' c').length) → octs k c = octs k' c') := by
    intro p p1 p2 p3
    obtain ⟨r1, r2⟩ := lx_pad (ocL o (octs k c)) (ocL o' (octs k' c')) hA hB p1 p2 (by omega) (by omega) p3
    refine ⟨r1, fun e => ?_⟩
    obtain ⟨g1, g2⟩ := hdL_inj hk hk' hc hc' (r2 e)
    rw [g1, g2]
  by_cases hL : isL k = isL k'
  · by_cases hF : isF k = isF k'
    · refine fin (hdL k id c).length (Nat.le_refl _) (by rw [lA, lB, hL, hF]; exact Nat.le_refl _) (fun _ => ⟨rfl, by rw [lA, lB, hL, hF]⟩)
    · have hat : (if isL k = 1 then 33 else 14) + 1 ≤ hlen (isL k) (isF k) := by unfold hlen; split <;> split <;> (try split) <;> omega
      have hat' : (if isL k = 1 then 33 else 14) + 1 ≤ hlen (isL k') (isF k') := by rw [hL]; unfold hlen; split <;> split <;> (try split) <;> omega
      refine fin ((if isL k = 1 then 33 else 14) + 1) (by omega) (by omega) (fun e => absurd ?_ hF)
      have e1 := congrArg (fun L => List.getD L (if isL k = 1 then 33 else 14) 0) e
      rw [gD_take (by omega), gD_take (by omega), hdL_at, hL, hdL_at] at e1
      exact e1
  · refine fin 14 (by omega) (by omega) (fun e => absurd ?_ hL)
    have e1 := congrArg (fun L => List.getD L 13 0) e
    rw [gD_take (by omega), gD_take (by omega), hdL_13, hdL_13] at e1
    exact e1
def ocF (o : Nat → Nat) : Nat → Nat → List Nat
  | _, 0 => []
  | i, d + 1 => bt (o i) 8 ++ ocF o (i + 1) d
theorem ocF_q (o : Nat → Nat) (i d : Nat) : ocF o i (d + 1) = bt (o i) 8 ++ ocF o (i + 1) d := rfl
theorem ocL_F (o : Nat → Nat) : ∀ d i, ocL o (i + d) = ocL o i ++ ocF o i d
  | 0, i => by show ocL o i = ocL o i ++ []; rw [List.append_nil]
  | d + 1, i => by
    rw [show i + (d + 1) = (i + 1) + d by omega, ocL_F o d (i + 1), ocF_q, ← List.append_assoc]
    rfl
theorem lx_oct {x y : Nat} (X Y : List Nat) (hx : x < 256) (hy : y < 256) : lx (bt x 8 ++ X) (bt y 8 ++ Y) = if x = y then lx X Y else if x < y then 1 else 0 := by
  have e : ∀ z, z < 256 → vl (bt z 8) = z := fun z hz => by rw [vl_bt]; exact Nat.mod_eq_of_lt hz
  by_cases h : x = y
  · subst h; rw [if_pos rfl, lx_same]
  · rw [if_neg h, lx_app _ _ (by rw [bt_len, bt_len]) (fun e9 => h (by rw [← e x hx, e9, e y hy])), lx_vl (bt_Bt _ _) (bt_Bt _ _) (by rw [bt_len, bt_len]), e x hx, e y hy]
