/-! rows: what is written -/
def bt (x : Nat) : Nat → List Nat
  | 0 => []
  | n + 1 => (x / 2 ^ n % 2) :: bt x n
theorem bt_len (x : Nat) : ∀ n, (bt x n).length = n
  | 0 => rfl
  | n + 1 => by show (bt x n).length + 1 = n + 1; rw [bt_len x n]
theorem bt_Bt (x : Nat) : ∀ n, Bt (bt x n)
  | 0 => Bt_nil
  | n + 1 => by
    intro y hy
    rcases List.mem_cons.mp hy with h | h
    · rw [h]; exact Nat.mod_lt _ (by decide)
    · exact bt_Bt x n y h
theorem vl_cons (b : Nat) (l : List Nat) : vl (b :: l) = b * 2 ^ l.length + vl l := by
  have h := vl_app [b] l
  have e : vl [b] = b := by simp [vl]
  rw [e] at h
  exact h
theorem vl_bt (x : Nat) : ∀ n, vl (bt x n) = x % 2 ^ n
  | 0 => by show 0 = x % 1; omega
  | n + 1 => by
    show vl ((x / 2 ^ n % 2) :: bt x n) = _
    rw [vl_cons, bt_len, vl_bt x n, Nat.pow_succ, Nat.mod_mul, Nat.mul_comm]
    omega
def ocL (o : Nat → Nat) : Nat → List Nat
  | 0 => []
  | n + 1 => ocL o n ++ bt (o n) 8
theorem ocL_len (o : Nat → Nat) : ∀ n, (ocL o n).length = 8 * n
  | 0 => rfl
  | n + 1 => by show (ocL o n ++ bt (o n) 8).length = _; rw [List.length_append, bt_len, ocL_len o n]; omega
theorem ocL_Bt (o : Nat → Nat) : ∀ n, Bt (ocL o n)
  | 0 => Bt_nil
  | n + 1 => Bt_app (ocL_Bt o n) (bt_Bt _ 8)
def hdL (k id c : Nat) : List Nat :=
  [0] ++ bt (if isL k = 1 then id / 2 ^ 18 else id) 11 ++ (if isL k = 1 then [1] ++ [1] ++ bt (id % 2 ^ 18) 18 ++ [isR k] else [isR k] ++ [0]) ++ (if isF k = 1 then bt 8 4 else bt 0 (if isL k = 1 then 2 else 1)) ++ bt c 4
def plL (k id c : Nat) (o : Nat → Nat) : List Nat := hdL k id c ++ ocL o (octs k c)
theorem isL_lt (k : Nat) : isL k < 2 := by unfold isL; split <;> omega
theorem isF_lt (k : Nat) : isF k < 2 := by unfold isF; split <;> omega
theorem isR_lt (k : Nat) : isR k < 2 := by unfold isR; split <;> omega
theorem hdL_len (k id c : Nat) : (hdL k id c).length = hlen (isL k) (isF k) := by
  have h1 := isL_lt k
  have h2 := isF_lt k
  have h1 : isL k = 0 ∨ isL k = 1 := by omega
  have h2 : isF k = 0 ∨ isF k = 1 := by omega
  unfold hdL
  rcases h1 with h1 | h1 <;> rcases h2 with h2 | h2 <;> rw [h1, h2] <;> simp [bt_len, hlen]
theorem hdL_Bt (k id c : Nat) : Bt (hdL k id c) := by
  have h1 := isL_lt k
  have h2 := isF_lt k
  have h3 := isR_lt k
  unfold hdL
  refine Bt_app (Bt_app (Bt_app (Bt_app (Bt_one (by decide)) (bt_Bt _ _)) ?_) ?_) (bt_Bt _ _)
  · split
    · exact Bt_app (Bt_app (Bt_app (Bt_one (by decide)) (Bt_one (by decide))) (bt_Bt _ _)) (Bt_one h3)
    · exact Bt_app (Bt_one h3) (Bt_one (by decide))
  · split <;> exact bt_Bt _ _
theorem plL_len (k id c : Nat) (o : Nat → Nat) : (plL k id c o).length = hlen (isL k) (isF k) + 8 * octs k c := by unfold plL; rw [List.length_append, hdL_len, ocL_len]
theorem plL_Bt (k id c : Nat) (o : Nat → Nat) : Bt (plL k id c o) := Bt_app (hdL_Bt k id c) (ocL_Bt o _)
/-- a head as a number of 41 bits -/
def hdN (k id c : Nat) : Nat := vl (hdL k id c) * 2 ^ (41 - hlen (isL k) (isF k))
theorem hlen_le {l f : Nat} : 19 ≤ hlen l f ∧ hlen l f ≤ 41 := by unfold hlen; split <;> split <;> omega
theorem hdN_lt (k id c : Nat) : hdN k id c < 2 ^ 41 := by
  have h := vl_lt (hdL_Bt k id c)
  rw [hdL_len] at h
  have h2 := hlen_le (l := isL k) (f := isF k)
  unfold hdN
  have e : 2 ^ 41 = 2 ^ hlen (isL k) (isF k) * 2 ^ (41 - hlen (isL k) (isF k)) := by rw [← Nat.pow_add]; congr 1; omega
  rw [e]
  exact Nat.mul_lt_mul_of_pos_right h (Nat.two_pow_pos _)
theorem vl_zeros : ∀ n, vl (List.replicate n 0) = 0
  | 0 => rfl
  | n + 1 => by rw [List.replicate_succ, vl_cons, vl_zeros n]; omega
theorem hdN_bit {k id c i : Nat} (hi : i < hlen (isL k) (isF k)) : hdN k id c / 2 ^ (40 - i) % 2 = (hdL k id c).getD i 0 := by
  have h2 := hlen_le (l := isL k) (f := isF k)
  have hl := hdL_len k id c
  have e : hdN k id c = vl ((hdL k id c ++ List.replicate (41 - hlen (isL k) (isF k)) 0).take 41) := by
    rw [tk_a (by rw [List.length_append, hl, List.length_replicate]; omega), vl_app, vl_zeros, List.length_replicate]
    rfl
  have hB : Bt (hdL k id c ++ List.replicate (41 - hlen (isL k) (isF k)) 0) := Bt_app (hdL_Bt k id c) (by intro x hx; rw [List.eq_of_mem_replicate hx]; decide)
  have h := vl_sl hB (n := i) (k := 1) (N := 41) (by omega) (by rw [List.length_append, hl, List.length_replicate]; omega)
  rw [← e, vl_sl1 (by rw [List.length_append, hl]; omega), gD_l (by omega)] at h
  rw [show 40 - i = 41 - (i + 1) by omega]
  exact h
theorem c_headTail {X l f c : Nat} (hl : l < 2) (hf : f < 2) (hc : c < 16) (hX : X < 2 ^ 33) : (jn (α := Int64) (fun x15 => bd (f_X7_headLength (nI l) (nI f)) (fun u23 => some (((x15 <<< ((4 : Int32).toInt64 &&& 63)) ||| (nI c).toInt64) <<< ((41 - u23).toInt64 &&& 63)))) (fun k21 => if nI f = 0 then lt (α := Int32) (if nI l = 0 then 1 else 2) (fun x25 => lt (α := Int64) (lN X <<< (x25.toInt64 &&& 63)) (fun q29 => k21 q29)) else lt (α := Int64) ((lN X <<< ((4 : Int32).toInt64 &&& 63)) ||| 8) (fun q30 => k21 q30))) = some (lN ((if f = 1 then (X * 16 + 8) * 16 + c else if l = 1 then X * 4 * 16 + c else X * 2 * 16 + c) * 2 ^ (41 - hlen l f))) := by
  have sh : ∀ x n : Nat, n < 64 → lN x <<< ((nI n).toInt64 &&& 63) = lN (x * 2 ^ n) := fun x n hn => wb_shl x hn
  have fin : ∀ Y n : Nat, n ≤ 41 → Y < 2 ^ 40 → ((lN Y <<< ((4 : Int32).toInt64 &&& 63)) ||| (nI c).toInt64) <<< ((41 - nI n).toInt64 &&& 63) = lN ((Y * 16 + c) * 2 ^ (41 - n)) := by
    intro Y n hn hY
    rw [show lN Y <<< ((4 : Int32).toInt64 &&& 63) = lN (Y * 2 ^ 4) from sh _ 4 (by decide), nI_l (by omega), l_orS (k := 4) (by omega) (by omega), show (41 : Int32) - nI n = nI (41 - n) from n_sub (a := 41) hn, sh _ _ (by omega)]
  rw [c_headLength l hl f hf, jnE]
  simp only [bdS, ltE]
  have hlv := hlen_le (l := l) (f := f)
  have h1 : l = 0 ∨ l = 1 := by omega
  have h2 : f = 0 ∨ f = 1 := by omega
  rcases h2 with rfl | rfl
  · rw [if_pos (show nI 0 = 0 from rfl), if_neg (show ¬ (0 = 1) by decide)]
    rcases h1 with rfl | rfl
    · rw [if_pos (show nI 0 = 0 from rfl), if_neg (show ¬ (0 = 1) by decide), show lN X <<< ((1 : Int32).toInt64 &&& 63) = lN (X * 2 ^ 1) from sh _ 1 (by decide), fin _ _ hlv.2 (by omega)]
    · rw [if_neg (show ¬ nI 1 = 0 by decide), if_pos rfl, show lN X <<< ((2 : Int32).toInt64 &&& 63) = lN (X * 2 ^ 2) from sh _ 2 (by decide), fin _ _ hlv.2 (by omega)]
  · rw [if_neg (show ¬ nI 1 = 0 by decide), if_pos rfl, show lN X <<< ((4 : Int32).toInt64 &&& 63) = lN (X * 2 ^ 4) from sh _ 4 (by decide), show lN (X * 2 ^ 4) ||| 8 = lN (X * 2 ^ 4 + 8) from l_orS (k := 4) (a := X) (b := 8) (by decide) (by omega), fin _ _ hlv.2 (by omega)]
theorem hdL_vl {k id c : Nat} (hid : id < (if isL k = 1 then 2 ^ 29 else 2 ^ 11)) (hc : c < 16) : vl (hdL k id c) = (if isF k = 1 then ((if isL k = 1 then ((id / 2 ^ 18 * 4 + 3) * 2 ^ 18 + id % 2 ^ 18) * 2 + isR k else (id * 2 + isR k) * 2) * 16 + 8) * 16 + c else if isL k = 1 then (((id / 2 ^ 18 * 4 + 3) * 2 ^ 18 + id % 2 ^ 18) * 2 + isR k) * 4 * 16 + c else ((id * 2 + isR k) * 2) * 2 * 16 + c) := by
  unfold hdL
  have v1 : ∀ b, vl [b] = b := fun b => by simp [vl]
  have v8 : vl (bt 8 4) = 8 := by decide
  by_cases hl : isL k = 1
  · rw [if_pos hl] at hid
    rw [if_pos hl, if_pos hl, if_pos hl, if_pos hl, if_pos hl]
    have hq : id / 2 ^ 18 < 2 ^ 11 := by omega
    have hr : id % 2 ^ 18 < 2 ^ 18 := Nat.mod_lt _ (by decide)
    by_cases hf : isF k = 1
    · rw [if_pos hf, if_pos hf]
      simp only [vl_app, bt_len, vl_bt, List.length_append, List.length_singleton, v1]
      rw [Nat.mod_eq_of_lt hq, Nat.mod_eq_of_lt hr, Nat.mod_eq_of_lt (show c < 2 ^ 4 from hc)]
      generalize id / 2 ^ 18 = q
      generalize id % 2 ^ 18 = r
      omega
    · rw [if_neg hf, if_neg hf]
      simp only [vl_app, bt_len, vl_bt, List.length_append, List.length_singleton, v1]
      rw [Nat.mod_eq_of_lt hq, Nat.mod_eq_of_lt hr, Nat.mod_eq_of_lt (show c < 2 ^ 4 from hc)]
      generalize id / 2 ^ 18 = q
      generalize id % 2 ^ 18 = r
      omega
  · rw [if_neg hl] at hid
    rw [if_neg hl, if_neg hl, if_neg hl, if_neg hl, if_neg hl]
    by_cases hf : isF k = 1
    · rw [if_pos hf, if_pos hf]
      simp only [vl_app, bt_len, vl_bt, List.length_append, List.length_singleton, v1]
      rw [Nat.mod_eq_of_lt hid, Nat.mod_eq_of_lt (show c < 2 ^ 4 from hc)]
      omega
    · rw [if_neg hf, if_neg hf]
      simp only [vl_app, bt_len, vl_bt, List.length_append, List.length_singleton, v1]
      rw [Nat.mod_eq_of_lt hid, Nat.mod_eq_of_lt (show c < 2 ^ 4 from hc)]
      omega
theorem c_headOf {k id c : Nat} (hk : k < 6) (hid : id < (if isL k = 1 then 2 ^ 29 else 2 ^ 11)) (hc : c < 16) : f_X7_headOf (nI id) (nI k) (nI c) = some (lN (hdN k id c)) := by
  have h1 := isL_lt k
  have h2 := isF_lt k
  have h3 := isR_lt k
  have hv := hdL_vl (k := k) (id := id) (c := c) hid hc
  unfold f_X7_headOf hdN
  rw [c_isLong k hk, bdS, c_isFlexible k hk, bdS, c_isRemote k hk, bdS, hv]
  have er : (if nI (isR k) = 0 then (0 : Int64) else 1) = lN (isR k) := by
    have : isR k = 0 ∨ isR k = 1 := by omega
    rcases this with h | h <;> rw [h] <;> rfl
  rw [ltE, er, ltE]
  have sh : ∀ x n : Nat, n < 64 → lN x <<< ((nI n).toInt64 &&& 63) = lN (x * 2 ^ n) := fun x n hn => wb_shl x hn
  by_cases hl : isL k = 1
  · rw [if_pos hl] at hid
    have e1 : nI id >>> ((18 : Int32) &&& 31) = nI (id / 2 ^ 18) := n_shr (k := 18) (by omega) (by decide)
    have e2 : nI id &&& 262143 = nI (id % 2 ^ 18) := n_mask id 18
    have hq : id / 2 ^ 18 < 2 ^ 11 := by omega
    have hr : id % 2 ^ 18 < 2 ^ 18 := Nat.mod_lt _ (by decide)
    have e3 : (((((nI (id / 2 ^ 18)).toInt64 <<< ((2 : Int32).toInt64 &&& 63)) ||| 3) <<< ((19 : Int32).toInt64 &&& 63)) ||| ((nI (id % 2 ^ 18)).toInt64 <<< ((1 : Int32).toInt64 &&& 63))) ||| lN (isR k) = lN (((id / 2 ^ 18 * 4 + 3) * 2 ^ 18 + id % 2 ^ 18) * 2 + isR k) := by
      rw [nI_l (by omega), nI_l (by omega)]
      rw [show lN (id / 2 ^ 18) <<< ((2 : Int32).toInt64 &&& 63) = lN (id / 2 ^ 18 * 2 ^ 2) from sh _ 2 (by decide)]
      rw [show lN (id / 2 ^ 18 * 2 ^ 2) ||| 3 = lN (id / 2 ^ 18 * 2 ^ 2 + 3) from l_orS (k := 2) (a := id / 2 ^ 18) (b := 3) (by decide) (by omega)]
      rw [show lN (id / 2 ^ 18 * 2 ^ 2 + 3) <<< ((19 : Int32).toInt64 &&& 63) = lN ((id / 2 ^ 18 * 2 ^ 2 + 3) * 2 ^ 19) from sh _ 19 (by decide)]
      rw [show lN (id % 2 ^ 18) <<< ((1 : Int32).toInt64 &&& 63) = lN (id % 2 ^ 18 * 2 ^ 1) from sh _ 1 (by decide)]
      generalize id / 2 ^ 18 = q at hq
      generalize id % 2 ^ 18 = r at hr
      rw [l_orS (k := 19) (by omega) (by omega)]
      rw [show (q * 2 ^ 2 + 3) * 2 ^ 19 + r * 2 ^ 1 = ((q * 4 + 3) * 2 ^ 18 + r) * 2 ^ 1 by omega]
      rw [l_orS (k := 1) (by omega) (by omega)]
    have ex : (if nI (isL k) = 0 then (((nI id).toInt64 <<< ((1 : Int32).toInt64 &&& 63) ||| lN (isR k)) <<< ((1 : Int32).toInt64 &&& 63)) else (((((((nI id >>> ((18 : Int32) &&& 31)).toInt64) <<< ((2 : Int32).toInt64 &&& 63)) ||| 3) <<< ((19 : Int32).toInt64 &&& 63)) ||| (((nI id &&& 262143).toInt64) <<< ((1 : Int32).toInt64 &&& 63))) ||| lN (isR k))) = lN (((id / 2 ^ 18 * 4 + 3) * 2 ^ 18 + id % 2 ^ 18) * 2 + isR k) := by rw [if_neg (show ¬ nI (isL k) = 0 by rw [hl]; decide), e1, e2, e3]
    rw [ex]
    have hb : ((id / 2 ^ 18 * 4 + 3) * 2 ^ 18 + id % 2 ^ 18) * 2 + isR k < 2 ^ 33 := by
      generalize id / 2 ^ 18 = q at hq
      generalize id % 2 ^ 18 = r at hr
      omega
    rw [if_pos hl]
    generalize ((id / 2 ^ 18 * 4 + 3) * 2 ^ 18 + id % 2 ^ 18) * 2 + isR k = X at hb
    rw [c_headTail h1 h2 hc hb]
    by_cases hf : isF k = 1
    · rw [if_pos hf, if_pos hf]
    · rw [if_neg hf, if_neg hf, if_pos hl, if_pos hl]
  · have hl0 : isL k = 0 := by omega
    rw [if_neg hl] at hid
    have e3 : (((nI id).toInt64 <<< ((1 : Int32).toInt64 &&& 63)) ||| lN (isR k)) <<< ((1 : Int32).toInt64 &&& 63) = lN ((id * 2 + isR k) * 2) := by
      rw [nI_l (by omega)]
      rw [show lN id <<< ((1 : Int32).toInt64 &&& 63) = lN (id * 2 ^ 1) from sh _ 1 (by decide)]
      rw [l_orS (k := 1) (by omega) (by omega)]
      exact sh _ 1 (by decide)
    have ex : (if nI (isL k) = 0 then (((nI id).toInt64 <<< ((1 : Int32).toInt64 &&& 63) ||| lN (isR k)) <<< ((1 : Int32).toInt64 &&& 63)) else (((((((nI id >>> ((18 : Int32) &&& 31)).toInt64) <<< ((2 : Int32).toInt64 &&& 63)) ||| 3) <<< ((19 : Int32).toInt64 &&& 63)) ||| (((nI id &&& 262143).toInt64) <<< ((1 : Int32).toInt64 &&& 63))) ||| lN (isR k))) = lN ((id * 2 + isR k) * 2) := by rw [if_pos (show nI (isL k) = 0 by rw [hl0]; rfl), e3]
    rw [ex]
    have hb : (id * 2 + isR k) * 2 < 2 ^ 33 := by omega
    rw [if_neg hl]
    generalize (id * 2 + isR k) * 2 = X at hb
    rw [c_headTail h1 h2 hc hb]
    by_cases hf : isF k = 1
    · rw [if_pos hf, if_pos hf]
    · rw [if_neg hf, if_neg hf, if_neg hl, if_neg hl]
