/-! the model: arrays as lists -/
def sv (v v' : Nat → Int32) : Prop := ∀ k, k ≠ 34 → k ≠ 37 → k ≠ 38 → (k < 41 ∨ 46 < k) → v' k = v k
def sm (m m' : Nat → Nat → Int32) : Prop := ∀ k, (k < 26 ∨ 30 < k) → m' k = m k
theorem sv_r (v : Nat → Int32) : sv v v := fun _ _ _ _ _ => rfl
theorem sm_r (m : Nat → Nat → Int32) : sm m m := fun _ _ => rfl
theorem sv_t {a b c : Nat → Int32} (h1 : sv a b) (h2 : sv b c) : sv a c := fun k k1 k2 k3 k4 => by rw [h2 k k1 k2 k3 k4, h1 k k1 k2 k3 k4]
theorem sm_t {a b c : Nat → Nat → Int32} (h1 : sm a b) (h2 : sm b c) : sm a c := fun k k1 => by rw [h2 k k1, h1 k k1]
theorem sv_u {v v' : Nat → Int32} (h : sv v v') (k : Nat) (x : Int32) (hk : k = 34 ∨ k = 37 ∨ k = 38 ∨ (41 ≤ k ∧ k ≤ 46)) : sv v (upd v' k x) := by
  intro j j1 j2 j3 j4
  rw [up_n _ _ (by omega)]
  exact h j j1 j2 j3 j4
theorem sm_u {m m' : Nat → Nat → Int32} (h : sm m m') (k : Nat) (x : Nat → Int32) (hk : 26 ≤ k ∧ k ≤ 30) : sm m (va_up m' k x) := by
  intro j j1
  rw [vu_n _ _ (by omega)]
  exact h j j1
def arr (g : Nat → Int32) (l : List Nat) : Prop := ∀ k, k < l.length → g k = nI (l.getD k 0)
theorem arr_nil (g : Nat → Int32) : arr g [] := fun k h => absurd h (Nat.not_lt_zero k)
theorem arr_s {g : Nat → Int32} {l : List Nat} {b n : Nat} (h : arr g l) (hn : n = l.length) : arr (upd g n (nI b)) (l ++ [b]) := by
  subst hn
  intro k hk
  rw [len_s] at hk
  by_cases h1 : k = l.length
  · rw [h1, up_s, gD_e rfl]
  · rw [up_n _ _ h1, gD_l (by omega), h k (by omega)]
theorem arr_take {g : Nat → Int32} {l : List Nat} (n : Nat) (h : arr g l) : arr g (l.take n) := by
  intro k hk
  rw [List.length_take] at hk
  rw [h k (by omega), List.getD_eq_getElem?_getD, List.getD_eq_getElem?_getD, List.getElem?_take, if_pos (by omega)]
theorem tk_s {l : List Nat} {k : Nat} (h : k < l.length) : l.take (k + 1) = l.take k ++ [l.getD k 0] := by
  rw [List.take_add_one, List.getD_eq_getElem?_getD, List.getElem?_eq_getElem h]
  rfl
theorem m_check {v : Nat → Int32} {m : Nat → Nat → Int32} {n b : Nat} (h : v 41 = nI n) (hn : n < 1200) (hb : b < 2) : f_X8_check v m (nI b) = some (upd v 41 (nI (n + 1)), va_up m 30 (upd (m 30) n (nI b))) := by
  unfold f_X8_check
  rw [h, gdT _ (in_nI hn (by decide)), nI_clamp (by omega), n_byte b (by omega), show nI n + 1 = nI (n + 1) from nI_add _ 1]
theorem mv_loop {w p : Nat} {v : Nat → Int32} {m : Nat → Nat → Int32} {l : List Nat} {k13 : Int32 × Int32 → Option Int32} (hw : 2 ≤ w) (hw2 : w ≤ 21) (hp : p < 2 ^ w) (hv : v 41 = nI l.length) (hm : arr (m 30) l) (hl : l.length ≤ 1200) (hB : Bt l) :
    ∀ d k nn x, d + k = l.length → d < nn → x < 2 ^ w → L_X8_checkOf_48 v (nI (2 ^ (w - 1))) m (nI p) k13 nn (nI k) (nI x) = k13 (nI l.length, nI ((l.drop k).foldl (mv w p) x)) := by
  intro d
  have hw31 : 2 ^ w ≤ 2 ^ 21 := Nat.pow_le_pow_right (by decide) hw2
  have hwe : 2 ^ w = 2 * 2 ^ (w - 1) := by
    obtain ⟨k, rfl⟩ : ∃ k, w = k + 1 := ⟨w - 1, by omega⟩
    rw [Nat.add_sub_cancel, Nat.pow_succ, Nat.mul_comm]
  have hpos : 0 < 2 ^ (w - 1) := Nat.two_pow_pos _
  induction d with
  | zero =>
    intro k nn x hk hn hx
    obtain ⟨nn, rfl⟩ : ∃ q, nn = q + 1 := ⟨nn - 1, by omega⟩
    have hk' : k = l.length := by omega
    subst hk'
    show (if v 41 ≤ nI l.length then _ else _) = _
    rw [hv, if_pos (by rw [nI_leI (by omega) (by omega)]; omega), dr_o (Nat.le_refl _)]
    rfl
  | succ d ih =>
    intro k nn x hk hn hx
    obtain ⟨nn, rfl⟩ : ∃ q, nn = q + 1 := ⟨nn - 1, by omega⟩
    have hkl : k < l.length := by omega
    have hb : l.getD k 0 < 2 := Bt_getD k hB
    have hq : x / 2 ^ (w - 1) < 2 := by rw [Nat.div_lt_iff_lt_mul hpos]; omega
    have hmod : x % 2 ^ (w - 1) < 2 ^ (w - 1) := Nat.mod_lt _ hpos
    have hz : ¬ nI (2 ^ (w - 1)) = 0 := nI_ne0 hpos (by omega)
    show (if v 41 ≤ nI k then _ else gd _ (gd _ (lt _ _))) = _
    rw [hv, if_neg (by rw [nI_leI (by omega) (by omega)]; omega), gdT _ hz, gdT _ hz, ltE, gdT _ (in_nI (by omega) (by decide)), ltE, nI_clamp (by omega), hm k hkl]
    rw [n_mod (by omega) (by omega), n_div (by omega) (by omega), show (2 : Int32) * nI (x % 2 ^ (w - 1)) = nI (2 * (x % 2 ^ (w - 1))) from n_mul 2 _, nx_xor, show nI k + 1 = nI (k + 1) from nI_add _ 1]
    have e : (if nI (x / 2 ^ (w - 1)) = nI (l.getD k 0) then nI (2 * (x % 2 ^ (w - 1))) else nI (2 * (x % 2 ^ (w - 1)) ^^^ p)) = nI (mv w p x (l.getD k 0)) := by
      unfold mv
      by_cases h : x / 2 ^ (w - 1) = l.getD k 0
      · rw [if_pos h, if_pos (by rw [h])]
      · rw [if_neg h, if_neg (by rw [nI_eq (by omega) (by omega)]; exact h)]
    rw [e, ih (k + 1) nn _ (by omega) (by omega) (mv_lt (by omega) hp)]
    have e2 : l.drop k = l.getD k 0 :: l.drop (k + 1) := by
      rw [List.drop_eq_getElem_cons hkl, List.getD_eq_getElem?_getD, List.getElem?_eq_getElem hkl]
      rfl
    rw [e2]
    rfl
theorem fu_big {n : Nat} (h : n < 1000000) : n < fu := h
theorem m_sumA {v : Nat → Int32} {m : Nat → Nat → Int32} {l : List Nat} (hv : v 41 = nI l.length) (hm : arr (m 30) l) (hl : l.length ≤ 1200) (hB : Bt l) : f_X8_checkOf v m (nI 15) = some (nI (crA l)) := by
  unfold f_X8_checkOf
  have e1 : nI 1 <<< ((nI 15 - nI 1) &&& nI 31) = nI (2 ^ (15 - 1)) := by decide
  simp (disch := omega) only [li, nI_add, nI_leI, nI_ltI, nI_eq, n_m1, n_mod, n_in, nI_clamp, ltE, jnE, bdS, reduceIte, reduceCtorEq, Nat.reduceAdd, Nat.reduceMul, Nat.reduceSub, Nat.reduceEqDiff, Nat.reduceLeDiff, Nat.reduceLT, Nat.reduceMod, Nat.reduceDiv, not_true_eq_false, not_false_eq_true, and_true, true_and, and_false, false_and, or_true, true_or, or_false, false_or, e1]
  rw [mv_loop (w := 15) (p := 17817) (by decide) (by decide) (by decide) hv hm hl hB l.length 0 fu 0 (by omega) (fu_big (by omega)) (by decide)]
  rfl
theorem m_sumB {v : Nat → Int32} {m : Nat → Nat → Int32} {l : List Nat} (hv : v 41 = nI l.length) (hm : arr (m 30) l) (hl : l.length ≤ 1200) (hB : Bt l) : f_X8_checkOf v m (nI 17) = some (nI (crB l)) := by
  unfold f_X8_checkOf
  have e1 : nI 1 <<< ((nI 17 - nI 1) &&& nI 31) = nI (2 ^ (17 - 1)) := by decide
  simp (disch := omega) only [li, nI_add, nI_leI, nI_ltI, nI_eq, n_m1, n_mod, n_in, nI_clamp, ltE, jnE, bdS, reduceIte, reduceCtorEq, Nat.reduceAdd, Nat.reduceMul, Nat.reduceSub, Nat.reduceEqDiff, Nat.reduceLeDiff, Nat.reduceLT, Nat.reduceMod, Nat.reduceDiv, not_true_eq_false, not_false_eq_true, and_true, true_and, and_false, false_and, or_true, true_or, or_false, false_or, e1]
  rw [show nI (2 ^ (17 - 1)) = nI (2 ^ (17 - 1)) from rfl]
  rw [mv_loop (w := 17) (p := 92251) (by decide) (by decide) (by decide) hv hm hl hB l.length 0 fu 65536 (by omega) (fu_big (by omega)) (by decide)]
  rfl
theorem m_sumC {v : Nat → Int32} {m : Nat → Nat → Int32} {l : List Nat} (hv : v 41 = nI l.length) (hm : arr (m 30) l) (hl : l.length ≤ 1200) (hB : Bt l) : f_X8_checkOf v m (nI 21) = some (nI (crC l)) := by
  unfold f_X8_checkOf
  have e1 : nI 1 <<< ((nI 21 - nI 1) &&& nI 31) = nI (2 ^ (21 - 1)) := by decide
  simp (disch := omega) only [li, nI_add, nI_leI, nI_ltI, nI_eq, n_m1, n_mod, n_in, nI_clamp, ltE, jnE, bdS, reduceIte, reduceCtorEq, Nat.reduceAdd, Nat.reduceMul, Nat.reduceSub, Nat.reduceEqDiff, Nat.reduceLeDiff, Nat.reduceLT, Nat.reduceMod, Nat.reduceDiv, not_true_eq_false, not_false_eq_true, and_true, true_and, and_false, false_and, or_true, true_or, or_false, false_or, e1]
  rw [show nI (2 ^ (21 - 1)) = nI (2 ^ (21 - 1)) from rfl]
  rw [mv_loop (w := 21) (p := 1058969) (by decide) (by decide) (by decide) hv hm hl hB l.length 0 fu 1048576 (by omega) (fu_big (by omega)) (by decide)]
  rfl
theorem vl_sl_s {P : List Nat} {n k : Nat} (h : n + k < P.length) : vl (sl P n (k + 1)) = 2 * vl (sl P n k) + P.getD (n + k) 0 := by
  have e : sl P n (k + 1) = sl P n k ++ [P.getD (n + k) 0] := by
    unfold sl
    rw [tk_s (by rw [List.length_drop]; omega), List.getD_eq_getElem?_getD, List.getD_eq_getElem?_getD, List.getElem?_drop]
  rw [e, vl_snoc]
theorem vl_sl_lt {P : List Nat} (hP : Bt P) (n k : Nat) : vl (sl P n k) < 2 ^ k := by
  refine Nat.lt_of_lt_of_le (vl_lt (Bt_sl hP n k)) (Nat.pow_le_pow_right (by decide) ?_)
  unfold sl
  rw [List.length_take]
  omega
theorem m_numL {m : Nat → Nat → Int32} {P : List Nat} {n k : Nat} (hm : arr (m 26) P) (hP : Bt P) (hl : P.length ≤ 700) (hn : n + k ≤ P.length) (hk : k ≤ 30) (k3 : Int32 × Int32 → Option Int32) : ∀ d j nn, d + j = k → d < nn → L_X8_number_5 (nI n) (nI k) m k3 nn (nI (n + j)) (nI (vl (sl P n j))) = k3 (nI (n + k), nI (vl (sl P n k))) := by
  intro d
  induction d with
  | zero =>
    intro j nn hj hnn
    obtain ⟨nn, rfl⟩ : ∃ q, nn = q + 1 := ⟨nn - 1, by omega⟩
    have : j = k := by omega
    subst this
    show (if nI n + nI j ≤ nI (n + j) then _ else _) = _
    rw [nI_add, if_pos (by rw [nI_leI (by omega) (by omega)]; omega)]
  | succ d ih =>
    intro j nn hj hnn
    obtain ⟨nn, rfl⟩ : ∃ q, nn = q + 1 := ⟨nn - 1, by omega⟩
    have h30 : 2 ^ j ≤ 2 ^ 29 := Nat.pow_le_pow_right (by decide) (by omega)
    show (if nI n + nI k ≤ nI (n + j) then _ else gd _ (lt _ _)) = _
    rw [nI_add, if_neg (by rw [nI_leI (by omega) (by omega)]; omega), gdT _ (in_nI (by omega) (by decide)), ltE, nI_clamp (by omega), hm (n + j) (by omega), show (2 : Int32) * nI (vl (sl P n j)) = nI (2 * vl (sl P n j)) from n_mul 2 _, nI_add, ← vl_sl_s (by omega), show nI (n + j) + 1 = nI (n + (j + 1)) from nI_add _ 1]
    exact ih (j + 1) nn (by omega) (by omega)
theorem sl_0 (P : List Nat) (n : Nat) : vl (sl P n 0) = 0 := by unfold sl; rw [List.take_zero]; rfl
theorem m_number {m : Nat → Nat → Int32} {P : List Nat} {n k : Nat} (hm : arr (m 26) P) (hP : Bt P) (hl : P.length ≤ 700) (hn : n + k ≤ P.length) (hk : k ≤ 30) : f_X8_number m (nI n) (nI k) = some (nI (vl (sl P n k))) := by
  have h := fun k3 => m_numL hm hP hl hn hk k3 k 0 fu (by omega) (fu_big (by omega))
  rw [sl_0, Nat.add_zero] at h
  unfold f_X8_number
  simp only [jnE, li]
  rw [h]
