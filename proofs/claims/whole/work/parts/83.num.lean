/-! numbers, for the simplifier: all literals as nI -/
theorem li (k : Nat) : (OfNat.ofNat k : Int32) = nI (OfNat.ofNat k) := Eq.trans rfl rfl
theorem n_m1 {a : Nat} (h : a < 2 ^ 31) : (nI a = -nI 1) ↔ False := by
  constructor
  · intro e
    have := congrArg Int32.toInt e
    rw [nI_toInt h] at this
    have h2 : (-nI 1).toInt = -1 := by decide
    omega
  · intro h; exact h.elim
theorem n_m1' {a : Nat} (h : a < 2 ^ 31) : (-nI 1 = nI a) ↔ False := by
  constructor
  · intro e; exact (n_m1 h).mp e.symm
  · intro h; exact h.elim
theorem n_in {x b : Nat} (hb : b < 2) : (nI x <<< (nI 1 &&& nI 31)) ||| nI b = nI (2 * x + b) := by
  have h := n_shl x (k := 1) (by decide)
  have h2 : nI x <<< (nI 1 &&& nI 31) = nI (x * 2 ^ 1) := h
  rw [h2, n_orS (k := 1) (by omega), show x * 2 ^ 1 + b = 2 * x + b by omega]
theorem l_in {x b : Nat} (hb : b < 2) (hx : x < 2 ^ 62) : (lN x <<< ((nI 1).toInt64 &&& 63)) ||| (nI b).toInt64 = lN (2 * x + b) := by
  rw [wb_shl x (k := 1) (by decide), nI_l (by omega), l_orS (k := 1) (by omega) (by omega), show x * 2 ^ 1 + b = 2 * x + b by omega]
theorem l_sub {x k n : Nat} (hx : x < 2 ^ 62) (hk : k < 64) (hn : n < 32) : (lN x >>> ((nI k).toInt64 &&& 63)).toInt32 &&& nI (2 ^ n - 1) = nI (x / 2 ^ k % 2 ^ n) := by
  rw [l_shr hx hk, l_i, n_mask]
def eC (e : Nat) : Int32 := if e = 0 then -nI 1 else nI e
theorem eC_0 : eC 0 = -nI 1 := rfl
theorem eC_s {e : Nat} (h : e ≠ 0) : eC e = nI e := if_neg h
theorem ne_l {a : Nat} (k : Nat) (h : a ≠ k) (ha : a < 2 ^ 31) (hk : k < 2 ^ 31) : ¬ nI a = nI k := fun e => h ((nI_eq ha hk).mp e)
theorem le_l {a : Nat} (k : Nat) (h : a ≤ k) (hk : k < 2 ^ 31) : nI a ≤ nI k := (nI_leI (by omega) hk).mpr h
theorem nle_l {a : Nat} (k : Nat) (h : ¬ a ≤ k) (ha : a < 2 ^ 31) : ¬ nI a ≤ nI k := fun e => h ((nI_leI ha (by omega)).mp e)
theorem lt_l {a : Nat} (k : Nat) (h : a < k) (hk : k < 2 ^ 31) : nI a < nI k := (nI_ltI (by omega) hk).mpr h
theorem nlt_l {a : Nat} (k : Nat) (h : ¬ a < k) (ha : a < 2 ^ 31) : ¬ nI a < nI k := fun e => h ((nI_ltI ha (by omega)).mp e)
