/-! small functions of both sides, by numbers -/
def octs (k c : Nat) : Nat := if 3 < k then 0 else if k < 2 then (if c ≤ 8 then c else 8) else if c < 9 then c else if c = 9 then 12 else if c = 10 then 16 else if c = 11 then 20 else if c = 12 then 24 else if c = 13 then 32 else if c = 14 then 48 else 64
theorem octs_le (k c : Nat) : octs k c ≤ 64 := by unfold octs; split <;> (try split) <;> (try split) <;> (try split) <;> (try split) <;> (try split) <;> (try split) <;> (try split) <;> (try split) <;> omega
theorem octs_le8 {k : Nat} (c : Nat) (h : ¬ (k = 2 ∨ k = 3)) : octs k c ≤ 8 := by unfold octs; split <;> (try split) <;> (try split) <;> omega
theorem m_octets : ∀ k, k < 6 → ∀ c, c < 16 → f_X8_octetsOf (nI k) (nI c) = some (nI (octs k c)) := by decide +kernel
theorem gdT {β : Type} {P : Prop} (x : Option β) (h : P) : gd P x = x := gd_t h
theorem bdS {α β : Type} (a : α) (k : α → Option β) : bd (some a) k = k a := rfl
theorem ltE {α β : Type} (x : α) (k : α → β) : lt x k = k x := rfl
theorem jnE {α β : Type} (k : α → β) (g : (α → β) → β) : jn k g = g k := rfl
theorem c_octets : ∀ k, k < 6 → ∀ c, c < 16 → f_X7_octetsOf (nI k) (nI c) = some (nI (octs k c)) := by
  intro k hk c hc
  have e : f_X7_octetsOf (nI k) (nI c) = (if nI k ≤ 3 then if 9 ≤ nI c then (if nI k ≤ 1 then some 8 else if 7 ≤ (nI c - 9) then some 8 else some (flx (nI c - 9).toNatClampNeg)) else some (nI c) else some 0) := by
    unfold f_X7_octetsOf
    simp only [jnE]
    split
    · split
      · split
        · rfl
        · split
          · rfl
          · rename_i h1 h2 h3 h4
            rw [gdT]
            have h2' : nI 9 ≤ nI c := h2
            rw [nI_leI (by omega) (by omega)] at h2'
            have e9 : nI c - 9 = nI (c - 9) := n_sub h2'
            rw [e9]
            exact in_nI (by omega) (by omega)
      · rfl
    · rfl
  rw [e]
  exact (by decide +kernel : ∀ k, k < 6 → ∀ c, c < 16 → (if nI k ≤ 3 then if 9 ≤ nI c then (if nI k ≤ 1 then some 8 else if 7 ≤ (nI c - 9) then some 8 else some (flx (nI c - 9).toNatClampNeg)) else some (nI c) else some 0) = some (nI (octs k c))) k hk c hc
def isL (k : Nat) : Nat := if k = 1 ∨ k = 3 ∨ k = 5 then 1 else 0
def isF (k : Nat) : Nat := if k = 2 ∨ k = 3 then 1 else 0
def isR (k : Nat) : Nat := if 3 < k then 1 else 0
def hlen (l f : Nat) : Nat := if l = 0 then (if f = 0 then 19 else 22) else if f = 0 then 39 else 41
theorem c_isLong : ∀ k, k < 6 → f_X7_isLong (nI k) = some (nI (isL k)) := by decide +kernel
theorem c_isFlexible : ∀ k, k < 6 → f_X7_isFlexible (nI k) = some (nI (isF k)) := by decide +kernel
theorem c_isRemote : ∀ k, k < 6 → f_X7_isRemote (nI k) = some (nI (isR k)) := by decide +kernel
theorem c_headLength : ∀ l, l < 2 → ∀ f, f < 2 → f_X7_headLength (nI l) (nI f) = some (nI (hlen l f)) := by decide +kernel
theorem m_long : ∀ k, k < 6 → nI k - nI k / 2 * 2 = nI (isL k) := by decide +kernel
/-- the count of stuff bits, as it is sent -/
def cto (n : Nat) : Nat := match n % 8 with
  | 0 => 0
  | 1 => 3
  | 2 => 6
  | 3 => 5
  | 4 => 12
  | 5 => 15
  | 6 => 10
  | _ => 9
theorem cto_lt (n : Nat) : cto n < 16 := by unfold cto; split <;> omega
theorem n_and7 (n : Nat) : nI n &&& 7 = nI (n % 8) := n_mask n 3
theorem c_count8 : ∀ n, n < 8 → f_X7_countOf (nI n) = some (nI (cto n)) := by decide +kernel
theorem m_count8 : ∀ n, n < 8 → f_X8_countOf (nI n) = some (nI (cto n)) := by decide +kernel
theorem c_count (n : Nat) : f_X7_countOf (nI n) = some (nI (cto n)) := by
  have h := c_count8 (n % 8) (Nat.mod_lt _ (by decide))
  have e : cto (n % 8) = cto n := by unfold cto; rw [Nat.mod_mod]
  rw [e] at h
  rw [← h]
  unfold f_X7_countOf
  rw [n_and7, n_and7, Nat.mod_mod]
theorem m_count {n : Nat} (hn : n < 2 ^ 31) : f_X8_countOf (nI n) = some (nI (cto n)) := by
  have h := m_count8 (n % 8) (Nat.mod_lt _ (by decide))
  have e : cto (n % 8) = cto n := by unfold cto; rw [Nat.mod_mod]
  rw [e] at h
  rw [← h]
  unfold f_X8_countOf
  have e1 : nI n - nI n / 8 * 8 = nI (n % 8) := n_mod (b := 8) hn (by decide)
  have e2 : nI (n % 8) - nI (n % 8) / 8 * 8 = nI (n % 8) := by
    have := n_mod (a := n % 8) (b := 8) (by omega) (by decide)
    rw [Nat.mod_mod] at this
    exact this
  rw [e1, e2]
/-! the registers -/
def mv (w p x b : Nat) : Nat := if x / 2 ^ (w - 1) = b then 2 * (x % 2 ^ (w - 1)) else (2 * (x % 2 ^ (w - 1))) ^^^ p
def rg (w p st x : Nat) : Nat → Int32 := fun j => match j with
  | 0 => nI (2 ^ (w - 1))
  | 1 => nI p
  | 2 => nI st
  | 3 => nI x
  | _ => 0
abbrev rA : Nat → Nat → Int32 := rg 15 17817 0
abbrev rB : Nat → Nat → Int32 := rg 17 92251 65536
abbrev rC : Nat → Nat → Int32 := rg 21 1058969 1048576
theorem rg_up {w p st x y : Nat} : upd (rg w p st x) 3 (nI y) = rg w p st y := by
  funext j
  unfold upd rg
  by_cases h : j = 3
  · subst h; rfl
  · rw [if_neg h]
    split <;> first | rfl | omega
theorem upd2 (f : Nat → Int32) (k : Nat) (x y : Int32) : upd (upd f k x) k y = upd f k y := by
  funext j
  unfold upd
  split <;> rfl
theorem mv_lt {w p x b : Nat} (hw : 1 ≤ w) (hp : p < 2 ^ w) : mv w p x b < 2 ^ w := by
  have e : 2 ^ w = 2 * 2 ^ (w - 1) := by
    obtain ⟨k, rfl⟩ : ∃ k, w = k + 1 := ⟨w - 1, by omega⟩
    rw [Nat.add_sub_cancel, Nat.pow_succ, Nat.mul_comm]
  have h1 : 2 * (x % 2 ^ (w - 1)) < 2 ^ w := by
    have := Nat.mod_lt x (Nat.two_pow_pos (w - 1))
    omega
  unfold mv
  split
  · exact h1
  · exact Nat.xor_lt_two_pow h1 hp
theorem c_move {w p st x b : Nat} (hw : 2 ≤ w) (hw2 : w ≤ 21) (hx : x < 2 ^ w) (hb : b < 2) : f_X3_move (rg w p st x) (nI b) = some (rg w p st (mv w p x b)) := by
  obtain ⟨k, rfl⟩ : ∃ k, w = k + 1 := ⟨w - 1, by omega⟩
  have hk : k < 31 := by omega
  have hpk : 2 ^ (k + 1) = 2 * 2 ^ k := by rw [Nat.pow_succ, Nat.mul_comm]
  have hp31 : 2 ^ (k + 1) ≤ 2 ^ 21 := Nat.pow_le_pow_right (by decide) hw2
  have hpos := Nat.two_pow_pos k
  unfold f_X3_move
  simp only [ltE, jnE]
  show (if (if (nI x &&& nI (2 ^ k)) = 0 then (0 : Int32) else 1) = nI b then some (upd (rg (k + 1) p st x) 3 ((nI x <<< ((1 : Int32) &&& 31)) &&& ((nI (2 ^ k) <<< ((1 : Int32) &&& 31)) - 1))) else some (upd (upd (rg (k + 1) p st x) 3 ((nI x <<< ((1 : Int32) &&& 31)) &&& ((nI (2 ^ k) <<< ((1 : Int32) &&& 31)) - 1))) 3 (((nI x <<< ((1 : Int32) &&& 31)) &&& ((nI (2 ^ k) <<< ((1 : Int32) &&& 31)) - 1)) ^^^ nI p))) = _
  have e1 : nI x <<< ((1 : Int32) &&& 31) = nI (x * 2 ^ 1) := n_shl x (k := 1) (by decide)
  have e2 : nI (2 ^ k) <<< ((1 : Int32) &&& 31) = nI (2 ^ k * 2 ^ 1) := n_shl (2 ^ k) (k := 1) (by decide)
  have e3 : nI (2 ^ k * 2 ^ 1) - 1 = nI (2 ^ (k + 1) - 1) := by
    have := n_sub (a := 2 ^ k * 2 ^ 1) (b := 1) (by omega)
    rw [show 2 ^ (k + 1) = 2 ^ k * 2 ^ 1 from Nat.pow_add 2 k 1]
    exact this
  have e4 : nI (x * 2 ^ 1) &&& nI (2 ^ (k + 1) - 1) = nI (2 * (x % 2 ^ k)) := by
    rw [n_mask]
    congr 1
    rw [show x * 2 ^ 1 = 2 * x by omega, hpk, Nat.mul_mod_mul_left]
  have e5 : (if (nI x &&& nI (2 ^ k)) = 0 then (0 : Int32) else 1) = nI (x / 2 ^ k) := by
    rw [nx_and]
    have hq : x / 2 ^ k < 2 := by rw [Nat.div_lt_iff_lt_mul hpos]; omega
    have hz : x / 2 ^ k = 0 ∨ x / 2 ^ k = 1 := by
      generalize x / 2 ^ k = q at hq
      omega
    rcases hz with h | h
    · have hx' : x < 2 ^ k := by
        rcases Nat.div_eq_zero_iff.mp h with h9 | h9
        · omega
        · exact h9
      have e9 : x &&& 2 ^ k = 0 := by
        apply Nat.eq_of_testBit_eq
        intro i
        rw [Nat.testBit_and, Nat.testBit_two_pow, Nat.zero_testBit]
        by_cases h8 : k = i
        · subst h8; rw [Nat.testBit_lt_two_pow hx']; rfl
        · simp [h8]
      rw [e9, h]; rfl
    · obtain ⟨r, rfl⟩ : ∃ r, x = 2 ^ k + r := by
        refine ⟨x - 2 ^ k, ?_⟩
        have h9 : ¬ x < 2 ^ k := fun h8 => by rw [Nat.div_eq_of_lt h8] at h; omega
        omega
      have hr : r < 2 ^ k := by omega
      have e9 : (2 ^ k + r) &&& 2 ^ k = 2 ^ k := by
        apply Nat.eq_of_testBit_eq
        intro i
        rw [Nat.testBit_and, Nat.testBit_two_pow]
        by_cases h8 : k = i
        · subst h8; rw [Nat.testBit_two_pow_add_eq, Nat.testBit_lt_two_pow hr]; simp
        · simp [h8]
      rw [e9, h, if_neg (by have := nI_ne0 (n := 2 ^ k) hpos (by omega); exact this)]
      rfl
  rw [e1, e2, e3, e4, e5, upd2, nx_xor, rg_up, rg_up]
  have hq : x / 2 ^ k < 2 := by rw [Nat.div_lt_iff_lt_mul hpos]; omega
  unfold mv
  rw [Nat.add_sub_cancel]
  by_cases h : x / 2 ^ k = b
  · rw [if_pos h, h, if_pos rfl]
  · rw [if_neg h, if_neg (fun e => h ((nI_eq (by omega) (by omega)).mp e))]
theorem c_moveA {x b : Nat} (hx : x < 2 ^ 15) (hb : b < 2) : f_X3_move (rA x) (nI b) = some (rA (mv 15 17817 x b)) := c_move (by decide) (by decide) hx hb
theorem c_moveB {x b : Nat} (hx : x < 2 ^ 17) (hb : b < 2) : f_X3_move (rB x) (nI b) = some (rB (mv 17 92251 x b)) := c_move (by decide) (by decide) hx hb
theorem c_moveC {x b : Nat} (hx : x < 2 ^ 21) (hb : b < 2) : f_X3_move (rC x) (nI b) = some (rC (mv 21 1058969 x b)) := c_move (by decide) (by decide) hx hb
/-- the check over a list of bits -/
def crA (l : List Nat) : Nat := l.foldl (mv 15 17817) 0
def crB (l : List Nat) : Nat := l.foldl (mv 17 92251) 65536
def crC (l : List Nat) : Nat := l.foldl (mv 21 1058969) 1048576
theorem fold_lt {w p : Nat} (hw : 1 ≤ w) (hp : p < 2 ^ w) : ∀ (l : List Nat) (x : Nat), x < 2 ^ w → l.foldl (mv w p) x < 2 ^ w
  | [], _, h => h
  | _ :: l, _, _ => fold_lt hw hp l _ (mv_lt hw hp)
theorem crA_lt (l : List Nat) : crA l < 2 ^ 15 := fold_lt (by decide) (by decide) l _ (by decide)
theorem crB_lt (l : List Nat) : crB l < 2 ^ 17 := fold_lt (by decide) (by decide) l _ (by decide)
theorem crC_lt (l : List Nat) : crC l < 2 ^ 21 := fold_lt (by decide) (by decide) l _ (by decide)
theorem crA_s (l : List Nat) (b : Nat) : crA (l ++ [b]) = mv 15 17817 (crA l) b := by simp [crA]
theorem crB_s (l : List Nat) (b : Nat) : crB (l ++ [b]) = mv 17 92251 (crB l) b := by simp [crB]
theorem crC_s (l : List Nat) (b : Nat) : crC (l ++ [b]) = mv 21 1058969 (crC l) b := by simp [crC]
theorem c_addPlain {a b c : List Nat} {x : Nat} (hx : x < 2) : f_X4_addPlain (rA (crA a)) (rB (crB b)) (rC (crC c)) (nI x) = some (rA (crA (a ++ [x])), rB (crB (b ++ [x])), rC (crC (c ++ [x]))) := by
  unfold f_X4_addPlain
  rw [c_moveA (crA_lt a) hx, bdS, c_moveB (crB_lt b) hx, bdS, c_moveC (crC_lt c) hx, bdS, crA_s, crB_s, crC_s]
theorem c_addOther {b c : List Nat} {x : Nat} (hx : x < 2) : f_X4_addOther (rB (crB b)) (rC (crC c)) (nI x) = some (rB (crB (b ++ [x])), rC (crC (c ++ [x]))) := by
  unfold f_X4_addOther
  rw [c_moveB (crB_lt b) hx, bdS, c_moveC (crC_lt c) hx, bdS, crB_s, crC_s]
theorem c_sumsBegin {x y z : Nat} : f_X4_begin (rA x) (rB y) (rC z) = some (rA (crA []), rB (crB []), rC (crC [])) := by
  unfold f_X4_begin f_X3_begin
  simp only [bdS]
  show some (upd (rA x) 3 (nI 0), upd (rB y) 3 (nI 65536), upd (rC z) 3 (nI 1048576)) = _
  rw [rg_up, rg_up, rg_up]
  rfl
theorem c_width {k : Nat} (h : k < 2 ^ 31) : f_X4_flexibleWidth (nI k) = some (nI (if 16 < k then 21 else 17)) := by
  unfold f_X4_flexibleWidth
  simp only [ltE]
  by_cases h1 : 16 < k
  · rw [if_pos h1, if_pos (show (16 : Int32) < nI k from (nI_ltI (a := 16) (by decide) h).mpr h1)]; rfl
  · rw [if_neg h1, if_neg (show ¬ (16 : Int32) < nI k from fun e => h1 ((nI_ltI (a := 16) (by decide) h).mp e))]; rfl
theorem c_ofFlex {k x y : Nat} (h : k < 2 ^ 31) : f_X4_ofFlexible (rB x) (rC y) (nI k) = some (nI (if 16 < k then y else x)) := by
  unfold f_X4_ofFlexible
  simp only [ltE]
  by_cases h1 : 16 < k
  · rw [if_pos h1, if_pos (show (16 : Int32) < nI k from (nI_ltI (a := 16) (by decide) h).mpr h1)]; rfl
  · rw [if_neg h1, if_neg (show ¬ (16 : Int32) < nI k from fun e => h1 ((nI_ltI (a := 16) (by decide) h).mp e))]; rfl
