/-! lists of bits -/
def vl (l : List Nat) : Nat := l.foldl (fun x b => 2 * x + b) 0
def Bt (l : List Nat) : Prop := ∀ x ∈ l, x < 2
theorem vl_nil : vl [] = 0 := rfl
theorem vl_snoc (l : List Nat) (b : Nat) : vl (l ++ [b]) = 2 * vl l + b := by simp [vl]
theorem vl_go (l : List Nat) : ∀ x, l.foldl (fun x b => 2 * x + b) x = x * 2 ^ l.length + vl l := by
  induction l with
  | nil => intro x; simp [vl]
  | cons b l ih =>
    intro x
    have e1 : (b :: l).foldl (fun x b => 2 * x + b) x = l.foldl (fun x b => 2 * x + b) (2 * x + b) := rfl
    have e2 : vl (b :: l) = l.foldl (fun x b => 2 * x + b) (2 * 0 + b) := rfl
    rw [e1, e2, ih, ih, List.length_cons, Nat.pow_succ, Nat.add_mul, Nat.add_mul, Nat.mul_assoc, Nat.mul_comm (2 ^ l.length) 2, ← Nat.mul_assoc x, Nat.mul_comm x 2, Nat.mul_assoc]
    omega
theorem vl_app (l1 l2 : List Nat) : vl (l1 ++ l2) = vl l1 * 2 ^ l2.length + vl l2 := by
  have : vl (l1 ++ l2) = l2.foldl (fun x b => 2 * x + b) (vl l1) := by unfold vl; rw [List.foldl_append]
  rw [this, vl_go]
theorem Bt_nil : Bt [] := by intro x h; cases h
theorem Bt_app {a b : List Nat} (ha : Bt a) (hb : Bt b) : Bt (a ++ b) := by
  intro x h
  rcases List.mem_append.mp h with h | h
  · exact ha x h
  · exact hb x h
theorem Bt_one {b : Nat} (hb : b < 2) : Bt [b] := by intro x h; simp at h; omega
theorem Bt_snoc {a : List Nat} {b : Nat} (ha : Bt a) (hb : b < 2) : Bt (a ++ [b]) := Bt_app ha (Bt_one hb)
theorem Bt_l {a b : List Nat} (h : Bt (a ++ b)) : Bt a := fun x hx => h x (List.mem_append_left _ hx)
theorem Bt_r {a b : List Nat} (h : Bt (a ++ b)) : Bt b := fun x hx => h x (List.mem_append_right _ hx)
theorem Bt_take {a : List Nat} (n : Nat) (h : Bt a) : Bt (a.take n) := fun x hx => h x (List.mem_of_mem_take hx)
theorem Bt_drop {a : List Nat} (n : Nat) (h : Bt a) : Bt (a.drop n) := fun x hx => h x (List.mem_of_mem_drop hx)
theorem Bt_getD {a : List Nat} (n : Nat) (h : Bt a) : a.getD n 0 < 2 := by
  rw [List.getD_eq_getElem?_getD]
  rcases Nat.lt_or_ge n a.length with hn | hn
  · rw [List.getElem?_eq_getElem hn]; exact h _ (List.getElem_mem hn)
  · rw [List.getElem?_eq_none hn]; show 0 < 2; decide
theorem vl_lt : ∀ {l : List Nat}, Bt l → vl l < 2 ^ l.length
  | [], _ => by decide
  | b :: l, h => by
    have h1 : vl l < 2 ^ l.length := vl_lt (fun x hx => h x (List.mem_cons_of_mem _ hx))
    have hb : b < 2 := h b List.mem_cons_self
    have e : vl (b :: l) = vl [b] * 2 ^ l.length + vl l := vl_app [b] l
    have e1 : vl [b] = b := by simp [vl]
    rw [e, e1, List.length_cons, Nat.pow_succ]
    have : b * 2 ^ l.length ≤ 1 * 2 ^ l.length := Nat.mul_le_mul_right _ (by omega)
    omega
theorem vl_hi (A B : List Nat) (hB : Bt B) : vl (A ++ B) / 2 ^ B.length = vl A := by
  rw [vl_app, Nat.mul_comm, Nat.mul_add_div (Nat.two_pow_pos _), Nat.div_eq_of_lt (vl_lt hB), Nat.add_zero]
theorem vl_lo (A B : List Nat) (hB : Bt B) : vl (A ++ B) % 2 ^ B.length = vl B := by
  rw [vl_app, Nat.mul_comm, Nat.mul_add_mod, Nat.mod_eq_of_lt (vl_lt hB)]
theorem vl_mid (A B C : List Nat) (hB : Bt B) (hC : Bt C) : vl (A ++ B ++ C) / 2 ^ C.length % 2 ^ B.length = vl B := by
  rw [vl_hi _ _ hC, vl_lo _ _ hB]
theorem gD_l {a b : List Nat} {n : Nat} (h : n < a.length) : (a ++ b).getD n 0 = a.getD n 0 := by
  rw [List.getD_eq_getElem?_getD, List.getD_eq_getElem?_getD, List.getElem?_append_left h]
theorem gD_e {a : List Nat} {b n : Nat} (h : n = a.length) : (a ++ [b]).getD n 0 = b := by
  subst h; rw [List.getD_eq_getElem?_getD]; simp
theorem gD_o {a : List Nat} {n : Nat} (h : a.length ≤ n) : a.getD n 0 = 0 := by
  rw [List.getD_eq_getElem?_getD, List.getElem?_eq_none h]; rfl
theorem tk_l {a b : List Nat} {n : Nat} (h : n ≤ a.length) : (a ++ b).take n = a.take n := List.take_append_of_le_length h
theorem tk_a {a : List Nat} {n : Nat} (h : a.length ≤ n) : a.take n = a := List.take_of_length_le h
theorem dr_l {a b : List Nat} {n : Nat} (h : n ≤ a.length) : (a ++ b).drop n = a.drop n ++ b := List.drop_append_of_le_length h
theorem dr_o {a : List Nat} {n : Nat} (h : a.length ≤ n) : a.drop n = [] := List.drop_eq_nil_of_le h
/-- a part of a list, of k from n on -/
def sl (P : List Nat) (n k : Nat) : List Nat := (P.drop n).take k
theorem sl_len {P : List Nat} {n k : Nat} (h : n + k ≤ P.length) : (sl P n k).length = k := by unfold sl; rw [List.length_take, List.length_drop]; omega
theorem sl_app {P Q : List Nat} {n k : Nat} (h : n + k ≤ P.length) : sl (P ++ Q) n k = sl P n k := by
  unfold sl
  rw [dr_l (by omega), tk_l (by rw [List.length_drop]; omega)]
theorem Bt_sl {P : List Nat} (h : Bt P) (n k : Nat) : Bt (sl P n k) := Bt_take _ (Bt_drop _ h)
theorem sl_cut {P : List Nat} {n k N : Nat} (h : n + k ≤ N) (hN : N ≤ P.length) : P.take N = P.take n ++ sl P n k ++ sl P (n + k) (N - (n + k)) := by
  unfold sl
  have e1 : P.take N = P.take n ++ (P.drop n).take (N - n) := by
    have := List.take_add (l := P) (i := n) (j := N - n)
    rwa [show n + (N - n) = N by omega] at this
  have e2 : (P.drop n).take (N - n) = (P.drop n).take k ++ ((P.drop n).drop k).take (N - n - k) := by
    have := List.take_add (l := P.drop n) (i := k) (j := N - n - k)
    rwa [show k + (N - n - k) = N - n by omega] at this
  rw [e1, e2, List.drop_drop, List.append_assoc, show N - n - k = N - (n + k) by omega]
theorem vl_sl {P : List Nat} (hP : Bt P) {n k N : Nat} (h : n + k ≤ N) (hN : N ≤ P.length) : vl (P.take N) / 2 ^ (N - (n + k)) % 2 ^ k = vl (sl P n k) := by
  have h1 := vl_mid (P.take n) (sl P n k) (sl P (n + k) (N - (n + k))) (Bt_sl hP _ _) (Bt_sl hP _ _)
  rw [← sl_cut h hN, sl_len (by omega), sl_len (by omega)] at h1
  exact h1
theorem vl_sl1 {P : List Nat} {n : Nat} (h : n < P.length) : vl (sl P n 1) = P.getD n 0 := by
  unfold sl
  rw [List.getD_eq_getElem?_getD, List.getElem?_eq_getElem h, List.drop_eq_getElem_cons h]
  show 2 * 0 + P[n] = P[n]
  omega
/-! a frame as it is heard -/
def aLong (P : List Nat) : Nat := P.getD 13 0
def aAt (P : List Nat) : Nat := if aLong P = 0 then 14 else 33
def aFlex (P : List Nat) : Nat := P.getD (aAt P) 0
def aHl (P : List Nat) : Nat := hlen (aLong P) (aFlex P)
def aRem (P : List Nat) : Nat := P.getD (if aLong P = 0 then 12 else 32) 0
def aKind (P : List Nat) : Nat := aLong P + (if aFlex P = 0 then (if aRem P = 0 then 0 else 4) else 2)
def aLen (P : List Nat) : Nat := vl (sl P (aHl P - 4) 4)
def aId (P : List Nat) : Nat := if aLong P = 0 then vl (sl P 1 11) else vl (sl P 1 11) * 262144 + vl (sl P 14 18)
def aOc (P : List Nat) : Nat := octs (aKind P) (aLen P)
def aBe (P : List Nat) : Nat := aHl P + 8 * aOc P
def aPe (P : List Nat) : Nat := if aFlex P = 0 then aBe P + 15 else aBe P
/-- as far as it is known -/
def kn (P : List Nat) (x y : Nat) : Nat := if aHl P ≤ P.length then x else y
def hE (P : List Nat) : Nat := if P.length ≤ aAt P then 41 else aHl P
def bE (P : List Nat) : Nat := kn P (aBe P) 1000000
def pE (P : List Nat) : Nat := kn P (aPe P) 1000000
def oC (P : List Nat) : Nat := kn P (aOc P) 0
abbrev aEnd (P : List Nat) (ru : Nat) : Prop := P.length = pE P ∧ (aFlex P = 1 ∨ ru < 5)
def aTl (P : List Nat) : Nat := if aFlex P = 0 then 0 else if 16 < aOc P then 32 else 27
def nfs (T : List Nat) : Nat × List Nat := T.foldl (fun p b => (p.1 + 1, if p.1 % 5 = 0 then p.2 else p.2 ++ [b])) (0, [])
def nfx (T : List Nat) : List Nat := (nfs T).2
def aRi (P R T : List Nat) : Nat :=
  if aFlex P = 0 then (if vl (P.drop (aBe P)) = crA (P.take (aBe P)) then 1 else 0)
  else if vl ((nfx (T.take (aTl P))).drop 4) = (if 16 < aOc P then crC (R ++ (nfx (T.take (aTl P))).take 4) else crB (R ++ (nfx (T.take (aTl P))).take 4)) then 1 else 0
abbrev PS := List Nat × List Nat × Nat × Nat × Nat × List Nat
/-- what the tail's bit brings: 0 nothing, 1 2 3 5 an error, 7 taken, 8 ended -/
def tEv (P R : List Nat) (la sb : Nat) (T : List Nat) (b : Nat) : Nat :=
  if T.length < aTl P then
    (if T.length % 5 = 0 then (if b = la then 1 else 0)
     else if T.length = 4 then (if vl (nfx (T ++ [b])) = cto sb then 0 else 1) else 0)
  else if T.length - aTl P = 1 then 0
  else if b = 0 then (if T.length - aTl P = 9 then 5 else 2)
  else if T.length - aTl P = 2 then (if aRi P R T = 0 then 3 else 0)
  else if T.length - aTl P = 8 then 7
  else if T.length - aTl P = 9 then 8 else 0
def evt : PS → Nat → Nat
  | (P, R, la, ru, sb, T), b =>
    if aEnd P ru then tEv P R la sb T b
    else if ru = 5 then (if b = la then 1 else 0)
    else if aFlex (P ++ [b]) = 1 ∧ b = 1 ∧ P.length + 1 = aAt (P ++ [b]) + 2 then 2 else 0
def stp : PS → Nat → PS
  | (P, R, la, ru, sb, T), b =>
    if aEnd P ru then (P, R, b, ru, sb, T ++ [b])
    else if ru = 5 then (P, R ++ [b], b, 1, sb + 1, T)
    else (P ++ [b], R ++ [b], b, if b = la then ru + 1 else 1, sb, T)
theorem evt_q (P R : List Nat) (la ru sb : Nat) (T : List Nat) (b : Nat) : evt (P, R, la, ru, sb, T) b = if aEnd P ru then tEv P R la sb T b else if ru = 5 then (if b = la then 1 else 0) else if aFlex (P ++ [b]) = 1 ∧ b = 1 ∧ P.length + 1 = aAt (P ++ [b]) + 2 then 2 else 0 := rfl
theorem stp_q (P R : List Nat) (la ru sb : Nat) (T : List Nat) (b : Nat) : stp (P, R, la, ru, sb, T) b = if aEnd P ru then (P, R, b, ru, sb, T ++ [b]) else if ru = 5 then (P, R ++ [b], b, 1, sb + 1, T) else (P ++ [b], R ++ [b], b, if b = la then ru + 1 else 1, sb, T) := rfl
def ps0 : PS := ([], [], 1, 0, 0, [])
def goodE (e : Nat) : Prop := e = 0 ∨ e = 7
/-- L was heard without an error, and not to its end -/
def par (L : List Nat) : PS := L.foldl stp ps0
theorem par_nil : par [] = ps0 := rfl
theorem par_s (L : List Nat) (b : Nat) : par (L ++ [b]) = stp (par L) b := by simp [par]
def cln (L : List Nat) : Prop := Bt L ∧ ∀ k, k < L.length → goodE (evt (par (L.take k)) (L.getD k 0))
theorem cln_nil : cln [] := ⟨Bt_nil, fun k h => absurd h (Nat.not_lt_zero k)⟩
theorem cln_s {L : List Nat} {b : Nat} (h : cln L) (hb : b < 2) (he : goodE (evt (par L) b)) : cln (L ++ [b]) := by
  refine ⟨Bt_snoc h.1 hb, fun k hk => ?_⟩
  rw [List.length_append, List.length_singleton] at hk
  rcases Nat.lt_or_ge k L.length with h1 | h1
  · rw [tk_l (by omega), gD_l h1]; exact h.2 k h1
  · have e : k = L.length := by omega
    subst e
    rw [gD_e rfl, tk_l (Nat.le_refl _), List.take_length]
    exact he
theorem cln_take {L : List Nat} (h : cln L) (n : Nat) : cln (L.take n) := by
  refine ⟨Bt_take n h.1, fun k hk => ?_⟩
  rw [List.length_take] at hk
  have h1 := h.2 k (by omega)
  rw [List.take_take, show min k n = k by omega]
  have e : (L.take n).getD k 0 = L.getD k 0 := by
    rw [List.getD_eq_getElem?_getD, List.getD_eq_getElem?_getD, List.getElem?_take, if_pos (by omega)]
  rw [e]; exact h1
theorem nfs_s (T : List Nat) (b : Nat) : nfs (T ++ [b]) = ((nfs T).1 + 1, if (nfs T).1 % 5 = 0 then (nfs T).2 else (nfs T).2 ++ [b]) := by unfold nfs; rw [List.foldl_append]; rfl
theorem nfs_1 (T : List Nat) : (nfs T).1 = T.length := by
  have : ∀ (T : List Nat) (p : Nat × List Nat), (T.foldl (fun p b => (p.1 + 1, if p.1 % 5 = 0 then p.2 else p.2 ++ [b])) p).1 = p.1 + T.length := by
    intro T
    induction T with
    | nil => intro p; rfl
    | cons b T ih => intro p; rw [List.foldl_cons, ih, List.length_cons]; show p.1 + 1 + _ = _; omega
  have h := this T (0, [])
  rw [Nat.zero_add] at h
  exact h
theorem nfx_s (T : List Nat) (b : Nat) : nfx (T ++ [b]) = if T.length % 5 = 0 then nfx T else nfx T ++ [b] := by
  unfold nfx; rw [nfs_s, nfs_1]
theorem nfx_Bt {T : List Nat} (h : Bt T) : Bt (nfx T) := by
  have : ∀ (T : List Nat) (p : Nat × List Nat), Bt T → Bt p.2 → Bt (T.foldl (fun p b => (p.1 + 1, if p.1 % 5 = 0 then p.2 else p.2 ++ [b])) p).2 := by
    intro T
    induction T with
    | nil => intro p _ h; exact h
    | cons b T ih =>
      intro p hT hp
      rw [List.foldl_cons]
      refine ih _ (fun x hx => hT x (List.mem_cons_of_mem _ hx)) ?_
      show Bt (if p.1 % 5 = 0 then p.2 else p.2 ++ [b])
      split
      · exact hp
      · exact Bt_snoc hp (hT b List.mem_cons_self)
  exact this T (0, []) h Bt_nil
/-! how the parts of a frame stay as it grows -/
theorem aHl_at (P : List Nat) : aAt P + 5 ≤ aHl P := by
  unfold aHl aAt hlen
  by_cases h : aLong P = 0
  · rw [if_pos h, if_pos h]; split <;> omega
  · rw [if_neg h, if_neg h]; split <;> omega
theorem aHl_le (P : List Nat) : aHl P ≤ 41 := by unfold aHl hlen; split <;> split <;> omega
theorem aAt_le (P : List Nat) : 14 ≤ aAt P ∧ aAt P ≤ 33 := by unfold aAt; split <;> omega
theorem aLong_s {P : List Nat} (b : Nat) (h : P.length ≠ 13) : aLong (P ++ [b]) = aLong P := by
  unfold aLong
  rcases Nat.lt_or_ge 13 P.length with h1 | h1
  · exact gD_l h1
  · rw [gD_o h1, gD_o (by rw [List.length_append, List.length_singleton]; omega)]
theorem aLong_e {P : List Nat} (b : Nat) (h : P.length = 13) : aLong (P ++ [b]) = b := gD_e h.symm
theorem aAt_s {P : List Nat} (b : Nat) (h : P.length ≠ 13) : aAt (P ++ [b]) = aAt P := by unfold aAt; rw [aLong_s b h]
theorem aFlex_o {P : List Nat} (h : P.length ≤ aAt P) : aFlex P = 0 := gD_o h
theorem aFlex_e {P : List Nat} (b : Nat) (h : P.length = aAt (P ++ [b])) : aFlex (P ++ [b]) = b := gD_e h.symm
theorem len_s (P : List Nat) (b : Nat) : (P ++ [b]).length = P.length + 1 := by rw [List.length_append, List.length_singleton]
theorem aFlex_s {P : List Nat} (b : Nat) (h : P.length ≠ aAt (P ++ [b])) : aFlex (P ++ [b]) = aFlex P := by
  have h3 := aAt_le (P ++ [b])
  rcases Nat.lt_or_ge (aAt (P ++ [b])) P.length with h1 | h1
  · have e := aAt_s (P := P) b (by omega)
    unfold aFlex
    rw [e]
    rw [e] at h1
    exact gD_l h1
  · rw [aFlex_o (P := P ++ [b]) (by rw [len_s]; omega)]
    by_cases h2 : P.length = 13
    · rw [aFlex_o (P := P) (by have := aAt_le P; omega)]
    · rw [aAt_s b h2] at h1; rw [aFlex_o h1]
theorem aHl_s {P : List Nat} (b : Nat) (h : aAt (P ++ [b]) < P.length) : aHl (P ++ [b]) = aHl P := by
  have h3 := aAt_le (P ++ [b])
  unfold aHl
  rw [aLong_s b (by omega), aFlex_s b (by omega)]
theorem aAt_t {P : List Nat} (b : Nat) (h : aAt P < P.length) : aAt (P ++ [b]) = aAt P := aAt_s b (by have := aAt_le P; omega)
/-- once the head is complete nothing of it changes -/
theorem a_stab {P : List Nat} (b : Nat) (h : aHl P ≤ P.length) : aLong (P ++ [b]) = aLong P ∧ aFlex (P ++ [b]) = aFlex P ∧ aHl (P ++ [b]) = aHl P ∧ aKind (P ++ [b]) = aKind P ∧ aLen (P ++ [b]) = aLen P ∧ aId (P ++ [b]) = aId P ∧ aOc (P ++ [b]) = aOc P ∧ aBe (P ++ [b]) = aBe P ∧ aPe (P ++ [b]) = aPe P := by
  have h1 := aHl_at P
  have h2 := aAt_le P
  have e0 := aAt_t (P := P) b (by omega)
  have e1 : aLong (P ++ [b]) = aLong P := aLong_s b (by omega)
  have e2 : aFlex (P ++ [b]) = aFlex P := aFlex_s b (by omega)
  have e3 : aHl (P ++ [b]) = aHl P := by unfold aHl; rw [e1, e2]
  have e4 : aRem (P ++ [b]) = aRem P := by
    unfold aRem
    rw [e1]
    refine gD_l ?_
    have : aAt P = if aLong P = 0 then 14 else 33 := rfl
    by_cases hl : aLong P = 0
    · rw [if_pos hl]; omega
    · rw [if_neg hl] at this ⊢; omega
  have e5 : aKind (P ++ [b]) = aKind P := by unfold aKind; rw [e1, e2, e4]
  have e6 : aLen (P ++ [b]) = aLen P := by unfold aLen; rw [e3, sl_app (by omega)]
  have e7 : aId (P ++ [b]) = aId P := by
    unfold aId
    rw [e1, sl_app (by omega)]
    have : aAt P = if aLong P = 0 then 14 else 33 := rfl
    by_cases hl : aLong P = 0
    · rw [if_pos hl, if_pos hl]
    · rw [if_neg hl] at this
      rw [if_neg hl, if_neg hl, sl_app (by omega)]
  have e8 : aOc (P ++ [b]) = aOc P := by unfold aOc; rw [e5, e6]
  have e9 : aBe (P ++ [b]) = aBe P := by unfold aBe; rw [e3, e8]
  exact ⟨e1, e2, e3, e5, e6, e7, e8, e9, by unfold aPe; rw [e2, e9]⟩
theorem aHl_hd {P : List Nat} (b : Nat) (h : ¬ aHl P ≤ P.length) : P.length < hE P ∧ P.length + 1 ≤ hE (P ++ [b]) := by
  have h1 := aHl_at (P ++ [b])
  have h2 := aAt_le (P ++ [b])
  have h3 := aHl_le P
  constructor
  · unfold hE; split <;> omega
  · unfold hE
    rw [len_s]
    by_cases h4 : P.length + 1 ≤ aAt (P ++ [b])
    · rw [if_pos h4]; omega
    · rw [if_neg h4]
      by_cases h5 : P.length = aAt (P ++ [b])
      · omega
      · rw [aHl_s b (by omega)]; omega
theorem kn_y {P : List Nat} {x y : Nat} (h : aHl P ≤ P.length) : kn P x y = x := if_pos h
theorem kn_n {P : List Nat} {x y : Nat} (h : ¬ aHl P ≤ P.length) : kn P x y = y := if_neg h
theorem hE_y {P : List Nat} (h : aHl P ≤ P.length) : hE P = aHl P := by unfold hE; rw [if_neg (by have := aHl_at P; omega)]
theorem hE_s {P : List Nat} (b : Nat) (h : P.length ≠ aAt (P ++ [b])) : hE (P ++ [b]) = hE P := by
  unfold hE
  have h2 := aAt_le (P ++ [b])
  have h3 := aAt_le P
  rw [len_s]
  by_cases h4 : P.length = 13
  · rw [if_pos (by omega), if_pos (by omega)]
  · have e := aAt_s (P := P) b h4
    rw [e] at h ⊢
    by_cases h5 : P.length ≤ aAt P
    · rw [if_pos (by omega), if_pos h5]
    · rw [if_neg (by omega), if_neg h5, aHl_s b (by rw [e]; omega)]
theorem hE_e {P : List Nat} (b : Nat) (h : P.length = aAt (P ++ [b])) : hE (P ++ [b]) = aHl (P ++ [b]) := by
  unfold hE
  rw [len_s, if_neg (by omega)]
theorem aPe_le {P : List Nat} (hP : Bt P) : aBe P ≤ aPe P ∧ aPe P ≤ 553 ∧ aHl P ≤ aBe P := by
  have h1 := aHl_le P
  have h2 := octs_le (aKind P) (aLen P)
  refine ⟨by unfold aPe; split <;> omega, ?_, by unfold aBe; omega⟩
  unfold aPe aBe aOc
  by_cases h : aFlex P = 0
  · rw [if_pos h]
    have h3 : aHl P ≤ 39 := by unfold aHl hlen; rw [if_pos h]; split <;> (try rw [if_pos h]) <;> omega
    have h4 := octs_le8 (k := aKind P) (aLen P) (by
      unfold aKind
      rw [if_pos h]
      have h6 : aLong P < 2 := Bt_getD 13 hP
      split <;> omega)
    omega
  · rw [if_neg h]; omega
theorem sn_ind {p : List Nat → Prop} (h0 : p []) (h1 : ∀ l b, p l → p (l ++ [b])) (l : List Nat) : p l := by
  have : ∀ l : List Nat, p l.reverse := by
    intro l
    induction l with
    | nil => exact h0
    | cons b l ih => rw [List.reverse_cons]; exact h1 _ _ ih
  have h := this l.reverse
  rwa [List.reverse_reverse] at h
theorem cln_i {L : List Nat} {b : Nat} (h : cln (L ++ [b])) : cln L ∧ b < 2 ∧ goodE (evt (par L) b) := by
  refine ⟨?_, h.1 b (by simp), ?_⟩
  · have := cln_take h L.length
    rwa [tk_l (Nat.le_refl _), List.take_length] at this
  · have := h.2 L.length (by rw [len_s]; omega)
    rwa [gD_e rfl, tk_l (Nat.le_refl _), List.take_length] at this
/-- what holds of all that was heard -/
def pOk (L : List Nat) : PS → Prop
  | (P, R, la, ru, sb, T) => L = R ++ T ∧ Bt P ∧ la < 2 ∧ R.length = P.length + sb ∧ ru ≤ 5 ∧ 4 * sb + ru ≤ P.length ∧ P.length ≤ pE P ∧ (0 < T.length → aEnd P ru) ∧ T.length ≤ aTl P + 9 ∧ (0 < L.length → L.getD (L.length - 1) 0 = la) ∧ (0 < P.length → 0 < ru) ∧ (ru = 0 → P.length = 0)
theorem pE_s {P : List Nat} (b : Nat) (hP : Bt (P ++ [b])) (h : P.length < pE P) : P.length + 1 ≤ pE (P ++ [b]) := by
  unfold pE kn at h ⊢
  rw [len_s]
  by_cases h1 : aHl P ≤ P.length
  · rw [if_pos h1] at h
    have e := a_stab (P := P) b h1
    rw [e.2.2.1, if_pos (by omega), e.2.2.2.2.2.2.2.2]
    omega
  · by_cases h2 : aHl (P ++ [b]) ≤ P.length + 1
    · rw [if_pos h2]
      have h3 := aHl_hd (P := P) b h1
      have h4 := aPe_le hP
      have h5 := hE_y (P := P ++ [b]) (by rw [len_s]; exact h2)
      omega
    · rw [if_neg h2]
      have := aHl_le P
      omega
theorem par_ok : ∀ {L : List Nat}, cln L → pOk L (par L) := by
  intro L
  refine sn_ind (p := fun L => cln L → pOk L (par L)) ?_ ?_ L
  · intro _
    show pOk [] ps0
    refine ⟨rfl, Bt_nil, by decide, rfl, by decide, by decide, Nat.zero_le _, fun h => absurd h (by decide), Nat.zero_le _, fun h => absurd h (by decide), fun h => absurd h (by decide), fun _ => rfl⟩
  · intro L b ih h
    obtain ⟨hc, hb, he⟩ := cln_i h
    have h1 := ih hc
    rw [par_s]
    generalize par L = ps at h1 he
    obtain ⟨P, R, la, ru, sb, T⟩ := ps
    obtain ⟨a1, a2, a3, a4, a5, a6, a7, a8, a9, a10, a11, a12⟩ := h1
    have hl : 0 < (L ++ [b]).length → (L ++ [b]).getD ((L ++ [b]).length - 1) 0 = b := fun _ => gD_e (by rw [len_s]; omega)
    have hT0 : ¬ aEnd P ru → T = [] := fun hn => by
      rcases Nat.eq_zero_or_pos T.length with h9 | h9
      · exact List.length_eq_zero_iff.mp h9
      · exact absurd (a8 h9) hn
    rw [stp_q]
    by_cases hen : aEnd P ru
    · rw [if_pos hen]
      refine ⟨by rw [a1, List.append_assoc], a2, hb, a4, a5, a6, a7, fun _ => hen, ?_, hl, a11, a12⟩
      rw [len_s]
      rw [evt_q, if_pos hen] at he
      unfold tEv at he
      have h10 : T.length - aTl P ≠ 9 := by
        intro h11
        rw [if_neg (by omega), if_neg (by omega)] at he
        by_cases h12 : b = 0
        · rw [if_pos h12, if_pos h11] at he; unfold goodE at he; omega
        · rw [if_neg h12, if_neg (by omega), if_neg (by omega), if_pos h11] at he; unfold goodE at he; omega
      omega
    · rw [if_neg hen]
      have hT := hT0 hen
      subst hT
      rw [List.append_nil] at a1
      subst a1
      by_cases h5 : ru = 5
      · rw [if_pos h5]
        exact ⟨by rw [List.append_nil], a2, hb, by rw [len_s, a4]; omega, by omega, by omega, a7, fun h => absurd h (by decide), Nat.zero_le _, hl, fun _ => by omega, fun h => by omega⟩
      · rw [if_neg h5]
        have h6 : P.length < pE P := by
          rcases Nat.lt_or_ge P.length (pE P) with h7 | h7
          · exact h7
          · exact absurd ⟨by omega, Or.inr (by omega)⟩ hen
        have hP' := Bt_snoc a2 hb
        refine ⟨by rw [List.append_nil], hP', hb, by rw [len_s, len_s, a4]; omega, ?_, ?_, by rw [len_s]; exact pE_s b hP' h6, fun h => absurd h (by decide), Nat.zero_le _, hl, ?_, ?_⟩
        · split <;> omega
        · rw [len_s]; split <;> omega
        · intro _; split <;> omega
        · intro h; split at h <;> omega
