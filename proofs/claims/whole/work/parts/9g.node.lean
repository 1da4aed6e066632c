/-! counts -/
def rk (g : Nat → Int32) (n : Nat) : Nat → Nat
  | 0 => 0
  | k + 1 => rk g n k + (if g k = nI n then 1 else 0)
theorem rk_s (g : Nat → Int32) (n k : Nat) : rk g n (k + 1) = rk g n k + (if g k = nI n then 1 else 0) := rfl
theorem rk_eq {g g' : Nat → Int32} {n : Nat} : ∀ T, (∀ k, k < T → g' k = g k) → rk g' n T = rk g n T
  | 0, _ => rfl
  | T + 1, h => by rw [rk_s, rk_s, rk_eq T (fun k hk => h k (by omega)), h T (by omega)]
theorem rk_le {g : Nat → Int32} {n : Nat} : ∀ {k T}, k ≤ T → rk g n k ≤ rk g n T
  | k, 0, h => by rw [show k = 0 by omega]; exact Nat.le_refl _
  | k, T + 1, h => by
    rcases Nat.lt_or_ge k (T + 1) with h1 | h1
    · rw [rk_s]; have := rk_le (g := g) (n := n) (show k ≤ T by omega); omega
    · rw [show k = T + 1 by omega]; exact Nat.le_refl _
def sN (f : Nat → Nat) : Nat → Nat
  | 0 => 0
  | n + 1 => sN f n + f n
theorem sN_s (f : Nat → Nat) (n : Nat) : sN f (n + 1) = sN f n + f n := rfl
theorem sN_le {f : Nat → Nat} {B : Nat} : ∀ N, (∀ n, n < N → f n ≤ B) → sN f N ≤ N * B
  | 0, _ => Nat.zero_le _
  | N + 1, h => by
    rw [sN_s, Nat.add_mul, Nat.one_mul]
    exact Nat.add_le_add (sN_le N (fun n hn => h n (by omega))) (h N (by omega))
theorem sN_eq {f f' : Nat → Nat} : ∀ N, (∀ n, n < N → f' n = f n) → sN f' N = sN f N
  | 0, _ => rfl
  | N + 1, h => by rw [sN_s, sN_s, sN_eq N (fun n hn => h n (by omega)), h N (by omega)]
theorem sN_1 {f f' : Nat → Nat} {j : Nat} : ∀ N, j < N → (∀ n, n < N → n ≠ j → f' n = f n) → f' j = f j + 1 → sN f' N = sN f N + 1
  | 0, h, _, _ => absurd h (Nat.not_lt_zero _)
  | N + 1, h, h1, h2 => by
    rw [sN_s, sN_s]
    by_cases hj : j = N
    · subst hj
      rw [h2, sN_eq j (fun n hn => h1 n (by omega) (by omega))]; omega
    · rw [sN_1 N (by omega) (fun n hn hne => h1 n (by omega) hne) h2, h1 N (by omega) (by omega)]; omega
theorem sN_z : ∀ N, sN (fun _ => 0) N = 0
  | 0 => rfl
  | N + 1 => by rw [sN_s, sN_z N]
theorem rk_sum {g : Nat → Int32} : ∀ T, (∀ k, k < T → ∃ n, n < 32 ∧ g k = nI n) → sN (fun n => rk g n T) 32 = T
  | 0, _ => sN_z 32
  | T + 1, h => by
    obtain ⟨j, h1, h2⟩ := h T (by omega)
    have ih := rk_sum T (fun k hk => h k (by omega))
    rw [sN_1 (f := fun n => rk g n T) (f' := fun n => rk g n (T + 1)) 32 h1 ?_ ?_, ih]
    · intro n hn hne
      show rk g n (T + 1) = rk g n T
      rw [rk_s, h2, if_neg (ne_l _ (fun e => hne e.symm) (by omega) (by omega))]; rfl
    · show rk g j (T + 1) = rk g j T + 1
      rw [rk_s, h2, if_pos rfl]
theorem rk_bd {g : Nat → Int32} {T B : Nat} (h : ∀ k, k < T → ∃ n, n < 32 ∧ g k = nI n) (hB : ∀ n, n < 32 → rk g n T ≤ B) : T ≤ 32 * B := by
  have h1 := rk_sum T h
  have h2 := sN_le 32 hB
  have h3 : sN (fun n => rk g n T) 32 ≤ 32 * B := h2
  omega
theorem rk_0 {g : Nat → Int32} {N n : Nat} (hN : N ≤ n) (hn : n < 32) : ∀ T, (∀ k, k < T → ∃ j, j < N ∧ g k = nI j) → rk g n T = 0
  | 0, _ => rfl
  | T + 1, h => by
    obtain ⟨j, h1, h2⟩ := h T (by omega)
    rw [rk_s, rk_0 hN hn T (fun k hk => h k (by omega)), h2, if_neg (ne_l _ (by omega) (by omega) (by omega))]
/-- how many frames wait -/
def wt (D : FD) (n : Nat) : Nat → Nat
  | 0 => 0
  | f + 1 => wt D n f + (if fOw D f = n ∧ fDn D f = 0 then 1 else 0)
theorem wt_s (D : FD) (n f : Nat) : wt D n (f + 1) = wt D n f + (if fOw D f = n ∧ fDn D f = 0 then 1 else 0) := rfl
theorem wt_le (D : FD) (n : Nat) : ∀ f, wt D n f ≤ f
  | 0 => Nat.le_refl _
  | f + 1 => by rw [wt_s]; have := wt_le D n f; split <;> omega
theorem wt_eq {D D' : FD} {n : Nat} : ∀ f, (∀ j, j < f → (fOw D j = n ∧ fDn D j = 0 ↔ fOw D' j = n ∧ fDn D' j = 0)) → wt D' n f = wt D n f
  | 0, _ => rfl
  | f + 1, h => by
    rw [wt_s, wt_s, wt_eq f (fun j hj => h j (by omega))]
    have := h f (by omega)
    by_cases hc : fOw D f = n ∧ fDn D f = 0
    · rw [if_pos hc, if_pos (this.mp hc)]
    · rw [if_neg hc, if_neg (fun e => hc (this.mpr e))]
/-! rows, as the class reads them -/
theorem rowL_le (k id c : Nat) (o : Nat → Nat) : (rowL k id c o).length ≤ 733 ∧ 10 ≤ (rowL k id c o).length := by
  rw [rowL_len]
  have h1 := fW_len k id c o
  have h2 := tx_le (k := k) (id := id) (c := c) (o := o)
  omega
theorem fW_p (k id c : Nat) (o : Nat → Nat) : Bt (fW k id c o).1 ∧ Bt (fW k id c o).2.2.1 ∧ (fW k id c o).2.2.2.1 < 2 ∧ (fW k id c o).2.2.1.length = (fW k id c o).1.length := by
  have h := fW_ok k id c o
  generalize fW k id c o = W at h
  obtain ⟨r, s, f, la, ru, sb⟩ := W
  exact ⟨h.2.2.1, h.2.2.2.2.1, h.2.2.2.2.2.1, h.2.1⟩
theorem rowL_Bt (k id c : Nat) (o : Nat → Nat) : Bt (rowL k id c o) := by
  have h := fW_p k id c o
  unfold rowL
  refine Bt_app (Bt_app h.1 ?_) (fun x hx => by rw [List.eq_of_mem_replicate hx]; decide)
  unfold fT
  split
  · exact (tx_Bt h.2.2.1 (Bt_app (bt_Bt _ _) (bt_Bt _ _))).1
  · exact Bt_nil
theorem flgL_Bt (k id c : Nat) (o : Nat → Nat) : Bt (flgL k id c o) := (fW_p k id c o).2.1
theorem c_bit {r q : Nat} (hr : r < 2) (hq : q < 2) : (nI (r + 2 * q) &&& 1 = nI r) ∧ ((nI (r + 2 * q) = 3) ↔ (r = 1 ∧ q = 1)) := by
  rcases (show (r = 0 ∨ r = 1) ∧ (q = 0 ∨ q = 1) by omega) with ⟨h1 | h1, h2 | h2⟩ <;> subst h1 <;> subst h2 <;> decide
theorem c_rowBit {g b : Nat → Int32} {k id c : Nat} {o : Nat → Nat} {i : Nat} (h : rowC g b k id c o) (hi : i < (rowL k id c o).length) : f_X0_rowBit g b (nI i) = some (nI ((rowL k id c o).getD i 0)) := by
  have h1 := rowL_le k id c o
  unfold f_X0_rowBit
  rw [jnE, if_neg (show ¬ nI i < 0 from nlt_l 0 (by omega) (by omega)), h.1, if_neg (nle_l _ (by omega) (by omega)), gdT _ (in_nI (by omega) (by decide)), nI_clamp (by omega), h.2 i hi, (c_bit (Bt_getD i (rowL_Bt k id c o)) (Bt_getD i (flgL_Bt k id c o))).1]
theorem c_canLose {g b : Nat → Int32} {k id c : Nat} {o : Nat → Nat} {i : Nat} (h : rowC g b k id c o) (hi : i < (rowL k id c o).length) : f_X0_canLoseAt g b (nI i) = some (nI (if (rowL k id c o).getD i 0 = 1 ∧ (flgL k id c o).getD i 0 = 1 then 1 else 0)) := by
  have h1 := rowL_le k id c o
  unfold f_X0_canLoseAt
  rw [jnE, if_neg (show ¬ nI i < 0 from nlt_l 0 (by omega) (by omega)), h.1, if_neg (nle_l _ (by omega) (by omega)), gdT _ (in_nI (by omega) (by decide)), nI_clamp (by omega), h.2 i hi]
  have h2 := (c_bit (Bt_getD i (rowL_Bt k id c o)) (Bt_getD i (flgL_Bt k id c o))).2
  by_cases hc : (rowL k id c o).getD i 0 = 1 ∧ (flgL k id c o).getD i 0 = 1
  · rw [if_pos hc, if_pos (h2.mpr hc)]; rfl
  · rw [if_neg hc, if_neg (fun e => hc (h2.mp e))]; rfl
theorem c_ackAt {g b : Nat → Int32} {k id c : Nat} {o : Nat → Nat} {i : Nat} (h : rowC g b k id c o) (hi : i < (rowL k id c o).length) : f_X0_acknowledgedAt g (nI i) = some (nI (if i + 9 = (rowL k id c o).length then 1 else 0)) := by
  have h1 := rowL_le k id c o
  unfold f_X0_acknowledgedAt
  rw [ltE, h.1, show nI (rowL k id c o).length - 9 = nI ((rowL k id c o).length - 9) from n_sub (b := 9) (by omega)]
  by_cases hc : i + 9 = (rowL k id c o).length
  · rw [if_pos hc, if_pos (by congr 1; omega)]; rfl
  · rw [if_neg hc, if_neg (ne_l _ (by omega) (by omega) (by omega))]; rfl
theorem ws_p (W : WS) : ∃ X, (ws W).1 = W.1 ++ X := by
  obtain ⟨r, s, f, la, ru, sb⟩ := W
  rw [ws_q]
  by_cases h : ru = 5
  · rw [if_pos h]; exact ⟨_, rfl⟩
  · rw [if_neg h]; exact ⟨[], (List.append_nil _).symm⟩
theorem wq_p (W : WS) (b q : Nat) : (wq W b q).1 = W.1 ++ [b] := by
  obtain ⟨r, s, f, la, ru, sb⟩ := W
  rfl
theorem wr_0 (ar : Nat) (P : List Nat) : 0 < P.length → 0 < (wr ar P).1.length ∧ (wr ar P).1.getD 0 0 = P.getD 0 0 := by
  refine sn_ind (p := fun P => 0 < P.length → 0 < (wr ar P).1.length ∧ (wr ar P).1.getD 0 0 = P.getD 0 0) (fun h => absurd h (by decide)) ?_ P
  intro l b ih _
  rw [wr_s]
  unfold wp
  rw [wq_p]
  obtain ⟨X, hX⟩ := ws_p (wr ar l)
  rw [hX]
  rcases Nat.eq_zero_or_pos l.length with h0 | h0
  · have hl := List.length_eq_zero_iff.mp h0
    subst hl
    have : ([] : List Nat) ++ X = (ws w0).1 := hX.symm
    refine ⟨by rw [List.length_append, List.length_append]; show 0 < _ + 1; omega, ?_⟩
    show ([] ++ X ++ [b]).getD 0 0 = b
    rw [this]
    rfl
  · obtain ⟨i1, i2⟩ := ih h0
    refine ⟨by rw [List.length_append, List.length_append]; omega, ?_⟩
    rw [gD_l (by rw [List.length_append]; omega), gD_l i1, i2, gD_l h0]
theorem row0 (k id c : Nat) (o : Nat → Nat) : (rowL k id c o).getD 0 0 = 0 := by
  have hQ := fQ_len (k := k) id c o
  have hlv := hlen_le (l := isL k) (f := isF k)
  obtain ⟨h1, h2⟩ := wr_0 (arb k) (fQ k id c o) (by omega)
  have h3 : 0 < (fW k id c o).1.length ∧ (fW k id c o).1.getD 0 0 = (fQ k id c o).getD 0 0 := by
    unfold fW
    split
    · exact ⟨h1, h2⟩
    · obtain ⟨X, hX⟩ := ws_p (wr (arb k) (fQ k id c o))
      rw [hX, List.length_append, gD_l h1]
      exact ⟨by omega, h2⟩
  have h4 : (fQ k id c o).getD 0 0 = 0 := by
    have hp : (plL k id c o).getD 0 0 = 0 := by
      unfold plL hdL
      simp only [List.append_assoc]
      rfl
    unfold fQ
    split
    · exact hp
    · rw [gD_l (by rw [plL_len]; omega)]; exact hp
  unfold rowL
  rw [gD_l (by rw [List.length_append]; omega), gD_l h3.1, h3.2, h4]
/-! a node -/
def pst (L : List Nat) : Prop := aEnd (par L).1 (par L).2.2.2.1 ∧ (par L).2.2.2.2.2.length = aTl (par L).1 + 9
def cQU (t K oh e : Nat) (nf : Nat → Int32) (st : Int32) : Prop := nf 2 = nI 0 ∧ st = nI 0 ∧ 46 * K ≤ t ∧ 8 * oh ≤ t ∧ 8 * e ≤ t
def cQS (t K oh e : Nat) (r1 r2 : Option Nat) (nf : Nat → Int32) (st : Int32) : Prop := (∃ j, r1 = some j ∧ r2 = some j) ∧ nf 2 = nI 1 ∧ nf 9 = nI 0 ∧ st = nI 0 ∧ 46 * K ≤ t ∧ 8 * oh ≤ t ∧ 8 * e ≤ t
def cSE (D : FD) (F n t K oh e : Nat) (r2 : Option Nat) (nf : Nat → Int32) (st sd sc : Int32) (sn : Nat → Int32) : Prop := ∃ j i, r2 = some j ∧ nf 2 = nI 1 ∧ st = nI 1 ∧ nf 9 = nI i ∧ sd = nI j ∧ sc = nI i ∧ j < F ∧ fOw D j = n ∧ fDn D j = 0 ∧ i < (fR D j).length ∧ (∀ k, k < i → k + 9 < (fR D j).length → sn k = nI ((fR D j).getD k 0)) ∧ 46 * K + i ≤ t ∧ 8 * oh + i ≤ t ∧ 8 * e ≤ t
def cLI (t K oh e : Nat) (nf : Nat → Int32) (h : Int64) (f o a b c : Nat → Int32) (st sc : Int32) (sn : Nat → Int32) : Prop := ∃ L, nf 2 = nI 2 ∧ st = nI 2 ∧ cln L ∧ 0 < L.length ∧ LiS h f o a b c (par L) ∧ sc = nI L.length ∧ (∀ k, k < L.length → sn k = nI (L.getD k 0)) ∧ ((46 * K + L.length ≤ t ∧ 8 * oh + L.length ≤ t) ∨ (pst L ∧ 46 * K + L.length ≤ t + 46 ∧ 8 * oh ≤ t)) ∧ 8 * e ≤ t
def cFL (t K oh e : Nat) (nf : Nat → Int32) (st lf : Int32) : Prop := ∃ q, nf 2 = nI 3 ∧ st = nI 3 ∧ q < 6 ∧ nf 3 = nI q ∧ lf = nI (6 - q) ∧ 46 * K ≤ t + 2 ∧ 8 * oh ≤ t ∧ 8 * e + q ≤ t + 7
def cWA (t K oh e : Nat) (nf : Nat → Int32) (st : Int32) : Prop := nf 2 = nI 4 ∧ st = nI 4 ∧ 46 * K ≤ t + 2 ∧ 8 * oh ≤ t ∧ 8 * e ≤ t + 1
def cCL (t K oh e : Nat) (nf : Nat → Int32) (st lf : Int32) : Prop := ∃ q, nf 2 = nI 5 ∧ st = nI 5 ∧ q < 7 ∧ nf 3 = nI q ∧ lf = nI (7 - q) ∧ 46 * K ≤ t + 2 ∧ 8 * oh ≤ t ∧ 8 * e ≤ t
def cPA (t K oh e : Nat) (nf : Nat → Int32) (st lf : Int32) : Prop := ∃ q, nf 2 = nI 6 ∧ st = nI 6 ∧ q < 3 ∧ nf 3 = nI q ∧ lf = nI (3 - q) ∧ 46 * K + q ≤ t + 2 ∧ 8 * oh ≤ t ∧ 8 * e ≤ t
def cOT (D : FD) (F n t K oh e : Nat) (r2 : Option Nat) (nf : Nat → Int32) (h : Int64) (f o a b c : Nat → Int32) (st lf sd sc : Int32) (sn : Nat → Int32) : Prop := cSE D F n t K oh e r2 nf st sd sc sn ∨ cLI t K oh e nf h f o a b c st sc sn ∨ cFL t K oh e nf st lf ∨ cWA t K oh e nf st ∨ cCL t K oh e nf st lf ∨ cPA t K oh e nf st lf
/-- what class and model have of a node, whatever it is -/
def NC (D : FD) (F n : Nat) (r1 : Option Nat) (nf : Nat → Int32) (mk mt : Int32) : Prop := nf 4 = mk ∧ nf 5 = mt ∧ nf 6 = nI (wt D n F) ∧ r1 = fs D n F
/-- before a bit (ph 0), behind its putting (ph 1) -/
def NSt (ph : Nat) (D : FD) (F n t K oh e : Nat) (r1 r2 : Option Nat) (nf : Nat → Int32) (h : Int64) (f o a b c : Nat → Int32) (st lf sd sc mk mt : Int32) (sn : Nat → Int32) : Prop := NC D F n r1 nf mk mt ∧ (((ph = 0 ∨ r1 = none) ∧ cQU t K oh e nf st) ∨ (ph = 1 ∧ cQS t K oh e r1 r2 nf st) ∨ cOT D F n t K oh e r2 nf h f o a b c st lf sd sc sn)
def sSeg (m : Nat → Nat → Int32) (n : Nat) : Nat → Int32 := fun k => m 15 (1200 * n + k)
theorem ocS {α β : Type} (x : α) (a : β) (b : α → β) : oc (some x) a b = b x := rfl
theorem ocN {α β : Type} (a : β) (b : α → β) : oc none a b = a := rfl
theorem oI_m1 {x : Option Nat} (h : ∀ j, x = some j → j < 200) : oI x = -1 ↔ x = none := by
  cases x with
  | none => exact ⟨fun _ => rfl, fun _ => rfl⟩
  | some j => exact ⟨fun e => absurd e (nm1 (by have := h j rfl; omega)), fun e => by cases e⟩
theorem sIs_seg {m : Nat → Nat → Int32} {n : Nat} {L : List Nat} (h : ∀ k, k < L.length → sSeg m n k = nI (L.getD k 0)) : sIs m n L := h
/-- a node puts its bit -/
theorem nd_put {D : FD} {F n t K oh e : Nat} {s : CS} {v : Nat → Int32} {m : Nat → Nat → Int32} {r1 r2 : Option Nat} {nf : Nat → Int32} {h : Int64} {f o a b c : Nat → Int32} (hn : n < 32) (hF : F ≤ 200) (hV : ∀ f, f < F → FVo D f) (h4 : v 4 = nI F) (hM : ∀ f, f < F → FMo m D f) (hC : ∀ f, f < F → FCo s D f) (hN : NSt 0 D F n t K oh e r1 r2 nf h f o a b c (m 9 n) (m 10 n) (m 11 n) (m 14 n) (m 12 n) (m 13 n) (sSeg m n)) :
    ∃ r2' nf' v' m' x, x < 2 ∧ f_X2_put r1 r2 nf f (s.1 13) (s.1 15) = some (r1, r2', nf', nI x) ∧ f_X8_puts v m (nI n) = some (v', m', nI x) ∧ sv v v' ∧ sm m m' ∧ NSt 1 D F n t K oh e r1 r2' nf' h f o a b c (m 9 n) (m 10 n) (m 11 n) (m 14 n) (m 12 n) (m 13 n) (sSeg m n) := by
  obtain ⟨hNC, hcs⟩ := hN
  have hin : vp_in (nI n) 32 := in_nI hn (by decide)
  rcases hcs with ⟨_, hq⟩ | ⟨h01, _⟩ | hot
  · -- quiet
    obtain ⟨q1, q2, q3⟩ := id hq
    obtain ⟨v', m', e1, e2, e3⟩ := m_first (D := D) (F := F) (n := n) (v := v) (m := m) hn hF hV h4 hM
    have hfs : ∀ j, fs D n F = some j → j < 200 := fun j hj => by have := fs_ok F j hj; omega
    have hp : f_X8_puts v m (nI n) = some (v', m', if oI (fs D n F) = -1 then 1 else 0) := by
      unfold f_X8_puts
      rw [gdT _ hin, nI_clamp (by omega), q2, if_pos (show nI 0 = 0 from rfl), e1, bdS]
      rfl
    cases hr : r1 with
    | none =>
      have hfn : fs D n F = none := by rw [← hNC.2.2.2, hr]
      refine ⟨r2, nf, v', m', 1, by decide, ?_, ?_, e2, e3, ?_⟩
      · unfold f_X2_put
        rw [jnE, q1, if_pos (show nI 0 = 0 from rfl), ocN]
        dsimp only
        rw [if_neg (show ¬ nf 2 = 1 by rw [q1]; decide), jnE, if_neg (show ¬ nf 2 = 3 by rw [q1]; decide), if_neg (show ¬ nf 2 = 2 by rw [q1]; decide)]
        rfl
      · rw [hp, if_pos ((oI_m1 hfs).mpr hfn)]; rfl
      · rw [← hr]
        exact ⟨hNC, Or.inl ⟨Or.inr hr, hq⟩⟩
    | some j =>
      have hfn : fs D n F = some j := by rw [← hNC.2.2.2, hr]
      have hj := fs_ok F j hfn
      have hrow := (hC j hj.1).2.2.2.2.2.2.2
      have hlen := (rowL_le (fKi D j) (fId D j) (fCo D j) (fOc D j)).2
      have hb0 : (rowL (fKi D j) (fId D j) (fCo D j) (fOc D j)).getD 0 0 = 0 := row0 _ _ _ _
      refine ⟨some j, upd (upd (upd nf 2 1) 3 0) 9 0, v', m', 0, by decide, ?_, ?_, e2, e3, ?_⟩
      · unfold f_X2_put
        rw [jnE, q1, if_pos (show nI 0 = 0 from rfl), ocS, gdT _ (hfs j hfn)]
        unfold f_X2_startSending f_X2_enter
        rw [bdS, bdS]
        dsimp only
        rw [if_pos (by rw [up_n _ _ (by decide), up_n _ _ (by decide), up_s]), ocS, gdT _ (hfs j hfn), up_s, show (0 : Int32) = nI 0 from rfl, c_rowBit hrow (by omega), bdS, hb0]
      · rw [hp, if_neg (fun e9 => by rw [(oI_m1 hfs).mp e9] at hfn; cases hfn)]; rfl
      · refine ⟨⟨?_, ?_, ?_, by rw [← hr]; exact hNC.2.2.2⟩, Or.inr (Or.inl ⟨rfl, ⟨j, rfl, rfl⟩, ?_, ?_, q2, q3⟩)⟩
        · rw [up_n _ _ (by decide), up_n _ _ (by decide), up_n _ _ (by decide)]; exact hNC.1
        · rw [up_n _ _ (by decide), up_n _ _ (by decide), up_n _ _ (by decide)]; exact hNC.2.1
        · rw [up_n _ _ (by decide), up_n _ _ (by decide), up_n _ _ (by decide)]; exact hNC.2.2.1
        · rw [up_n _ _ (by decide), up_n _ _ (by decide), up_s]; rfl
        · rw [up_s]; rfl
  · cases h01
  · have keep : NSt 1 D F n t K oh e r1 r2 nf h f o a b c (m 9 n) (m 10 n) (m 11 n) (m 14 n) (m 12 n) (m 13 n) (sSeg m n) := ⟨hNC, Or.inr (Or.inr hot)⟩
    have put0 : ∀ z, nf 2 = nI z → z < 7 → z ≠ 0 → z ≠ 1 → f_X2_put r1 r2 nf f (s.1 13) (s.1 15) = (jn (α := Int32) (fun x6 => some (r1, r2, nf, x6)) (fun k8 => if nf 2 = 3 then k8 0 else if nf 2 = 2 then bd (f_X1_acknowledges f) (fun u10 => if u10 = 0 then k8 1 else k8 0) else k8 1)) := by
      intro z hz hz7 hz0 hz1
      unfold f_X2_put
      rw [jnE, if_neg (show ¬ nf 2 = 0 by rw [hz]; exact ne_l 0 hz0 (by omega) (by decide))]
      dsimp only
      rw [if_neg (show ¬ nf 2 = 1 by rw [hz]; exact ne_l 1 hz1 (by omega) (by decide))]
    have putm : ∀ z, m 9 n = nI z → z < 7 → z ≠ 0 → z ≠ 1 → z ≠ 2 → f_X8_puts v m (nI n) = some (v, m, if nI z = 3 then 0 else 1) := by
      intro z hz hz7 hz0 hz1 hz2
      unfold f_X8_puts
      rw [gdT _ hin, nI_clamp (by omega), hz, if_neg (show ¬ nI z = 0 from ne_l 0 hz0 (by omega) (by decide)), gdT _ hin, if_neg (show ¬ nI z = 1 from ne_l 1 hz1 (by omega) (by decide)), gdT _ hin, if_neg (show ¬ nI z = 2 from ne_l 2 hz2 (by omega) (by decide)), gdT _ hin]
      rfl
    have ones : ∀ z, nf 2 = nI z → m 9 n = nI z → z < 7 → z ≠ 0 → z ≠ 1 → z ≠ 2 → z ≠ 3 → ∃ r2' nf' v' m' x, x < 2 ∧ f_X2_put r1 r2 nf f (s.1 13) (s.1 15) = some (r1, r2', nf', nI x) ∧ f_X8_puts v m (nI n) = some (v', m', nI x) ∧ sv v v' ∧ sm m m' ∧ NSt 1 D F n t K oh e r1 r2' nf' h f o a b c (m 9 n) (m 10 n) (m 11 n) (m 14 n) (m 12 n) (m 13 n) (sSeg m n) := by
      intro z hz hz' hz7 hz0 hz1 hz2 hz3
      refine ⟨r2, nf, v, m, 1, by decide, ?_, ?_, sv_r v, sm_r m, keep⟩
      · rw [put0 z hz hz7 hz0 hz1, jnE, if_neg (show ¬ nf 2 = 3 by rw [hz]; exact ne_l 3 hz3 (by omega) (by decide)), if_neg (show ¬ nf 2 = 2 by rw [hz]; exact ne_l 2 hz2 (by omega) (by decide))]; rfl
      · rw [putm z hz' hz7 hz0 hz1 hz2, if_neg (show ¬ nI z = 3 from ne_l 3 hz3 (by omega) (by decide))]; rfl
    rcases id hot with hse | hli | hfl | hwa | hcl | hpa
    · obtain ⟨j, i, s1, s2, s3, s4, s5, s6, s7, s8, s9, s10, s11, s12⟩ := hse
      have hj : j < 200 := by omega
      have hrow := (hC j s7).2.2.2.2.2.2.2
      have hVj := hV j s7
      have hMj := hM j s7
      have hlen := (rowL_le (fKi D j) (fId D j) (fCo D j) (fOc D j)).1
      have s10' : i < (rowL (fKi D j) (fId D j) (fCo D j) (fOc D j)).length := s10
      obtain ⟨v', m', e1, e2, e3, e4, e5, e6⟩ := m_write (v := v) (m := m) hj hVj.1 hMj.1
      refine ⟨r2, nf, v', m', (fR D j).getD i 0, Bt_getD i (rowL_Bt _ _ _ _), ?_, ?_, e2, e3, keep⟩
      · unfold f_X2_put
        rw [jnE, if_neg (show ¬ nf 2 = 0 by rw [s2]; decide)]
        dsimp only
        rw [if_pos (show nf 2 = 1 by rw [s2]; rfl), s1, ocS, gdT _ hj, s4, c_rowBit hrow s10', bdS]
        rfl
      · unfold f_X8_puts
        rw [gdT _ hin, nI_clamp (by omega), s3, if_neg (by decide), gdT _ hin, if_pos (show nI 1 = 1 from rfl), gdT _ hin, s5, e1, bdS]
        dsimp only
        rw [gdT _ hin, e3 14 (by decide), s6, gdT _ (in_nI (by omega) (by decide)), nI_clamp (by omega), e5 i s10']
        rfl
    · obtain ⟨L, l1, l2, l3, l4, l5, l6, l7, l8⟩ := hli
      obtain ⟨v', m', e1, e2, e3⟩ := m_answers (v := v) (m := m) l3 hn l4 l6 (sIs_seg l7)
      have hk := c_ack l3 l5
      have ha := aAck_lt (par L)
      refine ⟨r2, nf, v', m', 1 - aAck (par L), by omega, ?_, ?_, e1, e2, keep⟩
      · rw [put0 2 l1 (by decide) (by decide) (by decide), jnE, if_neg (show ¬ nf 2 = 3 by rw [l1]; decide), if_pos (show nf 2 = 2 by rw [l1]; rfl), hk, bdS]
        rcases (show aAck (par L) = 0 ∨ aAck (par L) = 1 by omega) with h9 | h9 <;> rw [h9] <;> rfl
      · unfold f_X8_puts
        rw [gdT _ hin, nI_clamp (by omega), l2, if_neg (by decide), gdT _ hin, if_neg (by decide), gdT _ hin, if_pos (show nI 2 = 2 from rfl), e3, bdS]
        dsimp only
        rw [ltE]
        rcases (show aAck (par L) = 0 ∨ aAck (par L) = 1 by omega) with h9 | h9 <;> rw [h9] <;> rfl
    · obtain ⟨q, l1, l2, _⟩ := hfl
      refine ⟨r2, nf, v, m, 0, by decide, ?_, ?_, sv_r v, sm_r m, keep⟩
      · rw [put0 3 l1 (by decide) (by decide) (by decide), jnE, if_pos (show nf 2 = 3 by rw [l1]; rfl)]; rfl
      · rw [putm 3 l2 (by decide) (by decide) (by decide) (by decide), if_pos (show nI 3 = 3 from rfl)]; rfl
    · exact ones 4 hwa.1 hwa.2.1 (by decide) (by decide) (by decide) (by decide) (by decide)
    · obtain ⟨q, l1, l2, _⟩ := hcl
      exact ones 5 l1 l2 (by decide) (by decide) (by decide) (by decide) (by decide)
    · obtain ⟨q, l1, l2, _⟩ := hpa
      exact ones 6 l1 l2 (by decide) (by decide) (by decide) (by decide) (by decide)
