/-! what one node's seeing may change -/
def svx (S : Nat → Prop) (v v' : Nat → Int32) : Prop := ∀ k, ¬ S k → k ≠ 34 → k ≠ 37 → k ≠ 38 → (k < 41 ∨ 46 < k) → v' k = v k
def nlx (S : Nat → Prop) (n : Nat) (m m' : Nat → Nat → Int32) : Prop := (∀ k, ¬ S k → (k < 9 ∨ k = 12 ∨ k = 13 ∨ 15 < k) → (k < 26 ∨ 30 < k) → m' k = m k) ∧ (∀ k i, (k = 9 ∨ k = 10 ∨ k = 11 ∨ k = 14) → i ≠ n → m' k i = m k i) ∧ ∀ x, (x < 1200 * n ∨ 1200 * n + 1200 ≤ x) → m' 15 x = m 15 x
theorem sv_svx {S : Nat → Prop} {v v' : Nat → Int32} (h : sv v v') : svx S v v' := fun k _ => h k
theorem sm_nlx {S : Nat → Prop} {n : Nat} {m m' : Nat → Nat → Int32} (h : sm m m') : nlx S n m m' := ⟨fun k _ _ h2 => h k h2, fun k i hk _ => by rw [h k (by omega)], fun x _ => by rw [h 15 (by omega)]⟩
theorem nlx_t {S : Nat → Prop} {n : Nat} {a b c : Nat → Nat → Int32} (h1 : nlx S n a b) (h2 : nlx S n b c) : nlx S n a c := ⟨fun k k1 k2 k3 => (h2.1 k k1 k2 k3).trans (h1.1 k k1 k2 k3), fun k i k1 k2 => (h2.2.1 k i k1 k2).trans (h1.2.1 k i k1 k2), fun x hx => (h2.2.2 x hx).trans (h1.2.2 x hx)⟩
theorem nlx_w {S S' : Nat → Prop} {n : Nat} {m m' : Nat → Nat → Int32} (h : nlx S n m m') (hS : ∀ k, S k → S' k) : nlx S' n m m' := ⟨fun k k1 => h.1 k (fun e => k1 (hS k e)), h.2⟩
theorem nlx_u {S : Nat → Prop} {n k : Nat} {m : Nat → Nat → Int32} {x : Int32} (hk : k = 9 ∨ k = 10 ∨ k = 11 ∨ k = 14) : nlx S n m (va_up m k (upd (m k) n x)) := by
  refine ⟨fun j _ h1 h2 => vu_n _ _ (by omega), fun j i _ hi => ?_, fun x _ => by rw [vu_n _ _ (by omega)]⟩
  by_cases hj : j = k
  · subst hj; rw [vu_s, up_n _ _ hi]
  · rw [vu_n _ _ hj]
theorem nlx_S {S : Nat → Prop} {n k : Nat} {m : Nat → Nat → Int32} {g : Nat → Int32} (hS : S k) (hk : k < 9 ∨ 15 < k) : nlx S n m (va_up m k g) := by
  refine ⟨fun j h0 h1 h2 => vu_n _ _ (fun e => h0 (by rw [e]; exact hS)), fun j i hj hi => by rw [vu_n _ _ (by omega)], fun x _ => by rw [vu_n _ _ (by omega)]⟩
theorem nlx_see {S : Nat → Prop} {n i b : Nat} {m : Nat → Nat → Int32} (hi : i < 1200) : nlx S n m (mSee m n i b) := by
  refine ⟨fun j _ h1 h2 => ?_, fun j q hj hq => ?_, fun x hx => ?_⟩
  · unfold mSee; rw [vu_n _ _ (by omega), vu_n _ _ (by omega)]
  · unfold mSee
    by_cases h14 : j = 14
    · subst h14; rw [vu_s, up_n _ _ hq]
    · rw [vu_n _ _ h14, vu_n _ _ (by omega)]
  · unfold mSee; rw [vu_n _ _ (by omega), vu_s, up_n _ _ (by omega)]
theorem mSee_14 {n i b : Nat} {m : Nat → Nat → Int32} : mSee m n i b 14 n = nI (i + 1) := by unfold mSee; rw [vu_s, up_s]
theorem mSee_o {n i b k : Nat} {m : Nat → Nat → Int32} (h1 : k ≠ 14) (h2 : k ≠ 15) : mSee m n i b k = m k := by unfold mSee; rw [vu_n _ _ h1, vu_n _ _ h2]
theorem mSee_seg {n i b k : Nat} {m : Nat → Nat → Int32} : sSeg (mSee m n i b) n k = if k = i then nI b else sSeg m n k := by
  unfold sSeg mSee
  rw [vu_n _ _ (by decide), vu_s]
  by_cases h : k = i
  · rw [if_pos h, h, up_s]
  · rw [if_neg h, up_n _ _ (by omega)]
theorem nlx_go {S : Nat → Prop} {n : Nat} {x y : Int32} {m : Nat → Nat → Int32} : nlx S n m (mGo m n x y) := by
  have e : mGo m n x y = va_up (va_up m 9 (upd (m 9) n x)) 10 (upd ((va_up m 9 (upd (m 9) n x)) 10) n y) := by unfold mGo; rw [vu_n (j := 10) _ _ (by decide)]
  rw [e]
  exact nlx_t (nlx_u (by omega)) (nlx_u (by omega))
def sE3 (k : Nat) : Prop := k = 23 ∨ k = 24 ∨ k = 25
def sT6 (k : Nat) : Prop := 17 ≤ k ∧ k ≤ 22
def sD3 (k : Nat) : Prop := k = 6 ∨ k = 7 ∨ k = 8
theorem nlx_wr {n e E : Nat} {v : Nat → Int32} {m : Nat → Nat → Int32} : nlx sE3 n m (mWr v m n e E) := by
  unfold mWr
  refine ⟨fun j h0 h1 h2 => ?_, fun j i hj hi => ?_, fun x _ => ?_⟩
  · have : j ≠ 23 ∧ j ≠ 24 ∧ j ≠ 25 := ⟨fun e => h0 (Or.inl e), fun e => h0 (Or.inr (Or.inl e)), fun e => h0 (Or.inr (Or.inr e))⟩
    rw [vu_n _ _ (by omega), vu_n _ _ (by omega), vu_n _ _ (by omega), vu_n _ _ (by omega), vu_n _ _ (by omega)]
  · by_cases h10 : j = 10
    · subst h10; rw [vu_s, up_n _ _ hi]
    · by_cases h9 : j = 9
      · subst h9; rw [vu_n _ _ (by decide), vu_s, up_n _ _ hi]
      · rw [vu_n _ _ h10, vu_n _ _ h9, vu_n _ _ (by omega), vu_n _ _ (by omega), vu_n _ _ (by omega)]
  · rw [vu_n _ _ (by decide), vu_n _ _ (by decide), vu_n _ _ (by decide), vu_n _ _ (by decide), vu_n _ _ (by decide)]
abbrev SeeR := Option Nat × (Nat → Int32) × Int64 × (Nat → Int32) × (Nat → Int32) × (Nat → Int32) × (Nat → Int32) × (Nat → Int32) × (Nat → Int32) × (Nat → Int32) × (Nat → Int32) × Int32
/-- the node behind its bit -/
def NSn (D : FD) (F n t K oh e : Nat) (r1 : Option Nat) (m' : Nat → Nat → Int32) : SeeR → Prop
  | (r2, nf, h, f, o, a, b, c, _, _, _, _) => NSt 0 D F n t K oh e r1 r2 nf h f o a b c (m' 9 n) (m' 10 n) (m' 11 n) (m' 14 n) (m' 12 n) (m' 13 n) (sSeg m' n)
def oNo (D : FD) (F n t K oh e : Nat) (r1 : Option Nat) (v : Nat → Int32) (m : Nat → Nat → Int32) (tf tt tk : Nat → Int32) (R : SeeR) (v' : Nat → Int32) (m' : Nat → Nat → Int32) : Prop := R.2.2.2.2.2.2.2.2 = (tf, tt, tk, -1) ∧ sv v v' ∧ nlx (fun _ => False) n m m' ∧ NSn D F n (t + 1) K oh e r1 m' R
def oEr (D : FD) (F n t K oh e E : Nat) (r1 : Option Nat) (v : Nat → Int32) (m : Nat → Nat → Int32) (tf tt tk : Nat → Int32) (R : SeeR) (v' : Nat → Int32) (m' : Nat → Nat → Int32) : Prop := ∃ er, er < 6 ∧ R.2.2.2.2.2.2.2.2 = (tf, tt, tk, nI er) ∧ svx (fun k => k = 29) v v' ∧ v' 29 = nI (E + 1) ∧ nlx sE3 n m m' ∧ m' 23 = upd (m 23) E (nI er) ∧ m' 24 = upd (m 24) E (nI n) ∧ m' 25 = upd (m 25) E (nI t) ∧ NSn D F n (t + 1) K oh (e + 1) r1 m' R
def oDo (D : FD) (F n t K oh e dn : Nat) (v : Nat → Int32) (m : Nat → Nat → Int32) (nf tf tt tk : Nat → Int32) (R : SeeR) (v' : Nat → Int32) (m' : Nat → Nat → Int32) : Prop := ∃ j, j < F ∧ fOw D j = n ∧ fDn D j = 0 ∧ R.1 = some j ∧ R.2.2.2.2.2.2.2.2 = (tf, tt, tk, nI 6) ∧ svx (fun k => k = 11) v v' ∧ v' 11 = nI (dn + 1) ∧ nlx sD3 n m m' ∧ m' 6 = upd (m 6) j (nI 1) ∧ m' 7 = upd (m 7) dn (nI j) ∧ m' 8 = upd (m 8) dn (nI t) ∧ (∀ k, k = 4 ∨ k = 5 ∨ k = 6 → R.2.1 k = nf k) ∧ cPA (t + 1) K oh e R.2.1 (m' 9 n) (m' 10 n)
def oTa (D : FD) (F n t K oh e T : Nat) (r1 : Option Nat) (v : Nat → Int32) (m : Nat → Nat → Int32) (tt tk : Nat → Int32) (R : SeeR) (v' : Nat → Int32) (m' : Nat → Nat → Int32) : Prop := ∃ P tf' tt' tk', aKind P < 6 ∧ aLen P < 16 ∧ oh + aOc P ≤ 2500 ∧ R.2.2.2.2.2.2.2.2 = (tf', tt', tk', -1) ∧ tf' 2 = nI (K + 1) ∧ tf' 3 = nI (oh + aOc P) ∧ (∀ x, x < 6 * K → tt' x = tt x) ∧ tt' (6 * K) = nI (aId P) ∧ tt' (6 * K + 1) = nI (aKind P) ∧ tt' (6 * K + 2) = nI (aLen P) ∧ tt' (6 * K + 3) = nI (aOc P) ∧ tt' (6 * K + 4) = nI t ∧ tt' (6 * K + 5) = nI oh ∧ (∀ x, x < oh → tk' x = tk x) ∧ (∀ k, k < aOc P → tk' (oh + k) = nI (vl (okP P k))) ∧ svx (fun k => k = 22) v v' ∧ v' 22 = nI (T + 1) ∧ nlx sT6 n m m' ∧ m' 17 = upd (m 17) T (nI n) ∧ m' 18 = upd (m 18) T (nI (aId P)) ∧ m' 19 = upd (m 19) T (nI (aKind P)) ∧ m' 20 = upd (m 20) T (nI (aLen P)) ∧ m' 21 = upd (m 21) T (nI t) ∧ (∀ x, x < 64 * T → m' 22 x = m 22 x) ∧ (∀ k, k < aOc P → m' 22 (64 * T + k) &&& 255 = nI (vl (okP P k))) ∧ NSn D F n (t + 1) (K + 1) (oh + aOc P) e r1 m' R
/-! errors, for any node -/
theorem fl_err {D : FD} {F n t K oh e E er : Nat} {r1 r2 : Option Nat} {v v1 : Nat → Int32} {m m1 : Nat → Nat → Int32} {nf nf1 : Nat → Int32} {h : Int64} {f o a b c tf tt tk : Nat → Int32} (her : er < 6) (hNC : NC D F n r1 nf (m 12 n) (m 13 n)) (hnf : ∀ k, k = 4 ∨ k = 5 ∨ k = 6 → nf1 k = nf k) (h29 : v 29 = nI E) (h2 : v 2 = nI t) (hs : sv v v1) (hm : nlx (fun _ => False) n m m1) (hK : 46 * K ≤ t + 3) (ho : 8 * oh ≤ t + 1) (he : 8 * e ≤ t) : oEr D F n t K oh e E r1 v m tf tt tk (r2, upd (upd nf1 2 3) 3 0, h, f, o, a, b, c, tf, tt, tk, nI er) (upd v1 29 (nI (E + 1))) (mWr v1 m1 n er E) := by
  have hmw : nlx sE3 n m (mWr v1 m1 n er E) := nlx_t (nlx_w hm (fun _ h => h.elim)) nlx_wr
  have g : ∀ k, (k = 23 ∨ k = 24 ∨ k = 25) → m1 k = m k := fun k hk => hm.1 k (fun h => h) (by omega) (by omega)
  refine ⟨er, her, rfl, fun k hk k1 k2 k3 k4 => by rw [up_n _ _ hk]; exact hs k k1 k2 k3 k4, up_s _ _ _, hmw, ?_, ?_, ?_, ?_, ?_⟩
  · unfold mWr; rw [vu_n _ _ (by decide), vu_n _ _ (by decide), vu_n _ _ (by decide), vu_n _ _ (by decide), vu_s, g 23 (by omega)]
  · unfold mWr; rw [vu_n _ _ (by decide), vu_n _ _ (by decide), vu_n _ _ (by decide), vu_s, g 24 (by omega)]
  · unfold mWr; rw [vu_n _ _ (by decide), vu_n _ _ (by decide), vu_s, g 25 (by omega), hs 2 (by decide) (by decide) (by decide) (by decide), h2]
  · have e12 : mWr v1 m1 n er E 12 n = m 12 n := by rw [hmw.1 12 (by unfold sE3; omega) (by omega) (by omega)]
    have e13 : mWr v1 m1 n er E 13 n = m 13 n := by rw [hmw.1 13 (by unfold sE3; omega) (by omega) (by omega)]
    rw [e12, e13]
    refine ⟨?_, ?_, ?_, hNC.2.2.2⟩
    · rw [up_n _ _ (by decide), up_n _ _ (by decide), hnf 4 (by omega)]; exact hNC.1
    · rw [up_n _ _ (by decide), up_n _ _ (by decide), hnf 5 (by omega)]; exact hNC.2.1
    · rw [up_n _ _ (by decide), up_n _ _ (by decide), hnf 6 (by omega)]; exact hNC.2.2.1
  · refine Or.inr (Or.inr (Or.inr (Or.inr (Or.inl ⟨0, ?_, ?_, by decide, ?_, ?_, by omega, by omega, by omega⟩))))
    · rw [up_n _ _ (by decide), up_s]; rfl
    · unfold mWr; rw [vu_n _ _ (by decide), vu_s, up_s]; rfl
    · rw [up_s]; rfl
    · unfold mWr; rw [vu_s, up_s]; rfl
/-- the node's own cells stay while m's scratch changes -/
theorem NC_m {D : FD} {F n : Nat} {r1 : Option Nat} {nf nf1 : Nat → Int32} {m m1 : Nat → Nat → Int32} {S : Nat → Prop} (hNC : NC D F n r1 nf (m 12 n) (m 13 n)) (hnf : ∀ k, k = 4 ∨ k = 5 ∨ k = 6 → nf1 k = nf k) (hm : nlx S n m m1) (h1 : ¬ S 12) (h2 : ¬ S 13) : NC D F n r1 nf1 (m1 12 n) (m1 13 n) := by
  rw [hm.1 12 h1 (by omega) (by omega), hm.1 13 h2 (by omega) (by omega)]
  exact ⟨by rw [hnf 4 (by omega)]; exact hNC.1, by rw [hnf 5 (by omega)]; exact hNC.2.1, by rw [hnf 6 (by omega)]; exact hNC.2.2.1, hNC.2.2.2⟩
theorem up3 {nf : Nat → Int32} {x y : Int32} : ∀ k, k = 4 ∨ k = 5 ∨ k = 6 → upd (upd nf 2 x) 3 y k = nf k := fun k hk => by rw [up_n _ _ (by omega), up_n _ _ (by omega)]
/-! sending -/
theorem rowL_29 (k id c : Nat) (o : Nat → Nat) : 29 ≤ (rowL k id c o).length := by
  have h := fW_ok k id c o
  have h2 := (fQ_len (k := k) id c o).2
  have hlv := hlen_le (l := isL k) (f := isF k)
  have h3 := rowL_len k id c o
  generalize fW k id c o = W at h h3
  obtain ⟨r, s, f, la, ru, sb⟩ := W
  have := h.2.2.2.2.2.2.2.1
  have h3 : (rowL k id c o).length = r.length + (fT k id c o).length + 10 := h3
  omega
def mDn (m : Nat → Nat → Int32) (v2 : Int32) (n j dn : Nat) : Nat → Nat → Int32 := mGo (va_up (va_up (va_up m 6 (upd (m 6) j (nI 1))) 7 (upd (m 7) dn (nI j))) 8 (upd (m 8) dn v2)) n 6 3
theorem m_sent {v : Nat → Int32} {m : Nat → Nat → Int32} {D : FD} {n i j b E dn : Nat} (hn : n < 32) (hj : j < 200) (hV : FVo D j) (hM : FMo m D j) (hi : i < (fR D j).length) (hb : b < 2) (hE : E < 92000) (h29 : v 29 = nI E) (hdn : dn < 200) (h11v : v 11 = nI dn) (h11 : m 11 n = nI j) (h14 : m 14 n = nI i) :
    ∃ u2 u3, sv v u2 ∧ sm m u3 ∧ f_X8_sent v m (nI n) (nI b) = if (fR D j).getD i 0 = 1 ∧ (fG D j).getD i 0 = 1 ∧ b = 0 then some (u2, va_up (mSee u3 n i b) 9 (upd ((mSee u3 n i b) 9) n 2)) else if (i + 9 = (fR D j).length ∧ b = 1) ∨ (i + 9 ≠ (fR D j).length ∧ b ≠ (fR D j).getD i 0) then some (upd u2 29 (nI (E + 1)), mWr u2 (mSee u3 n i b) n (if i + 9 = (fR D j).length then 4 else 0) E) else if i + 1 = (fR D j).length then some (upd u2 11 (nI (dn + 1)), mDn (mSee u3 n i b) (u2 2) n j dn) else some (u2, mSee u3 n i b) := by
  have hg : ∀ {β : Type} (x : Option β), gd (vp_in (nI n) 32) x = x := fun x => gdT x (in_nI hn (by decide))
  have hlen := rowL_le (fKi D j) (fId D j) (fCo D j) (fOc D j)
  have hRb : (fR D j).getD i 0 < 2 := Bt_getD i (rowL_Bt _ _ _ _)
  have hGb : (fG D j).getD i 0 < 2 := Bt_getD i (flgL_Bt _ _ _ _)
  have hRl : (fR D j).length ≤ 733 := hlen.1
  have hRl2 : 10 ≤ (fR D j).length := hlen.2
  obtain ⟨u2, u3, e1, e2, e3, e4, e5, e6, e7, e8⟩ := m_write (v := v) (m := m) hj hV.1 hM.1
  refine ⟨u2, u3, e2, e3, ?_⟩
  obtain ⟨q, q1, q2, q3⟩ := e8 i hi
  have e4 : u2 37 = nI (fR D j).length := e4
  have e5 : u3 27 i = nI ((fR D j).getD i 0) := e5 i hi
  have q3 : (i < abp (arb (fKi D j)) (fQ (fKi D j) (fId D j) (fCo D j) (fOc D j)) ∧ q = 0) ↔ (fG D j).getD i 0 = 1 := q3
  have h14' : u3 14 n = nI i := by rw [e3 14 (by decide)]; exact h14
  have g27 : mSee u3 n i b 27 i = nI ((fR D j).getD i 0) := by rw [mSee_o (by decide) (by decide)]; exact e5
  have g28 : mSee u3 n i b 28 i = nI q := by rw [mSee_o (by decide) (by decide)]; exact q2
  have h29' : u2 29 = nI E := by rw [e2 29 (by decide) (by decide) (by decide) (by decide)]; exact h29
  have h11' : u2 11 = nI dn := by rw [e2 11 (by decide) (by decide) (by decide) (by decide)]; exact h11v
  unfold f_X8_sent
  rw [hg, nI_clamp (by omega), h11, e1, bdS]
  dsimp only
  rw [hg, m_see hn (by omega) hb h14', bdS, h14', e4, e6]
  -- lost
  have lost : ∀ {β : Type} (k : Int32 → Option β), jn k (fun k10 => if nI (abp (arb (fKi D j)) (fQ (fKi D j) (fId D j) (fCo D j) (fOc D j))) ≤ nI i then k10 0 else gd (vp_in (nI i) 1200) (if ((mSee u3 n i b 28) ((nI i).toNatClampNeg)) = 0 then gd (vp_in (nI i) 1200) (if ((mSee u3 n i b 27) ((nI i).toNatClampNeg)) = 1 then if nI b = 0 then k10 1 else k10 0 else k10 0) else k10 0)) = k (if (fR D j).getD i 0 = 1 ∧ (fG D j).getD i 0 = 1 ∧ b = 0 then 1 else 0) := by
    intro β k
    rw [jnE, nI_clamp (by omega), g27, g28]
    by_cases ha : i < abp (arb (fKi D j)) (fQ (fKi D j) (fId D j) (fCo D j) (fOc D j))
    · rw [if_neg (nle_l _ (by omega) (by omega)), gdT _ (in_nI (by omega) (by decide))]
      by_cases hq : q = 0
      · rw [if_pos (show nI q = 0 by rw [hq]; rfl), gdT _ (in_nI (by omega) (by decide))]
        have hG1 := q3.mp ⟨ha, hq⟩
        by_cases hr : (fR D j).getD i 0 = 1
        · rw [if_pos (show nI ((fR D j).getD i 0) = 1 by rw [hr]; rfl)]
          by_cases hb0 : b = 0
          · rw [if_pos (show nI b = 0 by rw [hb0]; rfl), if_pos ⟨hr, hG1, hb0⟩]
          · rw [if_neg (show ¬ nI b = 0 from ne_l 0 hb0 (by omega) (by decide)), if_neg (fun e => hb0 e.2.2)]
        · rw [if_neg (show ¬ nI ((fR D j).getD i 0) = 1 from ne_l 1 hr (by omega) (by decide)), if_neg (fun e => hr e.1)]
      · rw [if_neg (show ¬ nI q = 0 from ne_l 0 hq (by omega) (by decide)), if_neg (fun e => hq (q3.mpr e.2.1).2)]
    · rw [if_pos (le_l _ (by omega) (by omega)), if_neg (fun e => ha (q3.mpr e.2.1).1)]
  rw [lost, ltE]
  have hx12 : (if nI i = nI (fR D j).length - 9 then (1 : Int32) else 0) = if i + 9 = (fR D j).length then 1 else 0 := by
    rw [show nI (fR D j).length - 9 = nI ((fR D j).length - 9) from n_sub (b := 9) (by omega)]
    by_cases h : i + 9 = (fR D j).length
    · rw [if_pos h, if_pos (by congr 1; omega)]
    · rw [if_neg h, if_neg (ne_l _ (by omega) (by omega) (by omega))]
  rw [hx12, jnE]
  have h1len : nI (fR D j).length - 1 = nI ((fR D j).length - 1) := n_sub (b := 1) (by omega)
  -- the end
  have fin : (if nI i = nI (fR D j).length - 1 then gd (vp_in (nI j) 200) (gd (vp_in (u2 11) 200) (gd (vp_in (u2 11) 200) (bd (f_X8_go (va_up (va_up (va_up (mSee u3 n i b) 6 (upd ((mSee u3 n i b) 6) ((nI j).toNatClampNeg) (vp_nar .boolean 1))) 7 (upd ((mSee u3 n i b) 7) ((u2 11).toNatClampNeg) (nI j))) 8 (upd ((mSee u3 n i b) 8) ((u2 11).toNatClampNeg) (u2 2))) (nI n) 6 3) (fun u24 => some ((upd u2 11 ((u2 11) + 1)), u24))))) else some (u2, mSee u3 n i b)) = (if i + 1 = (fR D j).length then some (upd u2 11 (nI (dn + 1)), mDn (mSee u3 n i b) (u2 2) n j dn) else some (u2, mSee u3 n i b)) := by
    rw [h1len]
    by_cases h : i + 1 = (fR D j).length
    · rw [if_pos h, if_pos (by congr 1; omega), gdT _ (in_nI hj (by decide)), h11', gdT _ (in_nI hdn (by decide)), gdT _ (in_nI hdn (by decide)), m_go hn, bdS, nI_clamp (by omega), nI_clamp (by omega), show nI dn + 1 = nI (dn + 1) from nI_add _ 1]
      rfl
    · rw [if_neg h, if_neg (ne_l _ (by omega) (by omega) (by omega))]
  by_cases hl : (fR D j).getD i 0 = 1 ∧ (fG D j).getD i 0 = 1 ∧ b = 0
  · rw [if_pos hl, if_pos hl, if_neg (by decide), hg]
  · rw [if_neg hl, if_neg hl, if_pos rfl]
    by_cases ha : i + 9 = (fR D j).length
    · rw [if_pos ha, if_pos ha, if_neg (by decide)]
      by_cases hb1 : b = 1
      · rw [if_pos (show nI b = 1 by rw [hb1]; rfl), if_pos (Or.inl ⟨ha, hb1⟩), ltE, if_neg (by decide)]
        have := m_wrong (v := u2) (m := mSee u3 n i b) (e := 4) hn (by decide) hE h29'
        rw [show (4 : Int32) = nI 4 from rfl, this]
        rfl
      · rw [if_neg (show ¬ nI b = 1 from ne_l 1 hb1 (by omega) (by decide)), if_neg (show ¬ ((i + 9 = (fR D j).length ∧ b = 1) ∨ (i + 9 ≠ (fR D j).length ∧ b ≠ (fR D j).getD i 0)) by omega)]
        exact fin
    · rw [if_neg ha, if_neg ha, if_pos rfl, gdT _ (in_nI (by omega) (by decide)), nI_clamp (by omega), g27]
      by_cases hbr : b = (fR D j).getD i 0
      · rw [if_pos (show nI b = nI ((fR D j).getD i 0) by rw [hbr]), if_neg (show ¬ ((i + 9 = (fR D j).length ∧ b = 1) ∨ (i + 9 ≠ (fR D j).length ∧ b ≠ (fR D j).getD i 0)) by omega)]
        exact fin
      · rw [if_neg (ne_l _ hbr (by omega) (by omega)), if_pos (Or.inr ⟨ha, hbr⟩), ltE, if_pos rfl]
        have := m_wrong (v := u2) (m := mSee u3 n i b) (e := 0) hn (by decide) hE h29'
        rw [show (0 : Int32) = nI 0 from rfl, this]
        rfl
