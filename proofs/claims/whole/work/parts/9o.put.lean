/-! all put their bits -/
theorem gNo_q {ph : Nat} {s : CS} {m : Nat → Nat → Int32} {D : FD} {F n t T E oh : Nat} {r1 r2 : Option Nat} {nf : Nat → Int32} {h : Int64} {f o a b c tf tt tk : Nat → Int32} (h2 : tf 2 = nI (rk (m 17) n T)) (h3 : tf 3 = nI oh) (ho : oh ≤ 2500) (hT : TKr m T n oh tt tk) (hN : NSt ph D F n t (rk (m 17) n T) oh (rk (m 24) n E) r1 r2 nf h f o a b c (m 9 n) (m 10 n) (m 11 n) (m 14 n) (m 12 n) (m 13 n) (sSeg m n)) : gNo ph (qNd s n r1 r2 nf h f o a b c tf tt tk) m D F n t T E := by
  unfold gNo
  rw [qNd_g3, qNd_g4, qNd_g5, qNd_g7, qNd_g8, qNd_g9, qNd_g10, qNd_g11, qNd_g12, qNd_h, qNd_r]
  exact ⟨oh, h2, h3, ho, hT, hN⟩
theorem gLg_q {s : CS} {n : Nat} {r1 r2 : Option Nat} {nf : Nat → Int32} {h : Int64} {f o a b c tf tt tk : Nat → Int32} (hg : gLg s) (hl : LG o a b c) : gLg (qNd s n r1 r2 nf h f o a b c tf tt tk) := by
  intro j hj
  by_cases hjn : j = n
  · subst hjn
    rw [qNd_g5, qNd_g7, qNd_g8, qNd_g9]
    exact hl
  · rw [qN_1 (Or.inl hjn), qN_1 (Or.inl hjn), qN_1 (Or.inl hjn), qN_1 (Or.inl hjn)]
    exact hg j hj
theorem and_b {b x : Nat} (hb : b < 2) (hx : x < 2) : nI b &&& nI x = (if nI x = 0 then 0 else nI b) ∧ ∃ y, y < 2 ∧ nI b &&& nI x = nI y := by
  rcases (show (b = 0 ∨ b = 1) ∧ (x = 0 ∨ x = 1) by omega) with ⟨h1 | h1, h2 | h2⟩ <;> subst h1 <;> subst h2
  · exact ⟨by decide, 0, by decide, by decide⟩
  · exact ⟨by decide, 0, by decide, by decide⟩
  · exact ⟨by decide, 0, by decide, by decide⟩
  · exact ⟨by decide, 1, by decide, by decide⟩
theorem put_loop {D : FD} {F N t T E : Nat} :
    ∀ d i nc nm s v m b, d + i = N → d < nc → d < nm → b < 2 → Gl s v m D F N t T E t → gLg s → (∀ n, n < i → gNo 1 s m D F n t T E) → (∀ n, i ≤ n → n < N → gNo 0 s m D F n t T E) → ∃ s' v' m' y, y < 2 ∧ L_X7_putByAll_4 (fun ⟨v1, v2, v3⟩ => some (v1, v3)) nc s (nI i) (nI b) = some (s', nI y) ∧ (∀ k15, L_X8_run_56 k15 nm v m (nI i) (nI b) = k15 (v', m', nI N, nI y)) ∧ Gl s' v' m' D F N t T E t ∧ gLg s' ∧ (∀ n, n < N → gNo 1 s' m' D F n t T E) ∧ v' 0 = v 0 := by
  intro d
  induction d with
  | zero =>
    intro i nc nm s v m b hd hnc hnm hb hG hL h1 h0
    obtain ⟨nc, rfl⟩ : ∃ q, nc = q + 1 := ⟨nc - 1, by omega⟩
    obtain ⟨nm, rfl⟩ : ∃ q, nm = q + 1 := ⟨nm - 1, by omega⟩
    have hi : i = N := by omega
    subst hi
    have hN := hG.1.1
    refine ⟨s, v, m, b, hb, ?_, fun k15 => ?_, hG, hL, h1, rfl⟩
    · show (if (s.1 0 0 8) ≤ nI i then some (s, nI b) else _) = _
      rw [hG.1.2.1, if_pos (le_l _ (Nat.le_refl _) (by omega))]
    · show (if (v 1) ≤ nI i then k15 (v, m, nI i, nI b) else _) = _
      rw [hG.1.2.2.1, if_pos (le_l _ (Nat.le_refl _) (by omega))]
  | succ d ih =>
    intro i nc nm s v m b hd hnc hnm hb hG hL h1 h0
    obtain ⟨nc, rfl⟩ : ∃ q, nc = q + 1 := ⟨nc - 1, by omega⟩
    obtain ⟨nm, rfl⟩ : ∃ q, nm = q + 1 := ⟨nm - 1, by omega⟩
    have hN := hG.1.1
    have hi : i < 32 := by omega
    have hF := hG.2.1
    obtain ⟨oh, g1, g2, g3, g4, g5⟩ := h0 i (Nat.le_refl _) (by omega)
    obtain ⟨r2', nf', v', m', x, x1, x2, x3, x4, x5, x6⟩ := nd_put (s := s) (v := v) hi hF.1 (fun f hf => (hF.2.2.2 f hf).1) hF.2.2.1 (fun f hf => (hF.2.2.2 f hf).2.2.1) (fun f hf => (hF.2.2.2 f hf).2.2.2) g5
    obtain ⟨ab, y, y1, y2⟩ := and_b hb x1
    have hsG : sG s (qNd s i (s.2.2 i).1 r2' nf' (s.2.1 4 i) (s.1 4 i) (s.1 5 i) (s.1 7 i) (s.1 8 i) (s.1 9 i) (s.1 10 i) (s.1 11 i) (s.1 12 i)) := qN_G hi
    have hm' : ∀ k, k < 26 → m' k = m k := fun k hk => x5 k (Or.inl hk)
    have x6' : NSt 1 D F i t (rk (m' 17) i T) oh (rk (m' 24) i E) (s.2.2 i).1 r2' nf' (s.2.1 4 i) (s.1 4 i) (s.1 5 i) (s.1 7 i) (s.1 8 i) (s.1 9 i) (m' 9 i) (m' 10 i) (m' 11 i) (m' 14 i) (m' 12 i) (m' 13 i) (sSeg m' i) := by
      have : sSeg m' i = sSeg m i := by unfold sSeg; rw [hm' 15 (by omega)]
      rw [this, hm' 17 (by omega), hm' 24 (by omega), hm' 9 (by omega), hm' 10 (by omega), hm' 11 (by omega), hm' 12 (by omega), hm' 13 (by omega), hm' 14 (by omega)]
      exact x6
    have hTK' : TKr m' T i oh (s.1 11 i) (s.1 12 i) := TKr_c g4 (fun k _ => by rw [hm' 17 (by omega), hm' 18 (by omega), hm' 19 (by omega), hm' 20 (by omega), hm' 21 (by omega)]; exact ⟨rfl, rfl, rfl, rfl, rfl⟩) (fun x _ => by rw [hm' 22 (by omega)]) (Or.inl rfl)
    obtain ⟨s2, v2, m2, z, z1, z2, z3, z4, z5, z6, z7⟩ := ih (i + 1) nc nm (qNd s i (s.2.2 i).1 r2' nf' (s.2.1 4 i) (s.1 4 i) (s.1 5 i) (s.1 7 i) (s.1 8 i) (s.1 9 i) (s.1 10 i) (s.1 11 i) (s.1 12 i)) v' m' y (by omega) (by omega) (by omega) y1 (Gl_c hG hsG (sv_vG x4) (sm_mG x5)) (gLg_q hL (hL i hi)) (by
      intro n hn
      by_cases hni : n = i
      · subst hni
        exact gNo_q (by rw [hm' 17 (by omega)]; exact g1) g2 g3 hTK' x6'
      · exact gNo_sm (h1 n (by omega)) (qN_N hni) x5) (fun n hn hnN => gNo_sm (h0 n (by omega) hnN) (qN_N (by omega)) x5)
    refine ⟨s2, v2, m2, z, z1, ?_, fun k15 => ?_, z4, z5, z6, by rw [z7, x4 0 (by decide) (by decide) (by decide) (by decide)]⟩
    · have unf : L_X7_putByAll_4 (fun ⟨v1, v2, v3⟩ => some (v1, v3)) (nc + 1) s (nI i) (nI b) = if (s.1 0 0 8) ≤ nI i then some (s, nI b) else gd (vp_in (nI i) 32) (bd (f_X2_put (s.2.2 (nI i).toNatClampNeg).1 (s.2.2 (nI i).toNatClampNeg).2 (s.1 3 (nI i).toNatClampNeg) (s.1 4 (nI i).toNatClampNeg) (s.1 13) (s.1 15)) (fun ⟨u7, u8, u9, u10⟩ => lt (α := CS) (qNd s (nI i).toNatClampNeg u7 u8 u9 (s.2.1 4 (nI i).toNatClampNeg) (s.1 4 (nI i).toNatClampNeg) (s.1 5 (nI i).toNatClampNeg) (s.1 7 (nI i).toNatClampNeg) (s.1 8 (nI i).toNatClampNeg) (s.1 9 (nI i).toNatClampNeg) (s.1 10 (nI i).toNatClampNeg) (s.1 11 (nI i).toNatClampNeg) (s.1 12 (nI i).toNatClampNeg)) (fun s11 => L_X7_putByAll_4 (fun ⟨v1, v2, v3⟩ => some (v1, v3)) nc s11 (nI i + 1) (nI b &&& u10)))) := rfl
      rw [unf, hG.1.2.1, if_neg (nle_l _ (by omega) (by omega)), gdT _ (in_nI hi (by decide)), nI_clamp (by omega), x2, bdS]
      dsimp only
      rw [ltE, show nI i + 1 = nI (i + 1) from nI_add _ 1, y2]
      exact z2
    · show (if (v 1) ≤ nI i then _ else bd (f_X8_puts v m (nI i)) (fun ⟨u17, u18, u19⟩ => lt (α := Int32) (if u19 = 0 then 0 else nI b) (fun x21 => L_X8_run_56 k15 nm u17 u18 (nI i + 1) x21))) = _
      rw [hG.1.2.2.1, if_neg (nle_l _ (by omega) (by omega)), x3, bdS]
      dsimp only
      rw [ltE, ← ab, y2, show nI i + 1 = nI (i + 1) from nI_add _ 1]
      exact z3 k15
/-! cells of a state -/
theorem sZ_s {s : CS} {t i : Nat} {z : Nat → Int32} : (sZ s t i z).1 t i = z := by simp [sZ]
theorem sZ_n {s : CS} {t i t' i' : Nat} {z : Nat → Int32} (h : t' ≠ t ∨ i' ≠ i) : (sZ s t i z).1 t' i' = s.1 t' i' := by
  unfold sZ
  dsimp only
  rw [if_neg (by omega)]
theorem sR_s {s : CS} {i : Nat} {z : Option Nat × Option Nat} : (sR s i z).2.2 i = z := by simp [sR]
theorem sR_n {s : CS} {i i' : Nat} {z : Option Nat × Option Nat} (h : i' ≠ i) : (sR s i z).2.2 i' = s.2.2 i' := by
  unfold sR
  dsimp only
  rw [if_neg h]
/-! the class keeps what a bit brought -/
theorem keep_n {s : CS} {p1 : Int32} : f_X7_keep s p1 (-1) = some s := by
  unfold f_X7_keep
  rw [jnE, if_neg (by decide), if_pos rfl]
theorem n_pk {t n e : Nat} (ht : t < 20000) (hn : n < 32) (he : e < 8) : ((nI t <<< ((8 : Int32) &&& 31)) ||| (nI n <<< ((3 : Int32) &&& 31))) ||| nI e = nI (t * 256 + n * 8 + e) := by
  have e1 : nI t <<< ((8 : Int32) &&& 31) = nI (t * 2 ^ 8) := n_shl t (k := 8) (by decide)
  have e2 : nI n <<< ((3 : Int32) &&& 31) = nI (n * 2 ^ 3) := n_shl n (k := 3) (by decide)
  rw [e1, e2, n_orS (k := 8) (by omega), show t * 2 ^ 8 + n * 2 ^ 3 = (t * 32 + n) * 2 ^ 3 by omega, n_orS (k := 3) (by omega), show (t * 32 + n) * 2 ^ 3 + e = t * 256 + n * 8 + e by omega]
theorem keep_e {s : CS} {n e t E : Nat} (hn : n < 32) (he : e < 6) (ht : t < 20000) (hE : E < 80000) (h11 : s.1 0 0 11 = nI E) (h13 : s.1 0 0 13 = nI t) : f_X7_keep s (nI n) (nI e) = some (sZ (sZ s 0 0 (upd (s.1 0 0) 11 (nI (E + 1)))) 17 4 (upd (s.1 17 4) E (nI (t * 256 + n * 8 + e)))) := by
  unfold f_X7_keep
  rw [jnE, if_neg (show ¬ nI e = 6 from ne_l 6 (by omega) (by omega) (by decide)), if_neg (nm1 (by omega)), h11, if_neg (show ¬ 80000 ≤ nI E from nle_l (a := 80000) E (by omega) (by decide)), ltE, ltE, gdT _ (in_nI hE (by decide)), ltE, show nI E + 1 = nI (E + 1) from nI_add _ 1, sZ_s, sZ_n (t' := 17) (by omega), up_n _ _ (by decide), h13, n_pk ht hn (by omega), nI_clamp (by omega)]
/-- a frame is done -/
def dDo (D : FD) (j : Nat) : FD := va_up D j (fOw D j, fKi D j, fId D j, fCo D j, 1, fOc D j)
theorem dDo_s (D : FD) (j : Nat) : fOw (dDo D j) j = fOw D j ∧ fKi (dDo D j) j = fKi D j ∧ fId (dDo D j) j = fId D j ∧ fCo (dDo D j) j = fCo D j ∧ fDn (dDo D j) j = 1 ∧ fOc (dDo D j) j = fOc D j := by
  unfold fOw fKi fId fCo fDn fOc dDo
  rw [vu_s]
  exact ⟨rfl, rfl, rfl, rfl, rfl, rfl⟩
theorem dDo_n {D : FD} {j f : Nat} (h : f ≠ j) : dDo D j f = D f := vu_n _ _ h
theorem dDo_f (D : FD) (j f : Nat) : fOw (dDo D j) f = fOw D f ∧ fKi (dDo D j) f = fKi D f ∧ fId (dDo D j) f = fId D f ∧ fCo (dDo D j) f = fCo D f ∧ fOc (dDo D j) f = fOc D f ∧ (f ≠ j → fDn (dDo D j) f = fDn D f) := by
  by_cases h : f = j
  · subst h
    obtain ⟨a1, a2, a3, a4, a5, a6⟩ := dDo_s D f
    exact ⟨a1, a2, a3, a4, a6, fun h => absurd rfl h⟩
  · have e := dDo_n (D := D) h
    unfold fOw fKi fId fCo fDn fOc
    rw [e]
    exact ⟨rfl, rfl, rfl, rfl, rfl, fun _ => rfl⟩
theorem dDo_P (D : FD) (j f : Nat) : fP (dDo D j) f = fP D f ∧ fR (dDo D j) f = fR D f := by
  obtain ⟨a1, a2, a3, a4, a5, a6⟩ := dDo_f D j f
  unfold fP fR
  rw [a2, a3, a4, a5]
  exact ⟨rfl, rfl⟩
theorem dDo_wt {D : FD} {j n : Nat} (hj : fOw D j ≠ n) (F : Nat) : wt (dDo D j) n F = wt D n F ∧ fs (dDo D j) n F = fs D n F := by
  have key : ∀ q, (fOw D q = n ∧ fDn D q = 0 ↔ fOw (dDo D j) q = n ∧ fDn (dDo D j) q = 0) := by
    intro q
    obtain ⟨a1, a2, a3, a4, a5, a6⟩ := dDo_f D j q
    rw [a1]
    by_cases h : q = j
    · subst h; exact ⟨fun e => absurd e.1 hj, fun e => absurd e.1 hj⟩
    · rw [a6 h]
  exact ⟨wt_eq F (fun q _ => key q), fs_eq F (fun q _ => ⟨key q, fun _ => (dDo_P D j q).1⟩)⟩
theorem dDo_w1 {D : FD} {j n : Nat} (hj : fOw D j = n) (hd : fDn D j = 0) : ∀ F, (j < F → wt D n F = wt (dDo D j) n F + 1) ∧ (F ≤ j → wt (dDo D j) n F = wt D n F)
  | 0 => ⟨fun h => absurd h (Nat.not_lt_zero _), fun _ => rfl⟩
  | F + 1 => by
    obtain ⟨i1, i2⟩ := dDo_w1 hj hd F
    obtain ⟨a1, a2, a3, a4, a5, a6⟩ := dDo_f D j F
    rw [wt_s, wt_s]
    by_cases h : F = j
    · subst h
      rw [i2 (Nat.le_refl _), if_pos ⟨hj, hd⟩, if_neg (fun e => by rw [(dDo_s D F).2.2.2.2.1] at e; exact absurd e.2 (by decide))]
      exact ⟨fun _ => rfl, fun e => by omega⟩
    · rw [a1, a6 h]
      exact ⟨fun e => by rw [i1 (by omega)]; omega, fun e => by rw [i2 (by omega)]⟩
theorem dDo_c {D : FD} {j : Nat} (hd : fDn D j = 0) : ∀ F, (j < F → dcn (dDo D j) F = dcn D F + 1) ∧ (F ≤ j → dcn (dDo D j) F = dcn D F)
  | 0 => ⟨fun h => absurd h (Nat.not_lt_zero _), fun _ => rfl⟩
  | F + 1 => by
    obtain ⟨i1, i2⟩ := dDo_c hd F
    obtain ⟨a1, a2, a3, a4, a5, a6⟩ := dDo_f D j F
    rw [dcn_s, dcn_s]
    by_cases h : F = j
    · subst h
      rw [i2 (Nat.le_refl _), if_pos hd, if_neg (fun e => by rw [(dDo_s D F).2.2.2.2.1] at e; exact absurd e (by decide))]
      exact ⟨fun _ => rfl, fun e => by omega⟩
    · rw [a6 h]
      exact ⟨fun e => by rw [i1 (by omega)]; omega, fun e => by rw [i2 (by omega)]⟩
