/-! a bit time, and many -/
theorem wb_cu32 : ∀ k, k < 32 → ((nI k).toUInt32 &&& Int32.toUInt32 31) = UInt32.ofNat k := by decide +kernel
theorem n_ushr {X k : Nat} (hX : X < 2 ^ 32) (hk : k < 32) : (((nI X).toUInt32 >>> ((nI k).toUInt32 &&& Int32.toUInt32 31)).toInt32) &&& 1 = nI (X / 2 ^ k % 2) := by
  rw [wb_cu32 k hk]
  have e : ((nI X).toUInt32 >>> UInt32.ofNat k).toInt32 = nI (X / 2 ^ k) := by
    apply Int32.toBitVec_inj.mp
    apply BitVec.eq_of_toNat_eq
    show ((nI X).toUInt32 >>> UInt32.ofNat k).toNat = (BitVec.ofNat 32 (X / 2 ^ k)).toNat
    have h1 : (UInt32.ofNat k).toNat = k := by
      show (BitVec.ofNat 32 k).toNat = k
      rw [BitVec.toNat_ofNat, Nat.mod_eq_of_lt (by omega)]
    have h2 : (nI X).toUInt32.toNat = X := by
      show (BitVec.ofNat 32 X).toNat = X
      rw [BitVec.toNat_ofNat, Nat.mod_eq_of_lt hX]
    rw [UInt32.toNat_shiftRight, h1, h2, Nat.mod_eq_of_lt hk, Nat.shiftRight_eq_div_pow, BitVec.toNat_ofNat, Nat.mod_eq_of_lt (Nat.lt_of_le_of_lt (Nat.div_le_self _ _) hX)]
  rw [e, n_a1]
theorem x_flip {b y : Nat} (hb : b < 2) (hy : y < 2) : ∃ x, x < 2 ∧ nI b ^^^ nI y = nI x ∧ (if nI y = 0 then nI b else 1 - nI b) = nI x := by
  rcases (show (b = 0 ∨ b = 1) ∧ (y = 0 ∨ y = 1) by omega) with ⟨h1 | h1, h2 | h2⟩ <;> subst h1 <;> subst h2
  · exact ⟨0, by decide, by decide, by decide⟩
  · exact ⟨1, by decide, by decide, by decide⟩
  · exact ⟨1, by decide, by decide, by decide⟩
  · exact ⟨0, by decide, by decide, by decide⟩
theorem see_loop {F N t b X : Nat} (ht : t < 20000) (hb : b < 2) (hX : X < 2 ^ 32) :
    ∀ d i nc nm s v m D T E, d + i = N → d < nc → d < nm → s.1 17 1 t = nI X → MidS s v m D F N t T E i → ∃ s' v' m' D' T' E', (∀ k14, L_X7_run_90 (nI b) (nI X) k14 nc s (nI i) = k14 (s', nI N)) ∧ (∀ k30, L_X8_run_103 (nI b) k30 nm v m (nI i) = k30 (v', m', nI N)) ∧ v' 0 = v 0 ∧ MidS s' v' m' D' F N t T' E' N := by
  intro d
  induction d with
  | zero =>
    intro i nc nm s v m D T E hd hnc hnm hXs h
    obtain ⟨nc, rfl⟩ : ∃ q, nc = q + 1 := ⟨nc - 1, by omega⟩
    obtain ⟨nm, rfl⟩ : ∃ q, nm = q + 1 := ⟨nm - 1, by omega⟩
    have hi : i = N := by omega
    subst hi
    have hN := h.1.1.1
    refine ⟨s, v, m, D, T, E, fun k14 => ?_, fun k30 => ?_, rfl, h⟩
    · show (if (s.1 0 0 8) ≤ nI i then k14 (s, nI i) else _) = _
      rw [h.1.1.2.1, if_pos (le_l _ (Nat.le_refl _) (by omega))]
    · show (if (v 1) ≤ nI i then k30 (v, m, nI i) else _) = _
      rw [h.1.1.2.2.1, if_pos (le_l _ (Nat.le_refl _) (by omega))]
  | succ d ih =>
    intro i nc nm s v m D T E hd hnc hnm hXs h
    obtain ⟨nc, rfl⟩ : ∃ q, nc = q + 1 := ⟨nc - 1, by omega⟩
    obtain ⟨nm, rfl⟩ : ∃ q, nm = q + 1 := ⟨nm - 1, by omega⟩
    have hN := h.1.1.1
    have hi : i < 32 := by omega
    obtain ⟨fe, f1, f2, f3, f4⟩ := h.1.2.2.2.2.2.1
    obtain ⟨X', X1, X2, X3⟩ := f4 t ht
    have hXX : X' = X := by
      have e : nI X' = nI X := X2.symm.trans hXs
      have e2 := congrArg (fun z : Int32 => z.toBitVec.toNat) e
      have e3 : (BitVec.ofNat 32 X').toNat = (BitVec.ofNat 32 X).toNat := e2
      rwa [BitVec.toNat_ofNat, BitVec.toNat_ofNat, Nat.mod_eq_of_lt X1, Nat.mod_eq_of_lt hX] at e3
    subst hXX
    obtain ⟨x, x1, x2, x3⟩ := x_flip (b := b) (y := X' / 2 ^ i % 2) hb (Nat.mod_lt _ (by decide))
    obtain ⟨R, v', m', s', D', T', E', w1, w2, w3, w4, w5, w6⟩ := see_step h (show i < N by omega) ht x1
    obtain ⟨s2, v2, m2, D2, T2, E2, t1, t2, t3, t4⟩ := ih (i + 1) nc nm s' v' m' D' T' E' (by omega) (by omega) (by omega) (by rw [w4]; exact hXs) w6
    refine ⟨s2, v2, m2, D2, T2, E2, fun k14 => ?_, fun k30 => ?_, by rw [t3, w5], t4⟩
    · have unf : L_X7_run_90 (nI b) (nI X') k14 (nc + 1) s (nI i) = if (s.1 0 0 8) ≤ nI i then k14 (s, nI i) else gd (vp_in (nI i) 32) (bd (f_X2_see (s.2.2 (nI i).toNatClampNeg).1 (s.2.2 (nI i).toNatClampNeg).2 (s.1 3 (nI i).toNatClampNeg) (s.2.1 4 (nI i).toNatClampNeg) (s.1 4 (nI i).toNatClampNeg) (s.1 5 (nI i).toNatClampNeg) (s.1 7 (nI i).toNatClampNeg) (s.1 8 (nI i).toNatClampNeg) (s.1 9 (nI i).toNatClampNeg) (s.1 10 (nI i).toNatClampNeg) (s.1 11 (nI i).toNatClampNeg) (s.1 12 (nI i).toNatClampNeg) (s.1 13) (s.1 15) (nI b ^^^ ((((nI X').toUInt32 >>> ((nI i).toUInt32 &&& Int32.toUInt32 31)).toInt32) &&& 1)) (s.1 0 0 13)) (fun ⟨u17, u18, u19, u20, u21, u22, u23, u24, u25, u26, u27, u28, u29⟩ => lt (α := CS) (qNd s (nI i).toNatClampNeg u17 u18 u19 u20 u21 u22 u23 u24 u25 u26 u27 u28) (fun s30 => bd (f_X7_keep s30 (nI i) u29) (fun u32 => L_X7_run_90 (nI b) (nI X') k14 nc u32 (nI i + 1))))) := rfl
      rw [unf, h.1.1.2.1, if_neg (nle_l _ (by omega) (by omega)), gdT _ (in_nI hi (by decide)), nI_clamp (by omega), n_ushr X1 hi, x2, h.1.1.2.2.2.2.1, w1, bdS]
      obtain ⟨r2, nf, hh, f, o, a, b9, c, tf, tt, tk, ev⟩ := R
      have w2 : f_X7_keep (qNd s i (s.2.2 i).1 r2 nf hh f o a b9 c tf tt tk) (nI i) ev = some s' := w2
      dsimp only
      rw [ltE, w2, bdS, show nI i + 1 = nI (i + 1) from nI_add _ 1]
      exact t1 k14
    · show (if (v 1) ≤ nI i then _ else gd (vp_in ((20000 * nI i) + (v 2)) 640000) (lt (α := Int32) (if ((m 16) (((20000 * nI i) + (v 2)).toNatClampNeg)) = 0 then nI b else (1 - nI b)) (fun x33 => bd (f_X8_sees v m (nI i) x33) (fun ⟨u37, u38⟩ => L_X8_run_103 (nI b) k30 nm u37 u38 (nI i + 1))))) = _
      have e2 : (20000 : Int32) * nI i + nI t = nI (20000 * i + t) := by rw [show (20000 : Int32) = nI 20000 from rfl, n_mul, nI_add]
      rw [h.1.1.2.2.1, if_neg (nle_l _ (by omega) (by omega)), h.1.1.2.2.2.2.2, e2, gdT _ (in_nI (by omega) (by decide)), nI_clamp (by omega), X3 i hi, x3, ltE, w3, bdS]
      dsimp only
      rw [show nI i + 1 = nI (i + 1) from nI_add _ 1]
      exact t2 k30
theorem n_by2 {b : Nat} (hb : b < 2) : vp_nar .byte ((nI b).toInt8.toInt32) = nI b := n_byte b (by omega)
set_option maxHeartbeats 4000000 in
theorem run_loop {F N B : Nat} (hB : B ≤ 20000) :
    ∀ d i nc nm s v m D T E t, d + i = B → t + d ≤ 20000 → d < nc → d < nm → Gl s v m D F N t T E t → gLg s → (∀ n, n < N → gNo 0 s m D F n t T E) → ∃ s' v' m' D' T' E', (∀ k3, L_X7_run_43 (nI B) k3 nc s (nI i) = k3 (s', nI B)) ∧ (∀ k9, L_X8_run_45 (nI B) k9 nm v m (nI i) = k9 (v', m', nI B)) ∧ v' 0 = v 0 ∧ Gl s' v' m' D' F N (t + d) T' E' (t + d) ∧ gLg s' ∧ ∀ n, n < N → gNo 0 s' m' D' F n (t + d) T' E' := by
  intro d
  induction d with
  | zero =>
    intro i nc nm s v m D T E t hd ht hnc hnm hG hL hN
    obtain ⟨nc, rfl⟩ : ∃ q, nc = q + 1 := ⟨nc - 1, by omega⟩
    obtain ⟨nm, rfl⟩ : ∃ q, nm = q + 1 := ⟨nm - 1, by omega⟩
    have hi : i = B := by omega
    subst hi
    refine ⟨s, v, m, D, T, E, fun k3 => ?_, fun k9 => ?_, rfl, hG, hL, hN⟩
    · show (if nI i ≤ nI i then k3 (s, nI i) else _) = _
      rw [if_pos (le_l _ (Nat.le_refl _) (by omega))]
    · show (if nI i ≤ nI i then k9 (v, m, nI i) else _) = _
      rw [if_pos (le_l _ (Nat.le_refl _) (by omega))]
  | succ d ih =>
    intro i nc nm s v m D T E t hd ht hnc hnm hG hL hN
    obtain ⟨nc, rfl⟩ : ∃ q, nc = q + 1 := ⟨nc - 1, by omega⟩
    obtain ⟨nm, rfl⟩ : ∃ q, nm = q + 1 := ⟨nm - 1, by omega⟩
    have hN32 := hG.1.1
    obtain ⟨s1, v1, m1, y, y1, y2, y3, y4, y5, y6, y7⟩ := put_loop N 0 fu fu s v m 1 (by omega) (fu_big (by omega)) (fu_big (by omega)) (by decide) hG hL (fun n hn => absurd hn (Nat.not_lt_zero n)) (fun n _ hn => hN n hn)
    have hput : f_X7_putByAll s = some (s1, nI y) := by
      unfold f_X7_putByAll
      rw [jnE]
      exact y2
    obtain ⟨fe, f1, f2, f3, f4⟩ := y4.2.2.2.2.2.1
    obtain ⟨X, X1, X2, X3⟩ := f4 t (by omega)
    -- the bus
    have hmid : MidS (sZ s1 17 0 (upd (s1.1 17 0) t (nI y))) v1 (va_up m1 0 (upd (m1 0) t (nI y))) D F N t T E 0 := by
      have zo : ∀ a j, (a ≠ 17 ∨ j ≠ 0) → (sZ s1 17 0 (upd (s1.1 17 0) t (nI y))).1 a j = s1.1 a j := fun a j h => sZ_n h
      have mo : ∀ k, k ≠ 0 → (va_up m1 0 (upd (m1 0) t (nI y))) k = m1 k := fun k hk => vu_n _ _ hk
      obtain ⟨a1, a2, a3, a4, a5, a6, a7, a8⟩ := y4
      refine ⟨⟨?_, ?_, ?_, ?_, ?_, ?_, ?_, ?_⟩, ?_, fun n hn => absurd hn (Nat.not_lt_zero n), ?_⟩
      · unfold gA; rw [zo 0 0 (by omega)]; exact a1
      · unfold gF
        rw [zo 0 0 (by omega)]
        refine ⟨a2.1, a2.2.1, a2.2.2.1, fun f hf => ?_⟩
        obtain ⟨b1, b2, b3, b4⟩ := a2.2.2.2 f hf
        refine ⟨b1, b2, ⟨frM_o b3.1 (fun j hj => mo j (by omega)), by rw [mo 1 (by omega)]; exact b3.2.1, by rw [mo 6 (by omega)]; exact b3.2.2⟩, ?_⟩
        unfold FCo at b4 ⊢
        rw [zo 13 f (by omega), zo 14 f (by omega), zo 15 f (by omega)]
        exact b4
      · unfold gDn; rw [zo 0 0 (by omega), zo 17 2 (by omega), zo 17 3 (by omega), mo 7 (by omega), mo 8 (by omega)]; exact a3
      · unfold gEr; rw [zo 0 0 (by omega), zo 17 4 (by omega), mo 23 (by omega), mo 24 (by omega), mo 25 (by omega)]; exact a4
      · intro k hk
        rw [sZ_s, vu_s]
        by_cases hkt : k = t
        · exact ⟨y, y1, by rw [hkt, up_s], by rw [hkt, up_s]⟩
        · rw [up_n _ _ hkt, up_n _ _ hkt]; exact a5 k (by omega)
      · unfold gFl; rw [zo 0 0 (by omega), zo 17 1 (by omega), mo 16 (by omega)]; exact a6
      · unfold gWr; rw [zo 7 32 (by omega), zo 8 32 (by omega), zo 9 32 (by omega)]; exact a7
      · unfold gTk; rw [mo 17 (by omega)]; exact a8
      · intro n hn
        rw [zo 5 n (by omega), zo 7 n (by omega), zo 8 n (by omega), zo 9 n (by omega)]
        exact y5 n hn
      · intro n _ hn
        refine gNo_c (y6 n hn) ⟨fun a h1 h2 => zo a n (by omega), rfl, rfl⟩ (fun k hk => by rw [mo k (by omega)]) (fun k _ => by unfold sSeg; rw [mo 15 (by omega)]) (fun k _ => by rw [mo 17 (by omega), mo 18 (by omega), mo 19 (by omega), mo 20 (by omega), mo 21 (by omega)]; exact ⟨rfl, rfl, rfl, rfl, rfl⟩) (fun x _ => by rw [mo 22 (by omega)]) (Or.inl rfl) (fun k _ => by rw [mo 24 (by omega)]) (Or.inl rfl) rfl rfl (fun j _ hj => ⟨hj, rfl, rfl⟩)
    obtain ⟨s2, v2, m2, D2, T2, E2, t1, t2, t3, t4⟩ := see_loop (F := F) (N := N) (t := t) (b := y) (X := X) (by omega) y1 X1 N 0 fu fu _ v1 _ D T E (by omega) (fu_big (by omega)) (fu_big (by omega)) (by rw [sZ_n (by omega)]; exact X2) hmid
    -- the clock
    have hnext : Gl (sZ s2 0 0 (upd (s2.1 0 0) 13 (nI (t + 1)))) (upd v2 2 (nI (t + 1))) m2 D2 F N (t + 1) T2 E2 (t + 1) ∧ gLg (sZ s2 0 0 (upd (s2.1 0 0) 13 (nI (t + 1)))) ∧ ∀ n, n < N → gNo 0 (sZ s2 0 0 (upd (s2.1 0 0) 13 (nI (t + 1)))) m2 D2 F n (t + 1) T2 E2 := by
      have zo : ∀ a j, (a ≠ 0 ∨ j ≠ 0) → (sZ s2 0 0 (upd (s2.1 0 0) 13 (nI (t + 1)))).1 a j = s2.1 a j := fun a j h => sZ_n h
      obtain ⟨⟨a1, a2, a3, a4, a5, a6, a7, a8⟩, hL2, hN2, _⟩ := t4
      refine ⟨⟨?_, ?_, ?_, ?_, ?_, ?_, ?_, ?_⟩, ?_, ?_⟩
      · unfold gA
        rw [sZ_s, up_n _ _ (by decide), up_s, up_n _ _ (by decide), up_s]
        exact ⟨a1.1, a1.2.1, a1.2.2.1, by omega, rfl, rfl⟩
      · unfold gF
        rw [sZ_s, up_n _ _ (by decide), up_n _ _ (by decide)]
        refine ⟨a2.1, a2.2.1, a2.2.2.1, fun f hf => ?_⟩
        obtain ⟨b1, b2, b3, b4⟩ := a2.2.2.2 f hf
        refine ⟨b1, b2, b3, ?_⟩
        unfold FCo at b4 ⊢
        rw [zo 13 f (by omega), zo 14 f (by omega), zo 15 f (by omega)]
        exact b4
      · unfold gDn; rw [sZ_s, up_n _ _ (by decide), up_n _ _ (by decide), zo 17 2 (by omega), zo 17 3 (by omega)]; exact a3
      · unfold gEr; rw [sZ_s, up_n _ _ (by decide), up_n _ _ (by decide), zo 17 4 (by omega)]; exact a4
      · unfold gBu; rw [zo 17 0 (by omega)]; exact a5
      · unfold gFl; rw [sZ_s, up_n _ _ (by decide), zo 17 1 (by omega)]; exact a6
      · unfold gWr; rw [zo 7 32 (by omega), zo 8 32 (by omega), zo 9 32 (by omega)]; exact a7
      · unfold gTk; rw [up_n _ _ (by decide)]; exact a8
      · intro n hn
        rw [zo 5 n (by omega), zo 7 n (by omega), zo 8 n (by omega), zo 9 n (by omega)]
        exact hL2 n hn
      · intro n hn
        exact gNo_sm (hN2 n hn hn) ⟨fun a h1 h2 => zo a n (by omega), rfl, rfl⟩ (sm_r m2)
    obtain ⟨g1, g2, g3⟩ := hnext
    obtain ⟨s3, v3, m3, D3, T3, E3, r1, r2, r3, r4, r5, r6⟩ := ih (i + 1) nc nm _ _ m2 D2 T2 E2 (t + 1) (by omega) (by omega) (by omega) (by omega) g1 g2 g3
    rw [show t + 1 + d = t + (d + 1) by omega] at r4 r6
    refine ⟨s3, v3, m3, D3, T3, E3, fun k3 => ?_, fun k9 => ?_, by rw [r3, up_n _ _ (by decide), t3, y7], r4, r5, r6⟩
    · have unf : L_X7_run_43 (nI B) k3 (nc + 1) s (nI i) = if nI B ≤ nI i then k3 (s, nI i) else if 20000 ≤ (s.1 0 0 13) then k3 (s, nI i) else bd (f_X7_putByAll s) (fun ⟨u5, u6⟩ => gd (vp_in (u5.1 0 0 13) 20000) (lt (α := Int32) (u5.1 17 1 (u5.1 0 0 13).toNatClampNeg) (fun v9 => gd (vp_in (u5.1 0 0 13) 20000) (lt (α := CS) (sZ u5 17 0 (upd (u5.1 17 0) (u5.1 0 0 13).toNatClampNeg (vp_nar .byte u6.toInt8.toInt32))) (fun s11 => jn (α := CS × Int32) (fun ⟨v12, v13⟩ => lt (α := CS) (sZ v12 0 0 (upd (v12.1 0 0) 13 ((v12.1 0 0 13) + 1))) (fun s35 => L_X7_run_43 (nI B) k3 nc s35 (nI i + 1))) (fun k14 => L_X7_run_90 u6 v9 k14 fu s11 0)))))) := rfl
      rw [unf, if_neg (nle_l _ (by omega) (by omega)), hG.1.2.2.2.2.1, if_neg (show ¬ 20000 ≤ nI t from nle_l (a := 20000) t (by omega) (by decide)), hput, bdS]
      dsimp only
      rw [y4.1.2.2.2.2.1, gdT _ (in_nI (by omega) (by decide)), nI_clamp (by omega), X2, ltE, gdT _ (in_nI (by omega) (by decide)), n_by2 y1, ltE, jnE, show (0 : Int32) = nI 0 from rfl, t1]
      dsimp only
      rw [ltE, t4.1.1.2.2.2.2.1, show nI t + 1 = nI (t + 1) from nI_add _ 1, show nI i + 1 = nI (i + 1) from nI_add _ 1]
      exact r1 k3
    · have unf : L_X8_run_45 (nI B) k9 (nm + 1) v m (nI i) = if nI B ≤ nI i then k9 (v, m, nI i) else jn (α := (Nat → Int32) × (Nat → Nat → Int32) × Int32 × Int32) (fun ⟨v11, v12, v13, v14⟩ => gd (vp_in (v11 2) 20000) (jn (α := (Nat → Int32) × (Nat → Nat → Int32) × Int32) (fun ⟨v27, v28, v29⟩ => L_X8_run_45 (nI B) k9 nm (upd v27 2 ((v27 2) + 1)) v28 (nI i + 1)) (fun k30 => L_X8_run_103 v14 k30 fu v11 (va_up v12 0 (upd (v12 0) ((v11 2).toNatClampNeg) (vp_nar .byte v14.toInt8.toInt32))) 0))) (fun k15 => L_X8_run_56 k15 fu v m 0 1) := rfl
      rw [unf, if_neg (nle_l _ (by omega) (by omega)), jnE, show (0 : Int32) = nI 0 from rfl, show (1 : Int32) = nI 1 from rfl, y3]
      dsimp only
      rw [y4.1.2.2.2.2.2, gdT _ (in_nI (by omega) (by decide)), jnE, nI_clamp (by omega), n_by2 y1, t2]
      dsimp only
      rw [t4.1.1.2.2.2.2.2, show nI t + nI 1 = nI (t + 1) from nI_add _ 1, show nI i + nI 1 = nI (i + 1) from nI_add _ 1]
      exact r2 k9
