/-! the model writes plain bits -/
def PW (v : Nat → Int32) (m : Nat → Nat → Int32) (P : List Nat) : Prop := v 34 = nI P.length ∧ arr (m 26) P
def o34 (v v' : Nat → Int32) : Prop := ∀ k, k ≠ 34 → v' k = v k
def o26 (m m' : Nat → Nat → Int32) : Prop := ∀ k, k ≠ 26 → m' k = m k
theorem o34_t {a b c : Nat → Int32} (h1 : o34 a b) (h2 : o34 b c) : o34 a c := fun k hk => (h2 k hk).trans (h1 k hk)
theorem o26_t {a b c : Nat → Nat → Int32} (h1 : o26 a b) (h2 : o26 b c) : o26 a c := fun k hk => (h2 k hk).trans (h1 k hk)
theorem o34_sv {v v' : Nat → Int32} (h : o34 v v') : sv v v' := fun k k1 _ _ _ => h k k1
theorem o26_sm {m m' : Nat → Nat → Int32} (h : o26 m m') : sm m m' := fun k hk => h k (by omega)
theorem m_bitsL {x : Nat} (hx : x < 2 ^ 31) {k4 : (Nat → Int32) × (Nat → Nat → Int32) × Int32 → Option ((Nat → Int32) × (Nat → Nat → Int32))} :
    ∀ j nn v m P, j < nn → j < 32 → P.length + j ≤ 700 → PW v m P → ∃ v' m', L_X8_bits_4 (nI x) k4 nn v m (nI j - 1) = k4 (v', m', -1) ∧ PW v' m' (P ++ bt x j) ∧ o34 v v' ∧ o26 m m' := by
  intro j
  induction j with
  | zero =>
    intro nn v m P hnn hj hl h
    obtain ⟨nn, rfl⟩ : ∃ q, nn = q + 1 := ⟨nn - 1, by omega⟩
    refine ⟨v, m, ?_, by show PW v m (P ++ []); rw [List.append_nil]; exact h, fun _ _ => rfl, fun _ _ => rfl⟩
    show (if nI 0 - 1 < 0 then k4 (v, m, nI 0 - 1) else _) = _
    rw [if_pos (by decide)]
    rfl
  | succ j ih =>
    intro nn v m P hnn hj hl h
    obtain ⟨nn, rfl⟩ : ∃ q, nn = q + 1 := ⟨nn - 1, by omega⟩
    obtain ⟨h1, h2⟩ := h
    have hb : x / 2 ^ j % 2 < 2 := Nat.mod_lt _ (by decide)
    obtain ⟨v2, m2, t1, t2, t3, t4⟩ := ih nn (upd v 34 (nI (P.length + 1))) (va_up m 26 (upd (m 26) P.length (nI (x / 2 ^ j % 2)))) (P ++ [x / 2 ^ j % 2]) (by omega) (by omega) (by rw [len_s]; omega) ⟨by rw [up_s, len_s], by rw [vu_s]; exact arr_s h2 rfl⟩
    refine ⟨v2, m2, ?_, by rw [List.append_assoc] at t2; exact t2, fun k hk => by rw [t3 k hk, up_n _ _ hk], fun k hk => by rw [t4 k hk, vu_n _ _ hk]⟩
    rw [show nI (j + 1) - 1 = nI j from n_sub (b := 1) (by omega)]
    show (if nI j < 0 then _ else lt ((nI x >>> (nI j &&& 31)) &&& 1) (fun v6 => gd (vp_in (v 34) 700) (L_X8_bits_4 (nI x) k4 nn (upd v 34 ((v 34) + 1)) (va_up m 26 (upd (m 26) ((v 34).toNatClampNeg) (vp_nar .byte v6.toInt8.toInt32))) (nI j + (-1))))) = _
    rw [if_neg (show ¬ nI j < 0 from nlt_l 0 (by omega) (by omega)), n_bit hx (by omega), ltE, h1, gdT _ (in_nI (by omega) (by decide)), nI_clamp (by omega), n_byte _ (by omega), show nI P.length + 1 = nI (P.length + 1) from nI_add _ 1, show nI j + (-1) = nI j - 1 from (Int32.sub_eq_add_neg _ _).symm]
    exact t1
theorem m_bits {v : Nat → Int32} {m : Nat → Nat → Int32} {P : List Nat} {x n : Nat} (hx : x < 2 ^ 31) (hn : n < 32) (hl : P.length + n ≤ 700) (h : PW v m P) : ∃ v' m', f_X8_bits v m (nI x) (nI n) = some (v', m') ∧ PW v' m' (P ++ bt x n) ∧ o34 v v' ∧ o26 m m' := by
  obtain ⟨v', m', e1, e2, e3, e4⟩ := m_bitsL (k4 := fun ⟨v1, v2, v3⟩ => some (v1, v2)) hx n fu v m P (fu_big (by omega)) hn hl h
  refine ⟨v', m', ?_, e2, e3, e4⟩
  unfold f_X8_bits
  rw [jnE]
  exact e1
/-- a frame as the model has it -/
def frM (m : Nat → Nat → Int32) (f k id c : Nat) (o : Nat → Nat) : Prop := m 2 f = nI id ∧ m 3 f = nI k ∧ m 4 f = nI c ∧ ∀ i, i < 64 → m 5 (64 * f + i) = nI (o i)
def frV (k id c : Nat) (o : Nat → Nat) : Prop := k < 6 ∧ c < 16 ∧ id < (if isL k = 1 then 2 ^ 29 else 2 ^ 11) ∧ ∀ i, i < 64 → o i < 256
theorem frM_o {m m' : Nat → Nat → Int32} {f k id c : Nat} {o : Nat → Nat} (h : frM m f k id c o) (hm : ∀ j, j = 2 ∨ j = 3 ∨ j = 4 ∨ j = 5 → m' j = m j) : frM m' f k id c o := by
  obtain ⟨h1, h2, h3, h4⟩ := h
  exact ⟨by rw [hm 2 (by omega)]; exact h1, by rw [hm 3 (by omega)]; exact h2, by rw [hm 4 (by omega)]; exact h3, fun i hi => by rw [hm 5 (by omega)]; exact h4 i hi⟩
theorem frM_26 {m m' : Nat → Nat → Int32} {f k id c : Nat} {o : Nat → Nat} (h : frM m f k id c o) (hm : o26 m m') : frM m' f k id c o := frM_o h (fun j hj => hm j (by omega))
theorem frM_sm {m m' : Nat → Nat → Int32} {f k id c : Nat} {o : Nat → Nat} (h : frM m f k id c o) (hm : sm m m') : frM m' f k id c o := frM_o h (fun j hj => hm j (by omega))
theorem frV_id {k id c : Nat} {o : Nat → Nat} (h : frV k id c o) : id < 2 ^ 29 := by
  have h3 := h.2.2.1
  split at h3 <;> omega
theorem e64 (f i : Nat) : (64 : Int32) * nI f + nI i = nI (64 * f + i) := by rw [show (64 : Int32) = nI 64 from rfl, n_mul, nI_add]
theorem m_octL {f k id c : Nat} {o : Nat → Nat} (hf : f < 200) (hV : frV k id c o) {P : List Nat} (hPl : P.length ≤ 41) {k41 : (Nat → Int32) × (Nat → Nat → Int32) × Int32 → Option ((Nat → Int32) × (Nat → Nat → Int32))} :
    ∀ d i nn v m, d + i = octs k c → d < nn → frM m f k id c o → PW v m (P ++ ocL o i) → ∃ v' m', L_X8_writePlain_196 (nI f) k41 nn v m (nI i) = k41 (v', m', nI (octs k c)) ∧ PW v' m' (P ++ ocL o (octs k c)) ∧ o34 v v' ∧ o26 m m' := by
  have hoc := octs_le k c
  intro d
  induction d with
  | zero =>
    intro i nn v m hd hnn hM h
    obtain ⟨nn, rfl⟩ : ∃ q, nn = q + 1 := ⟨nn - 1, by omega⟩
    have hi : i = octs k c := by omega
    refine ⟨v, m, ?_, by rw [← hi]; exact h, fun _ _ => rfl, fun _ _ => rfl⟩
    show gd (vp_in (nI f) 200) (gd (vp_in (nI f) 200) (bd (f_X8_octetsOf ((m 3) (nI f).toNatClampNeg) ((m 4) (nI f).toNatClampNeg)) (fun u45 => if u45 ≤ nI i then k41 (v, m, nI i) else _))) = _
    rw [gdT _ (in_nI hf (by decide)), gdT _ (in_nI hf (by decide)), nI_clamp (by omega), hM.2.1, hM.2.2.1, m_octets k hV.1 c hV.2.1, bdS, if_pos (le_l _ (by omega) (by omega)), hi]
  | succ d ih =>
    intro i nn v m hd hnn hM h
    obtain ⟨nn, rfl⟩ : ∃ q, nn = q + 1 := ⟨nn - 1, by omega⟩
    have hlP : (P ++ ocL o i).length = P.length + 8 * i := by rw [List.length_append, ocL_len]
    have ho := hV.2.2.2 i (by omega)
    obtain ⟨v1, m1, e1, e2, e3, e4⟩ := m_bits (x := o i) (n := 8) (by omega) (by decide) (by rw [hlP]; omega) h
    obtain ⟨v2, m2, t1, t2, t3, t4⟩ := ih (i + 1) nn v1 m1 (by omega) (by omega) (frM_26 hM e4) (by rw [List.append_assoc] at e2; exact e2)
    refine ⟨v2, m2, ?_, t2, o34_t e3 t3, o26_t e4 t4⟩
    show gd (vp_in (nI f) 200) (gd (vp_in (nI f) 200) (bd (f_X8_octetsOf ((m 3) (nI f).toNatClampNeg) ((m 4) (nI f).toNatClampNeg)) (fun u45 => if u45 ≤ nI i then _ else gd (vp_in ((64 * nI f) + nI i) 12800) (bd (f_X8_bits v m ((m 5) (((64 * nI f) + nI i).toNatClampNeg)) (nI 8)) (fun ⟨u48, u49⟩ => L_X8_writePlain_196 (nI f) k41 nn u48 u49 (nI i + 1)))))) = _
    rw [gdT _ (in_nI hf (by decide)), gdT _ (in_nI hf (by decide)), nI_clamp (by omega), hM.2.1, hM.2.2.1, m_octets k hV.1 c hV.2.1, bdS, if_neg (nle_l _ (by omega) (by omega)), e64, gdT _ (in_nI (by omega) (by decide)), nI_clamp (by omega), hM.2.2.2 i (by omega), e1, bdS]
    dsimp only
    rw [show nI i + 1 = nI (i + 1) from nI_add _ 1]
    exact t1
theorem m_x2 : ∀ k, k < 6 → (if nI k - nI k / 2 * 2 = 1 then (1 : Int32) else 0) = nI (isL k) := by decide +kernel
theorem m_x12 : ∀ k, k < 6 → (if nI k ≤ 3 then (0 : Int32) else 1) = nI (isR k) := by decide +kernel
theorem m_x7 {β : Type} {k : Nat} (hk : k < 6) {P : Prop} (hP : P) (g : Int32 → Option β) : jn g (fun k9 => if nI k = 2 then k9 1 else gd P (if nI k = 3 then k9 1 else k9 0)) = g (nI (isF k)) := by
  rw [jnE]
  rcases (show k = 0 ∨ k = 1 ∨ k = 2 ∨ k = 3 ∨ k = 4 ∨ k = 5 by omega) with rfl | rfl | rfl | rfl | rfl | rfl
  · rw [if_neg (by decide), gdT _ hP, if_neg (by decide)]; rfl
  · rw [if_neg (by decide), gdT _ hP, if_neg (by decide)]; rfl
  · rw [if_pos (by decide)]; rfl
  · rw [if_neg (by decide), gdT _ hP, if_pos (by decide)]; rfl
  · rw [if_neg (by decide), gdT _ hP, if_neg (by decide)]; rfl
  · rw [if_neg (by decide), gdT _ hP, if_neg (by decide)]; rfl
theorem PW_0 (v : Nat → Int32) (m : Nat → Nat → Int32) : PW (upd v 34 0) m [] := ⟨up_s _ _ _, arr_nil _⟩
/-- the end of a head: fixed bits, code, octets -/
theorem m_wpEnd {f k id c : Nat} {o : Nat → Nat} (hf : f < 200) (hV : frV k id c o) {P : List Nat} {v : Nat → Int32} {m : Nat → Nat → Int32} (hPl : P.length + (if isF k = 1 then 4 else if isL k = 1 then 2 else 1) + 4 ≤ 41) (hM : frM m f k id c o) (h : PW v m P) :
    ∃ v' m', (jn (α := (Nat → Int32) × (Nat → Nat → Int32)) (fun x => gd (vp_in (nI f) 200) (bd (f_X8_bits x.1 x.2 ((x.2 4) f) 4) (fun x => jn (α := (Nat → Int32) × (Nat → Nat → Int32) × Int32) (fun x => some (x.1, x.2.1)) (fun k41 => L_X8_writePlain_196 (nI f) k41 fu x.1 x.2 (nI 0))))) (fun k32 => if nI (isF k) = nI 0 then lt (α := Int32) (if nI (isL k) = nI 0 then nI 1 else 2) (fun x53 => bd (f_X8_bits v m (nI 0) x53) (fun x => k32 (x.1, x.2))) else bd (f_X8_bits v m 8 4) (fun x => k32 (x.1, x.2)))) = some (v', m') ∧ PW v' m' (P ++ (if isF k = 1 then bt 8 4 else bt 0 (if isL k = 1 then 2 else 1)) ++ bt c 4 ++ ocL o (octs k c)) ∧ o34 v v' ∧ o26 m m' := by
  have hc := hV.2.1
  have fin : ∀ (v1 : Nat → Int32) (m1 : Nat → Nat → Int32) (P1 : List Nat), P1.length + 4 ≤ 41 → frM m1 f k id c o → PW v1 m1 P1 → ∃ v' m', gd (vp_in (nI f) 200) (bd (f_X8_bits v1 m1 ((m1 4) f) 4) (fun x => jn (α := (Nat → Int32) × (Nat → Nat → Int32) × Int32) (fun x => some (x.1, x.2.1)) (fun k41 => L_X8_writePlain_196 (nI f) k41 fu x.1 x.2 (nI 0)))) = some (v', m') ∧ PW v' m' (P1 ++ bt c 4 ++ ocL o (octs k c)) ∧ o34 v1 v' ∧ o26 m1 m' := by
    intro v1 m1 P1 hl hM1 h1
    obtain ⟨v2, m2, e1, e2, e3, e4⟩ := m_bits (x := c) (n := 4) (by omega) (by decide) (by omega) h1
    obtain ⟨v3, m3, t1, t2, t3, t4⟩ := m_octL (k41 := fun x => some (x.1, x.2.1)) hf hV (P := P1 ++ bt c 4) (by rw [List.length_append, bt_len]; omega) (octs k c) 0 fu v2 m2 (by omega) (fu_big (by have := octs_le k c; omega)) (frM_26 hM1 e4) (by show PW v2 m2 (P1 ++ bt c 4 ++ []); rw [List.append_nil]; exact e2)
    refine ⟨v3, m3, ?_, t2, o34_t e3 t3, o26_t e4 t4⟩
    rw [gdT _ (in_nI hf (by decide)), hM1.2.2.1, show (4 : Int32) = nI 4 from rfl, e1, bdS]
    dsimp only
    rw [jnE]
    exact t1
  rw [jnE]
  have hF := isF_lt k
  have hL := isL_lt k
  by_cases h1 : isF k = 1
  · rw [if_pos h1] at hPl ⊢
    rw [if_neg (show ¬ nI (isF k) = nI 0 by rw [h1]; decide)]
    obtain ⟨v1, m1, e1, e2, e3, e4⟩ := m_bits (x := 8) (n := 4) (by omega) (by decide) (by omega) h
    rw [show (8 : Int32) = nI 8 from rfl, show (4 : Int32) = nI 4 from rfl, e1, bdS]
    dsimp only
    obtain ⟨v2, m2, t1, t2, t3, t4⟩ := fin v1 m1 _ (by rw [List.length_append, bt_len]; omega) (frM_26 hM e4) e2
    exact ⟨v2, m2, t1, t2, o34_t e3 t3, o26_t e4 t4⟩
  · have h0 : isF k = 0 := by omega
    rw [if_neg h1] at hPl ⊢
    rw [if_pos (show nI (isF k) = nI 0 by rw [h0]), ltE]
    have ex : (if nI (isL k) = nI 0 then nI 1 else 2) = nI (if isL k = 1 then 2 else 1) := by
      rcases (show isL k = 0 ∨ isL k = 1 by omega) with h | h <;> rw [h] <;> rfl
    rw [ex]
    have hle : (if isL k = 1 then 2 else 1) < 32 := by split <;> omega
    obtain ⟨v1, m1, e1, e2, e3, e4⟩ := m_bits (x := 0) (n := if isL k = 1 then 2 else 1) (by omega) hle (by omega) h
    rw [e1, bdS]
    dsimp only
    obtain ⟨v2, m2, t1, t2, t3, t4⟩ := fin v1 m1 _ (by rw [List.length_append, bt_len]; omega) (frM_26 hM e4) e2
    exact ⟨v2, m2, t1, t2, o34_t e3 t3, o26_t e4 t4⟩
theorem m_writePlain {v : Nat → Int32} {m : Nat → Nat → Int32} {f k id c : Nat} {o : Nat → Nat} (hf : f < 200) (hV : frV k id c o) (hM : frM m f k id c o) : ∃ v' m', f_X8_writePlain v m (nI f) = some (v', m') ∧ PW v' m' (plL k id c o) ∧ o34 v v' ∧ o26 m m' := by
  have hid := frV_id hV
  have hk := hV.1
  have hL := isL_lt k
  have hF := isF_lt k
  have hR := isR_lt k
  unfold f_X8_writePlain
  rw [gdT _ (in_nI hf (by decide)), nI_clamp (by omega), hM.2.1, ltE, m_x2 k hk, gdT _ (in_nI hf (by decide)), m_x7 hk (in_nI hf (by decide)), gdT _ (in_nI hf (by decide)), m_x12 k hk, ltE]
  obtain ⟨v1, m1, a1, a2, a3, a4⟩ := m_bits (v := upd v 34 (nI 0)) (m := m) (P := []) (x := 0) (n := 1) (by decide) (by decide) (by decide) (PW_0 v m)
  have hM1 := frM_26 hM a4
  rw [show (0 : Int32) = nI 0 from rfl, show (1 : Int32) = nI 1 from rfl, a1, bdS]
  dsimp only
  rw [jnE]
  have o1 : o34 v v1 := fun j hj => by rw [a3 j hj, up_n _ _ hj]
  have hlv := hlen_le (l := isL k) (f := isF k)
  by_cases h1 : isL k = 1
  · have hne : ¬ nI (isL k) = nI 0 := by rw [h1]; decide
    rw [if_neg hne, gdT _ (in_nI hf (by decide)), hM1.1]
    have e18 : nI id >>> ((18 : Int32) &&& 31) = nI (id / 2 ^ 18) := n_shr (k := 18) (by omega) (by decide)
    rw [e18]
    obtain ⟨v2, m2, b1, b2, b3, b4⟩ := m_bits (x := id / 2 ^ 18) (n := 11) (by omega) (by decide) (by decide) a2
    have hM2 := frM_26 hM1 b4
    dsimp only
    rw [show (11 : Int32) = nI 11 from rfl, b1, bdS]
    dsimp only
    rw [jnE, if_neg hne]
    have l2 : ([] ++ bt 0 1 ++ bt (id / 2 ^ 18) 11).length = 12 := by simp [bt_len]
    obtain ⟨v3, m3, c1, c2, c3, c4⟩ := m_bits (x := 1) (n := 1) (by decide) (by decide) (by rw [l2]; decide) b2
    rw [c1, bdS]
    dsimp only
    have l3 : ([] ++ bt 0 1 ++ bt (id / 2 ^ 18) 11 ++ bt 1 1).length = 13 := by simp [bt_len]
    obtain ⟨v4, m4, d1, d2, d3, d4⟩ := m_bits (x := 1) (n := 1) (by decide) (by decide) (by rw [l3]; decide) c2
    have hM4 := frM_26 (frM_26 hM2 c4) d4
    rw [d1, bdS]
    dsimp only
    have e26 : nI id &&& 262143 = nI (id % 2 ^ 18) := n_mask id 18
    rw [gdT _ (in_nI hf (by decide)), hM4.1, e26]
    have l4 : ([] ++ bt 0 1 ++ bt (id / 2 ^ 18) 11 ++ bt 1 1 ++ bt 1 1).length = 14 := by simp [bt_len]
    obtain ⟨v5, m5, f1, f2, f3, f4⟩ := m_bits (x := id % 2 ^ 18) (n := 18) (by omega) (by decide) (by rw [l4]; decide) d2
    rw [show (18 : Int32) = nI 18 from rfl, f1, bdS]
    dsimp only
    have l5 : ([] ++ bt 0 1 ++ bt (id / 2 ^ 18) 11 ++ bt 1 1 ++ bt 1 1 ++ bt (id % 2 ^ 18) 18).length = 32 := by simp [bt_len]
    obtain ⟨v6, m6, g1, g2, g3, g4⟩ := m_bits (x := isR k) (n := 1) (by omega) (by decide) (by rw [l5]; decide) f2
    have hM6 := frM_26 (frM_26 hM4 f4) g4
    rw [g1, bdS]
    dsimp only
    have l6 : ([] ++ bt 0 1 ++ bt (id / 2 ^ 18) 11 ++ bt 1 1 ++ bt 1 1 ++ bt (id % 2 ^ 18) 18 ++ bt (isR k) 1).length = 33 := by simp [bt_len]
    obtain ⟨v7, m7, t1, t2, t3, t4⟩ := m_wpEnd hf hV (by rw [l6]; split <;> (try split) <;> omega) hM6 g2
    refine ⟨v7, m7, t1, ?_, o34_t o1 (o34_t b3 (o34_t c3 (o34_t d3 (o34_t f3 (o34_t g3 t3))))), o26_t a4 (o26_t b4 (o26_t c4 (o26_t d4 (o26_t f4 (o26_t g4 t4)))))⟩
    have er : bt (isR k) 1 = [isR k] := by show [isR k / 2 ^ 0 % 2] = _; rw [Nat.pow_zero, Nat.div_one, Nat.mod_eq_of_lt hR]
    have e01 : bt 0 1 = [0] := rfl
    have e11 : bt 1 1 = [1] := rfl
    have eq : [] ++ bt 0 1 ++ bt (id / 2 ^ 18) 11 ++ bt 1 1 ++ bt 1 1 ++ bt (id % 2 ^ 18) 18 ++ bt (isR k) 1 ++ (if isF k = 1 then bt 8 4 else bt 0 (if isL k = 1 then 2 else 1)) ++ bt c 4 ++ ocL o (octs k c) = plL k id c o := by
      unfold plL hdL
      simp only [if_pos h1]
      rw [er, e01, e11]
      simp only [List.nil_append, List.append_assoc]
    rw [← eq]
    exact t2
  · have h0 : isL k = 0 := by omega
    have heq : nI (isL k) = nI 0 := by rw [h0]
    rw [if_pos heq, gdT _ (in_nI hf (by decide)), hM1.1]
    obtain ⟨v2, m2, b1, b2, b3, b4⟩ := m_bits (x := id) (n := 11) (by omega) (by decide) (by decide) a2
    have hM2 := frM_26 hM1 b4
    dsimp only
    rw [show (11 : Int32) = nI 11 from rfl, b1, bdS]
    dsimp only
    rw [jnE, if_pos heq]
    have l2 : ([] ++ bt 0 1 ++ bt id 11).length = 12 := by simp [bt_len]
    obtain ⟨v3, m3, c1, c2, c3, c4⟩ := m_bits (x := isR k) (n := 1) (by omega) (by decide) (by rw [l2]; decide) b2
    rw [c1, bdS]
    dsimp only
    have l3 : ([] ++ bt 0 1 ++ bt id 11 ++ bt (isR k) 1).length = 13 := by simp [bt_len]
    obtain ⟨v4, m4, d1, d2, d3, d4⟩ := m_bits (x := 0) (n := 1) (by decide) (by decide) (by rw [l3]; decide) c2
    have hM4 := frM_26 (frM_26 hM2 c4) d4
    rw [d1, bdS]
    dsimp only
    have l4 : ([] ++ bt 0 1 ++ bt id 11 ++ bt (isR k) 1 ++ bt 0 1).length = 14 := by simp [bt_len]
    obtain ⟨v7, m7, t1, t2, t3, t4⟩ := m_wpEnd hf hV (by rw [l4]; split <;> (try split) <;> omega) hM4 d2
    refine ⟨v7, m7, t1, ?_, o34_t o1 (o34_t b3 (o34_t c3 (o34_t d3 t3))), o26_t a4 (o26_t b4 (o26_t c4 (o26_t d4 t4)))⟩
    have er : bt (isR k) 1 = [isR k] := by show [isR k / 2 ^ 0 % 2] = _; rw [Nat.pow_zero, Nat.div_one, Nat.mod_eq_of_lt hR]
    have e01 : bt 0 1 = [0] := rfl
    have eq : [] ++ bt 0 1 ++ bt id 11 ++ bt (isR k) 1 ++ bt 0 1 ++ (if isF k = 1 then bt 8 4 else bt 0 (if isL k = 1 then 2 else 1)) ++ bt c 4 ++ ocL o (octs k c) = plL k id c o := by
      unfold plL hdL
      simp only [if_neg h1]
      rw [er, e01]
      simp only [List.nil_append, List.append_assoc]
    rw [← eq]
    exact t2
