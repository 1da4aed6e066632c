/-! frames: a table of owner, kind, identifier, code, done, octets -/
abbrev FD := Nat → Nat × Nat × Nat × Nat × Nat × (Nat → Nat)
def fOw (D : FD) (f : Nat) : Nat := (D f).1
def fKi (D : FD) (f : Nat) : Nat := (D f).2.1
def fId (D : FD) (f : Nat) : Nat := (D f).2.2.1
def fCo (D : FD) (f : Nat) : Nat := (D f).2.2.2.1
def fDn (D : FD) (f : Nat) : Nat := (D f).2.2.2.2.1
def fOc (D : FD) (f : Nat) : Nat → Nat := (D f).2.2.2.2.2
def fP (D : FD) (f : Nat) : List Nat := plL (fKi D f) (fId D f) (fCo D f) (fOc D f)
def fR (D : FD) (f : Nat) : List Nat := rowL (fKi D f) (fId D f) (fCo D f) (fOc D f)
def fG (D : FD) (f : Nat) : List Nat := flgL (fKi D f) (fId D f) (fCo D f) (fOc D f)
def FVo (D : FD) (f : Nat) : Prop := frV (fKi D f) (fId D f) (fCo D f) (fOc D f) ∧ fOw D f < 32 ∧ fDn D f < 2
def FMo (m : Nat → Nat → Int32) (D : FD) (f : Nat) : Prop := frM m f (fKi D f) (fId D f) (fCo D f) (fOc D f) ∧ m 1 f = nI (fOw D f) ∧ m 6 f = nI (fDn D f)
/-- a frame as the class has it -/
def FCv (h : Int64) (g o b : Nat → Int32) (D : FD) (f : Nat) : Prop := g 3 = nI f ∧ g 4 = nI (fOw D f) ∧ g 5 = nI (fKi D f) ∧ g 7 = nI (octs (fKi D f) (fCo D f)) ∧ g 8 = nI (fDn D f) ∧ h = lN (hdN (fKi D f) (fId D f) (fCo D f)) ∧ (∀ i, i < 64 → o i = nI (fOc D f i)) ∧ rowC g b (fKi D f) (fId D f) (fCo D f) (fOc D f)
def FCo (s : CS) (D : FD) (f : Nat) : Prop := FCv (s.2.1 13 f) (s.1 13 f) (s.1 14 f) (s.1 15 f) D f
/-- the first of a node's frames, of the first f -/
def fs (D : FD) (n : Nat) : Nat → Option Nat
  | 0 => none
  | f + 1 => if fOw D f = n ∧ fDn D f = 0 then (match fs D n f with
      | none => some f
      | some j => if lx (fP D f) (fP D j) = 1 then some f else some j) else fs D n f
theorem fs_n {D : FD} {n f : Nat} (h : ¬ (fOw D f = n ∧ fDn D f = 0)) : fs D n (f + 1) = fs D n f := by show (if _ then _ else _) = _; rw [if_neg h]
theorem fs_0 {D : FD} {n f : Nat} (h : fOw D f = n ∧ fDn D f = 0) (h0 : fs D n f = none) : fs D n (f + 1) = some f := by show (if _ then _ else _) = _; rw [if_pos h, h0]
theorem fs_1 {D : FD} {n f j : Nat} (h : fOw D f = n ∧ fDn D f = 0) (h0 : fs D n f = some j) : fs D n (f + 1) = if lx (fP D f) (fP D j) = 1 then some f else some j := by show (if _ then _ else _) = _; rw [if_pos h, h0]
theorem fs_ok {D : FD} {n : Nat} : ∀ f j, fs D n f = some j → j < f ∧ fOw D j = n ∧ fDn D j = 0
  | 0, j, h => by cases h
  | f + 1, j, h => by
    by_cases hc : fOw D f = n ∧ fDn D f = 0
    · cases h0 : fs D n f with
      | none =>
        rw [fs_0 hc h0] at h
        cases h
        exact ⟨by omega, hc⟩
      | some i =>
        rw [fs_1 hc h0] at h
        have h9 := fs_ok f i h0
        split at h
        · cases h; exact ⟨by omega, hc⟩
        · cases h; exact ⟨by omega, h9.2⟩
    · rw [fs_n hc] at h
      have h9 := fs_ok f j h
      exact ⟨by omega, h9.2⟩
/-- it depends on the node's own frames alone -/
theorem fs_eq {D D' : FD} {n : Nat} : ∀ f, (∀ j, j < f → (fOw D j = n ∧ fDn D j = 0 ↔ fOw D' j = n ∧ fDn D' j = 0) ∧ (fOw D j = n → fP D' j = fP D j)) → fs D' n f = fs D n f
  | 0, _ => rfl
  | f + 1, h => by
    have ih := fs_eq f (fun j hj => h j (by omega))
    obtain ⟨h1, h2⟩ := h f (by omega)
    by_cases hc : fOw D f = n ∧ fDn D f = 0
    · have hc' := h1.mp hc
      cases h0 : fs D n f with
      | none => rw [fs_0 hc h0, fs_0 hc' (ih.trans h0)]
      | some i =>
        have h9 := fs_ok f i h0
        rw [fs_1 hc h0, fs_1 hc' (ih.trans h0), h2 hc.1, (h i (by omega)).2 h9.2.1]
    · rw [fs_n hc, fs_n (fun e => hc (h1.mpr e)), ih]
theorem c_gbL {o o' : Nat → Nat} {ff fo go : Nat → Int32} {n : Nat} (hn : n ≤ 64) (h7 : ff 7 = nI n) (ho : ∀ i, i < 64 → o i < 256 ∧ fo i = nI (o i)) (ho' : ∀ i, i < 64 → o' i < 256 ∧ go i = nI (o' i)) :
    ∀ d i nn, d + i = n → d < nn → L_X0_goesBefore_32 ff fo go (fun _ => some 0) nn (nI i) = some (nI (lx (ocF o i d) (ocF o' i d))) := by
  intro d
  induction d with
  | zero =>
    intro i nn hd hnn
    obtain ⟨nn, rfl⟩ : ∃ q, nn = q + 1 := ⟨nn - 1, by omega⟩
    show (if (ff 7) ≤ nI i then some 0 else _) = _
    rw [h7, if_pos (le_l _ (by omega) (by omega))]
    rfl
  | succ d ih =>
    intro i nn hd hnn
    obtain ⟨nn, rfl⟩ : ∃ q, nn = q + 1 := ⟨nn - 1, by omega⟩
    obtain ⟨x1, x2⟩ := ho i (by omega)
    obtain ⟨y1, y2⟩ := ho' i (by omega)
    have unf : L_X0_goesBefore_32 ff fo go (fun _ => some 0) (nn + 1) (nI i) = if (ff 7) ≤ nI i then some 0 else if 64 ≤ nI i then some 0 else gd (vp_in (nI i) 64) (gd (vp_in (nI i) 64) (if (fo (nI i).toNatClampNeg) = (go (nI i).toNatClampNeg) then L_X0_goesBefore_32 ff fo go (fun _ => some 0) nn (nI i + 1) else gd (vp_in (nI i) 64) (gd (vp_in (nI i) 64) (lt (α := Int32) (if (go (nI i).toNatClampNeg) ≤ (fo (nI i).toNatClampNeg) then 0 else 1) (fun x8 => some (x8)))))) := rfl
    rw [unf, h7, if_neg (nle_l _ (by omega) (by omega)), if_neg (show ¬ 64 ≤ nI i from nle_l (a := 64) i (by omega) (by decide)), gdT _ (in_nI (by omega) (by decide)), gdT _ (in_nI (by omega) (by decide)), nI_clamp (by omega), x2, y2, ocF_q, ocF_q, lx_oct _ _ x1 y1]
    by_cases hxy : o i = o' i
    · rw [if_pos hxy, if_pos (by rw [hxy]), show nI i + 1 = nI (i + 1) from nI_add _ 1]
      exact ih (i + 1) nn (by omega) (by omega)
    · rw [if_neg hxy, if_neg (ne_l _ hxy (by omega) (by omega)), gdT _ (in_nI (by omega) (by decide)), gdT _ (in_nI (by omega) (by decide)), ltE]
      by_cases hlt : o i < o' i
      · rw [if_pos hlt, if_neg (nle_l _ (by omega) (by omega))]; rfl
      · rw [if_neg hlt, if_pos (le_l _ (by omega) (by omega))]; rfl
theorem c_before {D : FD} {f j : Nat} {h h' : Int64} {g o b g' o' b' : Nat → Int32} (hV : FVo D f) (hV' : FVo D j) (hC : FCv h g o b D f) (hC' : FCv h' g' o' b' D j) : f_X0_goesBefore h g o h' o' = some (nI (lx (fP D f) (fP D j))) := by
  obtain ⟨⟨a1, a2, a3, a4⟩, _, _⟩ := hV
  obtain ⟨⟨b1, b2, b3, b4⟩, _, _⟩ := hV'
  obtain ⟨c1, c2, c3, c4, c5, c6, c7, c8⟩ := hC
  obtain ⟨d1, d2, d3, d4, d5, d6, d7, d8⟩ := hC'
  have h1 := hdN_lt (fKi D f) (fId D f) (fCo D f)
  have h2 := hdN_lt (fKi D j) (fId D j) (fCo D j)
  obtain ⟨p1, p2⟩ := lx_pl (id := fId D f) (id' := fId D j) (o := fOc D f) (o' := fOc D j) a1 b1 a2 b2
  have hoc := octs_le (fKi D f) (fCo D f)
  unfold f_X0_goesBefore fP
  rw [c6, d6, p1]
  by_cases he : hdN (fKi D f) (fId D f) (fCo D f) = hdN (fKi D j) (fId D j) (fCo D j)
  · rw [if_pos ((lg_cmp_eq _ _).mpr (by rw [he])), if_pos he, jnE, ← p2 he]
    have e1 := ocL_F (fOc D f) (octs (fKi D f) (fCo D f)) 0
    have e2 := ocL_F (fOc D j) (octs (fKi D f) (fCo D f)) 0
    rw [Nat.zero_add] at e1 e2
    rw [e1, e2]
    show _ = some (nI (lx ([] ++ _) ([] ++ _)))
    rw [List.nil_append, List.nil_append]
    exact c_gbL hoc c4 (fun i hi => ⟨a4 i hi, c7 i hi⟩) (fun i hi => ⟨b4 i hi, d7 i hi⟩) _ 0 fu (by omega) (fu_big (by omega))
  · rw [if_neg (fun e => he ((l_eq (by omega) (by omega)).mp ((lg_cmp_eq _ _).mp e))), if_neg he, ltE]
    by_cases hlt : hdN (fKi D f) (fId D f) (fCo D f) < hdN (fKi D j) (fId D j) (fCo D j)
    · rw [if_pos hlt, if_neg (fun e => by
        have := (lg_cmp_ge _ _).mp e
        rw [Int64.le_iff_toInt_le, pf_lI (by omega), pf_lI (by omega)] at this
        omega)]
      rfl
    · rw [if_neg hlt, if_pos ((lg_cmp_ge _ _).mpr (by rw [Int64.le_iff_toInt_le, pf_lI (by omega), pf_lI (by omega)]; omega))]
      rfl
theorem c_firstL {s : CS} {D : FD} {F n : Nat} (hn : n < 32) (hF : F ≤ 200) (h9 : s.1 0 0 9 = nI F) (hV : ∀ f, f < F → FVo D f) (hC : ∀ f, f < F → FCo s D f) :
    ∀ d f nn, d + f = F → d < nn → L_X7_firstOf_4 s (nI n) (fun ⟨v1, v2⟩ => some v2) nn (nI f) (fs D n f) = some (fs D n F) := by
  intro d
  induction d with
  | zero =>
    intro f nn hd hnn
    obtain ⟨nn, rfl⟩ : ∃ q, nn = q + 1 := ⟨nn - 1, by omega⟩
    have hf : f = F := by omega
    show (if (s.1 0 0 9) ≤ nI f then some (fs D n f) else _) = _
    rw [h9, if_pos (le_l _ (by omega) (by omega)), hf]
  | succ d ih =>
    intro f nn hd hnn
    obtain ⟨nn, rfl⟩ : ∃ q, nn = q + 1 := ⟨nn - 1, by omega⟩
    have hVf := hV f (by omega)
    have hCf := hC f (by omega)
    have ih' := ih (f + 1) nn (by omega) (by omega)
    have unf : L_X7_firstOf_4 s (nI n) (fun ⟨v1, v2⟩ => some v2) (nn + 1) (nI f) (fs D n f) = if (s.1 0 0 9) ≤ nI f then some (fs D n f) else gd (vp_in (nI f) 200) (jn (α := Option Nat) (fun x6 => L_X7_firstOf_4 s (nI n) (fun ⟨v1, v2⟩ => some v2) nn (nI f + 1) x6) (fun k7 => if (s.1 13 (nI f).toNatClampNeg 4) = nI n then if (s.1 13 (nI f).toNatClampNeg 8) = 0 then oc (fs D n f) (k7 (some (nI f).toNatClampNeg)) (fun j9 => gd (j9 < 200) (bd (f_X0_goesBefore (s.2.1 13 (nI f).toNatClampNeg) (s.1 13 (nI f).toNatClampNeg) (s.1 14 (nI f).toNatClampNeg) (s.2.1 13 j9) (s.1 14 j9)) (fun u11 => if u11 = 0 then k7 (some j9) else k7 (some (nI f).toNatClampNeg)))) else k7 (fs D n f) else k7 (fs D n f))) := rfl
    rw [unf, h9, if_neg (nle_l _ (by omega) (by omega)), gdT _ (in_nI (by omega) (by decide)), jnE, nI_clamp (by omega), show nI f + 1 = nI (f + 1) from nI_add _ 1]
    have hCf' := id hCf
    obtain ⟨c1, c2, c3, c4, c5, c6, c7, c8⟩ := hCf'
    rw [c2, c5]
    have ho := hVf.2.1
    have hd2 := hVf.2.2
    by_cases hw : fOw D f = n
    · rw [if_pos (by rw [hw])]
      by_cases hdn : fDn D f = 0
      · rw [if_pos (show nI (fDn D f) = 0 by rw [hdn]; rfl)]
        cases h0 : fs D n f with
        | none =>
          rw [fs_0 ⟨hw, hdn⟩ h0] at ih'
          exact ih'
        | some j =>
          have h8 := fs_ok f j h0
          rw [fs_1 ⟨hw, hdn⟩ h0] at ih'
          show gd (j < 200) (bd (f_X0_goesBefore (s.2.1 13 f) (s.1 13 f) (s.1 14 f) (s.2.1 13 j) (s.1 14 j)) _) = _
          rw [gdT _ (by omega), c_before hVf (hV j (by omega)) hCf (hC j (by omega)), bdS]
          have hx := lx_lt (fP D f) (fP D j)
          by_cases h1 : lx (fP D f) (fP D j) = 1
          · rw [if_pos h1] at ih'
            rw [if_neg (show ¬ nI (lx (fP D f) (fP D j)) = 0 by rw [h1]; decide)]
            exact ih'
          · rw [if_neg h1] at ih'
            rw [if_pos (show nI (lx (fP D f) (fP D j)) = 0 by rw [show lx (fP D f) (fP D j) = 0 by omega]; rfl)]
            exact ih'
      · rw [if_neg (show ¬ nI (fDn D f) = 0 from ne_l 0 hdn (by omega) (by decide))]
        rw [fs_n (fun e => hdn e.2)] at ih'
        exact ih'
    · rw [if_neg (ne_l _ hw (by omega) (by omega))]
      rw [fs_n (fun e => hw e.1)] at ih'
      exact ih'
theorem c_first {s : CS} {D : FD} {F n : Nat} (hn : n < 32) (hF : F ≤ 200) (h9 : s.1 0 0 9 = nI F) (hV : ∀ f, f < F → FVo D f) (hC : ∀ f, f < F → FCo s D f) : f_X7_firstOf s (nI n) = some (fs D n F) := by
  unfold f_X7_firstOf
  rw [jnE]
  exact c_firstL hn hF h9 hV hC F 0 fu (by omega) (fu_big (by omega))
/-! the model's first -/
def oI : Option Nat → Int32
  | none => -1
  | some j => nI j
theorem m_49 {A B : List Nat} {u16 : Nat → Int32} {u17 : Nat → Nat → Int32} {j : Nat} (hj : j < 200) (hA : Bt A) (hB : Bt B) (hAl : A.length ≤ 700) (hBl : B.length ≤ 700) (h34 : u16 34 = nI A.length) (h26 : arr (u17 26) A) (h29 : arr (u17 29) B) (G : Int32 → Option ((Nat → Int32) × (Nat → Nat → Int32) × Int32)) :
    ∀ d k nn, d + k = 700 → d < nn → lx A B = lx (A.drop k) (B.drop k) → L_X8_first_49 (nI j) u16 (nI B.length) u17 (fun v19 => if nI j = (-1) then G 1 else if (u16 34) ≤ v19 then G 0 else if nI B.length ≤ v19 then G 0 else gd (vp_in v19 700) (gd (vp_in v19 700) (if ((u17 29) v19.toNatClampNeg) ≤ ((u17 26) v19.toNatClampNeg) then G 0 else G 1))) nn (nI k) = G (nI (lx A B)) := by
  intro d
  induction d with
  | zero =>
    intro k nn hd hnn hx
    obtain ⟨nn, rfl⟩ : ∃ q, nn = q + 1 := ⟨nn - 1, by omega⟩
    rw [dr_o (a := A) (by omega), lx_n1] at hx
    rw [hx]
    show (if nI j = (-1) then _ else if (u16 34) ≤ nI k then (if nI j = (-1) then G 1 else if (u16 34) ≤ nI k then G 0 else _) else _) = _
    rw [if_neg (nm1 (by omega)), h34, if_pos (le_l _ (by omega) (by omega)), if_neg (nm1 (by omega)), if_pos (le_l _ (by omega) (by omega))]
    rfl
  | succ d ih =>
    intro k nn hd hnn hx
    obtain ⟨nn, rfl⟩ : ∃ q, nn = q + 1 := ⟨nn - 1, by omega⟩
    have unf : ∀ K, L_X8_first_49 (nI j) u16 (nI B.length) u17 K (nn + 1) (nI k) = if nI j = (-1) then K (nI k) else if (u16 34) ≤ nI k then K (nI k) else if nI B.length ≤ nI k then K (nI k) else gd (vp_in (nI k) 700) (gd (vp_in (nI k) 700) (if ((u17 26) (nI k).toNatClampNeg) = ((u17 29) (nI k).toNatClampNeg) then L_X8_first_49 (nI j) u16 (nI B.length) u17 K nn (nI k + 1) else K (nI k))) := fun _ => rfl
    rw [unf, if_neg (nm1 (by omega)), h34]
    by_cases hkA : A.length ≤ k
    · rw [dr_o hkA, lx_n1] at hx
      rw [hx, if_pos (le_l _ hkA (by omega)), if_neg (nm1 (by omega)), if_pos (le_l _ hkA (by omega))]
      rfl
    · rw [if_neg (nle_l _ hkA (by omega))]
      by_cases hkB : B.length ≤ k
      · rw [dr_o (a := B) hkB, lx_n2] at hx
        rw [hx, if_pos (le_l _ hkB (by omega)), if_neg (nm1 (by omega)), if_neg (nle_l _ hkA (by omega)), if_pos (le_l _ hkB (by omega))]
        rfl
      · rw [if_neg (nle_l _ hkB (by omega)), gdT _ (in_nI (by omega) (by decide)), gdT _ (in_nI (by omega) (by decide)), nI_clamp (by omega), h26 k (by omega), h29 k (by omega)]
        have a2 := Bt_getD k hA
        have b2 := Bt_getD k hB
        have eA : A.drop k = A.getD k 0 :: A.drop (k + 1) := by rw [List.drop_eq_getElem_cons (by omega), List.getD_eq_getElem?_getD, List.getElem?_eq_getElem (by omega)]; rfl
        have eB : B.drop k = B.getD k 0 :: B.drop (k + 1) := by rw [List.drop_eq_getElem_cons (by omega), List.getD_eq_getElem?_getD, List.getElem?_eq_getElem (by omega)]; rfl
        rw [eA, eB, lx_c] at hx
        by_cases hab : A.getD k 0 = B.getD k 0
        · rw [if_pos hab] at hx
          rw [if_pos (by rw [hab]), show nI k + 1 = nI (k + 1) from nI_add _ 1]
          have := ih (k + 1) nn (by omega) (by omega) hx
          rw [h34] at this
          exact this
        · rw [if_neg hab] at hx
          rw [if_neg (ne_l _ hab (by omega) (by omega)), if_neg (nm1 (by omega)), if_neg (nle_l _ hkA (by omega)), if_neg (nle_l _ hkB (by omega)), gdT _ (in_nI (by omega) (by decide)), gdT _ (in_nI (by omega) (by decide)), hx]
          by_cases hlt : A.getD k 0 < B.getD k 0
          · rw [if_pos hlt, if_neg (nle_l _ (by omega) (by omega))]; rfl
          · rw [if_neg hlt, if_pos (le_l _ (by omega) (by omega))]; rfl
theorem m_155 {A : List Nat} {u16 : Nat → Int32} (hA : Bt A) (hAl : A.length ≤ 700) (h34 : u16 34 = nI A.length) {k34 : (Nat → Nat → Int32) × Int32 → Option ((Nat → Int32) × (Nat → Nat → Int32) × Int32)} :
    ∀ d i nn m, d + i = A.length → d < nn → arr (m 26) A → arr (m 29) (A.take i) → ∃ m', L_X8_first_155 u16 k34 nn m (nI i) = k34 (m', nI A.length) ∧ arr (m' 29) A ∧ ∀ k, k ≠ 29 → m' k = m k := by
  intro d
  induction d with
  | zero =>
    intro i nn m hd hnn h26 h29
    obtain ⟨nn, rfl⟩ : ∃ q, nn = q + 1 := ⟨nn - 1, by omega⟩
    have hi : i = A.length := by omega
    refine ⟨m, ?_, by rw [tk_a (by omega)] at h29; exact h29, fun _ _ => rfl⟩
    show (if (u16 34) ≤ nI i then k34 (m, nI i) else _) = _
    rw [h34, if_pos (le_l _ (by omega) (by omega)), hi]
  | succ d ih =>
    intro i nn m hd hnn h26 h29
    obtain ⟨nn, rfl⟩ : ∃ q, nn = q + 1 := ⟨nn - 1, by omega⟩
    have hb := Bt_getD i hA
    obtain ⟨m', t1, t2, t3⟩ := ih (i + 1) nn (va_up m 29 (upd (m 29) i (nI (A.getD i 0)))) (by omega) (by omega) (by rw [vu_n _ _ (by decide)]; exact h26) (by rw [vu_s, tk_s (by omega)]; exact arr_s h29 (by rw [List.length_take]; omega))
    refine ⟨m', ?_, t2, fun k hk => by rw [t3 k hk, vu_n _ _ hk]⟩
    show (if (u16 34) ≤ nI i then _ else gd (vp_in (nI i) 700) (lt (α := Int32) ((m 26) (nI i).toNatClampNeg) (fun v37 => gd (vp_in (nI i) 700) (L_X8_first_155 u16 k34 nn (va_up m 29 (upd (m 29) (nI i).toNatClampNeg (vp_nar .byte v37))) (nI i + 1))))) = _
    rw [h34, if_neg (nle_l _ (by omega) (by omega)), gdT _ (in_nI (by omega) (by decide)), nI_clamp (by omega), h26 i (by omega), ltE, gdT _ (in_nI (by omega) (by decide)), n_byteN _ (by omega), show nI i + 1 = nI (i + 1) from nI_add _ 1]
    exact t1
theorem FMo_sm {m m' : Nat → Nat → Int32} {D : FD} {f : Nat} (h : FMo m D f) (hs : sm m m') : FMo m' D f := ⟨frM_sm h.1 hs, by rw [hs 1 (by decide)]; exact h.2.1, by rw [hs 6 (by decide)]; exact h.2.2⟩
def bst (D : FD) (n f : Nat) (sz : Int32) (m : Nat → Nat → Int32) : Prop := ∀ j, fs D n f = some j → sz = nI (fP D j).length ∧ arr (m 29) (fP D j)
set_option maxHeartbeats 4000000 in
theorem m_firstL {D : FD} {F n : Nat} (hn : n < 32) (hF : F ≤ 200) (hV : ∀ f, f < F → FVo D f) :
    ∀ d f nn v m sz, d + f = F → d < nn → v 4 = nI F → (∀ f, f < F → FMo m D f) → bst D n f sz m → ∃ v' m', L_X8_first_7 (nI n) (fun ⟨v1, v2, v3, v4, v5⟩ => some (v1, v2, v5)) nn v m (nI f) sz (oI (fs D n f)) = some (v', m', oI (fs D n F)) ∧ sv v v' ∧ sm m m' := by
  intro d
  induction d with
  | zero =>
    intro f nn v m sz hd hnn h4 hM hb
    obtain ⟨nn, rfl⟩ : ∃ q, nn = q + 1 := ⟨nn - 1, by omega⟩
    have hf : f = F := by omega
    refine ⟨v, m, ?_, sv_r v, sm_r m⟩
    show (if (v 4) ≤ nI f then some (v, m, oI (fs D n f)) else _) = _
    rw [h4, if_pos (le_l _ (by omega) (by omega)), hf]
  | succ d ih =>
    intro f nn v m sz hd hnn h4 hM hb
    obtain ⟨nn, rfl⟩ : ∃ q, nn = q + 1 := ⟨nn - 1, by omega⟩
    have hVf := hV f (by omega)
    have hMf := hM f (by omega)
    have unf : L_X8_first_7 (nI n) (fun ⟨v1, v2, v3, v4, v5⟩ => some (v1, v2, v5)) (nn + 1) v m (nI f) sz (oI (fs D n f)) = if (v 4) ≤ nI f then some (v, m, oI (fs D n f)) else gd (vp_in (nI f) 200) (jn (α := Int32 × Int32 × (Nat → Int32) × (Nat → Nat → Int32)) (fun ⟨x9, x10, x11, x12⟩ => L_X8_first_7 (nI n) (fun ⟨v1, v2, v3, v4, v5⟩ => some (v1, v2, v5)) nn x11 x12 (nI f + 1) x10 x9) (fun k13 => if ((m 1) (nI f).toNatClampNeg) = nI n then gd (vp_in (nI f) 200) (if ((m 6) (nI f).toNatClampNeg) = 0 then bd (f_X8_writePlain v m (nI f)) (fun ⟨u16, u17⟩ => jn (α := Int32) (fun v19 => jn (α := Int32) (fun x28 => if x28 = 0 then k13 (oI (fs D n f), sz, u16, u17) else jn (α := (Nat → Nat → Int32) × Int32) (fun ⟨v32, v33⟩ => k13 (nI f, u16 34, u16, v32)) (fun k34 => L_X8_first_155 u16 k34 fu u17 0)) (fun k30 => if oI (fs D n f) = (-1) then k30 1 else if (u16 34) ≤ v19 then k30 0 else if sz ≤ v19 then k30 0 else gd (vp_in v19 700) (gd (vp_in v19 700) (if ((u17 29) v19.toNatClampNeg) ≤ ((u17 26) v19.toNatClampNeg) then k30 0 else k30 1)))) (fun k20 => L_X8_first_49 (oI (fs D n f)) u16 sz u17 k20 fu 0)) else k13 (oI (fs D n f), sz, v, m)) else k13 (oI (fs D n f), sz, v, m))) := rfl
    rw [unf, h4, if_neg (nle_l _ (by omega) (by omega)), gdT _ (in_nI (by omega) (by decide)), jnE, nI_clamp (by omega), show nI f + 1 = nI (f + 1) from nI_add _ 1, hMf.2.1, hMf.2.2]
    have ho := hVf.2.1
    have hd2 := hVf.2.2
    have skip : ¬ (fOw D f = n ∧ fDn D f = 0) → ∃ v' m', L_X8_first_7 (nI n) (fun ⟨v1, v2, v3, v4, v5⟩ => some (v1, v2, v5)) nn v m (nI (f + 1)) sz (oI (fs D n f)) = some (v', m', oI (fs D n F)) ∧ sv v v' ∧ sm m m' := by
      intro hc
      have e := fs_n hc
      have := ih (f + 1) nn v m sz (by omega) (by omega) h4 hM (fun j hj => hb j (by rw [← e]; exact hj))
      rw [e] at this
      exact this
    by_cases hw : fOw D f = n
    · rw [if_pos (by rw [hw]), gdT _ (in_nI (by omega) (by decide))]
      by_cases hdn : fDn D f = 0
      · rw [if_pos (show nI (fDn D f) = 0 by rw [hdn]; rfl)]
        obtain ⟨u1, u2, a1, a2, a3, a4⟩ := m_writePlain (v := v) (show f < 200 by omega) hVf.1 hMf.1
        rw [a1, bdS]
        dsimp only
        have hpl := plL_len (fKi D f) (fId D f) (fCo D f) (fOc D f)
        have hpB := plL_Bt (fKi D f) (fId D f) (fCo D f) (fOc D f)
        have hlv := hlen_le (l := isL (fKi D f)) (f := isF (fKi D f))
        have hoc := octs_le (fKi D f) (fCo D f)
        have hPl : (fP D f).length ≤ 700 := by show (plL _ _ _ _).length ≤ 700; omega
        have h4' : u1 4 = nI F := by rw [a3 4 (by decide)]; exact h4
        have hM' : ∀ f, f < F → FMo u2 D f := fun g hg => FMo_sm (hM g hg) (o26_sm a4)
        -- it is taken
        have tak : ∃ v' m', (jn (α := (Nat → Nat → Int32) × Int32) (fun ⟨v32, v33⟩ => L_X8_first_7 (nI n) (fun ⟨v1, v2, v3, v4, v5⟩ => some (v1, v2, v5)) nn u1 v32 (nI (f + 1)) (u1 34) (nI f)) (fun k34 => L_X8_first_155 u1 k34 fu u2 0)) = some (v', m', oI (fs D n F)) ∧ sv v v' ∧ sm m m' ∨ fs D n (f + 1) ≠ some f := by
          by_cases e : fs D n (f + 1) = some f
          · obtain ⟨m3, c1, c2, c3⟩ := m_155 (A := fP D f) (u16 := u1) hpB hPl a2.1 (k34 := fun ⟨v32, v33⟩ => L_X8_first_7 (nI n) (fun ⟨v1, v2, v3, v4, v5⟩ => some (v1, v2, v5)) nn u1 v32 (nI (f + 1)) (u1 34) (nI f)) (fP D f).length 0 fu u2 (by omega) (fu_big (by omega)) a2.2 (by rw [List.take_zero]; exact arr_nil _)
            have sm3 : sm u2 m3 := fun k hk => c3 k (by omega)
            have := ih (f + 1) nn u1 m3 (u1 34) (by omega) (by omega) h4' (fun g hg => FMo_sm (hM' g hg) sm3) (fun j hj => by
              rw [e] at hj
              cases hj
              exact ⟨a2.1, c2⟩)
            rw [e] at this
            obtain ⟨v', m', t1, t2, t3⟩ := this
            refine ⟨v', m', Or.inl ⟨?_, sv_t (o34_sv a3) t2, sm_t (o26_sm a4) (sm_t sm3 t3)⟩⟩
            rw [jnE]
            exact c1.trans t1
          · exact ⟨v, m, Or.inr e⟩
        rw [jnE]
        cases h0 : fs D n f with
        | none =>
          have e := fs_0 ⟨hw, hdn⟩ h0
          obtain ⟨v', m', t | t⟩ := tak
          · refine ⟨v', m', ?_, t.2⟩
            show L_X8_first_49 (-1) u1 sz u2 (fun v19 => jn _ (fun k30 => if (-1 : Int32) = (-1) then k30 1 else _)) fu 0 = _
            have unf2 : ∀ K, L_X8_first_49 (-1) u1 sz u2 K fu 0 = if (-1 : Int32) = (-1) then K 0 else if (u1 34) ≤ 0 then K 0 else if sz ≤ 0 then K 0 else gd (vp_in 0 700) (gd (vp_in 0 700) (if ((u2 26) (0 : Int32).toNatClampNeg) = ((u2 29) (0 : Int32).toNatClampNeg) then L_X8_first_49 (-1) u1 sz u2 K 999999 (0 + 1) else K 0)) := fun _ => rfl
            rw [unf2, if_pos rfl, jnE, if_pos rfl]
            dsimp only
            rw [if_neg (by decide)]
            exact t.1
          · exact absurd e t
        | some j =>
          have h8 := fs_ok f j h0
          have e := fs_1 ⟨hw, hdn⟩ h0
          obtain ⟨hb1, hb2⟩ := hb j h0
          have hVj := hV j (by omega)
          have hpl2 := plL_len (fKi D j) (fId D j) (fCo D j) (fOc D j)
          have hpB2 := plL_Bt (fKi D j) (fId D j) (fCo D j) (fOc D j)
          have hlv2 := hlen_le (l := isL (fKi D j)) (f := isF (fKi D j))
          have hoc2 := octs_le (fKi D j) (fCo D j)
          have hPl2 : (fP D j).length ≤ 700 := by show (plL _ _ _ _).length ≤ 700; omega
          have key := fun G => m_49 (A := fP D f) (B := fP D j) (u16 := u1) (u17 := u2) (j := j) (by omega) hpB hpB2 hPl hPl2 a2.1 a2.2 (by rw [a4 29 (by decide)]; exact hb2) G 700 0 fu (by omega) (fu_big (by decide)) (by rw [List.drop_zero, List.drop_zero])
          show ∃ v' m', L_X8_first_49 (nI j) u1 sz u2 (fun v19 => jn _ (fun k30 => if nI j = (-1) then k30 1 else if (u1 34) ≤ v19 then k30 0 else if sz ≤ v19 then k30 0 else _)) fu 0 = _ ∧ _
          simp only [jnE]
          rw [hb1]
          have k0 := key (fun x28 => if x28 = 0 then L_X8_first_7 (nI n) (fun ⟨v1, v2, v3, v4, v5⟩ => some (v1, v2, v5)) nn u1 u2 (nI (f + 1)) (nI (fP D j).length) (nI j) else L_X8_first_155 u1 (fun ⟨v32, v33⟩ => L_X8_first_7 (nI n) (fun ⟨v1, v2, v3, v4, v5⟩ => some (v1, v2, v5)) nn u1 v32 (nI (f + 1)) (u1 34) (nI f)) fu u2 0)
          rw [show nI 0 = 0 from rfl] at k0
          have hx := lx_lt (fP D f) (fP D j)
          by_cases h1 : lx (fP D f) (fP D j) = 1
          · rw [if_pos h1] at e
            obtain ⟨v', m', t | t⟩ := tak
            · refine ⟨v', m', ?_, t.2⟩
              rw [if_neg (show ¬ nI (lx (fP D f) (fP D j)) = 0 by rw [h1]; decide)] at k0
              exact k0.trans t.1
            · exact absurd e t
          · rw [if_neg h1] at e
            rw [if_pos (show nI (lx (fP D f) (fP D j)) = 0 by rw [show lx (fP D f) (fP D j) = 0 by omega]; rfl)] at k0
            have := ih (f + 1) nn u1 u2 (nI (fP D j).length) (by omega) (by omega) h4' hM' (fun i hi => by
              rw [e] at hi
              cases hi
              exact ⟨rfl, by rw [a4 29 (by decide)]; exact hb2⟩)
            rw [e] at this
            obtain ⟨v', m', t1, t2, t3⟩ := this
            exact ⟨v', m', k0.trans t1, sv_t (o34_sv a3) t2, sm_t (o26_sm a4) t3⟩
      · rw [if_neg (show ¬ nI (fDn D f) = 0 from ne_l 0 hdn (by omega) (by decide))]
        exact skip (fun e => hdn e.2)
    · rw [if_neg (ne_l _ hw (by omega) (by omega))]
      exact skip (fun e => hw e.1)
theorem m_first {D : FD} {F n : Nat} {v : Nat → Int32} {m : Nat → Nat → Int32} (hn : n < 32) (hF : F ≤ 200) (hV : ∀ f, f < F → FVo D f) (h4 : v 4 = nI F) (hM : ∀ f, f < F → FMo m D f) : ∃ v' m', f_X8_first v m (nI n) = some (v', m', oI (fs D n F)) ∧ sv v v' ∧ sm m m' := by
  unfold f_X8_first
  rw [jnE]
  exact m_firstL hn hF hV F 0 fu v m 0 (by omega) (fu_big (by omega)) h4 hM (fun j hj => by cases hj)
