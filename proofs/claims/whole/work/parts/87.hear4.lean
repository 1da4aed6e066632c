/-- the registers, as the hearer of a body has them -/
def rgs (a b c : Nat → Int32) (P R : List Nat) : Prop := a = rA (crA (P.take (bE P))) ∧ (P.length ≤ bE P → b = rB (crB R) ∧ c = rC (crC R)) ∧ (∃ x, b = rB (crB x)) ∧ ∃ x, c = rC (crC x)
def hdr (f : Nat → Int32) (P : List Nat) : Prop := f 9 = nI (aLong P) ∧ f 10 = nI (aFlex P) ∧ f 11 = nI (hE P) ∧ f 14 = nI (oC P)
def ends (f : Nat → Int32) (P : List Nat) : Prop := f 7 = nI P.length ∧ f 12 = nI (bE P) ∧ f 13 = nI (pE P) ∧ f 15 = nI (vl (P.drop (bE P)))
theorem bE_hd {P : List Nat} {b : Nat} (hi : ¬ aHl P ≤ P.length) : (P ++ [b]).length ≤ bE (P ++ [b]) := by
  have h1 := (aHl_hd (P := P) b hi).2
  have h2 := aHl_le P
  unfold bE kn
  rw [len_s]
  split
  · rename_i h3
    have := hE_y (P := P ++ [b]) (by rw [len_s]; exact h3)
    have h4 : aBe (P ++ [b]) = aHl (P ++ [b]) + 8 * aOc (P ++ [b]) := rfl
    omega
  · omega
theorem h_plain {f o a b c : Nat → Int32} {P R : List Nat} {x ru : Nat} (hP : Bt P) (hx : x < 2) (hru : ru ≤ 5) (hlt : P.length < pE P) (h2 : f 2 = nI 0) (h5 : f 5 = nI ru) (hh : hdr f P) (he : ends f P) (ho : OK o P) (hr : rgs a b c P R) :
    ∃ F O A B C, f_X1_hearPlain (lN (vl (P.take (hE P)))) f o a b c (nI x) = some (lN (vl ((P ++ [x]).take (hE (P ++ [x])))), F, O, A, B, C, eC (if aFlex (P ++ [x]) = 1 ∧ x = 1 ∧ P.length + 1 = aAt (P ++ [x]) + 2 then 2 else 0)) ∧ hdr F (P ++ [x]) ∧ ends F (P ++ [x]) ∧ OK O (P ++ [x]) ∧ rgs A B C (P ++ [x]) (R ++ [x]) ∧ plE F (P ++ [x]) ru ∧ F 3 = f 3 ∧ F 4 = f 4 ∧ F 5 = f 5 ∧ F 6 = f 6 := by
  obtain ⟨g9, g10, g11, g14⟩ := hh
  obtain ⟨g7, g12, g13, g15⟩ := he
  obtain ⟨r1, r2, r3, r4⟩ := hr
  have hP' := Bt_snoc hP hx
  have hpe := aPe_le hP
  have hhl := aHl_le P
  have hl : P.length < 553 := by
    unfold pE kn at hlt
    split at hlt <;> omega
  have hpos : aHl (P ++ [x]) ≤ (P ++ [x]).length → (P ++ [x]).length ≤ aPe (P ++ [x]) := by
    intro h
    have := pE_s x hP' hlt
    rw [pE, kn_y h] at this
    rw [len_s]
    exact this
  have hls : (P ++ [x]).length = P.length + 1 := len_s P x
  by_cases hi : aHl P ≤ P.length
  · have hbe : bE P = aBe P := kn_y hi
    have hhe := hE_y hi
    have hst := a_stab (P := P) x hi
    have hi' : aHl (P ++ [x]) ≤ (P ++ [x]).length := by rw [hst.2.2.1, len_s]; omega
    have hbe' : bE (P ++ [x]) = aBe P := by rw [bE, kn_y hi']; exact hst.2.2.2.2.2.2.2.1
    have hpe' : pE (P ++ [x]) = aPe P := by rw [pE, kn_y hi']; exact hst.2.2.2.2.2.2.2.2
    have hpe0 : pE P = aPe P := kn_y hi
    have hoc' : oC (P ++ [x]) = oC P := by rw [oC, oC, kn_y hi', kn_y hi]; exact hst.2.2.2.2.2.2.1
    have hhe' : hE (P ++ [x]) = hE P := by rw [hE_y hi', hhe]; exact hst.2.2.1
    have etk : (P ++ [x]).take (hE (P ++ [x])) = P.take (hE P) := by rw [hhe', tk_l (by omega)]
    rw [etk]
    rcases Nat.lt_or_ge P.length (aBe P) with h3 | h3
    · -- an octet's bit
      obtain ⟨rb, rc⟩ := r2 (by omega)
      obtain ⟨O, o1, o2⟩ := h_octet (P := P) hP hx hi h3 ho
      have e1 : P.take (bE P) = P := tk_a (by omega)
      rw [e1] at r1
      have eA : (P ++ [x]).take (bE (P ++ [x])) = P ++ [x] := tk_a (by rw [hbe', hls]; omega)
      have e9 := c_addPlain (a := P) (b := R) (c := R) hx
      have e15 : P.drop (bE P) = [] := dr_o (by omega)
      have e15' : (P ++ [x]).drop (bE (P ++ [x])) = [] := dr_o (by rw [hbe', hls]; omega)
      rw [e15] at g15
      obtain ⟨F2, k1, k2, k3⟩ := h_fin (F1 := upd f 7 (nI (P.length + 1))) (P := P ++ [x]) (b := x) (ru := ru) (n := P.length) (h := lN (vl (P.take (hE P)))) (o := O) (a' := rA (crA (P ++ [x]))) (b' := rB (crB (R ++ [x]))) (c' := rC (crC (R ++ [x]))) (f := f) hP' hx hru hpos (by simp [upd, h5]) (by simp [upd, hls]) (by simp [upd, g9, hst.1]) (by simp [upd, g10, hst.2.1]) (by simp [upd, g13, hpe', hpe0]) (by rw [e15']; simp [upd, g15]) (by simp [upd, h2]) (by rw [eA]) g7 (by rw [hls]) (by omega)
      refine ⟨F2, O, rA (crA (P ++ [x])), rB (crB (R ++ [x])), rC (crC (R ++ [x])), ?_, ?_, ?_, o2, ?_, k2, ?_, ?_, ?_, ?_⟩
      · have es : nI P.length - nI (hE P) = nI (P.length - aHl P) := by rw [hhe]; exact n_sub hi
        rw [hls] at k1
        rw [← k1]
        unfold f_X1_hearPlain
        have c1 : ¬ nI (aBe P) ≤ nI P.length := by rw [nI_leI (by omega) (by omega)]; omega
        have c2 : nI (aHl P) ≤ nI P.length := by rw [nI_leI (by omega) (by omega)]; omega
        rw [r1, rb, rc, g7, g11, g12, hbe, hhe, jnE, if_neg c1, e9, bdS]
        dsimp only
        rw [jnE, if_pos c2, if_neg c1, n_sub hi, o1, bdS, show nI P.length + 1 = nI (P.length + 1) from nI_add _ 1]
      · refine ⟨?_, ?_, ?_, ?_⟩
        · rw [k3 _ (by decide) (by decide)]; simp [upd, g9, hst.1]
        · rw [k3 _ (by decide) (by decide)]; simp [upd, g10, hst.2.1]
        · rw [k3 _ (by decide) (by decide)]; simp [upd, g11, hhe']
        · rw [k3 _ (by decide) (by decide)]; simp [upd, g14, hoc']
      · refine ⟨?_, ?_, ?_, ?_⟩
        · rw [k3 _ (by decide) (by decide)]; simp [upd, hls]
        · rw [k3 _ (by decide) (by decide)]; simp [upd, g12, hbe, hbe']
        · rw [k3 _ (by decide) (by decide)]; simp [upd, g13, hpe', hpe0]
        · rw [k3 _ (by decide) (by decide), e15']; simp [upd, g15]
      · exact ⟨by rw [eA], fun _ => ⟨rfl, rfl⟩, ⟨_, rfl⟩, ⟨_, rfl⟩⟩
      all_goals (rw [k3 _ (by decide) (by decide)]; simp [upd])
    · -- a bit of the sum
      have hfx : aFlex P = 0 := by
        by_cases hf : aFlex P = 0
        · exact hf
        · have : aPe P = aBe P := if_neg hf
          omega
      have hp15 : aPe P = aBe P + 15 := if_pos hfx
      have eA : (P ++ [x]).take (bE (P ++ [x])) = P.take (bE P) := by rw [hbe', hbe, tk_l (by omega)]
      have e15' : vl ((P ++ [x]).drop (bE (P ++ [x]))) = 2 * vl (P.drop (bE P)) + x := by rw [hbe', hbe, dr_l (by omega), vl_snoc]
      have hvl : vl (P.drop (bE P)) < 2 ^ 15 := by
        refine Nat.lt_of_lt_of_le (vl_lt (Bt_drop _ hP)) (Nat.pow_le_pow_right (by decide) ?_)
        rw [List.length_drop]
        omega
      obtain ⟨F2, k1, k2, k3⟩ := h_fin (F1 := upd (upd f 7 (nI (P.length + 1))) 15 (nI (2 * vl (P.drop (bE P)) + x))) (P := P ++ [x]) (b := x) (ru := ru) (n := P.length) (h := lN (vl (P.take (hE P)))) (o := o) (a' := a) (b' := b) (c' := c) (f := f) hP' hx hru hpos (by simp [upd, h5]) (by simp [upd, hls]) (by simp [upd, g9, hst.1]) (by simp [upd, g10, hst.2.1]) (by simp [upd, g13, hpe', hpe0]) (by rw [e15']; simp [upd]) (by simp [upd, h2]) (by rw [eA]; exact r1) g7 (by rw [hls]) (by omega)
      refine ⟨F2, o, a, b, c, ?_, ?_, ?_, ?_, ?_, k2, ?_, ?_, ?_, ?_⟩
      · rw [hls] at k1
        rw [← k1]
        unfold f_X1_hearPlain
        have c1 : nI (aBe P) ≤ nI P.length := by rw [nI_leI (by omega) (by omega)]; omega
        have c2 : nI (aHl P) ≤ nI P.length := by rw [nI_leI (by omega) (by omega)]; omega
        have c3 : (nI (vl (P.drop (aBe P))) <<< ((1 : Int32) &&& 31)) ||| nI x = nI (2 * vl (P.drop (aBe P)) + x) := n_in hx
        rw [g7, g11, g12, g15, hhe, hbe, jnE, if_pos c1]
        dsimp only
        rw [jnE, if_pos c2, if_pos c1, ltE, c3, show nI P.length + 1 = nI (P.length + 1) from nI_add _ 1]
      · refine ⟨?_, ?_, ?_, ?_⟩
        · rw [k3 _ (by decide) (by decide)]; simp [upd, g9, hst.1]
        · rw [k3 _ (by decide) (by decide)]; simp [upd, g10, hst.2.1]
        · rw [k3 _ (by decide) (by decide)]; simp [upd, g11, hhe']
        · rw [k3 _ (by decide) (by decide)]; simp [upd, g14, hoc']
      · refine ⟨?_, ?_, ?_, ?_⟩
        · rw [k3 _ (by decide) (by decide)]; simp [upd, hls]
        · rw [k3 _ (by decide) (by decide)]; simp [upd, g12, hbe, hbe']
        · rw [k3 _ (by decide) (by decide)]; simp [upd, g13, hpe', hpe0]
        · rw [k3 _ (by decide) (by decide), e15']; simp [upd]
      · intro k hk
        obtain ⟨y, y1, y2, y3⟩ := ho k hk
        refine ⟨y, y1, y2, fun hc => ?_⟩
        rw [hoc'] at hc
        have e : okP (P ++ [x]) k = okP P k := by
          unfold okP
          rw [hst.2.2.1]
          refine sl_app ?_
          rw [oC, kn_y hi] at hc
          have : aBe P = aHl P + 8 * aOc P := rfl
          omega
        rw [e]
        exact y3 hc
      · exact ⟨by rw [eA]; exact r1, fun h => by rw [hbe', hls] at h; omega, r3, r4⟩
      all_goals (rw [k3 _ (by decide) (by decide)]; simp [upd])
  · -- a bit of the head
    have hbe : bE P = 1000000 := kn_n hi
    obtain ⟨hA, hB⟩ := aHl_hd (P := P) x hi
    have hb' := bE_hd (P := P) (b := x) hi
    obtain ⟨rb, rc⟩ := r2 (by omega)
    obtain ⟨F, f1, f9, f10, f11, f12, f13, f14, fk⟩ := h_head (f := upd f 7 (nI (P.length + 1))) (P := P) hP hx hi (by simp [upd, g9]) (by simp [upd, g10]) (by simp [upd, g11]) (by simp [upd, g12]) (by simp [upd, g13]) (by simp [upd, g14])
    have e1 : P.take (bE P) = P := tk_a (by omega)
    rw [e1] at r1
    have eA : (P ++ [x]).take (bE (P ++ [x])) = P ++ [x] := tk_a hb'
    have e9 := c_addPlain (a := P) (b := R) (c := R) hx
    have e15 : P.drop (bE P) = [] := dr_o (by omega)
    have e15' : (P ++ [x]).drop (bE (P ++ [x])) = [] := dr_o hb'
    rw [e15] at g15
    have f15 : F 15 = nI (vl []) := by rw [fk _ (by decide)]; simp [upd, g15]
    obtain ⟨F2, k1, k2, k3⟩ := h_fin (F1 := F) (P := P ++ [x]) (b := x) (ru := ru) (n := P.length) (h := lN (vl ((P ++ [x]).take (hE (P ++ [x]))))) (o := o) (a' := rA (crA (P ++ [x]))) (b' := rB (crB (R ++ [x]))) (c' := rC (crC (R ++ [x]))) (f := f) hP' hx hru hpos (by rw [fk _ (by decide)]; simp [upd, h5]) (by rw [fk _ (by decide)]; simp [upd, hls]) f9 f10 f13 (by rw [e15']; exact f15) (by rw [fk _ (by decide)]; simp [upd, h2]) (by rw [eA]) g7 (by rw [hls]) (by omega)
    have hhe41 : hE P ≤ 41 := by unfold hE; split <;> omega
    refine ⟨F2, o, rA (crA (P ++ [x])), rB (crB (R ++ [x])), rC (crC (R ++ [x])), ?_, ?_, ?_, ?_, ?_, k2, ?_, ?_, ?_, ?_⟩
    · rw [hls] at k1
      rw [← k1]
      unfold f_X1_hearPlain
      have c1 : ¬ nI 1000000 ≤ nI P.length := by rw [nI_leI (by omega) (by omega)]; omega
      have c2 : ¬ nI (hE P) ≤ nI P.length := by rw [nI_leI (by omega) (by omega)]; omega
      rw [r1, rb, rc, g7, g11, g12, hbe, jnE, if_neg c1, e9, bdS]
      dsimp only
      rw [jnE, if_neg c2, show nI P.length + 1 = nI (P.length + 1) from nI_add _ 1, f1, bdS]
    · exact ⟨by rw [k3 _ (by decide) (by decide)]; exact f9, by rw [k3 _ (by decide) (by decide)]; exact f10, by rw [k3 _ (by decide) (by decide)]; exact f11, by rw [k3 _ (by decide) (by decide)]; exact f14⟩
    · exact ⟨by rw [k3 _ (by decide) (by decide), fk _ (by decide)]; simp [upd, hls], by rw [k3 _ (by decide) (by decide)]; exact f12, by rw [k3 _ (by decide) (by decide)]; exact f13, by rw [k3 _ (by decide) (by decide), e15']; exact f15⟩
    · intro k hk
      obtain ⟨y, y1, y2, y3⟩ := ho k hk
      refine ⟨y, y1, y2, fun hc => ?_⟩
      have hy : aHl (P ++ [x]) ≤ (P ++ [x]).length := by
        rcases Nat.lt_or_ge (P ++ [x]).length (aHl (P ++ [x])) with h9 | h9
        · rw [oC, kn_n (by omega)] at hc; omega
        · exact h9
      have e : okP (P ++ [x]) k = [] := by
        unfold okP sl
        rw [dr_o (by rw [← hE_y hy, hls]; omega)]
        rfl
      rw [e]
      show y % 1 = 0
      omega
    · exact ⟨by rw [eA], fun _ => ⟨rfl, rfl⟩, ⟨_, rfl⟩, ⟨_, rfl⟩⟩
    all_goals (rw [k3 _ (by decide) (by decide), fk _ (by decide)]; simp [upd])
