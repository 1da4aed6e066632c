theorem m_find {v : Nat → Int32} {m : Nat → Nat → Int32} {P : List Nat} (hm : arr (m 26) P) (hP : Bt P) (hl : P.length ≤ 700) (h : aHl P ≤ P.length) : ∃ v', f_X8_find v m (nI (aLong P)) (nI (aFlex P)) (nI (aHl P)) = some v' ∧ v' 42 = nI (aKind P) ∧ v' 43 = nI (aLen P) ∧ v' 44 = nI (aId P) ∧ ∀ k, k ≠ 42 → k ≠ 43 → k ≠ 44 → v' k = v k := by
  have hlb : aLong P < 2 := Bt_getD _ hP
  have hfb : aFlex P < 2 := Bt_getD _ hP
  have hrb : aRem P < 2 := Bt_getD _ hP
  have hm5 := aHl_at P
  have hA : aAt P = if aLong P = 0 then 14 else 33 := rfl
  have e4 : nI (aHl P) - 4 = nI (aHl P - 4) := n_sub (b := 4) (by omega)
  have n1 := m_number (n := aHl P - 4) (k := 4) hm hP hl (by omega) (by decide)
  have n2 := m_number (n := 1) (k := 11) hm hP hl (by have := aAt_le P; omega) (by decide)
  unfold f_X8_find
  rw [e4]
  have n2' : f_X8_number m 1 11 = some (nI (vl (sl P 1 11))) := n2
  have n1' : f_X8_number m (nI (aHl P - 4)) 4 = some (nI (aLen P)) := n1
  by_cases hl0 : aLong P = 0
  · rw [if_pos hl0] at hA
    have hr : m 26 12 = nI (aRem P) := by rw [hm 12 (by omega)]; unfold aRem; rw [if_pos hl0]
    have hr' : (if m 26 (12 : Int32).toNatClampNeg = 1 then (1 : Int32) else 0) = nI (aRem P) := by
      show (if m 26 12 = 1 then (1 : Int32) else 0) = _
      rw [hr]; exact b01 hrb
    have hk : (0 : Int32) + (if nI (aFlex P) = 0 then if nI (aRem P) = 0 then 0 else 4 else 2) = nI (aKind P) := by
      unfold aKind
      have h1 : aFlex P = 0 ∨ aFlex P = 1 := by omega
      have h2 : aRem P = 0 ∨ aRem P = 1 := by omega
      rw [hl0]
      rcases h1 with h1 | h1 <;> rcases h2 with h2 | h2 <;> rw [h1, h2] <;> decide
    rw [hl0]
    simp only [ltE, jnE]
    rw [if_pos (by decide), gdT _ (show vp_in 12 700 from in_nI (a := 12) (by decide) (by decide)), hr', n1', bdS, n2', bdS, if_pos (by decide)]
    rw [if_pos (by decide), hk]
    refine ⟨_, rfl, by simp [upd], by simp [upd], ?_, ?_⟩
    · simp only [aId, hl0, if_true]; simp [upd]
    · intro k k1 k2 k3; simp [upd, k1, k2, k3]
  · have hl1 : aLong P = 1 := by omega
    rw [if_neg hl0] at hA
    have n3 := m_number (n := 14) (k := 18) hm hP hl (by omega) (by decide)
    have n3' : f_X8_number m 14 18 = some (nI (vl (sl P 14 18))) := n3
    have hr : m 26 32 = nI (aRem P) := by rw [hm 32 (by omega)]; unfold aRem; rw [if_neg hl0]
    have hr' : (if m 26 (32 : Int32).toNatClampNeg = 1 then (1 : Int32) else 0) = nI (aRem P) := by
      show (if m 26 32 = 1 then (1 : Int32) else 0) = _
      rw [hr]; exact b01 hrb
    have hk : (1 : Int32) + (if nI (aFlex P) = 0 then if nI (aRem P) = 0 then 0 else 4 else 2) = nI (aKind P) := by
      unfold aKind
      have h1 : aFlex P = 0 ∨ aFlex P = 1 := by omega
      have h2 : aRem P = 0 ∨ aRem P = 1 := by omega
      rw [hl1]
      rcases h1 with h1 | h1 <;> rcases h2 with h2 | h2 <;> rw [h1, h2] <;> decide
    rw [hl1]
    simp only [ltE, jnE]
    rw [if_neg (by decide), gdT _ (show vp_in 32 700 from in_nI (a := 32) (by decide) (by decide)), hr', n1', bdS, n2', bdS, if_neg (by decide)]
    rw [if_neg (by decide), hk, n3', bdS]
    refine ⟨_, rfl, by simp [upd], by simp [upd], ?_, ?_⟩
    · have e : nI (vl (sl P 1 11)) * 262144 + nI (vl (sl P 14 18)) = nI (aId P) := by
        rw [show nI (vl (sl P 1 11)) * 262144 = nI (vl (sl P 1 11) * 262144) from n_mul _ 262144, nI_add]
        unfold aId
        rw [if_neg hl0]
      simp [upd, e]
    · intro k k1 k2 k3; simp [upd, k1, k2, k3]
noncomputable def bK (v2 p1 : Int32) (k11 : (Nat → Int32) × (Nat → Nat → Int32) × Int32 × Int32 × Int32 × Int32 × Int32 × Int32 → Option ((Nat → Int32) × (Nat → Nat → Int32) × Int32)) (nn : Nat) (u15 : Nat → Int32) (u16 : Nat → Nat → Int32) (v5 v8 x18 u13 x23 x31 x35 : Int32) : Option ((Nat → Int32) × (Nat → Nat → Int32) × Int32) :=
  lt (α := Int32) (if x35 = 0 then if x23 = 0 then 5 else 6 else 8) (fun x66 => jn (α := Int32 × (Nat → Int32)) (fun ⟨x71, x72⟩ => lt (α := Int32) (if x35 = 0 then if (x72 34) = (x71 + 15) then if 5 ≤ x18 then 0 else 1 else 0 else if (x72 34) = x71 then 1 else 0) (fun x75 => if x75 = 0 then L_X8_body_48 v2 p1 k11 nn x72 (va_up u16 26 (upd (u16 26) ((u15 34).toNatClampNeg) (vp_nar .byte u13.toInt8.toInt32))) (v5 + 1) x35 x23 x71 x18 u13 else some ((upd x72 45 (v5 + 1)), (va_up u16 26 (upd (u16 26) ((u15 34).toNatClampNeg) (vp_nar .byte u13.toInt8.toInt32))), (-1)))) (fun k73 => if ((u15 34) + 1) ≤ x31 then k73 (v8, (upd u15 34 ((u15 34) + 1))) else if ((u15 34) + 1) = (x31 + x66) then bd (f_X8_find (upd u15 34 ((u15 34) + 1)) (va_up u16 26 (upd (u16 26) ((u15 34).toNatClampNeg) (vp_nar .byte u13.toInt8.toInt32))) x23 x35 (x31 + x66)) (fun u83 => bd (f_X8_octetsOf (u83 42) (u83 43)) (fun u85 => k73 ((x31 + x66) + (8 * u85), u83))) else k73 (v8, (upd u15 34 ((u15 34) + 1)))))
theorem body_q (v2 p1 : Int32) (k11 : (Nat → Int32) × (Nat → Nat → Int32) × Int32 × Int32 × Int32 × Int32 × Int32 × Int32 → Option ((Nat → Int32) × (Nat → Nat → Int32) × Int32)) (nn : Nat) (v3 : Nat → Int32) (v4 : Nat → Nat → Int32) (v5 v6 v7 v8 v9 v10 : Int32) :
    L_X8_body_48 v2 p1 k11 (nn + 1) v3 v4 v5 v6 v7 v8 v9 v10 = if v2 < v5 then k11 (v3, v4, v5, v6, v7, v8, v9, v10) else bd (f_X8_bitAt v4 p1 v5) (fun u13 => bd (f_X8_check v3 v4 u13) (fun ⟨u15, u16⟩ => if v9 = 5 then if u13 = v10 then some (u15, u16, 1) else if (u15 34) = (v8 + 15) then some ((upd (upd u15 46 ((u15 46) + 1)) 45 (v5 + 1)), u16, (-1)) else L_X8_body_48 v2 p1 k11 nn (upd u15 46 ((u15 46) + 1)) u16 (v5 + 1) v6 v7 v8 1 u13 else lt (α := Int32) (if u13 = v10 then (v9 + 1) else 1) (fun x18 => gd (vp_in (u15 34) 700) (jn (α := Int32) (fun x23 => lt (α := Int32) (if x23 = 0 then 14 else 33) (fun x31 => jn (α := Int32) (fun x35 => if ((u15 34) + 1) = (x31 + 2) then if x35 = 0 then bK v2 p1 k11 nn u15 u16 v5 v8 x18 u13 x23 x31 x35 else if u13 = 1 then some ((upd u15 34 ((u15 34) + 1)), (va_up u16 26 (upd (u16 26) ((u15 34).toNatClampNeg) (vp_nar .byte u13.toInt8.toInt32))), 2) else bK v2 p1 k11 nn u15 u16 v5 v8 x18 u13 x23 x31 x35 else bK v2 p1 k11 nn u15 u16 v5 v8 x18 u13 x23 x31 x35) (fun k41 => if ((u15 34) + 1) ≤ 13 then k41 v6 else if ((u15 34) + 1) = (x31 + 1) then lt (α := Int32) (if u13 = 1 then 1 else 0) (fun x115 => k41 x115) else k41 v6))) (fun k29 => if ((u15 34) + 1) = 14 then lt (α := Int32) (if u13 = 1 then 1 else 0) (fun x121 => k29 x121) else k29 v7))))) := rfl

def cA (P : List Nat) : Nat := kn P (aBe P) 20000
/-- what was found of the head, once it is known -/
def fnd (v : Nat → Int32) (P : List Nat) : Prop := aHl P ≤ P.length → v 42 = nI (aKind P) ∧ v 43 = nI (aLen P) ∧ v 44 = nI (aId P)
theorem aKind_lt {P : List Nat} (hP : Bt P) : aKind P < 6 := by
  have hlb : aLong P < 2 := Bt_getD _ hP
  unfold aKind; split <;> (try split) <;> omega
theorem aLen_lt {P : List Nat} (hP : Bt P) : aLen P < 16 := by
  have := vl_sl_lt hP (aHl P - 4) 4
  exact this
theorem kn_up {P : List Nat} (b : Nat) : aHl P ≤ P.length → aHl (P ++ [b]) ≤ (P ++ [b]).length := fun h => by
  rw [(a_stab b h).2.2.1, len_s]; omega
theorem kn_dn {P : List Nat} (b : Nat) (h : aHl (P ++ [b]) ≤ (P ++ [b]).length) (hn : (P ++ [b]).length ≠ aHl (P ++ [b])) : aHl P ≤ P.length := by
  rw [len_s] at h hn
  have h1 := aHl_at (P ++ [b])
  rw [← aHl_s (P := P) b (by omega)]
  omega
theorem fnd_s {v v' : Nat → Int32} {P : List Nat} (b : Nat) (h : fnd v P) (hv : ∀ k, (k = 42 ∨ k = 43 ∨ k = 44) → v' k = v k) (hk : aHl (P ++ [b]) ≤ (P ++ [b]).length → aHl P ≤ P.length) : fnd v' (P ++ [b]) := by
  intro hy
  have hp := hk hy
  have e := a_stab b hp
  obtain ⟨f1, f2, f3⟩ := h hp
  rw [hv 42 (by decide), hv 43 (by decide), hv 44 (by decide), e.2.2.2.1, e.2.2.2.2.1, e.2.2.2.2.2.1]
  exact ⟨f1, f2, f3⟩
theorem bK_ok {v2 p1 : Int32} {k11 : (Nat → Int32) × (Nat → Nat → Int32) × Int32 × Int32 × Int32 × Int32 × Int32 × Int32 → Option ((Nat → Int32) × (Nat → Nat → Int32) × Int32)} {nn : Nat} {u15 : Nat → Int32} {u16 : Nat → Nat → Int32} {P : List Nat} {k b ru : Nat} (hP : Bt P) (hb : b < 2) (hl : P.length < 600) (hru : ru ≤ 5) (h34 : u15 34 = nI P.length) (hm : arr (u16 26) P) (hf : fnd u15 P) :
    ∃ v', v' 34 = nI (P.length + 1) ∧ fnd v' (P ++ [b]) ∧ (∀ j, j ≠ 34 → j ≠ 42 → j ≠ 43 → j ≠ 44 → v' j = u15 j) ∧ bK v2 p1 k11 nn u15 u16 (nI k) (nI (cA P)) (nI ru) (nI b) (nI (aLong (P ++ [b]))) (nI (aAt (P ++ [b]))) (nI (aFlex (P ++ [b]))) = if aEnd (P ++ [b]) ru then some (upd v' 45 (nI (k + 1)), va_up u16 26 (upd (u16 26) P.length (nI b)), -1) else L_X8_body_48 v2 p1 k11 nn v' (va_up u16 26 (upd (u16 26) P.length (nI b))) (nI (k + 1)) (nI (aFlex (P ++ [b]))) (nI (aLong (P ++ [b]))) (nI (cA (P ++ [b]))) (nI ru) (nI b) := by
  have hP' := Bt_snoc hP hb
  have hls := len_s P b
  have hlb : aLong (P ++ [b]) < 2 := Bt_getD _ hP'
  have hfb : aFlex (P ++ [b]) < 2 := Bt_getD _ hP'
  have hat := aAt_le (P ++ [b])
  have hm5 := aHl_at (P ++ [b])
  have h41 := aHl_le (P ++ [b])
  have hAt : aAt (P ++ [b]) = if aLong (P ++ [b]) = 0 then 14 else 33 := rfl
  have hpe := aPe_le hP'
  have h66 : (if nI (aFlex (P ++ [b])) = 0 then if nI (aLong (P ++ [b])) = 0 then (5 : Int32) else 6 else 8) = nI (aHl (P ++ [b]) - aAt (P ++ [b])) := by
    rw [hAt]
    unfold aHl
    have h1 : aLong (P ++ [b]) = 0 ∨ aLong (P ++ [b]) = 1 := by omega
    have h2 : aFlex (P ++ [b]) = 0 ∨ aFlex (P ++ [b]) = 1 := by omega
    rcases h1 with h1 | h1 <;> rcases h2 with h2 | h2 <;> rw [h1, h2] <;> decide
  have hcA : cA (P ++ [b]) < 30000 := by unfold cA kn; split <;> omega
  -- what follows, for any checkAt and fields
  have key : ∀ (v' : Nat → Int32), v' 34 = nI (P.length + 1) → (lt (α := Int32) (if nI (aFlex (P ++ [b])) = 0 then if (v' 34) = (nI (cA (P ++ [b])) + 15) then if 5 ≤ nI ru then 0 else 1 else 0 else if (v' 34) = nI (cA (P ++ [b])) then 1 else 0) (fun x75 => if x75 = 0 then L_X8_body_48 v2 p1 k11 nn v' (va_up u16 26 (upd (u16 26) P.length (nI b))) (nI (k + 1)) (nI (aFlex (P ++ [b]))) (nI (aLong (P ++ [b]))) (nI (cA (P ++ [b]))) (nI ru) (nI b) else some ((upd v' 45 (nI (k + 1))), va_up u16 26 (upd (u16 26) P.length (nI b)), (-1)))) = if aEnd (P ++ [b]) ru then some (upd v' 45 (nI (k + 1)), va_up u16 26 (upd (u16 26) P.length (nI b)), -1) else L_X8_body_48 v2 p1 k11 nn v' (va_up u16 26 (upd (u16 26) P.length (nI b))) (nI (k + 1)) (nI (aFlex (P ++ [b]))) (nI (aLong (P ++ [b]))) (nI (cA (P ++ [b]))) (nI ru) (nI b) := by
    intro v' hv
    have ec : (if nI (aFlex (P ++ [b])) = 0 then if (v' 34) = (nI (cA (P ++ [b])) + 15) then if 5 ≤ nI ru then (0 : Int32) else 1 else 0 else if (v' 34) = nI (cA (P ++ [b])) then 1 else 0) = if aEnd (P ++ [b]) ru then 1 else 0 := by
      rw [hv]
      simp (disch := omega) only [li, nI_add, nI_eq, nI_leI]
      have hpe1 : aFlex (P ++ [b]) = 0 → aPe (P ++ [b]) = aBe (P ++ [b]) + 15 := fun h => if_pos h
      have hpe2 : aFlex (P ++ [b]) ≠ 0 → aPe (P ++ [b]) = aBe (P ++ [b]) := fun h => if_neg h
      by_cases hy : aHl (P ++ [b]) ≤ (P ++ [b]).length
      · have e1 : cA (P ++ [b]) = aBe (P ++ [b]) := kn_y hy
        have e2 : pE (P ++ [b]) = aPe (P ++ [b]) := kn_y hy
        by_cases c1 : aFlex (P ++ [b]) = 0
        · rw [if_pos c1]
          by_cases c2 : P.length + 1 = cA (P ++ [b]) + 15
          · rw [if_pos c2]
            by_cases c3 : 5 ≤ ru
            · rw [if_pos c3, if_neg (by intro h; rcases h.2 with h | h <;> omega)]
            · rw [if_neg c3, if_pos ⟨by rw [hls, e2, hpe1 c1]; omega, Or.inr (by omega)⟩]
          · rw [if_neg c2, if_neg (by intro h; have h' := h.1; rw [hls, e2, hpe1 c1] at h'; omega)]
        · rw [if_neg c1]
          by_cases c2 : P.length + 1 = cA (P ++ [b])
          · rw [if_pos c2, if_pos ⟨by rw [hls, e2, hpe2 c1]; omega, Or.inl (by omega)⟩]
          · rw [if_neg c2, if_neg (by intro h; have h' := h.1; rw [hls, e2, hpe2 c1] at h'; omega)]
      · have e1 : cA (P ++ [b]) = 20000 := kn_n hy
        have e2 : pE (P ++ [b]) = 1000000 := kn_n hy
        rw [if_neg (show ¬ aEnd (P ++ [b]) ru by intro h; have h' := h.1; rw [hls, e2] at h'; omega)]
        rw [if_neg (show ¬ P.length + 1 = cA (P ++ [b]) + 15 by omega), if_neg (show ¬ P.length + 1 = cA (P ++ [b]) by omega)]
        split <;> rfl
    rw [ltE, ec]
    by_cases c : aEnd (P ++ [b]) ru
    · rw [if_pos c, if_pos c, if_neg (by decide)]
    · rw [if_neg c, if_neg c, if_pos (by decide)]
  have e1 : nI P.length + 1 = nI (P.length + 1) := nI_add _ 1
  have ek : nI k + 1 = nI (k + 1) := nI_add _ 1
  have e67 : nI (aAt (P ++ [b])) + nI (aHl (P ++ [b]) - aAt (P ++ [b])) = nI (aHl (P ++ [b])) := by rw [nI_add]; congr 1; omega
  unfold bK
  rw [ltE, jnE, h66, h34, e1, ek, e67, nI_clamp (by omega), n_byte b (by omega)]
  by_cases c1 : P.length + 1 ≤ aAt (P ++ [b])
  · rw [if_pos (by rw [nI_leI (by omega) (by omega)]; exact c1)]
    have hn' : ¬ aHl (P ++ [b]) ≤ (P ++ [b]).length := by omega
    have hn : ¬ aHl P ≤ P.length := fun h => hn' (kn_up b h)
    have ecA : cA P = cA (P ++ [b]) := by rw [cA, cA, kn_n hn, kn_n hn']
    refine ⟨upd u15 34 (nI (P.length + 1)), by simp [upd], fun h => absurd h hn', ?_, ?_⟩
    · intro j j1 _ _ _; simp [upd, j1]
    · rw [ecA]; exact key _ (by simp [upd])
  · rw [if_neg (by rw [nI_leI (by omega) (by omega)]; exact c1)]
    by_cases c2 : P.length + 1 = aHl (P ++ [b])
    · have hy : aHl (P ++ [b]) ≤ (P ++ [b]).length := by omega
      obtain ⟨v', w1, w2, w3, w4, w5⟩ := m_find (v := upd u15 34 (nI (P.length + 1))) (m := va_up u16 26 (upd (u16 26) P.length (nI b))) (P := P ++ [b]) (by rw [vu_s]; exact arr_s hm rfl) hP' (by omega) hy
      have ho := m_octets (aKind (P ++ [b])) (aKind_lt hP') (aLen (P ++ [b])) (aLen_lt hP')
      have ecA : nI (aHl (P ++ [b])) + 8 * nI (octs (aKind (P ++ [b])) (aLen (P ++ [b]))) = nI (cA (P ++ [b])) := by
        rw [show (8 : Int32) * nI (octs (aKind (P ++ [b])) (aLen (P ++ [b]))) = nI (8 * octs (aKind (P ++ [b])) (aLen (P ++ [b]))) from n_mul 8 _, nI_add, cA, kn_y hy]
        rfl
      have v34 : v' 34 = nI (P.length + 1) := by rw [w5 34 (by decide) (by decide) (by decide)]; simp [upd]
      refine ⟨v', v34, fun _ => ⟨w2, w3, w4⟩, ?_, ?_⟩
      · intro j j1 j2 j3 j4; rw [w5 j j2 j3 j4]; simp [upd, j1]
      · rw [if_pos (by rw [c2]), w1, bdS, w2, w3, ho, bdS, ecA]
        exact key _ v34
    · rw [if_neg (by rw [nI_eq (by omega) (by omega)]; exact c2)]
      have hne : (P ++ [b]).length ≠ aHl (P ++ [b]) := by omega
      have ecA : cA P = cA (P ++ [b]) := by
        by_cases hy : aHl P ≤ P.length
        · rw [cA, cA, kn_y hy, kn_y (kn_up b hy), (a_stab b hy).2.2.2.2.2.2.2.1]
        · rw [cA, cA, kn_n hy, kn_n (fun h => hy (kn_dn b h hne))]
      refine ⟨upd u15 34 (nI (P.length + 1)), by simp [upd], fnd_s b hf (fun j hj => ?_) (fun h => kn_dn b h hne), ?_, ?_⟩
      · rw [up_n _ _ (by omega)]
      · intro j j1 _ _ _; simp [upd, j1]
      · rw [ecA]; exact key _ (by simp [upd])
