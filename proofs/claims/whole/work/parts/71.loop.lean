/-- one call on both sides, by its number -/
def Step (c : Nat) (p1 p2 p3 p4 : Int32) (s : CS) (v : Nat → Int32) (m : Nat → Nat → Int32) (s' : CS) (v' : Nat → Int32) (m' : Nat → Nat → Int32) : Prop := match c with
  | 0 => Step_nodes p1 s v m s' v' m'
  | 1 => Step_send p1 p2 p3 p4 s v m s' v' m'
  | 2 => Step_octet p1 p2 p3 s v m s' v' m'
  | 3 => Step_stuffed p1 s v m s' v' m'
  | 4 => Step_filter p1 p2 p3 s v m s' v' m'
  | 5 => Step_flip p1 p2 s v m s' v' m'
  | 6 => Step_run p1 s v m s' v' m'
  | 7 => Step_time  s v m s' v' m'
  | 8 => Step_bit p1 s v m s' v' m'
  | 9 => Step_check p1 p2 p3 s v m s' v' m'
  | 10 => Step_state p1 s v m s' v' m'
  | 11 => Step_waiting p1 s v m s' v' m'
  | 12 => Step_done p1 p2 s v m s' v' m'
  | 13 => Step_taken p1 p2 p3 s v m s' v' m'
  | 14 => Step_takenOctet p1 p2 p3 s v m s' v' m'
  | _ => Step_error p1 p2 s v m s' v' m'
theorem and15 (x : Int32) : ∃ c : Nat, c < 16 ∧ x &&& 15 = nI c := by
  refine ⟨(x.toBitVec.toNat) % 16, Nat.mod_lt _ (by decide), ?_⟩
  apply Int32.toBitVec_inj.mp
  rw [Int32.toBitVec_and]
  apply BitVec.eq_of_toNat_eq
  rw [BitVec.toNat_and]
  have h1 : ((15 : Int32).toBitVec).toNat = 2 ^ 4 - 1 := by decide
  rw [h1, Nat.and_two_pow_sub_one_eq_mod]
  have h2 : (nI (x.toBitVec.toNat % 16)).toBitVec.toNat = x.toBitVec.toNat % 16 := by
    show (Int32.ofNat _).toBitVec.toNat = _
    rw [Int32.toBitVec_ofNat', BitVec.toNat_ofNat]
    exact Nat.mod_eq_of_lt (Nat.lt_trans (Nat.mod_lt _ (by decide)) (by decide))
  rw [h2]
theorem nI_sub5 {N : Nat} (h : N ≤ 2560) : (nI N - 5).toInt = (N : Int) - 5 := by
  rw [Int32.toInt_sub, nI_toInt (by omega), show (5 : Int32).toInt = 5 by decide]
  simp only [Int.bmod]
  omega
/-- what the law's end needs -/
def LZ (Γ : GX) (b : Nat) : Prop := match Γ with
  | (_, _, _, R, s, _, args, below, meth, _, Q, Λ, _) => R = room_1 ∧ args = #[Value.ref b] ∧ Q = lw_Z below #[Value.ref b] s ∧ meth.sig.returnType = ret ∧ meth.locks = false ∧ yB Λ = s.heap.size
theorem law_end {Γ : GX} {κ : Nat × Nat} {σ : CS} {b N : Nat} {L : List (Nat × Value)} {xs : Nat → Int32} {w0 : Cond} (hL : LW Γ b N xs w0) (hZ : LZ Γ b) (hκ : κ.1 ≤ 479123 ∧ κ.2 ≤ 7595248) : GG Γ κ σ 1087 L [] := by
  refine G_iconst (v := 1) hL.1 dL_law_1087 (by decide) ?_
  obtain ⟨p, l, e, R, s, m, args, below, meth, c, Q, Λ, n⟩ := Γ
  obtain ⟨rfl, rfl, rfl, hr, hlk, hB⟩ := hZ
  intro H locs ls hW hS hl
  refine va_forget (fun q hq => ?_) (W.widen (k := 479123) (n := 7595248) hκ.1 hκ.2 (lw_ret hL.1.1 hL.1.2.1 hr hlk dL_law_1088))
  have h9 : yB Λ ≤ q.base := hS.2.2 q hq
  rw [hB] at h9
  exact h9
set_option maxHeartbeats 4000000 in
set_option maxRecDepth 100000 in
theorem law_loop {Γ : GX} {b N : Nat} {xs : Nat → Int32} {w0 : Cond} (hL : LW Γ b N xs w0) (hZ : LZ Γ b) {Inv : CS → (Nat → Int32) → (Nat → Nat → Int32) → Prop} (hstep : ∀ s v m, Inv s v m → ∀ c, c < 16 → ∀ p1 p2 p3 p4, ∃ s' v' m', Step c p1 p2 p3 p4 s v m s' v' m' ∧ Inv s' v' m') {c0 s0 : Nat} (hc0 : c0 + 513 ≤ 479123) (hs0 : s0 + 6 * 513 ≤ 7595248) :
    ∀ (n j : Nat) (h : Int64) (s : CS) (v : Nat → Int32) (m : Nat → Nat → Int32), n + j = 513 → Inv s v m → GG Γ (c0 + j, s0 + 6 * j) (SL h s v m) 23 [(4, .int (nI (5 * j))), (3, .ref (ya (gl Γ) 20 0)), (2, .ref (ya (gl Γ) 18 0)), (1, .ref (ya (gl Γ) 0 0)), (0, .ref b)] [] := by
  have hRm : gRm Γ = room_1 := by
    obtain ⟨p, l, e, R, s, m, args, below, meth, c, Q, Λ, n⟩ := Γ
    exact hZ.1
  intro n
  induction n with
  | zero =>
    intro j h s v m e hI
    have e : j = 513 := by omega
    subst e
    refine G_iload hL.1 0 dL_law_23 rfl ?_
    refine G_aload_n hL.1 4 dL_law_25 rfl ?_
    refine S_len hL dL_law_26 ?_
    refine G_iconst (v := 5) hL.1 dL_law_27 (by decide) ?_
    refine G_isub hL.1 dL_law_28 ?_
    refine G_icmp_gt hL.1 (tgt := 1087) dL_law_29 (by decide) (fun _ => law_end hL hZ ⟨by show c0 + 513 ≤ _; omega, by show s0 + 6 * 513 ≤ _; omega⟩) (fun hc => absurd ?_ hc)
    have h9 := hL.2.2.2.2.2.2.2.2.2
    rw [Int32.lt_iff_toInt_lt, nI_sub5 h9, nI_toInt (by omega)]
    omega
  | succ n ih =>
    intro j h s v m e hI
    refine G_iload hL.1 0 dL_law_23 rfl ?_
    refine G_aload_n hL.1 4 dL_law_25 rfl ?_
    refine S_len hL dL_law_26 ?_
    refine G_iconst (v := 5) hL.1 dL_law_27 (by decide) ?_
    refine G_isub hL.1 dL_law_28 ?_
    refine G_icmp_gt hL.1 (tgt := 1087) dL_law_29 (by decide) (fun _ => law_end hL hZ ⟨by show c0 + j ≤ _; omega, by show s0 + 6 * j ≤ _; omega⟩) (fun hc => ?_)
    have hj : 5 * j + 5 ≤ N := by
      have h9 := hL.2.2.2.2.2.2.2.2.2
      rw [Int32.lt_iff_toInt_lt] at hc
      by_cases h8 : 5 * j < 2 ^ 31
      · rw [nI_sub5 h9, nI_toInt h8] at hc
        omega
      · omega
    refine G_aload_n hL.1 4 dL_law_32 rfl ?_
    refine G_iload hL.1 0 dL_law_33 rfl ?_
    refine S_ld0 hL (by omega) dL_law_35 ?_
    refine G_bipush (v := 15) hL.1 dL_law_36 (by decide) ?_
    refine G_iand hL.1 dL_law_38 ?_
    obtain ⟨c, hc16, hce⟩ := and15 (xs (5 * j))
    obtain ⟨s', v', m', hs, hI'⟩ := hstep s v m hI c hc16 (xs (5 * j + 1)) (xs (5 * j + 2)) (xs (5 * j + 3)) (xs (5 * j + 4))
    have hκ : c0 + j + 1 ≤ (gRm Γ).cells ∧ s0 + 6 * j + 6 ≤ (gRm Γ).slots := by rw [hRm]; exact ⟨by show _ ≤ 479123; omega, by show _ ≤ 7595248; omega⟩
    have kk : ∀ h', GG Γ (c0 + j + 1, s0 + 6 * j + 6) (SL h' s' v' m') 1081 [(4, .int (nI (5 * j))), (3, .ref (ya (gl Γ) 20 0)), (2, .ref (ya (gl Γ) 18 0)), (1, .ref (ya (gl Γ) 0 0)), (0, .ref b)] [] := fun h' => by
      refine G_iinc hL.1 (v := nI (5 * (j + 1))) 0 [(4, .int (nI (5 * (j + 1)))), (3, .ref (ya (gl Γ) 20 0)), (2, .ref (ya (gl Γ) 18 0)), (1, .ref (ya (gl Γ) 0 0)), (0, .ref b)] dL_law_1081 rfl (show nI (5 * j) + nI 5 = _ by rw [nI_add, Nat.mul_add]) (by decide) rfl ?_
      refine G_goto hL.1 (tgt := 23) dL_law_1084 (by decide) ?_
      exact ih (j + 1) h' s' v' m' (by omega) hI'
    rcases (show c = 0 ∨ c = 1 ∨ c = 2 ∨ c = 3 ∨ c = 4 ∨ c = 5 ∨ c = 6 ∨ c = 7 ∨ c = 8 ∨ c = 9 ∨ c = 10 ∨ c = 11 ∨ c = 12 ∨ c = 13 ∨ c = 14 ∨ c = 15 by omega) with rfl | rfl | rfl | rfl | rfl | rfl | rfl | rfl | rfl | rfl | rfl | rfl | rfl | rfl | rfl | rfl
    · exact G_tabV hL.1 (tgt := 116) (0 : Int32) hce dL_law_39 (by decide) (by decide) rfl (by decide) (law_nodes (κ := (c0 + j, s0 + 6 * j)) hL hκ hj hs kk)
    · exact G_tabV hL.1 (tgt := 152) (1 : Int32) hce dL_law_39 (by decide) (by decide) rfl (by decide) (law_send (κ := (c0 + j, s0 + 6 * j)) hL hκ hj hs kk)
    · exact G_tabV hL.1 (tgt := 244) (2 : Int32) hce dL_law_39 (by decide) (by decide) rfl (by decide) (law_octet (κ := (c0 + j, s0 + 6 * j)) hL hκ hj hs kk)
    · exact G_tabV hL.1 (tgt := 304) (3 : Int32) hce dL_law_39 (by decide) (by decide) rfl (by decide) (law_stuffed (κ := (c0 + j, s0 + 6 * j)) hL hκ hj hs kk)
    · exact G_tabV hL.1 (tgt := 360) (4 : Int32) hce dL_law_39 (by decide) (by decide) rfl (by decide) (law_filter (κ := (c0 + j, s0 + 6 * j)) hL hκ hj hs kk)
    · exact G_tabV hL.1 (tgt := 420) (5 : Int32) hce dL_law_39 (by decide) (by decide) rfl (by decide) (law_flip (κ := (c0 + j, s0 + 6 * j)) hL hκ hj hs kk)
    · exact G_tabV hL.1 (tgt := 468) (6 : Int32) hce dL_law_39 (by decide) (by decide) rfl (by decide) (law_run (κ := (c0 + j, s0 + 6 * j)) hL hκ hj hs kk)
    · exact G_tabV hL.1 (tgt := 524) (7 : Int32) hce dL_law_39 (by decide) (by decide) rfl (by decide) (law_time (κ := (c0 + j, s0 + 6 * j)) hL hκ hj hs kk)
    · exact G_tabV hL.1 (tgt := 537) (8 : Int32) hce dL_law_39 (by decide) (by decide) rfl (by decide) (law_bit (κ := (c0 + j, s0 + 6 * j)) hL hκ hj hs kk)
    · exact G_tabV hL.1 (tgt := 593) (9 : Int32) hce dL_law_39 (by decide) (by decide) rfl (by decide) (law_check (κ := (c0 + j, s0 + 6 * j)) hL hκ hj hs kk)
    · exact G_tabV hL.1 (tgt := 673) (10 : Int32) hce dL_law_39 (by decide) (by decide) rfl (by decide) (law_state (κ := (c0 + j, s0 + 6 * j)) hL hκ hj hs kk)
    · exact G_tabV hL.1 (tgt := 729) (11 : Int32) hce dL_law_39 (by decide) (by decide) rfl (by decide) (law_waiting (κ := (c0 + j, s0 + 6 * j)) hL hκ hj hs kk)
    · exact G_tabV hL.1 (tgt := 785) (12 : Int32) hce dL_law_39 (by decide) (by decide) rfl (by decide) (law_done (κ := (c0 + j, s0 + 6 * j)) hL hκ hj hs kk)
    · exact G_tabV hL.1 (tgt := 853) (13 : Int32) hce dL_law_39 (by decide) (by decide) rfl (by decide) (law_taken (κ := (c0 + j, s0 + 6 * j)) hL hκ hj hs kk)
    · exact G_tabV hL.1 (tgt := 933) (14 : Int32) hce dL_law_39 (by decide) (by decide) rfl (by decide) (law_takenOctet (κ := (c0 + j, s0 + 6 * j)) hL hκ hj hs kk)
    · exact G_tabV hL.1 (tgt := 1013) (15 : Int32) hce dL_law_39 (by decide) (by decide) rfl (by decide) (law_error (κ := (c0 + j, s0 + 6 * j)) hL hκ hj hs kk)
