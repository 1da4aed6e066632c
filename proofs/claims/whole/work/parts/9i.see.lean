/-! a node sees a bit: the class's roads -/
noncomputable def seF (r1 r2 : Option Nat) (x2 : Int64) (x3 x4 x5 x6 x7 tf tt tk : Nat → Int32) (p2 ev : Int32) (nf : Nat → Int32) : Option (Option Nat × Option Nat × (Nat → Int32) × Int64 × (Nat → Int32) × (Nat → Int32) × (Nat → Int32) × (Nat → Int32) × (Nat → Int32) × (Nat → Int32) × (Nat → Int32) × (Nat → Int32) × Int32) := bd (f_X2_settle nf x2 x3 x4 tf tt tk ev p2) (fun ⟨u22, u23, u24, u25, u26⟩ => some (r1, r2, u22, x2, x3, x4, x5, x6, x7, u23, u24, u25, u26))
noncomputable def seK (r1 r2 : Option Nat) (tf tt tk : Nat → Int32) (φ φb : Nat → Nat → Int32) (p1 p2 : Int32) (x1 : Nat → Int32) (x2 : Int64) (x3 x4 x5 x6 x7 : Nat → Int32) : Option (Option Nat × Option Nat × (Nat → Int32) × Int64 × (Nat → Int32) × (Nat → Int32) × (Nat → Int32) × (Nat → Int32) × (Nat → Int32) × (Nat → Int32) × (Nat → Int32) × (Nat → Int32) × Int32) :=
  if (x1 2) = 1 then bd (f_X2_seeSending r2 x1 φ φb p1) (fun ⟨u29, u30⟩ => seF r1 r2 x2 x3 x4 x5 x6 x7 tf tt tk p2 u30 u29)
  else if (x1 2) = 2 then bd (f_X1_hear x2 x3 x4 x5 x6 x7 p1) (fun ⟨u33, u34, u35, u36, u37, u38, u39⟩ => seF r1 r2 u33 u34 u35 u36 u37 u38 tf tt tk p2 u39 x1)
  else if (x1 2) = 3 then bd (f_X2_seeFlagging x1) (fun u42 => seF r1 r2 x2 x3 x4 x5 x6 x7 tf tt tk p2 (-1) u42)
  else if (x1 2) = 4 then if p1 = 1 then bd (f_X2_enter x1 5) (fun u45 => seF r1 r2 x2 x3 x4 x5 x6 x7 tf tt tk p2 (-1) u45) else seF r1 r2 x2 x3 x4 x5 x6 x7 tf tt tk p2 (-1) x1
  else if (x1 2) = 5 then bd (f_X2_seeClearing x1 p1) (fun ⟨u49, u50⟩ => seF r1 r2 x2 x3 x4 x5 x6 x7 tf tt tk p2 u50 u49)
  else if (x1 2) = 6 then bd (f_X2_seePausing r1 r2 x1 p1) (fun ⟨u53, u54, u55, u56⟩ => seF u53 u54 x2 x3 x4 x5 x6 x7 tf tt tk p2 u56 u55)
  else seF r1 r2 x2 x3 x4 x5 x6 x7 tf tt tk p2 (-1) x1
theorem see_q (r1 r2 : Option Nat) (nf : Nat → Int32) (h : Int64) (f o a b c tf tt tk : Nat → Int32) (φ φb : Nat → Nat → Int32) (p1 p2 : Int32) : f_X2_see r1 r2 nf h f o a b c tf tt tk φ φb p1 p2 = if p1 = 0 then bd (f_X2_turnToListening r1 r2 nf h f o a b c φ φb) (fun ⟨u58, u59, u60, u61, u62, u63, u64⟩ => seK r1 r2 tf tt tk φ φb p1 p2 u58 u59 u60 u61 u62 u63 u64) else seK r1 r2 tf tt tk φ φb p1 p2 nf h f o a b c := rfl
section SeF
variable {r1 r2 : Option Nat} {x2 : Int64} {x3 x4 x5 x6 x7 tf tt tk : Nat → Int32} {p2 : Int32} {nf : Nat → Int32}
theorem seF_n : seF r1 r2 x2 x3 x4 x5 x6 x7 tf tt tk p2 (-1) nf = some (r1, r2, nf, x2, x3, x4, x5, x6, x7, tf, tt, tk, -1) := by
  unfold seF f_X2_settle
  rw [if_neg (by decide), if_neg (by decide), if_neg (by decide), jnE, if_pos rfl]
  rfl
theorem seF_e {e : Nat} (he : e < 6) : seF r1 r2 x2 x3 x4 x5 x6 x7 tf tt tk p2 (nI e) nf = some (r1, r2, upd (upd nf 2 3) 3 0, x2, x3, x4, x5, x6, x7, tf, tt, tk, nI e) := by
  unfold seF f_X2_settle f_X2_enter
  rw [if_neg (show ¬ nI e = 7 from ne_l 7 (by omega) (by omega) (by decide)), if_neg (show ¬ nI e = 8 from ne_l 8 (by omega) (by omega) (by decide)), if_neg (show ¬ nI e = 6 from ne_l 6 (by omega) (by omega) (by decide)), jnE, if_neg (nm1 (by omega)), bdS]
  rfl
theorem seF_8 : seF r1 r2 x2 x3 x4 x5 x6 x7 tf tt tk p2 (nI 8) nf = some (r1, r2, upd (upd nf 2 6) 3 0, x2, x3, x4, x5, x6, x7, tf, tt, tk, -1) := by
  unfold seF f_X2_settle f_X2_enter
  rw [if_neg (by decide), if_pos (show nI 8 = 8 from rfl), bdS, ltE, if_neg (by decide)]
  rfl
theorem seF_6 : seF r1 r2 x2 x3 x4 x5 x6 x7 tf tt tk p2 (nI 6) nf = some (r1, r2, upd (upd nf 2 6) 3 0, x2, x3, x4, x5, x6, x7, tf, tt, tk, nI 6) := by
  unfold seF f_X2_settle f_X2_enter
  rw [if_neg (by decide), if_neg (by decide), if_pos (show nI 6 = 6 from rfl), bdS, ltE, if_pos (show nI 6 = 6 from rfl)]
  rfl
end SeF
/-! the model's roads -/
def mSee (m : Nat → Nat → Int32) (n i b : Nat) : Nat → Nat → Int32 := va_up (va_up m 15 (upd (m 15) (1200 * n + i) (nI b))) 14 (upd (m 14) n (nI (i + 1)))
theorem m_see {m : Nat → Nat → Int32} {n i b : Nat} (hn : n < 32) (hi : i < 1200) (hb : b < 2) (h14 : m 14 n = nI i) : f_X8_see m (nI n) (nI b) = some (mSee m n i b) := by
  unfold f_X8_see
  have hin : vp_in (nI n) 32 := in_nI hn (by decide)
  have e : (1200 : Int32) * nI n + nI i = nI (1200 * n + i) := by rw [show (1200 : Int32) = nI 1200 from rfl, n_mul, nI_add]
  rw [gdT _ hin, nI_clamp (by omega), h14, e, gdT _ (in_nI (by omega) (by decide)), gdT _ hin, ltE, gdT _ hin, nI_clamp (by omega), n_byte _ (by omega), show nI i + 1 = nI (i + 1) from nI_add _ 1]
  rfl
def mWr (v : Nat → Int32) (m : Nat → Nat → Int32) (n e E : Nat) : Nat → Nat → Int32 := va_up (va_up (va_up (va_up (va_up m 23 (upd (m 23) E (nI e))) 24 (upd (m 24) E (nI n))) 25 (upd (m 25) E (v 2))) 9 (upd (m 9) n 3)) 10 (upd (m 10) n 6)
theorem m_wrong {v : Nat → Int32} {m : Nat → Nat → Int32} {n e E : Nat} (hn : n < 32) (he : e < 128) (hE : E < 92000) (h29 : v 29 = nI E) : f_X8_wrong v m (nI n) (nI e) = some (upd v 29 (nI (E + 1)), mWr v m n e E) := by
  unfold f_X8_wrong
  have hin : vp_in (nI n) 32 := in_nI hn (by decide)
  rw [h29, gdT _ (in_nI hE (by decide)), gdT _ (in_nI hE (by decide)), gdT _ (in_nI hE (by decide)), gdT _ hin, gdT _ hin, nI_clamp (by omega), nI_clamp (by omega), n_byte _ he, n_byte _ (by omega), show nI E + 1 = nI (E + 1) from nI_add _ 1]
  rfl
def mGo (m : Nat → Nat → Int32) (n : Nat) (x y : Int32) : Nat → Nat → Int32 := va_up (va_up m 9 (upd (m 9) n x)) 10 (upd (m 10) n y)
theorem m_go {m : Nat → Nat → Int32} {n : Nat} {x y : Int32} (hn : n < 32) : f_X8_go m (nI n) x y = some (mGo m n x y) := by
  unfold f_X8_go
  have hin : vp_in (nI n) 32 := in_nI hn (by decide)
  rw [gdT _ hin, gdT _ hin, nI_clamp (by omega)]
  rfl
theorem m_sees1 {v : Nat → Int32} {m : Nat → Nat → Int32} {n : Nat} {p2 : Int32} (hn : n < 32) (hz : m 9 n = nI 1) : f_X8_sees v m (nI n) p2 = f_X8_sent v m (nI n) p2 := by
  have hg : ∀ {β : Type} (x : Option β), gd (vp_in (nI n) 32) x = x := fun x => gdT x (in_nI hn (by decide))
  unfold f_X8_sees
  rw [hg, nI_clamp (by omega), hz, if_neg (by decide), hg, jnE, if_pos (show nI 1 = 1 from rfl)]
  cases f_X8_sent v m (nI n) p2 with
  | none => rfl
  | some x => rfl
/-- what the model makes of what it reads -/
noncomputable def rdK (n : Nat) (u112 : Nat → Int32) (u113 : Nat → Nat → Int32) (u114 : Int32) : Option ((Nat → Int32) × (Nat → Nat → Int32)) := if u114 = 10 then f_X8_take u112 u113 (nI n) else if u114 = 11 then some (u112, mGo u113 n 6 3) else if u114 = (-1) then some (u112, u113) else f_X8_wrong u112 u113 (nI n) u114
theorem bd_id {α β : Type} (x : Option (α × β)) : bd x (fun ⟨a, b⟩ => some (a, b)) = x := by
  cases x with
  | none => rfl
  | some x => rfl
theorem m_sees2 {v : Nat → Int32} {m : Nat → Nat → Int32} {n : Nat} {p2 : Int32} (hn : n < 32) (hz : m 9 n = nI 2) : f_X8_sees v m (nI n) p2 = bd (f_X8_see m (nI n) p2) (fun u => bd (f_X8_read v u (nI n)) (fun x => rdK n x.1 x.2.1 x.2.2)) := by
  have hg : ∀ {β : Type} (x : Option β), gd (vp_in (nI n) 32) x = x := fun x => gdT x (in_nI hn (by decide))
  unfold f_X8_sees
  rw [hg, nI_clamp (by omega), hz, if_neg (by decide), hg, jnE, if_neg (by decide), hg, if_pos (show nI 2 = 2 from rfl)]
  congr 1
  funext u
  congr 1
  funext x
  obtain ⟨a, b, c⟩ := x
  dsimp only
  rw [jnE]
  unfold rdK
  split
  · exact bd_id _
  · split
    · rw [m_go hn]; rfl
    · split
      · rfl
      · exact bd_id _
theorem m_sees3 {v : Nat → Int32} {m : Nat → Nat → Int32} {n : Nat} {p2 : Int32} (hn : n < 32) (hz : m 9 n = nI 3) : f_X8_sees v m (nI n) p2 = some (v, va_up (va_up m 10 (upd (m 10) n (m 10 n - 1))) 9 (upd (m 9) n (if m 10 n - 1 = 0 then 4 else 3))) := by
  have hg : ∀ {β : Type} (x : Option β), gd (vp_in (nI n) 32) x = x := fun x => gdT x (in_nI hn (by decide))
  unfold f_X8_sees
  rw [hg, nI_clamp (by omega), hz, if_neg (by decide), hg, jnE, if_neg (by decide), hg, if_neg (by decide), hg, ltE, hg, hg, if_pos (show nI 3 = 3 from rfl), hg, ltE, hg, up_s]
theorem m_sees4 {v : Nat → Int32} {m : Nat → Nat → Int32} {n : Nat} {p2 : Int32} (hn : n < 32) (hz : m 9 n = nI 4) : f_X8_sees v m (nI n) p2 = if p2 = 1 then some (v, mGo (va_up m 10 (upd (m 10) n (m 10 n - 1))) n 5 7) else some (v, va_up m 10 (upd (m 10) n (m 10 n - 1))) := by
  have hg : ∀ {β : Type} (x : Option β), gd (vp_in (nI n) 32) x = x := fun x => gdT x (in_nI hn (by decide))
  unfold f_X8_sees
  rw [hg, nI_clamp (by omega), hz, if_neg (by decide), hg, jnE, if_neg (by decide), hg, if_neg (by decide), hg, ltE, hg, hg, if_neg (by decide), hg, if_pos (show nI 4 = 4 from rfl)]
  by_cases hp : p2 = 1
  · rw [if_pos hp, if_pos hp, m_go hn]; rfl
  · rw [if_neg hp, if_neg hp, hg, if_neg (by decide), hg, if_neg (by decide), hg, if_neg (by decide)]
theorem m_sees5 {v : Nat → Int32} {m : Nat → Nat → Int32} {n : Nat} {p2 : Int32} (hn : n < 32) (hz : m 9 n = nI 5) : f_X8_sees v m (nI n) p2 = if p2 = 0 then f_X8_wrong v (va_up m 10 (upd (m 10) n (m 10 n - 1))) (nI n) (if m 10 n - 1 = 0 then 5 else 2) else if m 10 n - 1 = 0 then some (v, mGo (va_up m 10 (upd (m 10) n (m 10 n - 1))) n 6 3) else some (v, va_up m 10 (upd (m 10) n (m 10 n - 1))) := by
  have hg : ∀ {β : Type} (x : Option β), gd (vp_in (nI n) 32) x = x := fun x => gdT x (in_nI hn (by decide))
  unfold f_X8_sees
  rw [hg, nI_clamp (by omega), hz, if_neg (by decide), hg, jnE, if_neg (by decide), hg, if_neg (by decide), hg, ltE, hg, hg, if_neg (by decide), hg, if_neg (by decide), hg, if_pos (show nI 5 = 5 from rfl)]
  by_cases hp : p2 = 0
  · rw [if_pos hp, if_pos hp, hg, ltE, up_s]
    exact bd_id _
  · rw [if_neg hp, if_neg hp, hg, if_pos (show nI 5 = 5 from rfl), hg, up_s]
    by_cases hq : m 10 n - 1 = 0
    · rw [if_pos hq, if_pos hq, m_go hn]; rfl
    · rw [if_neg hq, if_neg hq, hg, if_neg (by decide)]
theorem m_sees6 {v : Nat → Int32} {m : Nat → Nat → Int32} {n : Nat} {p2 : Int32} (hn : n < 32) (hz : m 9 n = nI 6) : f_X8_sees v m (nI n) p2 = f_X8_pauses v (va_up m 10 (upd (m 10) n (m 10 n - 1))) (nI n) p2 := by
  have hg : ∀ {β : Type} (x : Option β), gd (vp_in (nI n) 32) x = x := fun x => gdT x (in_nI hn (by decide))
  unfold f_X8_sees
  rw [hg, nI_clamp (by omega), hz, if_neg (by decide), hg, jnE, if_neg (by decide), hg, if_neg (by decide), hg, ltE, hg, hg, if_neg (by decide), hg, if_neg (by decide), hg, if_neg (by decide), hg, if_neg (by decide), hg, if_pos (show nI 6 = 6 from rfl)]
  exact bd_id _
theorem m_sees0 {v : Nat → Int32} {m : Nat → Nat → Int32} {n : Nat} {p2 : Int32} (hn : n < 32) (hz : m 9 n = nI 0) : f_X8_sees v m (nI n) p2 = bd (f_X8_first v (va_up m 14 (upd (m 14) n 0)) (nI n)) (fun x => if x.2.2 = (-1) then (if p2 = 1 then some (x.1, x.2.1) else bd (f_X8_see (va_up (va_up x.2.1 9 (upd (x.2.1 9) n 2)) 11 (upd (x.2.1 11) n x.2.2)) (nI n) p2) (fun u => bd (f_X8_read x.1 u (nI n)) (fun y => rdK n y.1 y.2.1 y.2.2))) else f_X8_sent x.1 (va_up (va_up x.2.1 9 (upd (x.2.1 9) n 1)) 11 (upd (x.2.1 11) n x.2.2)) (nI n) p2) := by
  have hg : ∀ {β : Type} (x : Option β), gd (vp_in (nI n) 32) x = x := fun x => gdT x (in_nI hn (by decide))
  unfold f_X8_sees
  rw [hg, nI_clamp (by omega), hz, if_pos (show nI 0 = 0 from rfl), hg]
  congr 1
  funext x
  obtain ⟨u137, u138, u139⟩ := x
  dsimp only
  by_cases h1 : u139 = -1
  · rw [if_pos h1, if_pos h1]
    by_cases hp : p2 = 1
    · rw [if_pos hp, if_pos hp, if_pos h1]
    · rw [if_neg hp, if_neg hp, ltE, if_pos h1, hg, hg, hg, jnE, up_s, if_neg (by decide), hg, if_pos rfl]
      congr 1
      funext u
      congr 1
      funext y
      obtain ⟨a, b, c⟩ := y
      dsimp only
      rw [jnE]
      unfold rdK
      split
      · exact bd_id _
      · split
        · rw [m_go hn]; rfl
        · split
          · rfl
          · exact bd_id _
  · rw [if_neg h1, if_neg h1, ltE, if_neg h1, hg, hg, hg, jnE, up_s, if_pos rfl]
    exact bd_id _
