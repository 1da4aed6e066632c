/-! all of class and model -/
/-- how many frames are done -/
def dcn (D : FD) : Nat → Nat
  | 0 => 0
  | f + 1 => dcn D f + (if fDn D f = 0 then 0 else 1)
theorem dcn_s (D : FD) (f : Nat) : dcn D (f + 1) = dcn D f + (if fDn D f = 0 then 0 else 1) := rfl
theorem dcn_le (D : FD) : ∀ f, dcn D f ≤ f
  | 0 => Nat.le_refl _
  | f + 1 => by rw [dcn_s]; have := dcn_le D f; split <;> omega
theorem dcn_lt {D : FD} {j : Nat} (hj : fDn D j = 0) : ∀ f, j < f → dcn D f < f
  | 0, h => absurd h (Nat.not_lt_zero _)
  | f + 1, h => by
    rw [dcn_s]
    by_cases hf : j = f
    · rw [← hf, if_pos hj]; have := dcn_le D j; omega
    · have := dcn_lt hj f (by omega); split <;> omega
theorem dcn_eq {D D' : FD} : ∀ f, (∀ j, j < f → (fDn D' j = 0 ↔ fDn D j = 0)) → dcn D' f = dcn D f
  | 0, _ => rfl
  | f + 1, h => by
    rw [dcn_s, dcn_s, dcn_eq f (fun j hj => h j (by omega))]
    have := h f (by omega)
    by_cases hc : fDn D f = 0
    · rw [if_pos hc, if_pos (this.mpr hc)]
    · rw [if_neg hc, if_neg (fun e => hc (this.mp e))]
def gA (s : CS) (v : Nat → Int32) (N t : Nat) : Prop := N ≤ 32 ∧ s.1 0 0 8 = nI N ∧ v 1 = nI N ∧ t ≤ 20000 ∧ s.1 0 0 13 = nI t ∧ v 2 = nI t
def gF (s : CS) (v : Nat → Int32) (m : Nat → Nat → Int32) (D : FD) (F N : Nat) : Prop := F ≤ 200 ∧ s.1 0 0 9 = nI F ∧ v 4 = nI F ∧ ∀ f, f < F → FVo D f ∧ fOw D f < N ∧ FMo m D f ∧ FCo s D f
def gDn (s : CS) (v : Nat → Int32) (m : Nat → Nat → Int32) (D : FD) (F : Nat) : Prop := s.1 0 0 10 = nI (dcn D F) ∧ v 11 = nI (dcn D F) ∧ ∀ k, k < dcn D F → s.1 17 2 k = m 7 k ∧ s.1 17 3 k = m 8 k
def gEr (s : CS) (v : Nat → Int32) (m : Nat → Nat → Int32) (N E : Nat) : Prop := s.1 0 0 11 = nI E ∧ v 29 = nI E ∧ ∀ k, k < E → ∃ kd nd tm, kd < 8 ∧ nd < N ∧ tm < 20000 ∧ m 23 k = nI kd ∧ m 24 k = nI nd ∧ m 25 k = nI tm ∧ s.1 17 4 k = nI (tm * 256 + nd * 8 + kd)
def gBu (s : CS) (m : Nat → Nat → Int32) (tb : Nat) : Prop := ∀ k, k < tb → ∃ b, b < 2 ∧ s.1 17 0 k = nI b ∧ m 0 k = nI b
def gFl (s : CS) (m : Nat → Nat → Int32) : Prop := ∃ fe, fe ≤ 20000 ∧ s.1 0 0 12 = nI fe ∧ (∀ a, fe ≤ a → a < 20000 → s.1 17 1 a = nI 0) ∧ ∀ a, a < 20000 → ∃ X, X < 2 ^ 32 ∧ s.1 17 1 a = nI X ∧ ∀ n, n < 32 → m 16 (20000 * n + a) = nI (X / 2 ^ n % 2)
def gWr (s : CS) : Prop := (∃ x, s.1 7 32 = rA x) ∧ (∃ x, s.1 8 32 = rB x) ∧ ∃ x, s.1 9 32 = rC x
def gTk (v : Nat → Int32) (m : Nat → Nat → Int32) (N T : Nat) : Prop := v 22 = nI T ∧ ∀ k, k < T → ∃ nd, nd < N ∧ m 17 k = nI nd
def gLg (s : CS) : Prop := ∀ n, n < 32 → LG (s.1 5 n) (s.1 7 n) (s.1 8 n) (s.1 9 n)
def Gl (s : CS) (v : Nat → Int32) (m : Nat → Nat → Int32) (D : FD) (F N t T E tb : Nat) : Prop := gA s v N t ∧ gF s v m D F N ∧ gDn s v m D F ∧ gEr s v m N E ∧ gBu s m tb ∧ gFl s m ∧ gWr s ∧ gTk v m N T
/-- what a node took -/
def TKr (m : Nat → Nat → Int32) (T n oh : Nat) (tt tk : Nat → Int32) : Prop := ∀ k, k < T → m 17 k = nI n → ∃ kd cd off, kd < 6 ∧ cd < 16 ∧ m 19 k = nI kd ∧ m 20 k = nI cd ∧ tt (6 * rk (m 17) n k) = m 18 k ∧ tt (6 * rk (m 17) n k + 1) = nI kd ∧ tt (6 * rk (m 17) n k + 2) = nI cd ∧ tt (6 * rk (m 17) n k + 3) = nI (octs kd cd) ∧ tt (6 * rk (m 17) n k + 4) = m 21 k ∧ tt (6 * rk (m 17) n k + 5) = nI off ∧ off + octs kd cd ≤ oh ∧ ∀ q, q < octs kd cd → tk (off + q) = m 22 (64 * k + q) &&& 255
def gNo (ph : Nat) (s : CS) (m : Nat → Nat → Int32) (D : FD) (F n t T E : Nat) : Prop := ∃ oh, s.1 10 n 2 = nI (rk (m 17) n T) ∧ s.1 10 n 3 = nI oh ∧ oh ≤ 2500 ∧ TKr m T n oh (s.1 11 n) (s.1 12 n) ∧ NSt ph D F n t (rk (m 17) n T) oh (rk (m 24) n E) (s.2.2 n).1 (s.2.2 n).2 (s.1 3 n) (s.2.1 4 n) (s.1 4 n) (s.1 5 n) (s.1 7 n) (s.1 8 n) (s.1 9 n) (m 9 n) (m 10 n) (m 11 n) (m 14 n) (m 12 n) (m 13 n) (sSeg m n)
/-! what agrees -/
def sG (s s' : CS) : Prop := (∀ t i, (t = 0 ∨ t = 13 ∨ t = 14 ∨ t = 15 ∨ t = 17) → s'.1 t i = s.1 t i) ∧ (∀ t, t = 7 ∨ t = 8 ∨ t = 9 → s'.1 t 32 = s.1 t 32) ∧ ∀ i, s'.2.1 13 i = s.2.1 13 i
def sNd (n : Nat) (s s' : CS) : Prop := (∀ t, (3 ≤ t ∧ t ≤ 12) → t ≠ 6 → s'.1 t n = s.1 t n) ∧ s'.2.1 4 n = s.2.1 4 n ∧ s'.2.2 n = s.2.2 n
section QN
variable {σ : CS} {n : Nat} {r1 r2 : Option Nat} {nf : Nat → Int32} {h : Int64} {f o a b c tf tt tk : Nat → Int32}
theorem qN_1 {t i : Nat} (hh : i ≠ n ∨ t < 3 ∨ t = 6 ∨ 12 < t) : (qNd σ n r1 r2 nf h f o a b c tf tt tk).1 t i = σ.1 t i := by
  unfold qNd sZ sH sR
  dsimp only
  rw [if_neg (by omega), if_neg (by omega), if_neg (by omega), if_neg (by omega), if_neg (by omega), if_neg (by omega), if_neg (by omega), if_neg (by omega), if_neg (by omega)]
theorem qN_2 {t i : Nat} (hh : i ≠ n ∨ t ≠ 4) : (qNd σ n r1 r2 nf h f o a b c tf tt tk).2.1 t i = σ.2.1 t i := by
  unfold qNd sZ sH sR
  dsimp only
  rw [if_neg (by omega)]
theorem qN_3 {i : Nat} (hh : i ≠ n) : (qNd σ n r1 r2 nf h f o a b c tf tt tk).2.2 i = σ.2.2 i := by
  unfold qNd sZ sH sR
  dsimp only
  rw [if_neg hh]
theorem qN_G (hn : n < 32) : sG σ (qNd σ n r1 r2 nf h f o a b c tf tt tk) := ⟨fun t i ht => qN_1 (by omega), fun t ht => qN_1 (Or.inl (by omega)), fun i => qN_2 (Or.inr (by omega))⟩
theorem qN_N {j : Nat} (hj : j ≠ n) : sNd j σ (qNd σ n r1 r2 nf h f o a b c tf tt tk) := ⟨fun t _ _ => qN_1 (Or.inl hj), qN_2 (Or.inl hj), qN_3 hj⟩
end QN
theorem sG_r (s : CS) : sG s s := ⟨fun _ _ _ => rfl, fun _ _ => rfl, fun _ => rfl⟩
theorem sG_t {a b c : CS} (h1 : sG a b) (h2 : sG b c) : sG a c := ⟨fun t i ht => (h2.1 t i ht).trans (h1.1 t i ht), fun t ht => (h2.2.1 t ht).trans (h1.2.1 t ht), fun i => (h2.2.2 i).trans (h1.2.2 i)⟩
theorem sNd_r (n : Nat) (s : CS) : sNd n s s := ⟨fun _ _ _ => rfl, rfl, rfl⟩
theorem sNd_t {n : Nat} {a b c : CS} (h1 : sNd n a b) (h2 : sNd n b c) : sNd n a c := ⟨fun t ht h6 => (h2.1 t ht h6).trans (h1.1 t ht h6), h2.2.1.trans h1.2.1, h2.2.2.trans h1.2.2⟩
def vG (v v' : Nat → Int32) : Prop := ∀ k, k = 1 ∨ k = 2 ∨ k = 4 ∨ k = 11 ∨ k = 22 ∨ k = 29 → v' k = v k
def mG (m m' : Nat → Nat → Int32) : Prop := ∀ k, k < 9 ∨ (16 ≤ k ∧ k ≤ 25) → m' k = m k
theorem sv_vG {v v' : Nat → Int32} (h : sv v v') : vG v v' := fun k hk => h k (by omega) (by omega) (by omega) (by omega)
theorem sm_mG {m m' : Nat → Nat → Int32} (h : sm m m') : mG m m' := fun k hk => h k (by omega)
theorem nl_mG {n : Nat} {m m' : Nat → Nat → Int32} (h : nlx (fun _ => False) n m m') : mG m m' := fun k hk => h.1 k (fun h => h) (by omega) (by omega)
theorem FMo_mG {m m' : Nat → Nat → Int32} {D : FD} {f : Nat} (h : FMo m D f) (hm : mG m m') : FMo m' D f := ⟨frM_o h.1 (fun j hj => hm j (by omega)), by rw [hm 1 (by omega)]; exact h.2.1, by rw [hm 6 (by omega)]; exact h.2.2⟩
theorem FCo_sG {s s' : CS} {D : FD} {f : Nat} (h : FCo s D f) (hs : sG s s') : FCo s' D f := by
  unfold FCo
  rw [hs.2.2 f, hs.1 13 f (by omega), hs.1 14 f (by omega), hs.1 15 f (by omega)]
  exact h
theorem gF_c {s s' : CS} {v v' : Nat → Int32} {m m' : Nat → Nat → Int32} {D : FD} {F N : Nat} (h : gF s v m D F N) (hs : sG s s') (hv : vG v v') (hm : mG m m') : gF s' v' m' D F N := ⟨h.1, by rw [hs.1 0 0 (by omega)]; exact h.2.1, by rw [hv 4 (by omega)]; exact h.2.2.1, fun f hf => ⟨(h.2.2.2 f hf).1, (h.2.2.2 f hf).2.1, FMo_mG (h.2.2.2 f hf).2.2.1 hm, FCo_sG (h.2.2.2 f hf).2.2.2 hs⟩⟩
theorem Gl_c {s s' : CS} {v v' : Nat → Int32} {m m' : Nat → Nat → Int32} {D : FD} {F N t T E tb : Nat} (h : Gl s v m D F N t T E tb) (hs : sG s s') (hv : vG v v') (hm : mG m m') : Gl s' v' m' D F N t T E tb := by
  obtain ⟨a1, a2, a3, a4, a5, a6, a7, a8⟩ := h
  have e0 := hs.1 0 0 (by omega)
  have e17 : ∀ i, s'.1 17 i = s.1 17 i := fun i => hs.1 17 i (by omega)
  refine ⟨?_, gF_c a2 hs hv hm, ?_, ?_, ?_, ?_, ?_, ?_⟩
  · unfold gA; rw [e0, hv 1 (by omega), hv 2 (by omega)]; exact a1
  · unfold gDn; rw [e0, hv 11 (by omega), e17, e17, hm 7 (by omega), hm 8 (by omega)]; exact a3
  · unfold gEr; rw [e0, hv 29 (by omega), e17, hm 23 (by omega), hm 24 (by omega), hm 25 (by omega)]; exact a4
  · unfold gBu; rw [e17, hm 0 (by omega)]; exact a5
  · unfold gFl; rw [e0, e17, hm 16 (by omega)]; exact a6
  · unfold gWr; rw [hs.2.1 7 (by omega), hs.2.1 8 (by omega), hs.2.1 9 (by omega)]; exact a7
  · unfold gTk; rw [hv 22 (by omega), hm 17 (by omega)]; exact a8
/-! other nodes stay -/
theorem NSt_c {ph : Nat} {D D' : FD} {F n t K oh e : Nat} {r1 r2 : Option Nat} {nf : Nat → Int32} {h : Int64} {f o a b c : Nat → Int32} {st lf sd sc mk mt : Int32} {sn sn' : Nat → Int32} (hN : NSt ph D F n t K oh e r1 r2 nf h f o a b c st lf sd sc mk mt sn) (hsn : ∀ k, k < 1200 → sn' k = sn k) (hwt : wt D' n F = wt D n F) (hfs : fs D' n F = fs D n F) (hD : ∀ j, j < F → fOw D j = n → fOw D' j = n ∧ fDn D' j = fDn D j ∧ fR D' j = fR D j) : NSt ph D' F n t K oh e r1 r2 nf h f o a b c st lf sd sc mk mt sn' := by
  obtain ⟨hNC, hcs⟩ := hN
  refine ⟨⟨hNC.1, hNC.2.1, by rw [hwt]; exact hNC.2.2.1, by rw [hfs]; exact hNC.2.2.2⟩, ?_⟩
  rcases hcs with hq | hq | hse | hli | ho
  · exact Or.inl hq
  · exact Or.inr (Or.inl hq)
  · obtain ⟨j, i, s1, s2, s3, s4, s5, s6, s7, s8, s9, s10, s11, s12⟩ := hse
    obtain ⟨d1, d2, d3⟩ := hD j s7 s8
    have hl := (rowL_le (fKi D j) (fId D j) (fCo D j) (fOc D j)).1
    have hl : (fR D j).length ≤ 733 := hl
    exact Or.inr (Or.inr (Or.inl ⟨j, i, s1, s2, s3, s4, s5, s6, s7, d1, by rw [d2]; exact s9, by rw [d3]; exact s10, fun k hk hk9 => by rw [hsn k (by omega), d3]; exact s11 k hk (by rw [← d3]; exact hk9), s12⟩))
  · obtain ⟨L, l1, l2, l3, l4, l5, l6, l7, l8⟩ := hli
    have hl := (L_len l3).1
    exact Or.inr (Or.inr (Or.inr (Or.inl ⟨L, l1, l2, l3, l4, l5, l6, fun k hk => by rw [hsn k (by omega)]; exact l7 k hk, l8⟩)))
  · exact Or.inr (Or.inr (Or.inr (Or.inr ho)))
theorem NSt_bd {ph : Nat} {D : FD} {F n t K oh e : Nat} {r1 r2 : Option Nat} {nf : Nat → Int32} {h : Int64} {f o a b c : Nat → Int32} {st lf sd sc mk mt : Int32} {sn : Nat → Int32} (hN : NSt ph D F n t K oh e r1 r2 nf h f o a b c st lf sd sc mk mt sn) : 46 * K ≤ t + 3 ∧ 8 * e ≤ t + 7 := by
  rcases hN.2 with ⟨_, q⟩ | ⟨_, q⟩ | hse | hli | hfl | hwa | hcl | hpa
  · obtain ⟨_, _, q⟩ := q; omega
  · obtain ⟨_, _, _, _, q⟩ := q; omega
  · obtain ⟨j, i, s1, s2, s3, s4, s5, s6, s7, s8, s9, s10, s11, s12⟩ := hse; omega
  · obtain ⟨L, l1, l2, l3, l4, l5, l6, l7, l8, l9⟩ := hli
    rcases l8 with l8 | l8
    · omega
    · have := pst_len l3 l8.1; omega
  · obtain ⟨q, l1, l2, l3, l4, l5, l6⟩ := hfl; omega
  · obtain ⟨l1, l2, l6⟩ := hwa; omega
  · obtain ⟨q, l1, l2, l3, l4, l5, l6⟩ := hcl; omega
  · obtain ⟨q, l1, l2, l3, l4, l5, l6⟩ := hpa; omega
theorem TKr_c {m m' : Nat → Nat → Int32} {T T' n oh : Nat} {tt tk : Nat → Int32} (h : TKr m T n oh tt tk) (hm : ∀ k, k < T → m' 17 k = m 17 k ∧ m' 18 k = m 18 k ∧ m' 19 k = m 19 k ∧ m' 20 k = m 20 k ∧ m' 21 k = m 21 k) (h22 : ∀ x, x < 64 * T → m' 22 x = m 22 x) (hT : T' = T ∨ (T' = T + 1 ∧ m' 17 T ≠ nI n)) : TKr m' T' n oh tt tk := by
  intro k hk h17
  have hkT : k < T := by
    rcases hT with hT | ⟨hT, hne⟩
    · omega
    · rcases Nat.lt_or_ge k T with h9 | h9
      · exact h9
      · exact absurd (by rw [show T = k by omega]; exact h17) hne
  obtain ⟨g1, g2, g3, g4, g5⟩ := hm k hkT
  have hr : rk (m' 17) n k = rk (m 17) n k := rk_eq k (fun q hq => (hm q (by omega)).1)
  rw [hr, g2, g3, g4, g5]
  obtain ⟨kd, cd, off, x1, x2, x3, x4, x5, x6, x7, x8, x9, x10, x11, x12⟩ := h k hkT (by rw [← g1]; exact h17)
  exact ⟨kd, cd, off, x1, x2, x3, x4, x5, x6, x7, x8, x9, x10, x11, fun q hq => by rw [h22 _ (by have := octs_le kd cd; omega)]; exact x12 q hq⟩
theorem rk_c {g g' : Nat → Int32} {T T' n : Nat} (hg : ∀ k, k < T → g' k = g k) (hT : T' = T ∨ (T' = T + 1 ∧ g' T ≠ nI n)) : rk g' n T' = rk g n T := by
  rcases hT with hT | ⟨hT, hne⟩
  · rw [hT]; exact rk_eq T hg
  · rw [hT, rk_s, if_neg hne, rk_eq T hg]; rfl
theorem gNo_c {ph : Nat} {s s' : CS} {m m' : Nat → Nat → Int32} {D D' : FD} {F n t T T' E E' : Nat} (h : gNo ph s m D F n t T E) (hs : sNd n s s') (hm : ∀ k, k = 9 ∨ k = 10 ∨ k = 11 ∨ k = 12 ∨ k = 13 ∨ k = 14 → m' k n = m k n) (hsn : ∀ k, k < 1200 → sSeg m' n k = sSeg m n k) (hT1 : ∀ k, k < T → m' 17 k = m 17 k ∧ m' 18 k = m 18 k ∧ m' 19 k = m 19 k ∧ m' 20 k = m 20 k ∧ m' 21 k = m 21 k) (hT2 : ∀ x, x < 64 * T → m' 22 x = m 22 x) (hT3 : T' = T ∨ (T' = T + 1 ∧ m' 17 T ≠ nI n)) (hE1 : ∀ k, k < E → m' 24 k = m 24 k) (hE2 : E' = E ∨ (E' = E + 1 ∧ m' 24 E ≠ nI n)) (hwt : wt D' n F = wt D n F) (hfs : fs D' n F = fs D n F) (hD : ∀ j, j < F → fOw D j = n → fOw D' j = n ∧ fDn D' j = fDn D j ∧ fR D' j = fR D j) : gNo ph s' m' D' F n t T' E' := by
  obtain ⟨oh, h1, h2, h3, h4, h5⟩ := h
  have r1 : rk (m' 17) n T' = rk (m 17) n T := rk_c (fun k hk => (hT1 k hk).1) hT3
  have r2 : rk (m' 24) n E' = rk (m 24) n E := rk_c hE1 hE2
  unfold gNo
  rw [hs.1 3 (by omega) (by omega), hs.1 4 (by omega) (by omega), hs.1 5 (by omega) (by omega), hs.1 7 (by omega) (by omega), hs.1 8 (by omega) (by omega), hs.1 9 (by omega) (by omega), hs.1 10 (by omega) (by omega), hs.1 11 (by omega) (by omega), hs.1 12 (by omega) (by omega), hs.2.1, hs.2.2, r1, r2, hm 9 (by omega), hm 10 (by omega), hm 11 (by omega), hm 12 (by omega), hm 13 (by omega), hm 14 (by omega)]
  exact ⟨oh, h1, h2, h3, TKr_c h4 hT1 hT2 hT3, NSt_c h5 hsn hwt hfs hD⟩
theorem gNo_sm {ph : Nat} {s s' : CS} {m m' : Nat → Nat → Int32} {D : FD} {F n t T E : Nat} (h : gNo ph s m D F n t T E) (hs : sNd n s s') (hm : sm m m') : gNo ph s' m' D F n t T E :=
  gNo_c h hs (fun k hk => by rw [hm k (by omega)]) (fun k _ => by unfold sSeg; rw [hm 15 (by omega)]) (fun k _ => by rw [hm 17 (by omega), hm 18 (by omega), hm 19 (by omega), hm 20 (by omega), hm 21 (by omega)]; exact ⟨rfl, rfl, rfl, rfl, rfl⟩) (fun x _ => by rw [hm 22 (by omega)]) (Or.inl rfl) (fun k _ => by rw [hm 24 (by omega)]) (Or.inl rfl) rfl rfl (fun j _ hj => ⟨hj, rfl, rfl⟩)
/-- the relation before a call -/
def RI (s : CS) (v : Nat → Int32) (m : Nat → Nat → Int32) : Prop := ∃ D F N t T E, Gl s v m D F N t T E t ∧ gLg s ∧ ∀ n, n < N → gNo 0 s m D F n t T E
