def bl8 : List Value := [.int 0, .int 0, .int 0, .null, .int 0, .null, .null, .null, .null, .null, .null, .int 0, .null, .null, .null, .null, .null, .null, .null, .null, .null, .null, .int 0, .null, .null, .null, .null, .null, .null, .int 0, .null, .null, .null, .null, .int 0, .null, .null, .int 0, .int 0, .null, .null, .int 0, .int 0, .int 0, .int 0, .int 0, .int 0]
theorem c_X8_init9 (l : Launch) (D : va_G) (cy : Nat → ClassId) (sz h0 : Nat) : CI l yX8_init (.code yX8_init cX8_init 1 none :: TT) ({ frames := 1, cells := 31, slots := 1959792, locals := 12 }) D cy sz h0 (.inr (11, bl8)) [] (fun b9 => modC cy h0 b9) := c_X8_init l D cy sz h0
set_option maxHeartbeats 4000000 in
set_option maxRecDepth 100000 in
theorem whole_from {p : Program} {e : Env} {s : State} {m : MethodId} {below : List Frame} {meth : Method} {c : Code} (l : Launch) (hst : l.stackTraces = false) {Inv : CS → (Nat → Int32) → (Nat → Nat → Int32) → Prop} (hstep : ∀ s v m, Inv s v m → ∀ c, c < 16 → ∀ p1 p2 p3 p4, ∃ s' v' m', Step c p1 p2 p3 p4 s v m s' v' m' ∧ Inv s' v' m') {s1 : CS} (hb1 : f_X7_begin σ0 2 = some s1) (hr1 : ∀ i, s1.2.2 i = (none, none)) (hI : Inv s1 (σ0.1 18 0) (σ0.1 19)) {b L : Nat} {xs : Nat → Int32} (hL : L ≤ 2560) (C0 : lw_At p s m meth c b L xs) : W p l e room_1 s m #[Value.ref b] below meth c s.heap [] 0 0 (lw_Z below #[Value.ref b] s) (entryFrame m ([Value.ref b] : List Value).toArray 7) := by
  obtain ⟨hx, hb, hr, hml, hown, hts, hX, hbl, hlocks, hgv⟩ := id C0
  obtain ⟨D, cy, hK⟩ := st_K hts
  have hAn : ∀ a : Nat, a < s.heap.size → ¬ (fun q : Nat => s.heap.size ≤ q) a := fun a h => Nat.not_le.mpr h
  have hT := st_T (A := fun q : Nat => s.heap.size ≤ q) hts hgv hAn
  have htt : ∀ w ∈ (Cond.initialized "CanBits" :: TT), w.before #[Value.ref b] s = true := fun w hw => (List.mem_cons.mp hw).elim (fun h => by rw [h]; exact TT_law hts _ kw_1) (TT_law hts w)
  have hΓ : GOw (p, l, e, room_1, s, m, #[Value.ref b], below, meth, c, lw_Z below #[Value.ref b] s, D, cy, (fun q : Nat => s.heap.size ≤ q), 7) cL_law 7 RL (Cond.initialized "CanBits" :: TT) 19 10806 479123 7595248 := ⟨hx, hb, hml, rfl, hown, htt, hK, fun _ h => h, rfl, rfl, rfl, rfl⟩
  have hZA : ZA (p, l, e, room_1, s, m, #[Value.ref b], below, meth, c, lw_Z below #[Value.ref b] s, D, cy, (fun q : Nat => s.heap.size ≤ q), 7) := ⟨hT, fun x y h1 h2 => Nat.le_trans h1 h2⟩
  have hl := lv_entry ([.ref b]) (n := 7) (Nat.le_of_ble_eq_true rfl)
  rw [lg_entry_eq]
  have key : GW (p, l, e, room_1, s, m, #[Value.ref b], below, meth, c, lw_Z below #[Value.ref b] s, D, cy, (fun q : Nat => s.heap.size ≤ q), 7) (0, 0) [] 0 [(0, .ref b)] [] := by
    refine W_new hΓ (ci := 10) (C := RX7) (T := TX7) (N := 14) (fs := [.null, .null, .null, .null, .null, .null, .null, .null, .int 0, .int 0, .int 0, .int 0, .int 0, .int 0]) tyX7 tyX7_ok inW7 (TT_cons kw_21) (TT_cons kw_22) (TT_cons kw_1) rfl (fun j hj => by rcases (show j = 0 ∨ j = 1 ∨ j = 2 ∨ j = 3 ∨ j = 4 ∨ j = 5 ∨ j = 6 ∨ j = 7 ∨ j = 8 ∨ j = 9 ∨ j = 10 ∨ j = 11 ∨ j = 12 ∨ j = 13 by omega) with rfl | rfl | rfl | rfl | rfl | rfl | rfl | rfl | rfl | rfl | rfl | rfl | rfl | rfl <;> rfl) (by show 0 + 1 ≤ 479123; omega) (by show 0 + 14 ≤ 7595248; omega) dL_law_0 (fun q => ?_)
    refine W_dup hΓ dL_law_3 rfl ?_
    refine W_ctorJ hΓ hZA hb1 ⟨by show 0 + 1 + 932 ≤ 479123; omega, by show 0 + 14 + 449083 ≤ 7595248; omega⟩ (Nat.le_of_ble_eq_true rfl) dL_law_4 (fun a ha0 hai hag => ?_)
    refine W_astore_n hΓ [(1, .ref q), (0, .ref b)] dL_law_7 (by decide) rfl ?_
    refine W_new hΓ (ci := 11) (C := RX8) (T := TX8) (N := 47) (fs := bl8) tyX8 tyX8_ok inW8 (TT_cons kw_870) (TT_cons kw_871) (TT_cons kw_9) rfl (fun j hj => by rcases (show j = 0 ∨ j = 1 ∨ j = 2 ∨ j = 3 ∨ j = 4 ∨ j = 5 ∨ j = 6 ∨ j = 7 ∨ j = 8 ∨ j = 9 ∨ j = 10 ∨ j = 11 ∨ j = 12 ∨ j = 13 ∨ j = 14 ∨ j = 15 ∨ j = 16 ∨ j = 17 ∨ j = 18 ∨ j = 19 ∨ j = 20 ∨ j = 21 ∨ j = 22 ∨ j = 23 ∨ j = 24 ∨ j = 25 ∨ j = 26 ∨ j = 27 ∨ j = 28 ∨ j = 29 ∨ j = 30 ∨ j = 31 ∨ j = 32 ∨ j = 33 ∨ j = 34 ∨ j = 35 ∨ j = 36 ∨ j = 37 ∨ j = 38 ∨ j = 39 ∨ j = 40 ∨ j = 41 ∨ j = 42 ∨ j = 43 ∨ j = 44 ∨ j = 45 ∨ j = 46 by omega) with rfl | rfl | rfl | rfl | rfl | rfl | rfl | rfl | rfl | rfl | rfl | rfl | rfl | rfl | rfl | rfl | rfl | rfl | rfl | rfl | rfl | rfl | rfl | rfl | rfl | rfl | rfl | rfl | rfl | rfl | rfl | rfl | rfl | rfl | rfl | rfl | rfl | rfl | rfl | rfl | rfl | rfl | rfl | rfl | rfl | rfl | rfl <;> rfl) (by show 933 + 1 ≤ 479123; omega) (by show 449097 + 47 ≤ 7595248; omega) dL_law_8 (fun qm => ?_)
    refine W_dup hΓ dL_law_11 rfl ?_
    refine W_ctor hΓ (n := 0) (q := qm) (As := []) (blank := .inr (11, bl8)) (post := fun b9 => modC cy qm b9) (fun sz => c_X8_init9 l D cy sz qm) kw_872 kw_873 kw_9 kw_874 rfl ⟨by decide, by decide, by decide +kernel⟩ ⟨Nat.le_of_ble_eq_true rfl, Nat.le_of_ble_eq_true rfl⟩ ⟨by show 933 + 1 + 31 ≤ 479123; omega, by show 449097 + 47 + 1959792 ≤ 7595248; omega⟩ rfl (Nat.le_of_ble_eq_true rfl) dL_law_12 (fun b9 => ?_)
    refine W_astore_n hΓ [(2, .ref qm), (1, .ref q), (0, .ref b)] dL_law_15 (by decide) rfl ?_
    refine W_iconst (v := 1) hΓ dL_law_16 (by decide) ?_
    refine W_newa hΓ (atype := .long) (ty := .long) (N := 1) (t0 := 3) (TT_cons kw_1221) rfl (fun _ => rfl) (fun _ h => by cases h) (1, .inr (.inl (fun _ => 0))) (fun _ => rfl) (by decide) (by decide) (by decide) (by show 965 + 1 ≤ 479123; omega) (by show 2408936 + 1 ≤ 7595248; omega) dL_law_17 (fun qo => ?_)
    refine W_astore_n hΓ [(3, .ref qo), (2, .ref qm), (1, .ref q), (0, .ref b)] dL_law_19 (by decide) rfl ?_
    refine W_iconst (v := 0) hΓ dL_law_20 (by decide) ?_
    refine W_istore hΓ [(4, .int 0), (3, .ref qo), (2, .ref qm), (1, .ref q), (0, .ref b)] dL_law_21 (by decide) rfl ?_
    intro H locs ls hP hD hS hl
    obtain ⟨A, hO, hW, hA0, hA1, hA2⟩ := allC_Wd (B := s.heap.size) (D := D) (cy := cy) (q := q) (a := a) (s1 := s1) (qm := qm) (b := b9) (qo := qo) hr1 hai hD hP
    have hKK : KK (Lc 966 s.heap.size D cy A) s := ⟨hK.1, hK.2.1, hT⟩
    have hG : GO (p, l, e, room_1, s, m, #[Value.ref b], below, meth, c, lw_Z below #[Value.ref b] s, Lc 966 s.heap.size D cy A, 7) cL_law 7 RL (Cond.initialized "CanBits" :: TT) 19 10806 := ⟨hx, hb, hml, rfl, hown, htt, hKK, hO, Nat.le_refl _, rfl, rfl⟩
    have hLW : LW (p, l, e, room_1, s, m, #[Value.ref b], below, meth, c, lw_Z below #[Value.ref b] s, Lc 966 s.heap.size D cy A, 7) b L xs (Cond.initialized "CanBits") := ⟨hG, hst, Lc_FL, Lc_FM, by show 0 < (if 20 < 18 ∨ 966 = 966 then cnt 20 else 0); decide, st_X hts hgv hAn, hX, hbl, Nat.not_le.mpr hbl, hL⟩
    have key2 := law_loop hLW (b := b) ⟨rfl, rfl, rfl, hr, hlocks, rfl⟩ hstep (c0 := 966) (s0 := 2408937) (by omega) (by omega) 513 0 0 s1 _ _ rfl hI
    have hl2 : lv_has ls 7 [(4, .int (nI (5 * 0))), (3, .ref (ya (Lc 966 s.heap.size D cy A) 20 0)), (2, .ref (ya (Lc 966 s.heap.size D cy A) 18 0)), (1, .ref (ya (Lc 966 s.heap.size D cy A) 0 0)), (0, .ref b)] := by
      have e1 : ya (Lc 966 s.heap.size D cy A) 20 0 = qo := hA2
      have e2 : ya (Lc 966 s.heap.size D cy A) 18 0 = qm := hA1
      have e3 : ya (Lc 966 s.heap.size D cy A) 0 0 = q := hA0.trans ha0
      rw [e1, e2, e3]
      exact hl
    exact key2 H locs ls hW hS hl2
  exact key s.heap [] _ (fun k q h => by simp at h) ⟨fun i j p q h => by simp at h, fun k q h => by simp at h⟩ va_S.rf hl
