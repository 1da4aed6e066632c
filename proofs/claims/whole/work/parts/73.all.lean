theorem dL_law_0 : decode cL_law 0 = .ok (.new 8, 3) := by decide +kernel
theorem dL_law_3 : decode cL_law 3 = .ok (.dup, 1) := by decide +kernel
theorem dL_law_4 : decode cL_law 4 = .ok (.invokespecial 71, 3) := by decide +kernel
theorem dL_law_7 : decode cL_law 7 = .ok (.astore_n 1, 1) := by decide +kernel
theorem dL_law_8 : decode cL_law 8 = .ok (.new 72, 3) := by decide +kernel
theorem dL_law_11 : decode cL_law 11 = .ok (.dup, 1) := by decide +kernel
theorem dL_law_12 : decode cL_law 12 = .ok (.invokespecial 74, 3) := by decide +kernel
theorem dL_law_15 : decode cL_law 15 = .ok (.astore_n 2, 1) := by decide +kernel
theorem dL_law_16 : decode cL_law 16 = .ok (.iconst 1, 1) := by decide +kernel
theorem dL_law_17 : decode cL_law 17 = .ok (.newarray .long, 2) := by decide +kernel
theorem dL_law_19 : decode cL_law 19 = .ok (.astore_n 3, 1) := by decide +kernel
def ZA (Γ : GY) : Prop := match Γ with
  | (_, _, _, _, s, _, _, _, _, _, _, _, _, A, _) => STA A s ∧ ∀ x y, A x → x ≤ y → A y
theorem CJ_blind {D : va_G} {cy : Nat → ClassId} {h0 : Nat} {blank : va_E} {av : List Value} : FrameBlind (va_Pc av (fun U => va_P D vwCl [(h0, blank)] U.heap ∧ K9 D cy U ∧ STA (fun q => h0 ≤ q) U)) := fun a U g mk q => by
  obtain ⟨q0, q1, q2, q3⟩ := q
  exact ⟨q0, q1, q2.calling, q3.at (Vm.Alike.refl U.vm) (fun _ _ _ => rfl)⟩
section GWj
variable {Γ : GY} {κ : Nat × Nat} {w : va_W} {pc nL : Nat} {L : List (Nat × Value)} {st : List Value} {cc : ByteArray} {own : String} {Ts : List Cond} {fr lo rc rs : Nat} {w0 : Cond}
theorem W_astore_n (hΓ : GOw Γ cc nL own Ts fr lo rc rs) {j : Fin 4} {x : Nat} (L' : List (Nat × Value)) (hd : decode cc pc = .ok (.astore_n j, 1)) (hn : (j : Nat) < nL) (hL : ((j : Nat), Value.ref x) :: L.filter (fun q => !(q.1 == (j : Nat)) && !(q.1 + 1 == (j : Nat) && q.2.category == 2)) = L') (k : GW Γ κ w (pc + 1) L' st) : GW Γ κ w pc L (.ref x :: st) := by
  obtain ⟨p, l, e, R, s, m, args, below, meth, c, Q, D, cy, A, n⟩ := Γ
  intro H locs ls hP hD hS hl
  have hn' := hΓ.2.2.2.1
  subst hn'
  exact lv_astore_n hΓ.1 hΓ.2.1 hd rfl hl hn hL (fun ls' hl' => k H locs ls' hP hD hS hl')
theorem W_istore (hΓ : GOw Γ cc nL own Ts fr lo rc rs) {j : Nat} {x : Int32} (L' : List (Nat × Value)) (hd : decode cc pc = .ok (.istore j, 2)) (hn : j < nL) (hL : (j, Value.int x) :: L.filter (fun q => !(q.1 == j) && !(q.1 + 1 == j && q.2.category == 2)) = L') (k : GW Γ κ w (pc + 2) L' st) : GW Γ κ w pc L (.int x :: st) := by
  obtain ⟨p, l, e, R, s, m, args, below, meth, c, Q, D, cy, A, n⟩ := Γ
  intro H locs ls hP hD hS hl
  have hn' := hΓ.2.2.2.1
  subst hn'
  exact lv_istore hΓ.1 hΓ.2.1 hd hl hn hL (fun ls' hl' => k H locs ls' hP hD hS hl')
theorem W_ctorJ (hΓ : GOw Γ cL_law 7 RL (w0 :: TT) 19 10806 rc rs) (hZ : ZA Γ) {q : Nat} {s1 : CS} (hb1 : f_X7_begin σ0 2 = some s1) (hcs : κ.1 + 932 ≤ rc ∧ κ.2 + 449083 ≤ rs) (hcat : (st.map fun v => v.category).sum ≤ 8) (hd : decode cL_law pc = .ok (.invokespecial 71, 3)) (k : ∀ a : Nat → Nat, a 0 = q → (∀ j k, j < 933 → k < 933 → a j = a k → j = k) → (∀ k, k < 933 → q ≤ a k) → GW Γ (κ.1 + 932, κ.2 + 449083) (yW (Lc 933 q (yD9 Γ) (yc9 Γ) a) (qC σ0 s1)) (pc + 3) L st) : GW Γ κ [(q, .inr (10, [.null, .null, .null, .null, .null, .null, .null, .null, .int 0, .int 0, .int 0, .int 0, .int 0, .int 0]))] pc L (.ref q :: st) := by
  obtain ⟨p, l, e, R, s, m, args, below, meth, c, Q, D, cy, A, nn⟩ := Γ
  intro H locs ls hP hD hS hl
  obtain ⟨hx, hb, hml, hnl, hown, hts, hK, hA, hfr, hlo, hrc, hrs⟩ := hΓ
  have hT : GoodIn (w0 :: TT) (.code yX7_init cX7_init 2 none :: TT) := TT_in kw_25
  have hts' : ∀ w ∈ TT, w.before args s = true := fun w hw => hts w (List.mem_cons_of_mem _ hw)
  have hAq : A q := hD.2 0 _ rfl
  have hsig : ∀ sig, parseMethodDescriptor yX7_init.desc = some sig → 0 = sig.parameters.length := fun sig h => by
    have h2 : (parseMethodDescriptor yX7_init.desc).map (fun d => d.parameters.length) = some 0 := by decide +kernel
    rw [h] at h2
    exact (Option.some.inj h2).symm
  have hZ' : ∀ U : State, U.heap = H → s.WarmedH U.vm → STA (fun x => q ≤ x) U := fun U hU hWm => (hZ.1.at hWm.alike (fun a h1 h2 => by rw [hU]; exact hS.2.1 a h1 h2)).sub (fun x hx => hZ.2 q x hAq hx)
  have hr := va_runI (p := p) (e := e) (R := R) (below := below) (meth := meth) (locs := locs) (cells := κ.1) (slots := κ.2) (g := F0 m pc ls (.ref q :: st)) (l := l) (As := []) (rest := st) (b := q) ⟨hx, hb, hml, hown, hts⟩ (c_X7_init l D cy q hb1) ⟨⟨rfl, rfl, by rw [hfr]; exact Nat.le_of_ble_eq_true rfl, by rw [hlo]; exact Nat.le_of_ble_eq_true rfl, pay_in hts hT, List.mem_cons_self, hts' _ kw_25, hts' _ kw_1, ⟨by decide, by decide⟩, hsig, hts' _ kw_23⟩, rfl, hts' _ kw_24⟩ ⟨CJ_blind, fun U hU hWm => ⟨rfl, by rw [hU]; exact hP, hK.at hWm, hZ' U hU hWm⟩⟩ rfl rfl (hl.1.trans hnl) rfl (lv_room hcat) hd ⟨by rw [hrc]; exact hcs.1, by rw [hrs]; exact hcs.2⟩
  intro T hT X
  obtain ⟨v, st₀, t, T', Lc9, h0, X', hL, e1, e2, ⟨hv, ⟨a, ha0, hai, hag, hW⟩, hz, hk⟩, stp⟩ := hr T hT X
  cases hv
  rw [h0] at hz hk
  have hO : LO (Lc 933 q D cy a) := Lc_LO (Or.inl rfl) hai hag
  have hP1 : va_P D vwCl (yW (Lc 933 q D cy a) (qC σ0 s1)) T'.heap := by rw [e1]; exact hW
  have hD0 := yW_D (σ := qC σ0 s1) hO
  have hD1 : va_D A (yW (Lc 933 q D cy a) (qC σ0 s1)) := ⟨hD0.1, fun i x hi => hZ.2 q _ hAq (hD0.2 i x hi)⟩
  have hS' : va_S A s.heap T'.heap (locs ++ Lc9) := ⟨Nat.le_trans hS.1 (by rw [e1]; exact hz), fun x h1 h2 => by rw [e1, hk x (Nat.lt_of_lt_of_le h1 hS.1) (fun h => h2 (hZ.2 q x hAq h))]; exact hS.2.1 x h1 h2, fun x hx => (List.mem_append.mp hx).elim (hS.2.2 x) (fun h => hZ.2 q _ hAq (hL x h))⟩
  obtain ⟨t2, a1, b1⟩ := k a ha0 hai hag T'.heap (locs ++ Lc9) ls hP1 hD1 hS' hl T' rfl X'
  exact ⟨t2, stp t2 a1, b1⟩
end GWj
def modC (cy : Nat → ClassId) (q : Nat) (b : Nat → Nat) : va_W := [(q, .inr (11, [.int 0, .int 2, .int 0, .ref (b 1), .int 0, .ref (b 2), .ref (b 3), .ref (b 4), .ref (b 5), .ref (b 6), .ref (b 7), .int 0, .ref (b 8), .ref (b 9), .ref (b 10), .ref (b 11), .ref (b 12), .ref (b 13), .ref (b 14), .ref (b 15), .ref (b 16), .ref (b 17), .int 0, .ref (b 18), .ref (b 19), .ref (b 20), .ref (b 21), .ref (b 22), .ref (b 23), .int 0, .ref (b 24), .ref (b 25), .ref (b 26), .ref (b 27), .int 0, .ref (b 28), .ref (b 29), .int 0, .int 0, .ref (b 30), .ref (b 31), .int 0, .int 0, .int 0, .int 0, .int 0, .int 0])), ((b 1), .inl (cy 1, 20000, .inl (fun _ => 0))), ((b 2), .inl (cy 0, 200, .inl (fun _ => 0))), ((b 3), .inl (cy 0, 200, .inl (fun _ => 0))), ((b 4), .inl (cy 0, 200, .inl (fun _ => 0))), ((b 5), .inl (cy 0, 200, .inl (fun _ => 0))), ((b 6), .inl (cy 0, 12800, .inl (fun _ => 0))), ((b 7), .inl (cy 2, 200, .inl (fun _ => 0))), ((b 8), .inl (cy 0, 200, .inl (fun _ => 0))), ((b 9), .inl (cy 0, 200, .inl (fun _ => 0))), ((b 10), .inl (cy 0, 32, .inl (fun _ => 0))), ((b 11), .inl (cy 0, 32, .inl (fun _ => 0))), ((b 12), .inl (cy 0, 32, .inl (fun _ => 0))), ((b 13), .inl (cy 0, 32, .inl (fun _ => 0))), ((b 14), .inl (cy 0, 32, .inl (fun _ => 0))), ((b 15), .inl (cy 0, 32, .inl (fun _ => 0))), ((b 16), .inl (cy 1, 38400, .inl (fun _ => 0))), ((b 17), .inl (cy 2, 640000, .inl (fun _ => 0))), ((b 18), .inl (cy 0, 14000, .inl (fun _ => 0))), ((b 19), .inl (cy 0, 14000, .inl (fun _ => 0))), ((b 20), .inl (cy 1, 14000, .inl (fun _ => 0))), ((b 21), .inl (cy 1, 14000, .inl (fun _ => 0))), ((b 22), .inl (cy 0, 14000, .inl (fun _ => 0))), ((b 23), .inl (cy 1, 896000, .inl (fun _ => 0))), ((b 24), .inl (cy 1, 92000, .inl (fun _ => 0))), ((b 25), .inl (cy 1, 92000, .inl (fun _ => 0))), ((b 26), .inl (cy 0, 92000, .inl (fun _ => 0))), ((b 27), .inl (cy 1, 700, .inl (fun _ => 0))), ((b 28), .inl (cy 1, 1200, .inl (fun _ => 0))), ((b 29), .inl (cy 2, 1200, .inl (fun _ => 0))), ((b 30), .inl (cy 1, 700, .inl (fun _ => 0))), ((b 31), .inl (cy 1, 1200, .inl (fun _ => 0)))]
theorem yW_get9 {N B : Nat} {D : va_G} {cy : Nat → ClassId} {a : Nat → Nat} {σ : CS} (hi : ∀ j k, j < N → k < N → a j = a k → j = k) {k : Nat} (hk : k < N) : (yW (Lc N B D cy a) σ)[k]? = some (a k, ce (Lc N B D cy a) σ (inv k).1 (inv k).2) := by
  show (((List.range N).map a).map (fun q => (q, fce (Lc N B D cy a) σ q)))[k]? = _
  rw [List.getElem?_map, List.getElem?_map, List.getElem?_range hk]
  show some (a k, fce (Lc N B D cy a) σ (a k)) = _
  rw [fce, Lc_yi hi hk]
theorem yW_len {N B : Nat} {D : va_G} {cy : Nat → ClassId} {a : Nat → Nat} {σ : CS} : (yW (Lc N B D cy a) σ).length = N := by
  show (((List.range N).map a).map (fun q => (q, fce (Lc N B D cy a) σ q))).length = N
  simp
/-- all cells of the law -/
def allC (D : va_G) (cy : Nat → ClassId) (q : Nat) (a : Nat → Nat) (s1 : CS) (qm : Nat) (b : Nat → Nat) (qo : Nat) : va_W := (yW (Lc 933 q D cy a) (qC σ0 s1) ++ modC cy qm b) ++ [(qo, .inl (cy 3, 1, .inr (.inl (fun _ => 0))))]
set_option maxHeartbeats 4000000 in
set_option maxRecDepth 100000 in
theorem allC_Wd {D : va_G} {cy : Nat → ClassId} {q B : Nat} {a : Nat → Nat} {s1 : CS} {qm : Nat} {b : Nat → Nat} {qo : Nat} {H : Heap} (hr : ∀ i, s1.2.2 i = (none, none)) (hai : ∀ j k, j < 933 → k < 933 → a j = a k → j = k) (hD : va_D (fun x => B ≤ x) (allC D cy q a s1 qm b qo)) (hP : va_P D vwCl (allC D cy q a s1 qm b qo) H) :
    ∃ A : Nat → Nat, LO (Lc 966 B D cy A) ∧ Wd (Lc 966 B D cy A) (SL 0 s1 (σ0.1 18 0) (σ0.1 19)) H ∧ A 0 = a 0 ∧ A 933 = qm ∧ A 965 = qo := by
  have hlen : (allC D cy q a s1 qm b qo).length = 966 := by
    simp [allC, yW_len, modC]
  have hget : ∀ k, k < 966 → ∃ e, (allC D cy q a s1 qm b qo)[k]? = some (adr (allC D cy q a s1 qm b qo) k, e) := fun k hk => by
    have h9 := List.getElem?_eq_getElem (l := allC D cy q a s1 qm b qo) (i := k) (by omega)
    exact ⟨_, h9.trans (by rw [adr_of (q := ((allC D cy q a s1 qm b qo)[k]'(by omega)).1) (e := ((allC D cy q a s1 qm b qo)[k]'(by omega)).2) h9])⟩
  have hinj : ∀ j k, j < 966 → k < 966 → adr (allC D cy q a s1 qm b qo) j = adr (allC D cy q a s1 qm b qo) k → j = k := fun j k hj hk e9 => by
    obtain ⟨e1, h1⟩ := hget j hj
    obtain ⟨e2, h2⟩ := hget k hk
    exact hD.1 j k _ _ h1 h2 e9
  have hge : ∀ k, k < 966 → B ≤ adr (allC D cy q a s1 qm b qo) k := fun k hk => by
    obtain ⟨e1, h1⟩ := hget k hk
    exact hD.2 k _ h1
  have hlow : ∀ k, k < 933 → (allC D cy q a s1 qm b qo)[k]? = some (a k, ce (Lc 933 q D cy a) (qC σ0 s1) (inv k).1 (inv k).2) := fun k hk => by
    unfold allC
    rw [List.getElem?_append_left (by simp [yW_len, modC]; omega), List.getElem?_append_left (by rw [yW_len]; exact hk), yW_get9 hai hk]
  have hmod : ∀ j, j < 32 → (allC D cy q a s1 qm b qo)[933 + j]? = (modC cy qm b)[j]? := fun j hj => by
    unfold allC
    rw [List.getElem?_append_left (by simp [yW_len, modC]; omega), List.getElem?_append_right (by rw [yW_len]; omega), yW_len, Nat.add_sub_cancel_left]
  have hout : (allC D cy q a s1 qm b qo)[965]? = some (qo, .inl (cy 3, 1, .inr (.inl (fun _ => 0)))) := by
    unfold allC
    rw [List.getElem?_append_right (by simp [yW_len, modC])]
    simp [yW_len, modC]
  have hA : ∀ k, k < 933 → adr (allC D cy q a s1 qm b qo) k = a k := fun k hk => adr_of (hlow k hk)
  have hM : ∀ j, j < 32 → ∀ e, (modC cy qm b)[j]? = some e → adr (allC D cy q a s1 qm b qo) (933 + j) = e.1 := fun j hj e he => adr_of (e := e.2) ((hmod j hj).trans he)
  have hQ : adr (allC D cy q a s1 qm b qo) 965 = qo := adr_of hout
  refine ⟨adr (allC D cy q a s1 qm b qo), Lc_LO (Or.inr rfl) hinj hge, Lc_Wd (w := allC D cy q a s1 qm b qo) (Or.inr rfl) hinj (fun t i hi _ => ?_) hP, hA 0 (by omega), hM 0 (by omega) _ rfl, hQ⟩
  generalize hAA : adr (allC D cy q a s1 qm b qo) = AA at *
  by_cases ht : t < 18
  · obtain ⟨p1, p2, p3⟩ := inv_pos t (by omega) i hi
    have p3 := p3 ht
    have h9 := hlow (pos t i) p3
    rw [p1] at h9
    refine ⟨_, by rw [h9, ← hA _ p3], fun h8 => ?_⟩
    have low : ∀ t', t' < 18 → ∀ i', i' < cnt t' → AA (pos t' i') = a (pos t' i') := fun t' ht' i' hi' => hA _ ((inv_pos t' (by omega) i' hi').2.2 ht')
    rcases (show t = 0 ∨ t = 1 ∨ t = 2 ∨ t = 3 ∨ t = 4 ∨ t = 5 ∨ t = 6 ∨ t = 7 ∨ t = 8 ∨ t = 9 ∨ t = 10 ∨ t = 11 ∨ t = 12 ∨ t = 13 ∨ t = 14 ∨ t = 15 ∨ t = 16 ∨ t = 17 by omega) with rfl | rfl | rfl | rfl | rfl | rfl | rfl | rfl | rfl | rfl | rfl | rfl | rfl | rfl | rfl | rfl | rfl | rfl
    · have e : ce (Lc 966 B D cy AA) (SL 0 s1 (σ0.1 18 0) (σ0.1 19)) 0 i = ce (Lc 933 q D cy a) (qC σ0 s1) 0 i := by
        show (Sum.inr (10, [.ref (AA (pos 1 0)), .ref (AA (pos 2 0)), .ref (AA (pos 16 0)), .ref (AA (pos 17 0)), .ref (AA (pos 17 1)), .ref (AA (pos 17 2)), .ref (AA (pos 17 3)), .ref (AA (pos 17 4)), .int (s1.1 0 i 8), .int (s1.1 0 i 9), .int (s1.1 0 i 10), .int (s1.1 0 i 11), .int (s1.1 0 i 12), .int (s1.1 0 i 13)]) : va_E) = _
        rw [low 1 (by omega) 0 (by decide), low 2 (by omega) 0 (by decide), low 16 (by omega) 0 (by decide), low 17 (by omega) 0 (by decide), low 17 (by omega) 1 (by decide), low 17 (by omega) 2 (by decide), low 17 (by omega) 3 (by decide), low 17 (by omega) 4 (by decide)]
        rfl
      rw [e]
      exact h8
    · exact arr_eq (g := fun j => some (AA (pos 3 j))) (fun j hj => by show some (a (pos 3 j)) = some (AA (pos 3 j)); rw [low 3 (by omega) j hj]) h8
    · exact arr_eq (g := fun j => some (AA (pos 13 j))) (fun j hj => by show some (a (pos 13 j)) = some (AA (pos 13 j)); rw [low 13 (by omega) j hj]) h8
    · have e : ce (Lc 966 B D cy AA) (SL 0 s1 (σ0.1 18 0) (σ0.1 19)) 3 i = ce (Lc 933 q D cy a) (qC σ0 s1) 3 i := by
        show (Sum.inr (5, [.ref (AA (pos 4 i)), .ref (AA (pos 10 i)), .int (s1.1 3 i 2), .int (s1.1 3 i 3), .int (s1.1 3 i 4), .int (s1.1 3 i 5), .int (s1.1 3 i 6), va_rf ((s1.2.2 i).1.map (ya (Lc 966 B D cy AA) 13)), va_rf ((s1.2.2 i).2.map (ya (Lc 966 B D cy AA) 13)), .int (s1.1 3 i 9)]) : va_E) = (Sum.inr (5, [.ref (a (pos 4 i)), .ref (a (pos 10 i)), .int (s1.1 3 i 2), .int (s1.1 3 i 3), .int (s1.1 3 i 4), .int (s1.1 3 i 5), .int (s1.1 3 i 6), va_rf ((s1.2.2 i).1.map (ya (Lc 933 q D cy a) 13)), va_rf ((s1.2.2 i).2.map (ya (Lc 933 q D cy a) 13)), .int (s1.1 3 i 9)]) : va_E)
        rw [low 4 (by omega) i hi, low 10 (by omega) i hi, hr i]
        rfl
      rw [e]
      exact h8
    · have e : ce (Lc 966 B D cy AA) (SL 0 s1 (σ0.1 18 0) (σ0.1 19)) 4 i = ce (Lc 933 q D cy a) (qC σ0 s1) 4 i := by
        show (Sum.inr (4, [.ref (AA (pos 6 i)), .ref (AA (pos 5 i)), .int (s1.1 4 i 2), .int (s1.1 4 i 3), .int (s1.1 4 i 4), .int (s1.1 4 i 5), .int (s1.1 4 i 6), .int (s1.1 4 i 7), .long (s1.2.1 4 i), .int (s1.1 4 i 9), .int (s1.1 4 i 10), .int (s1.1 4 i 11), .int (s1.1 4 i 12), .int (s1.1 4 i 13), .int (s1.1 4 i 14), .int (s1.1 4 i 15), .int (s1.1 4 i 16)]) : va_E) = _
        rw [low 6 (by omega) i (Nat.lt_succ_of_lt hi), low 5 (by omega) i hi]
        rfl
      rw [e]
      exact h8
    · exact h8
    · have e : ce (Lc 966 B D cy AA) (SL 0 s1 (σ0.1 18 0) (σ0.1 19)) 6 i = ce (Lc 933 q D cy a) (qC σ0 s1) 6 i := by
        show (Sum.inr (7, [.ref (AA (pos 7 i)), .ref (AA (pos 8 i)), .ref (AA (pos 9 i))]) : va_E) = _
        rw [low 7 (by omega) i hi, low 8 (by omega) i hi, low 9 (by omega) i hi]
        rfl
      rw [e]
      exact h8
    · exact h8
    · exact h8
    · exact h8
    · have e : ce (Lc 966 B D cy AA) (SL 0 s1 (σ0.1 18 0) (σ0.1 19)) 10 i = ce (Lc 933 q D cy a) (qC σ0 s1) 10 i := by
        show (Sum.inr (8, [.ref (AA (pos 11 i)), .ref (AA (pos 12 i)), .int (s1.1 10 i 2), .int (s1.1 10 i 3)]) : va_E) = _
        rw [low 11 (by omega) i hi, low 12 (by omega) i hi]
        rfl
      rw [e]
      exact h8
    · exact h8
    · exact h8
    · have e : ce (Lc 966 B D cy AA) (SL 0 s1 (σ0.1 18 0) (σ0.1 19)) 13 i = ce (Lc 933 q D cy a) (qC σ0 s1) 13 i := by
        show (Sum.inr (3, [.ref (AA (pos 14 i)), .ref (AA (pos 15 i)), .int (s1.1 13 i 2), .int (s1.1 13 i 3), .int (s1.1 13 i 4), .int (s1.1 13 i 5), .long (s1.2.1 13 i), .int (s1.1 13 i 7), .int (s1.1 13 i 8)]) : va_E) = _
        rw [low 14 (by omega) i hi, low 15 (by omega) i hi]
        rfl
      rw [e]
      exact h8
    · exact h8
    · exact h8
    · have e : ce (Lc 966 B D cy AA) (SL 0 s1 (σ0.1 18 0) (σ0.1 19)) 16 i = ce (Lc 933 q D cy a) (qC σ0 s1) 16 i := by
        show (Sum.inr (9, [.ref (AA (pos 6 32)), .int (s1.1 16 i 1), .int (s1.1 16 i 2), .int (s1.1 16 i 3)]) : va_E) = _
        rw [low 6 (by omega) 32 (by decide)]
        rfl
      rw [e]
      exact h8
    · exact h8
  · by_cases ht2 : t < 21
    · rcases (show t = 18 ∨ t = 19 ∨ t = 20 by omega) with rfl | rfl | rfl
      · have hi : i < 1 := hi
        have e0 : i = 0 := by omega
        subst e0
        refine ⟨_, by rw [show pos 18 0 = 933 + 0 from rfl, hM 0 (by omega) _ rfl]; exact hmod 0 (by omega), fun h8 => ?_⟩
        have e : ce (Lc 966 B D cy AA) (SL 0 s1 (σ0.1 18 0) (σ0.1 19)) 18 0 = .inr (11, [.int 0, .int 2, .int 0, .ref (AA (933 + 1)), .int 0, .ref (AA (933 + 2)), .ref (AA (933 + 3)), .ref (AA (933 + 4)), .ref (AA (933 + 5)), .ref (AA (933 + 6)), .ref (AA (933 + 7)), .int 0, .ref (AA (933 + 8)), .ref (AA (933 + 9)), .ref (AA (933 + 10)), .ref (AA (933 + 11)), .ref (AA (933 + 12)), .ref (AA (933 + 13)), .ref (AA (933 + 14)), .ref (AA (933 + 15)), .ref (AA (933 + 16)), .ref (AA (933 + 17)), .int 0, .ref (AA (933 + 18)), .ref (AA (933 + 19)), .ref (AA (933 + 20)), .ref (AA (933 + 21)), .ref (AA (933 + 22)), .ref (AA (933 + 23)), .int 0, .ref (AA (933 + 24)), .ref (AA (933 + 25)), .ref (AA (933 + 26)), .ref (AA (933 + 27)), .int 0, .ref (AA (933 + 28)), .ref (AA (933 + 29)), .int 0, .int 0, .ref (AA (933 + 30)), .ref (AA (933 + 31)), .int 0, .int 0, .int 0, .int 0, .int 0, .int 0]) := rfl
        rw [e, hM 1 (by omega) _ rfl, hM 2 (by omega) _ rfl, hM 3 (by omega) _ rfl, hM 4 (by omega) _ rfl, hM 5 (by omega) _ rfl, hM 6 (by omega) _ rfl, hM 7 (by omega) _ rfl, hM 8 (by omega) _ rfl, hM 9 (by omega) _ rfl, hM 10 (by omega) _ rfl, hM 11 (by omega) _ rfl, hM 12 (by omega) _ rfl, hM 13 (by omega) _ rfl, hM 14 (by omega) _ rfl, hM 15 (by omega) _ rfl, hM 16 (by omega) _ rfl, hM 17 (by omega) _ rfl, hM 18 (by omega) _ rfl, hM 19 (by omega) _ rfl, hM 20 (by omega) _ rfl, hM 21 (by omega) _ rfl, hM 22 (by omega) _ rfl, hM 23 (by omega) _ rfl, hM 24 (by omega) _ rfl, hM 25 (by omega) _ rfl, hM 26 (by omega) _ rfl, hM 27 (by omega) _ rfl, hM 28 (by omega) _ rfl, hM 29 (by omega) _ rfl, hM 30 (by omega) _ rfl, hM 31 (by omega) _ rfl]
        exact h8
      · have hi : i < 31 := hi
        rcases (show i = 0 ∨ i = 1 ∨ i = 2 ∨ i = 3 ∨ i = 4 ∨ i = 5 ∨ i = 6 ∨ i = 7 ∨ i = 8 ∨ i = 9 ∨ i = 10 ∨ i = 11 ∨ i = 12 ∨ i = 13 ∨ i = 14 ∨ i = 15 ∨ i = 16 ∨ i = 17 ∨ i = 18 ∨ i = 19 ∨ i = 20 ∨ i = 21 ∨ i = 22 ∨ i = 23 ∨ i = 24 ∨ i = 25 ∨ i = 26 ∨ i = 27 ∨ i = 28 ∨ i = 29 ∨ i = 30 by omega) with rfl | rfl | rfl | rfl | rfl | rfl | rfl | rfl | rfl | rfl | rfl | rfl | rfl | rfl | rfl | rfl | rfl | rfl | rfl | rfl | rfl | rfl | rfl | rfl | rfl | rfl | rfl | rfl | rfl | rfl | rfl
        · exact ⟨_, by rw [show pos 19 0 = 933 + 1 from rfl, hM 1 (by omega) _ rfl]; exact hmod 1 (by omega), fun h8 => h8⟩
        · exact ⟨_, by rw [show pos 19 1 = 933 + 2 from rfl, hM 2 (by omega) _ rfl]; exact hmod 2 (by omega), fun h8 => h8⟩
        · exact ⟨_, by rw [show pos 19 2 = 933 + 3 from rfl, hM 3 (by omega) _ rfl]; exact hmod 3 (by omega), fun h8 => h8⟩
        · exact ⟨_, by rw [show pos 19 3 = 933 + 4 from rfl, hM 4 (by omega) _ rfl]; exact hmod 4 (by omega), fun h8 => h8⟩
        · exact ⟨_, by rw [show pos 19 4 = 933 + 5 from rfl, hM 5 (by omega) _ rfl]; exact hmod 5 (by omega), fun h8 => h8⟩
        · exact ⟨_, by rw [show pos 19 5 = 933 + 6 from rfl, hM 6 (by omega) _ rfl]; exact hmod 6 (by omega), fun h8 => h8⟩
        · exact ⟨_, by rw [show pos 19 6 = 933 + 7 from rfl, hM 7 (by omega) _ rfl]; exact hmod 7 (by omega), fun h8 => h8⟩
        · exact ⟨_, by rw [show pos 19 7 = 933 + 8 from rfl, hM 8 (by omega) _ rfl]; exact hmod 8 (by omega), fun h8 => h8⟩
        · exact ⟨_, by rw [show pos 19 8 = 933 + 9 from rfl, hM 9 (by omega) _ rfl]; exact hmod 9 (by omega), fun h8 => h8⟩
        · exact ⟨_, by rw [show pos 19 9 = 933 + 10 from rfl, hM 10 (by omega) _ rfl]; exact hmod 10 (by omega), fun h8 => h8⟩
        · exact ⟨_, by rw [show pos 19 10 = 933 + 11 from rfl, hM 11 (by omega) _ rfl]; exact hmod 11 (by omega), fun h8 => h8⟩
        · exact ⟨_, by rw [show pos 19 11 = 933 + 12 from rfl, hM 12 (by omega) _ rfl]; exact hmod 12 (by omega), fun h8 => h8⟩
        · exact ⟨_, by rw [show pos 19 12 = 933 + 13 from rfl, hM 13 (by omega) _ rfl]; exact hmod 13 (by omega), fun h8 => h8⟩
        · exact ⟨_, by rw [show pos 19 13 = 933 + 14 from rfl, hM 14 (by omega) _ rfl]; exact hmod 14 (by omega), fun h8 => h8⟩
        · exact ⟨_, by rw [show pos 19 14 = 933 + 15 from rfl, hM 15 (by omega) _ rfl]; exact hmod 15 (by omega), fun h8 => h8⟩
        · exact ⟨_, by rw [show pos 19 15 = 933 + 16 from rfl, hM 16 (by omega) _ rfl]; exact hmod 16 (by omega), fun h8 => h8⟩
        · exact ⟨_, by rw [show pos 19 16 = 933 + 17 from rfl, hM 17 (by omega) _ rfl]; exact hmod 17 (by omega), fun h8 => h8⟩
        · exact ⟨_, by rw [show pos 19 17 = 933 + 18 from rfl, hM 18 (by omega) _ rfl]; exact hmod 18 (by omega), fun h8 => h8⟩
        · exact ⟨_, by rw [show pos 19 18 = 933 + 19 from rfl, hM 19 (by omega) _ rfl]; exact hmod 19 (by omega), fun h8 => h8⟩
        · exact ⟨_, by rw [show pos 19 19 = 933 + 20 from rfl, hM 20 (by omega) _ rfl]; exact hmod 20 (by omega), fun h8 => h8⟩
        · exact ⟨_, by rw [show pos 19 20 = 933 + 21 from rfl, hM 21 (by omega) _ rfl]; exact hmod 21 (by omega), fun h8 => h8⟩
        · exact ⟨_, by rw [show pos 19 21 = 933 + 22 from rfl, hM 22 (by omega) _ rfl]; exact hmod 22 (by omega), fun h8 => h8⟩
        · exact ⟨_, by rw [show pos 19 22 = 933 + 23 from rfl, hM 23 (by omega) _ rfl]; exact hmod 23 (by omega), fun h8 => h8⟩
        · exact ⟨_, by rw [show pos 19 23 = 933 + 24 from rfl, hM 24 (by omega) _ rfl]; exact hmod 24 (by omega), fun h8 => h8⟩
        · exact ⟨_, by rw [show pos 19 24 = 933 + 25 from rfl, hM 25 (by omega) _ rfl]; exact hmod 25 (by omega), fun h8 => h8⟩
        · exact ⟨_, by rw [show pos 19 25 = 933 + 26 from rfl, hM 26 (by omega) _ rfl]; exact hmod 26 (by omega), fun h8 => h8⟩
        · exact ⟨_, by rw [show pos 19 26 = 933 + 27 from rfl, hM 27 (by omega) _ rfl]; exact hmod 27 (by omega), fun h8 => h8⟩
        · exact ⟨_, by rw [show pos 19 27 = 933 + 28 from rfl, hM 28 (by omega) _ rfl]; exact hmod 28 (by omega), fun h8 => h8⟩
        · exact ⟨_, by rw [show pos 19 28 = 933 + 29 from rfl, hM 29 (by omega) _ rfl]; exact hmod 29 (by omega), fun h8 => h8⟩
        · exact ⟨_, by rw [show pos 19 29 = 933 + 30 from rfl, hM 30 (by omega) _ rfl]; exact hmod 30 (by omega), fun h8 => h8⟩
        · exact ⟨_, by rw [show pos 19 30 = 933 + 31 from rfl, hM 31 (by omega) _ rfl]; exact hmod 31 (by omega), fun h8 => h8⟩
      · have hi : i < 1 := hi
        have e0 : i = 0 := by omega
        subst e0
        refine ⟨_, by rw [show pos 20 0 = 965 from rfl, hQ]; exact hout, fun h8 => ?_⟩
        have e : ce (Lc 966 B D cy AA) (SL 0 s1 (σ0.1 18 0) (σ0.1 19)) 20 0 = .inl (cy 3, 1, .inr (.inl (vp_updL (fun _ => 0) 0 0))) := rfl
        have e2 : vp_updL (fun _ => 0) 0 0 = (fun _ => (0 : Int64)) := by funext j; simp [vp_updL]
        rw [e, e2]
        exact h8
    · rw [cnt_0 (by omega)] at hi
      omega
