/-- a helper's contract: it may make one cell of six slots -/
def CH (l : Launch) (y : MethodName) (ws : List Cond) (rm : Room) (Λ : LY) (av : List Value) (σ σ' : CS) (res : Option Value) : Prop :=
  Met l y ws rm (va_Pc av (PX Λ σ)) (QR Λ σ' res) 1 6 (yA Λ)
def GH (Γ : GX) (hh : List (Nat × Nat × Nat × Nat)) (res : Option Value) (σ' : CS) : Prop := match Γ with
  | (_, l, _, R, s, _, args, below, meth, c, Q, Λ, _) => meth.sig.returnType = some .int ∧ Q = MQ below (QR Λ σ' res) args s 1 6 (yA Λ) ∧ meth.locks = false ∧ EX Λ s ∧ R.cells = 1 ∧ R.slots = 6 ∧ l.stackTraces = false ∧ c.exceptionTable.toList = tableOf hh
theorem CH_intro {l : Launch} (hst : l.stackTraces = false) {y : MethodName} {cc : ByteArray} {maxL : Nat} {hh : List (Nat × Nat × Nat × Nat)} {rm : Room} {Λ : LY} {av : List Value} {σ σ' : CS} {res : Option Value} {own : String} (hy : plainName y.cls = true) (hown : y.cls = own) (hlen : (lg_sl av).length ≤ maxL) (hrc : rm.cells = 1) (hrs : rm.slots = 6)
    (body : ∀ Γ : GX, gl Γ = Λ → gL Γ = l → GO Γ cc maxL own (.codeWith y cc maxL (some .int) hh :: TT) rm.frames rm.locals → GH Γ hh res σ' → GG Γ (0, 0) σ 0 (lv_args 0 av) []) : CH l y (.codeWith y cc maxL (some .int) hh :: TT) rm Λ av σ σ' res := by
  refine va_MetW (cc := cc) (maxL := maxL) (ret := some .int) (hh := hh) hy rfl ?_
  intro p e s m args below meth c s₁ B hml hv
  obtain ⟨rfl, ⟨hB0, hW, hK, hO⟩, hE⟩ := hv
  have hts := atoms_spec (ws := .codeWith y cc maxL (some .int) hh :: TT) B.pre
  have hown' : s.vm.findClass own = some m.cls := hown ▸ findClass_of_methodNamed B.named
  have hl := lv_entry av (n := maxL) hlen
  have htab := vx_table (x := y) B (hts _ List.mem_cons_self)
  rw [lg_entry_eq]
  exact body (p, l, e, (headSpec (.codeWith y cc maxL (some .int) hh :: TT) rm).room, s, m, av.toArray, below, meth, c, MQ below (QR Λ σ' res) av.toArray s 1 6 (yA Λ), Λ, maxL) rfl rfl ⟨B.exec, B.bytes, hml, rfl, hown', hts, hK, hO, hB0, rfl, rfl⟩ ⟨B.returns, rfl, B.notSynchronized, hE, hrc, hrs, hst, htab⟩ s.heap [] _ hW va_S.rf hl
section GHe
variable {Γ : GX} {κ : Nat × Nat} {σ : CS} {pc nL : Nat} {L : List (Nat × Value)} {st : List Value} {cc : ByteArray} {own : String} {fr lo : Nat} {w0 : Cond} {hh : List (Nat × Nat × Nat × Nat)}
theorem G_iretH (hΓ : GO Γ cc nL own (w0 :: TT) fr lo) {v : Int32} (hκ : κ.1 ≤ 1 ∧ κ.2 ≤ 6) (hE : GH Γ hh (some (.int v)) σ) (hd : decode cc pc = .ok (.ireturn, 1)) : GG Γ κ σ pc L [.int v] := by
  obtain ⟨p, l, e, R, s, m, args, below, meth, c, Q, Λ, n⟩ := Γ
  obtain ⟨hr, hQ, hlk, -⟩ := hE
  subst hQ
  intro H locs ls hW hS hl
  refine W.widen (k := 1) (n := 6) hκ.1 hκ.2 ?_
  exact W.iret hΓ.1 hΓ.2.1 hr (fun t ht hW' => ⟨rfl, by rw [ht]; exact hW, hS.F ht⟩) hS.2.2 hd hlk
/-- out[0] is written -/
theorem F_out (hΓ : GO Γ cc nL own (w0 :: TT) fr lo) {x h : Int64} {σ' : CS} (hi : 0 < yn (gl Γ) 20) (hf : σ.2.1 20 0 = h) (hs : sH σ 20 0 x = σ') (hd : decode cc pc = .ok (.lastore, 1)) (k : GG Γ κ σ' (pc + 1) L st) : GG Γ κ σ pc L (.long x :: .int 0 :: .ref (ya (gl Γ) 20 0) :: st) := by
  obtain ⟨p, l, e, R, s, m, args, below, meth, c, Q, Λ, n⟩ := Γ
  subst hf; subst hs
  intro H locs ls hW hS hl
  obtain ⟨hx, hb, hml, hnl, hown, hts, ⟨hK, hN, hZ⟩, hO, hB, hfr, hlo⟩ := hΓ
  obtain ⟨q0, hq⟩ := yW_get (σ := σ) hO hi
  have es := yW_set (σ' := sH σ 20 0 x) hO hi hq ce_sHo
  refine va_last (D := yD Λ) hx hb hK hW (yW_D hO) hS q0 3 (n := 1) (f := vp_updL (fun _ => 0) 0 (σ.2.1 20 0)) hq rfl (by intro h9; rcases h9 with h9 | h9; exact absurd h9 (by decide); exact absurd h9 (by decide)) hd (fun H1 locs1 hP1 hD1 hS1 => ?_)
  have e9 : ce Λ (sH σ 20 0 x) 20 0 = .inl (yc Λ 3, 1, .inr (.inl (vp_updL (vp_updL (fun _ => 0) 0 (σ.2.1 20 0)) (0 : Int32).toNatClampNeg x))) := by
    rw [ce_sH]
    show Sum.inl (yc Λ 3, 1, Sum.inr (Sum.inl (vp_updL (fun _ => 0) 0 x))) = _
    have e8 : vp_updL (fun _ => 0) 0 x = vp_updL (vp_updL (fun _ => 0) 0 (σ.2.1 20 0)) (0 : Int32).toNatClampNeg x := by
      funext j
      rw [show (0 : Int32).toNatClampNeg = 0 from rfl]
      simp only [vp_updL]
      split <;> rfl
    rw [e8]
  rw [e9] at es
  rw [es] at hP1
  exact k H1 locs1 ls hP1 hS1 hl
/-- a call that throws E, caught here: at the handler, with the exception on the stack -/
theorem G_callVC (hΓ : GO Γ cc nL own (w0 :: TT) fr lo) {res : Option Value} {σ9 : CS} (hH : GH Γ hh res σ9) {E : String} {y : MethodName} {bytes : ByteArray} {maxL n index t i ci N : Nat} {ret : Option FieldType} {rm : Room} {C : String} {T : u_T} {FS : (Nat → Int32) → Int64 → (Option Nat × Option Nat) → List Value} {As : List Value} (hM : CT (gL Γ) y (.code y bytes maxL ret :: TT) rm (gl Γ) (.ref (ya (gl Γ) t i) :: As) σ E)
    (kl : Cond.methodLink own index y ∈ TT) (ki : Cond.instanceMethod y ∈ TT) (ks : Cond.selects C y y ∈ TT) (kn : Cond.initialized y.cls ∈ TT) (kc : Cond.code y bytes maxL ret ∈ TT) (hy : y.cls = C ∧ y.cls ≠ "java/lang/invoke/MethodHandle" ∧ y.cls ≠ "java/lang/invoke/VarHandle" ∧ (parseMethodDescriptor y.desc).map (fun d => d.parameters.length) = some n) (hi : i < yn (gl Γ) t) (hc : ∀ f h r, cel (gl Γ) t i f h r = .inr (ci, FS f h r)) (hcl : vwCl[ci]? = some (C, T, N)) (hrc : rm.cells = 1) (hrs : rm.slots = 6) (hR : rm.frames + 1 ≤ fr ∧ 8 + (maxL + 11) + rm.locals ≤ lo) (hn : As.length = n) (hcat : (st.map fun v => v.category).sum ≤ 8) (hd : decode cc pc = .ok (.invokevirtual index, 3))
    (pre : List (Nat × Nat × Nat × Nat)) (x : Nat × Nat × Nat × Nat) (suf : List (Nat × Nat × Nat × Nat)) (hsplit : hh = pre ++ x :: suf) (hpass : ∀ z ∈ pre, z.2.2.2 ≠ 0 ∧ ∃ nm : String, Cond.classLink own z.2.2.2 nm ∈ TT ∧ (E, nm) ∈ XN) (hx0 : x.1 ≤ pc ∧ pc < x.2.1) (h0 : x.2.2.2 ≠ 0) {name : String} (hlink : Cond.classLink own x.2.2.2 name ∈ TT) (hcast : (E, name) ∈ XK)
    (k : ∀ q : Nat, GG Γ (1, 6) σ x.2.2.1 L [.ref q]) : GG Γ (0, 0) σ pc L (As.reverse ++ .ref (ya (gl Γ) t i) :: st) := by
  obtain ⟨p, l, e, R, s, m, args, below, meth, c, Q, Λ, nn⟩ := Γ
  obtain ⟨hx, hb, hml, hnl, hown, hts, hKK, hO, hB, hfr, hlo⟩ := hΓ
  obtain ⟨-, -, -, hEX, hRc, hRs, hst, htab⟩ := hH
  intro H locs ls hW hS hl
  have hT : GoodIn (w0 :: TT) (.code y bytes maxL ret :: TT) := TT_in kc
  have hts' : ∀ w ∈ TT, w.before args s = true := fun w hw => hts w (List.mem_cons_of_mem _ hw)
  have hR' : rm.frames + 1 ≤ R.frames ∧ 8 + (maxL + 11) + rm.locals ≤ R.locals := by rw [hfr, hlo]; exact hR
  obtain ⟨q0, hq⟩ := yW_get (σ := σ) hO hi
  rw [show ce Λ σ t i = .inr (ci, FS (σ.1 t i) (σ.2.1 t i) (σ.2.2 i)) from hc _ _ _] at hq
  have hr := vx_runV (As := As) (rest := st) (R := R) (p := p) (e := e) (below := below) (meth := meth) (locs := locs) (cells := 0) (slots := 0) (g := F0 m pc ls (As.reverse ++ .ref (ya Λ t i) :: st)) ⟨hx, hb, hml, hown, hts⟩ hM ⟨⟨hrc, hrs, hR'.1, hR'.2, pay_in hts hT, List.mem_cons_self, hts' _ kc, hts' _ kn, ⟨hy.2.1, hy.2.2.1⟩, fun sig h => by have h2 := hy.2.2.2; rw [h] at h2; exact (Option.some.inj h2).symm, hts' _ kl⟩, hts' _ ki, hts' _ ks⟩ ⟨PX_blind, va_recv hKK.1 hW hcl hq, fun U hU hWm => ⟨rfl, PR_at hB hW hKK hO hS hU hWm, hEX.at hWm (fun a h1 h2 => by rw [hU]; exact hS.2.1 a h1 h2)⟩⟩ rfl hn (hl.1.trans hnl) rfl (lv_room hcat) hd ⟨by rw [hRc]; exact Nat.le_refl _, by rw [hRs]; exact Nat.le_refl _⟩
  intro T0 hT0 X
  rcases hr T0 hT0 X with ⟨v, st₀, t9, T', Lc, z0, X', hL, e1, e2, hq9, stp⟩ | ⟨q, st₀, t9, T', Lc, E', ce9, z0, X', hL, e1, e2, ⟨rfl, hw2, hz, hk⟩, hce, hcv, hcl9, stp⟩
  · exact hq9.elim
  · rw [z0] at hz hk
    have hS' : va_S (yA Λ) s.heap T'.heap (locs ++ Lc) := ⟨Nat.le_trans hS.1 (by rw [e1]; exact hz), fun q h1 h2 => by rw [e1, hk q (Nat.lt_of_lt_of_le h1 hS.1) h2]; exact hS.2.1 q h1 h2, fun q hq => (List.mem_append.mp hq).elim (hS.2.2 q) (hL q)⟩
    have hcatch := vx_catch (p := p) (l := l) (e := e) (R := R) (s := s) (m := m) (args := args) (below := below) (meth := meth) (c := c) (H := T'.heap) (locs := locs ++ Lc) (cells := 1) (slots := 6) (Q := Q) (ls := ls) (rest := st) (pc := pc) hown (tableOf pre) ⟨x.1, x.2.1, x.2.2.1, x.2.2.2⟩ (tableOf suf) (by rw [htab, hsplit]; simp [tableOf]) (fun z hz => by
        obtain ⟨z9, hz9, rfl⟩ := List.mem_map.mp hz
        obtain ⟨h7, nm, h8, h9⟩ := hpass z9 hz9
        exact Or.inr ⟨h7, nm, hts' _ h8, hEX.2.2.1 _ h9⟩) (by simp [covers, hx0.1, hx0.2]) h0 (hts' _ hlink) (va_Nw.use rfl (hEX.2.1 _ hcast)) (show T'.heap[q]? = some ce9 by rw [e1]; exact hce) hcv hcl9 (k q T'.heap (locs ++ Lc) ls (by rw [e1]; exact hw2) hS' hl)
    obtain ⟨t2, a1, b1⟩ := hcatch T' rfl X'
    exact ⟨t2, stp.trans a1, b1⟩
end GHe
theorem qC_out {σ s : CS} {z : Int64} : sH (qC σ s) 20 0 z = qC (sH σ 20 0 z) s := Prod.ext rfl (Prod.ext (funext fun t' => funext fun i' => by
  simp only [sH, qC]
  by_cases h2 : t' = 20 ∧ i' = 0
  · rw [if_pos h2, if_neg (by omega), if_pos h2]
  · simp only [if_neg h2]) rfl)
