/-- what a method leaves behind: its answer, the state, nothing else -/
def QR (Λ : LY) (σ' : CS) (res : Option Value) : Array Value → State → Outcome → State → Prop := fun _ st oc t => oc = .returned res ∧ Wd Λ σ' t.heap ∧ va_F (yA Λ) st t
def PR (Λ : LY) (σ : CS) (U : State) : Prop := yB Λ ≤ U.heap.size ∧ Wd Λ σ U.heap ∧ KK Λ U ∧ LO Λ
/-- a method's contract: from the state σ it comes to the state σ' and answers res; it makes nothing -/
def CM (l : Launch) (y : MethodName) (ws : List Cond) (rm : Room) (Λ : LY) (av : List Value) (σ σ' : CS) (res : Option Value) : Prop :=
  Met l y ws rm (va_Pc av (PR Λ σ)) (QR Λ σ' res) 0 0 (yA Λ)
def GE (Γ : GX) (ret : Option FieldType) (res : Option Value) (σ' : CS) : Prop := match Γ with
  | (_, _, _, _, s, _, args, below, meth, _, Q, Λ, _) => meth.sig.returnType = ret ∧ Q = MQ below (QR Λ σ' res) args s 0 0 (yA Λ) ∧ meth.locks = false
theorem CM_intro {l : Launch} {y : MethodName} {cc : ByteArray} {maxL : Nat} {ret : Option FieldType} {rm : Room} {Λ : LY} {av : List Value} {σ σ' : CS} {res : Option Value} {own : String} (hy : plainName y.cls = true) (hown : y.cls = own) (hlen : (lg_sl av).length ≤ maxL)
    (body : ∀ Γ : GX, gl Γ = Λ → gL Γ = l → GO Γ cc maxL own (.code y cc maxL ret :: TT) rm.frames rm.locals → GE Γ ret res σ' → GG Γ (0, 0) σ 0 (lv_args 0 av) []) : CM l y (.code y cc maxL ret :: TT) rm Λ av σ σ' res := by
  refine Met.ofW (cc := cc) (maxL := maxL) (ret := ret) hy rfl ?_
  intro p e s m args below meth c s₁ B hml hv
  obtain ⟨rfl, hB0, hW, hK, hO⟩ := hv
  have hts := atoms_spec (ws := .code y cc maxL ret :: TT) B.pre
  have hown' : s.vm.findClass own = some m.cls := hown ▸ findClass_of_methodNamed B.named
  have hl := lv_entry av (n := maxL) hlen
  rw [lg_entry_eq]
  exact body (p, l, e, (headSpec (.code y cc maxL ret :: TT) rm).room, s, m, av.toArray, below, meth, c, MQ below (QR Λ σ' res) av.toArray s 0 0 (yA Λ), Λ, maxL) rfl rfl ⟨B.exec, B.bytes, hml, rfl, hown', hts, hK, hO, hB0, rfl, rfl⟩ ⟨B.returns, rfl, B.notSynchronized⟩ s.heap [] _ hW va_S.rf hl
section GC
variable {Γ : GX} {κ : Nat × Nat} {σ : CS} {pc nL : Nat} {L : List (Nat × Value)} {st : List Value} {cc : ByteArray} {own : String} {Ts : List Cond} {fr lo : Nat}
theorem G_iret (hΓ : GO Γ cc nL own Ts fr lo) {v : Int32} (hE : GE Γ (some .int) (some (.int v)) σ) (hd : decode cc pc = .ok (.ireturn, 1)) : GG Γ (0, 0) σ pc L [.int v] := by
  obtain ⟨p, l, e, R, s, m, args, below, meth, c, Q, Λ, n⟩ := Γ
  obtain ⟨hr, hQ, hlk⟩ := hE
  subst hQ
  intro H locs ls hW hS hl
  exact W.iret hΓ.1 hΓ.2.1 hr (fun t ht hW' => ⟨rfl, by rw [ht]; exact hW, hS.F ht⟩) hS.2.2 hd hlk
theorem G_lret (hΓ : GO Γ cc nL own Ts fr lo) {v : Int64} (hE : GE Γ (some .long) (some (.long v)) σ) (hd : decode cc pc = .ok (.lreturn, 1)) : GG Γ (0, 0) σ pc L [.long v] := by
  obtain ⟨p, l, e, R, s, m, args, below, meth, c, Q, Λ, n⟩ := Γ
  obtain ⟨hr, hQ, hlk⟩ := hE
  subst hQ
  intro H locs ls hW hS hl
  exact W.lret hΓ.1 hΓ.2.1 hr (fun t ht hW' => ⟨rfl, by rw [ht]; exact hW, hS.F ht⟩) hS.2.2 hd hlk
theorem G_zret (hΓ : GO Γ cc nL own Ts fr lo) {v : Int32} {ty : FieldType} (hn : narrow ty (.int v) = .int v) (hE : GE Γ (some ty) (some (.int v)) σ) (hd : decode cc pc = .ok (.ireturn, 1)) : GG Γ (0, 0) σ pc L [.int v] := by
  obtain ⟨p, l, e, R, s, m, args, below, meth, c, Q, Λ, n⟩ := Γ
  obtain ⟨hr, hQ, hlk⟩ := hE
  subst hQ
  intro H locs ls hW hS hl
  exact W.zret hΓ.1 hΓ.2.1 hr hn (fun t ht hW' => ⟨rfl, by rw [ht]; exact hW, hS.F ht⟩) hS.2.2 hd hlk
theorem G_vret (hΓ : GO Γ cc nL own Ts fr lo) (hE : GE Γ none none σ) (hd : decode cc pc = .ok (.return_, 1)) : GG Γ (0, 0) σ pc L [] := by
  obtain ⟨p, l, e, R, s, m, args, below, meth, c, Q, Λ, n⟩ := Γ
  obtain ⟨hr, hQ, hlk⟩ := hE
  subst hQ
  intro H locs ls hW hS hl
  exact W.vret hΓ.1 hΓ.2.1 hr (fun t ht hW' => ⟨rfl, by rw [ht]; exact hW, hS.F ht⟩) hS.2.2 hd hlk
theorem G_aret (hΓ : GO Γ cc nL own Ts fr lo) {v : Value} {rt : FieldType} (hrt : (∃ n, rt = .object n) ∨ ∃ t, rt = .array t) (hv : v = .null ∨ ∃ a, v = .ref a) (hE : GE Γ (some rt) (some v) σ) (hd : decode cc pc = .ok (.areturn, 1)) : GG Γ (0, 0) σ pc L [v] := by
  obtain ⟨p, l, e, R, s, m, args, below, meth, c, Q, Λ, n⟩ := Γ
  obtain ⟨hr, hQ, hlk⟩ := hE
  subst hQ
  intro H locs ls hW hS hl
  exact W.aret hΓ.1 hΓ.2.1 hr hrt hv (fun t ht hW' => ⟨rfl, by rw [ht]; exact hW, hS.F ht⟩) hS.2.2 hd hlk
/-- behind a call that makes nothing -/
theorem G_back {p : Program} {l : Launch} {e : Env} {R : Room} {s : State} {m : MethodId} {args : Array Value} {below : List Frame} {meth : Method} {c : Code} {Q : State → Prop} {Λ : LY} {n : Nat} {σ' : CS} {res : Option Value} {av : Array Value} {st0 : List Value} {H : Heap} {locs : List Loc} {ls : Array Slot}
    (hr : va_Run p l e R s m args below meth c H locs κ.1 κ.2 0 0 (F0 m pc ls st0) st (QR Λ σ' res (av : Array Value)) (yA Λ)) (hS : va_S (yA Λ) s.heap H locs) (hl : lv_has ls n L)
    (k : GG (p, l, e, R, s, m, args, below, meth, c, Q, Λ, n) κ σ' (pc + 3) L (res.toList ++ st)) : W p l e R s m args below meth c H locs κ.1 κ.2 Q (F0 m pc ls st0) := by
  intro T hT X
  obtain ⟨v, st₀, t, T', Lc, h0, X', hL, e1, e2, ⟨hv, hw2, hz, hk⟩, stp⟩ := hr T hT X
  cases hv
  rw [h0] at hz hk
  have hS' : va_S (yA Λ) s.heap T'.heap (locs ++ Lc) := ⟨Nat.le_trans hS.1 (by rw [e1]; exact hz), fun q h1 h2 => by rw [e1, hk q (Nat.lt_of_lt_of_le h1 hS.1) h2]; exact hS.2.1 q h1 h2, fun q hq => (List.mem_append.mp hq).elim (hS.2.2 q) (hL q)⟩
  obtain ⟨t2, a1, b1⟩ := k T'.heap (locs ++ Lc) ls (by rw [e1]; exact hw2) hS' hl T' rfl X'
  exact ⟨t2, stp t2 a1, b1⟩
theorem PR_blind {Λ : LY} {av : List Value} {σ : CS} : FrameBlind (va_Pc av (PR Λ σ)) := fun a U g mk q => by
  obtain ⟨q0, q1, q2, q3, q4⟩ := q
  exact ⟨q0, q1, q2, q3.calling, q4⟩
theorem PR_at {Λ : LY} {s U : State} {H : Heap} {locs : List Loc} (hB : yB Λ ≤ s.heap.size) (hW : Wd Λ σ H) (hK : KK Λ s) (hO : LO Λ) (hS : va_S (yA Λ) s.heap H locs) (hU : U.heap = H) (hWm : s.WarmedH U.vm) : PR Λ σ U :=
  ⟨by rw [hU]; exact Nat.le_trans hB hS.1, by rw [hU]; exact hW, hK.at hWm (fun a h1 h2 => by rw [hU]; exact hS.2.1 a h1 h2), hO⟩
theorem G_callV (hΓ : GO Γ cc nL own Ts fr lo) {y : MethodName} {bytes : ByteArray} {maxL n index t i ci N : Nat} {ret : Option FieldType} {rm : Room} {C : String} {T : u_T} {FS : (Nat → Int32) → Int64 → (Option Nat × Option Nat) → List Value} {As : List Value} {σ1 σ2 σ' : CS} {res : Option Value} (hM : CM (gL Γ) y (.code y bytes maxL ret :: TT) rm (gl Γ) (.ref (ya (gl Γ) t i) :: As) σ1 σ2 res) (h1 : σ1 = σ) (h2 : σ2 = σ') (kl : Cond.methodLink own index y ∈ TT) (ki : Cond.instanceMethod y ∈ TT) (ks : Cond.selects C y y ∈ TT) (kn : Cond.initialized y.cls ∈ TT) (kc : Cond.code y bytes maxL ret ∈ TT) (hy : y.cls = C ∧ y.cls ≠ "java/lang/invoke/MethodHandle" ∧ y.cls ≠ "java/lang/invoke/VarHandle" ∧ (parseMethodDescriptor y.desc).map (fun d => d.parameters.length) = some n) (hi : i < yn (gl Γ) t) (hc : ∀ f h r, cel (gl Γ) t i f h r = .inr (ci, FS f h r)) (hcl : vwCl[ci]? = some (C, T, N)) (hrc : rm.cells = 0) (hrs : rm.slots = 0) (hR : rm.frames + 1 ≤ fr ∧ 8 + (maxL + 11) + rm.locals ≤ lo) (hn : As.length = n) (hcat : (st.map fun v => v.category).sum ≤ 8) (hd : decode cc pc = .ok (.invokevirtual index, 3)) (hTs : ∃ w0, Ts = w0 :: TT) (hκ : κ = (0, 0)) (k : GG Γ κ σ' (pc + 3) L (res.toList ++ st)) : GG Γ κ σ pc L (As.reverse ++ .ref (ya (gl Γ) t i) :: st) := by
  obtain ⟨p, l, e, R, s, m, args, below, meth, c, Q, Λ, nn⟩ := Γ
  intro H locs ls hW hS hl
  obtain ⟨hx, hb, hml, hnl, hown, hts, hKK, hO, hB, hfr, hlo⟩ := hΓ
  obtain ⟨w0, rfl⟩ := hTs
  subst h1
  subst h2
  subst hκ
  have hT : GoodIn (w0 :: TT) (.code y bytes maxL ret :: TT) := TT_in kc
  have hts' : ∀ w ∈ TT, w.before args s = true := fun w hw => hts w (List.mem_cons_of_mem _ hw)
  have hR' : rm.frames + 1 ≤ R.frames ∧ 8 + (maxL + 11) + rm.locals ≤ R.locals := by rw [hfr, hlo]; exact hR
  obtain ⟨q0, hq⟩ := yW_get (σ := σ1) hO hi
  rw [show ce Λ σ1 t i = .inr (ci, FS (σ1.1 t i) (σ1.2.1 t i) (σ1.2.2 i)) from hc _ _ _] at hq
  exact G_back (va_runV (As := As) (rest := st) ⟨hx, hb, hml, hown, hts⟩ hM (by exact ⟨⟨hrc, hrs, hR'.1, hR'.2, pay_in hts hT, List.mem_cons_self, hts' _ kc, hts' _ kn, ⟨hy.2.1, hy.2.2.1⟩, fun sig h => by have h2 := hy.2.2.2; rw [h] at h2; exact (Option.some.inj h2).symm, hts' _ kl⟩, hts' _ ki, hts' _ ks⟩) ⟨PR_blind, va_recv hKK.1 hW hcl hq, fun U hU hWm => ⟨rfl, PR_at hB hW hKK hO hS hU hWm⟩⟩ rfl hn (hl.1.trans hnl) rfl (lv_room hcat) hd ⟨Nat.zero_le _, Nat.zero_le _⟩) hS hl k
theorem G_callS (hΓ : GO Γ cc nL own Ts fr lo) {y : MethodName} {bytes : ByteArray} {maxL n index : Nat} {ret : Option FieldType} {rm : Room} {As : List Value} {σ1 σ2 σ' : CS} {res : Option Value} (hM : CM (gL Γ) y (.code y bytes maxL ret :: TT) rm (gl Γ) (As) σ1 σ2 res) (h1 : σ1 = σ) (h2 : σ2 = σ') (kl : Cond.methodLink own index y ∈ TT) (ks : Cond.static y ∈ TT) (kn : Cond.initialized y.cls ∈ TT) (kc : Cond.code y bytes maxL ret ∈ TT) (hy : y.cls ≠ "java/lang/invoke/MethodHandle" ∧ y.cls ≠ "java/lang/invoke/VarHandle" ∧ (parseMethodDescriptor y.desc).map (fun d => d.parameters.length) = some n) (hrc : rm.cells = 0) (hrs : rm.slots = 0) (hR : rm.frames + 1 ≤ fr ∧ 8 + (maxL + 11) + rm.locals ≤ lo) (hn : As.length = n) (hcat : (st.map fun v => v.category).sum ≤ 8) (hd : decode cc pc = .ok (.invokestatic index, 3)) (hTs : ∃ w0, Ts = w0 :: TT) (hκ : κ = (0, 0)) (k : GG Γ κ σ' (pc + 3) L (res.toList ++ st)) : GG Γ κ σ pc L (As.reverse ++ st) := by
  obtain ⟨p, l, e, R, s, m, args, below, meth, c, Q, Λ, nn⟩ := Γ
  intro H locs ls hW hS hl
  obtain ⟨hx, hb, hml, hnl, hown, hts, hKK, hO, hB, hfr, hlo⟩ := hΓ
  obtain ⟨w0, rfl⟩ := hTs
  subst h1
  subst h2
  subst hκ
  have hT : GoodIn (w0 :: TT) (.code y bytes maxL ret :: TT) := TT_in kc
  have hts' : ∀ w ∈ TT, w.before args s = true := fun w hw => hts w (List.mem_cons_of_mem _ hw)
  have hR' : rm.frames + 1 ≤ R.frames ∧ 8 + (maxL + 11) + rm.locals ≤ R.locals := by rw [hfr, hlo]; exact hR
  exact G_back (va_runS (As := As) (rest := st) ⟨hx, hb, hml, hown, hts⟩ hM (by exact ⟨⟨hrc, hrs, hR'.1, hR'.2, pay_in hts hT, List.mem_cons_self, hts' _ kc, hts' _ kn, ⟨hy.1, hy.2.1⟩, fun sig h => by have h2 := hy.2.2; rw [h] at h2; exact (Option.some.inj h2).symm, hts' _ kl⟩, hts' _ ks⟩) ⟨PR_blind, fun U hU hWm => ⟨rfl, PR_at hB hW hKK hO hS hU hWm⟩⟩ rfl hn (hl.1.trans hnl) rfl (lv_room hcat) hd ⟨Nat.zero_le _, Nat.zero_le _⟩) hS hl k
theorem G_callVN (hΓ : GO Γ cc nL own Ts fr lo) {y : MethodName} {bytes : ByteArray} {maxL n index t i ci N : Nat} {ret : Option FieldType} {rm : Room} {C host : String} {T : u_T} {FS : (Nat → Int32) → Int64 → (Option Nat × Option Nat) → List Value} {As : List Value} {σ1 σ2 σ' : CS} {res : Option Value} (hM : CM (gL Γ) y (.code y bytes maxL ret :: TT) rm (gl Γ) (.ref (ya (gl Γ) t i) :: As) σ1 σ2 res) (h1 : σ1 = σ) (h2 : σ2 = σ') (k9 : Nat) (kl : NM[k9]? = some (own, index, y, host)) (ki : Cond.instanceMethod y ∈ TT) (ks : Cond.selects C y y ∈ TT) (kn : Cond.initialized y.cls ∈ TT) (kc : Cond.code y bytes maxL ret ∈ TT) (hy : y.cls = C ∧ y.cls ≠ "java/lang/invoke/MethodHandle" ∧ y.cls ≠ "java/lang/invoke/VarHandle" ∧ (parseMethodDescriptor y.desc).map (fun d => d.parameters.length) = some n) (hi : i < yn (gl Γ) t) (hc : ∀ f h r, cel (gl Γ) t i f h r = .inr (ci, FS f h r)) (hcl : vwCl[ci]? = some (C, T, N)) (hrc : rm.cells = 0) (hrs : rm.slots = 0) (hR : rm.frames + 1 ≤ fr ∧ 8 + (maxL + 11) + rm.locals ≤ lo) (hn : As.length = n) (hcat : (st.map fun v => v.category).sum ≤ 8) (hd : decode cc pc = .ok (.invokevirtual index, 3)) (hTs : ∃ w0, Ts = w0 :: TT) (hκ : κ = (0, 0)) (k : GG Γ κ σ' (pc + 3) L (res.toList ++ st)) : GG Γ κ σ pc L (As.reverse ++ .ref (ya (gl Γ) t i) :: st) := by
  obtain ⟨p, l, e, R, s, m, args, below, meth, c, Q, Λ, nn⟩ := Γ
  intro H locs ls hW hS hl
  obtain ⟨hx, hb, hml, hnl, hown, hts, hKK, hO, hB, hfr, hlo⟩ := hΓ
  obtain ⟨w0, rfl⟩ := hTs
  subst h1
  subst h2
  subst hκ
  have hT : GoodIn (w0 :: TT) (.code y bytes maxL ret :: TT) := TT_in kc
  have hts' : ∀ w ∈ TT, w.before args s = true := fun w hw => hts w (List.mem_cons_of_mem _ hw)
  have hR' : rm.frames + 1 ≤ R.frames ∧ 8 + (maxL + 11) + rm.locals ≤ R.locals := by rw [hfr, hlo]; exact hR
  obtain ⟨q0, hq⟩ := yW_get (σ := σ1) hO hi
  rw [show ce Λ σ1 t i = .inr (ci, FS (σ1.1 t i) (σ1.2.1 t i) (σ1.2.2 i)) from hc _ _ _] at hq
  exact G_back (va_runVN (As := As) (rest := st) ⟨hx, hb, hml, hown, hts⟩ hM (by exact ⟨va_cnB n hts hT rfl hrc hrs (hKK.2.1.2 _ (List.mem_of_getElem? kl)) (hts' _ kn) hy.2 hR', hts' _ ki, hts' _ ks⟩) ⟨PR_blind, va_recv hKK.1 hW hcl hq, fun U hU hWm => ⟨rfl, PR_at hB hW hKK hO hS hU hWm⟩⟩ rfl hn (hl.1.trans hnl) rfl (lv_room hcat) hd ⟨Nat.zero_le _, Nat.zero_le _⟩) hS hl k
theorem G_callSN (hΓ : GO Γ cc nL own Ts fr lo) {y : MethodName} {bytes : ByteArray} {maxL n index : Nat} {ret : Option FieldType} {rm : Room} {host : String} {As : List Value} {σ1 σ2 σ' : CS} {res : Option Value} (hM : CM (gL Γ) y (.code y bytes maxL ret :: TT) rm (gl Γ) (As) σ1 σ2 res) (h1 : σ1 = σ) (h2 : σ2 = σ') (k9 : Nat) (kl : NM[k9]? = some (own, index, y, host)) (ks : Cond.static y ∈ TT) (kn : Cond.initialized y.cls ∈ TT) (kc : Cond.code y bytes maxL ret ∈ TT) (hy : y.cls ≠ "java/lang/invoke/MethodHandle" ∧ y.cls ≠ "java/lang/invoke/VarHandle" ∧ (parseMethodDescriptor y.desc).map (fun d => d.parameters.length) = some n) (hrc : rm.cells = 0) (hrs : rm.slots = 0) (hR : rm.frames + 1 ≤ fr ∧ 8 + (maxL + 11) + rm.locals ≤ lo) (hn : As.length = n) (hcat : (st.map fun v => v.category).sum ≤ 8) (hd : decode cc pc = .ok (.invokestatic index, 3)) (hTs : ∃ w0, Ts = w0 :: TT) (hκ : κ = (0, 0)) (k : GG Γ κ σ' (pc + 3) L (res.toList ++ st)) : GG Γ κ σ pc L (As.reverse ++ st) := by
  obtain ⟨p, l, e, R, s, m, args, below, meth, c, Q, Λ, nn⟩ := Γ
  intro H locs ls hW hS hl
  obtain ⟨hx, hb, hml, hnl, hown, hts, hKK, hO, hB, hfr, hlo⟩ := hΓ
  obtain ⟨w0, rfl⟩ := hTs
  subst h1
  subst h2
  subst hκ
  have hT : GoodIn (w0 :: TT) (.code y bytes maxL ret :: TT) := TT_in kc
  have hts' : ∀ w ∈ TT, w.before args s = true := fun w hw => hts w (List.mem_cons_of_mem _ hw)
  have hR' : rm.frames + 1 ≤ R.frames ∧ 8 + (maxL + 11) + rm.locals ≤ R.locals := by rw [hfr, hlo]; exact hR
  exact G_back (va_runSN (As := As) (rest := st) ⟨hx, hb, hml, hown, hts⟩ hM (by exact ⟨va_cnB n hts hT rfl hrc hrs (hKK.2.1.2 _ (List.mem_of_getElem? kl)) (hts' _ kn) hy hR', hts' _ ks, trivial⟩) ⟨PR_blind, fun U hU hWm => ⟨rfl, PR_at hB hW hKK hO hS hU hWm⟩⟩ rfl hn (hl.1.trans hnl) rfl (lv_room hcat) hd ⟨Nat.zero_le _, Nat.zero_le _⟩) hS hl k
end GC
