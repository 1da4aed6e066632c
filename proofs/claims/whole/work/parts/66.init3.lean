def STA (A : Nat → Prop) (U : State) : Prop := ∃ t : Nat, va_Z "CanBits" "FLEXIBLE_OCTETS" "[I" (.ref t) A U U.heap ∧ va_T .int t 7 (fun j => .int (flx j)) A U U.heap
theorem STA.at {A : Nat → Prop} {s U : State} (hvm : s.vm.Alike U.vm) (hq : ∀ a : Nat, a < s.heap.size → ¬ A a → U.heap[a]? = s.heap[a]?) (h : STA A s) : STA A U := by
  obtain ⟨t, h1, h2⟩ := h
  exact ⟨t, (h1.moved hvm).kept hq, (h2.moved hvm).kept hq⟩
theorem STA.sub {A B : Nat → Prop} {U : State} (hs : ∀ q, B q → A q) (h : STA A U) : STA B U := by
  obtain ⟨t, ⟨cf, kf, fi, f, a, cell, h1, h2, h3, h4, h5, h6, h7, h8⟩, ⟨cell2, g1, g2, g3, g4, g5, g6, g7⟩⟩ := h
  exact ⟨t, ⟨cf, kf, fi, f, a, cell, h1, h2, h3, h4, h5, h6, h7, fun q => h8 (hs _ q)⟩, ⟨cell2, g1, g2, g3, g4, g5, g6, fun q => g7 (hs _ q)⟩⟩
def gRm (Γ : GX) : Room := Γ.2.2.2.1
section GK
variable {Γ : GX} {κ : Nat × Nat} {σ : CS} {pc nL : Nat} {L : List (Nat × Value)} {st : List Value} {cc : ByteArray} {own : String} {Ts : List Cond} {fr lo : Nat}
theorem G_callVk (hΓ : GO Γ cc nL own Ts fr lo) {y : MethodName} {bytes : ByteArray} {maxL n index t i ci N : Nat} {ret : Option FieldType} {rm : Room} {C : String} {T : u_T} {FS : (Nat → Int32) → Int64 → (Option Nat × Option Nat) → List Value} {As : List Value} {σ1 σ2 σ' : CS} {res : Option Value} (hM : CM (gL Γ) y (.code y bytes maxL ret :: TT) rm (gl Γ) (.ref (ya (gl Γ) t i) :: As) σ1 σ2 res) (h1 : σ1 = σ) (h2 : σ2 = σ') (kl : Cond.methodLink own index y ∈ TT) (ki : Cond.instanceMethod y ∈ TT) (ks : Cond.selects C y y ∈ TT) (kn : Cond.initialized y.cls ∈ TT) (kc : Cond.code y bytes maxL ret ∈ TT) (hy : y.cls = C ∧ y.cls ≠ "java/lang/invoke/MethodHandle" ∧ y.cls ≠ "java/lang/invoke/VarHandle" ∧ (parseMethodDescriptor y.desc).map (fun d => d.parameters.length) = some n) (hi : i < yn (gl Γ) t) (hc : ∀ f h r, cel (gl Γ) t i f h r = .inr (ci, FS f h r)) (hcl : vwCl[ci]? = some (C, T, N)) (hrc : rm.cells = 0) (hrs : rm.slots = 0) (hR : rm.frames + 1 ≤ fr ∧ 8 + (maxL + 11) + rm.locals ≤ lo) (hn : As.length = n) (hcat : (st.map fun v => v.category).sum ≤ 8) (hd : decode cc pc = .ok (.invokevirtual index, 3)) (hTs : ∃ w0, Ts = w0 :: TT) (hκ : κ.1 ≤ (gRm Γ).cells ∧ κ.2 ≤ (gRm Γ).slots) (k : GG Γ κ σ' (pc + 3) L (res.toList ++ st)) : GG Γ κ σ pc L (As.reverse ++ .ref (ya (gl Γ) t i) :: st) := by
  obtain ⟨p, l, e, R, s, m, args, below, meth, c, Q, Λ, nn⟩ := Γ
  intro H locs ls hW hS hl
  obtain ⟨hx, hb, hml, hnl, hown, hts, hKK, hO, hB, hfr, hlo⟩ := hΓ
  obtain ⟨w0, rfl⟩ := hTs
  subst h1
  subst h2
  have hT : GoodIn (w0 :: TT) (.code y bytes maxL ret :: TT) := TT_in kc
  have hts' : ∀ w ∈ TT, w.before args s = true := fun w hw => hts w (List.mem_cons_of_mem _ hw)
  have hR' : rm.frames + 1 ≤ R.frames ∧ 8 + (maxL + 11) + rm.locals ≤ R.locals := by rw [hfr, hlo]; exact hR
  obtain ⟨q0, hq⟩ := yW_get (σ := σ1) hO hi
  rw [show ce Λ σ1 t i = .inr (ci, FS (σ1.1 t i) (σ1.2.1 t i) (σ1.2.2 i)) from hc _ _ _] at hq
  exact G_back (va_runV (As := As) (rest := st) ⟨hx, hb, hml, hown, hts⟩ hM (by exact ⟨⟨hrc, hrs, hR'.1, hR'.2, pay_in hts hT, List.mem_cons_self, hts' _ kc, hts' _ kn, ⟨hy.2.1, hy.2.2.1⟩, fun sig h => by have h2 := hy.2.2.2; rw [h] at h2; exact (Option.some.inj h2).symm, hts' _ kl⟩, hts' _ ki, hts' _ ks⟩) ⟨PR_blind, va_recv hKK.1 hW hcl hq, fun U hU hWm => ⟨rfl, PR_at hB hW hKK hO hS hU hWm⟩⟩ rfl hn (hl.1.trans hnl) rfl (lv_room hcat) hd ⟨hκ.1, hκ.2⟩) hS hl k
end GK
/-- the contract of CanBits' constructor: of a blank object at h0 it makes the world of a layout -/
def CJ (l : Launch) (y : MethodName) (ws : List Cond) (rm : Room) (D : va_G) (cy : Nat → ClassId) (h0 : Nat) (blank : va_E) (σ : CS) : Prop :=
  Met l y ws rm (va_Pc [.ref h0] (fun U => va_P D vwCl [(h0, blank)] U.heap ∧ K9 D cy U ∧ STA (fun q => h0 ≤ q) U)) (fun _ st oc t => oc = .returned none ∧ (∃ a : Nat → Nat, a 0 = h0 ∧ (∀ j k, j < 933 → k < 933 → a j = a k → j = k) ∧ (∀ k, k < 933 → h0 ≤ a k) ∧ Wd (Lc 933 h0 D cy a) σ t.heap) ∧ va_F (fun q => h0 ≤ q) st t) rm.cells rm.slots (fun q => h0 ≤ q)
theorem qC_self {s : CS} : qC s s = s := by
  obtain ⟨a, b, c⟩ := s
  refine Prod.ext ?_ (Prod.ext ?_ rfl)
  · funext t i
    show (if t < 18 then a t i else a t i) = a t i
    split <;> rfl
  · funext t i
    show (if t < 18 then b t i else b t i) = b t i
    split <;> rfl
set_option maxHeartbeats 4000000 in
set_option maxRecDepth 100000 in
theorem c_X7_init (l : Launch) (D : va_G) (cy : Nat → ClassId) (h0 : Nat) {s1 : CS} (hb : f_X7_begin σ0 2 = some s1) : CJ l yX7_init (.code yX7_init cX7_init 2 none :: TT) ({ frames := 5, cells := 932, slots := 449083, locals := 95 }) D cy h0 (.inr (10, [.null, .null, .null, .null, .null, .null, .null, .null, .int 0, .int 0, .int 0, .int 0, .int 0, .int 0])) (qC σ0 s1) := by
  refine Met.ofW (cc := cX7_init) (maxL := 2) (ret := none) (by decide) rfl ?_
  intro p e s m args below meth c s₁ B hml hv
  obtain ⟨rfl, hP, hK, hZ⟩ := hv
  have hts := atoms_spec (ws := .code yX7_init cX7_init 2 none :: TT) B.pre
  have hown' : s.vm.findClass RX7 = some m.cls := findClass_of_methodNamed B.named
  have hin : meth.name = "<init>" := (name_of_methodNamed B.named B.method).1.trans rfl
  have hl := lv_entry [.ref h0] (n := 2) (Nat.le_of_ble_eq_true rfl)
  have hlt : h0 < s.heap.size := (hP 0 _ rfl).lt
  have hD : va_D (fun q => h0 ≤ q) [(h0, (.inr (10, [.null, .null, .null, .null, .null, .null, .null, .null, .int 0, .int 0, .int 0, .int 0, .int 0, .int 0]) : va_E))] := ⟨fun i j p q hi hj _ => by
    have h1 := (List.getElem?_eq_some_iff.mp hi).1
    have h2 := (List.getElem?_eq_some_iff.mp hj).1
    simp only [List.length_cons, List.length_nil] at h1 h2
    omega, fun k q hk => by
    have h1 := (List.getElem?_eq_some_iff.mp hk).1
    simp only [List.length_cons, List.length_nil] at h1
    have h2 : k = 0 := by omega
    subst h2
    cases hk
    exact Nat.le_refl _⟩
  rw [lg_entry_eq]
  generalize hQ : MQ below (fun _ st oc t => oc = Outcome.returned none ∧ (∃ a : Nat → Nat, a 0 = h0 ∧ (∀ j k, j < 933 → k < 933 → a j = a k → j = k) ∧ (∀ k, k < 933 → h0 ≤ a k) ∧ Wd (Lc 933 h0 D cy a) (qC σ0 s1) t.heap) ∧ va_F (fun q => h0 ≤ q) st t) [Value.ref h0].toArray s 932 449083 (fun q => h0 ≤ q) = Q
  have hΓ : GOw (p, l, e, (headSpec (.code yX7_init cX7_init 2 none :: TT) { frames := 5, cells := 932, slots := 449083, locals := 95 }).room, s, m, [Value.ref h0].toArray, below, meth, c, Q, D, cy, (fun q => h0 ≤ q), 2) cX7_init 2 RX7 (.code yX7_init cX7_init 2 none :: TT) 5 95 932 449083 := ⟨B.exec, B.bytes, hml, rfl, hown', hts, hK, fun q hq => by show h0 ≤ q; omega, rfl, rfl, rfl, rfl⟩
  refine X7_mid hΓ (fun meth' e' => by rw [← e']; exact hin) (by omega) (by omega) (by omega) (by omega) (fun qm ns qf fs x q hns hfs => ?_) s.heap [] _ hP hD va_S.rf hl
  intro H locs ls hP hD hS hl
  have hlen : (busC cy h0 qm ns qf fs x q).length = 933 := by
    unfold busC
    simp [nodesC_len (cy := cy) hns, framesC_len (cy := cy) hfs, writC, arrsC]
  have hget : ∀ k, k < 933 → ∃ e, (busC cy h0 qm ns qf fs x q)[k]? = some (adr (busC cy h0 qm ns qf fs x q) k, e) := fun k hk => by
    have h9 := List.getElem?_eq_getElem (l := busC cy h0 qm ns qf fs x q) (i := k) (by omega)
    exact ⟨_, h9.trans (by rw [adr_of (q := ((busC cy h0 qm ns qf fs x q)[k]'(by omega)).1) (e := ((busC cy h0 qm ns qf fs x q)[k]'(by omega)).2) h9])⟩
  have hinj : ∀ j k, j < 933 → k < 933 → adr (busC cy h0 qm ns qf fs x q) j = adr (busC cy h0 qm ns qf fs x q) k → j = k := fun j k hj hk e9 => by
    obtain ⟨e1, h1⟩ := hget j hj
    obtain ⟨e2, h2⟩ := hget k hk
    exact hD.1 j k _ _ h1 h2 e9
  have hge : ∀ k, k < 933 → h0 ≤ adr (busC cy h0 qm ns qf fs x q) k := fun k hk => by
    obtain ⟨e1, h1⟩ := hget k hk
    exact hD.2 k _ h1
  have hw := busC_all (B := h0) (N := 933) (D := D) (H := H) (x := x) (q := q) (cy := cy) (h0 := h0) (qm := qm) (qf := qf) hns hfs [] (adr (busC cy h0 qm ns qf fs x q)) (fun _ _ => rfl)
  have hW : Wd (Lc 933 h0 D cy (adr (busC cy h0 qm ns qf fs x q))) σ0 H := Lc_Wd (w := busC cy h0 qm ns qf fs x q ++ []) (Or.inl rfl) hinj (fun t i h1 h2 => hw t i h1 (by omega)) (by rw [List.append_nil]; exact hP)
  have hO : LO (Lc 933 h0 D cy (adr (busC cy h0 qm ns qf fs x q))) := Lc_LO (Or.inl rfl) hinj hge
  have hKK : KK (Lc 933 h0 D cy (adr (busC cy h0 qm ns qf fs x q))) s := ⟨hK.1, hK.2.1, hZ⟩
  have hG : GO (p, l, e, (headSpec (.code yX7_init cX7_init 2 none :: TT) { frames := 5, cells := 932, slots := 449083, locals := 95 }).room, s, m, [Value.ref h0].toArray, below, meth, c, Q, Lc 933 h0 D cy (adr (busC cy h0 qm ns qf fs x q)), 2) cX7_init 2 RX7 (.code yX7_init cX7_init 2 none :: TT) 5 95 := ⟨B.exec, B.bytes, hml, rfl, hown', hts, hKK, hO, Nat.le_of_lt hlt, rfl, rfl⟩
  have key : GG (p, l, e, (headSpec (.code yX7_init cX7_init 2 none :: TT) { frames := 5, cells := 932, slots := 449083, locals := 95 }).room, s, m, [Value.ref h0].toArray, below, meth, c, Q, Lc 933 h0 D cy (adr (busC cy h0 qm ns qf fs x q)), 2) (932, 449083) σ0 133 [(1, .int (nI 200)), (0, .ref h0)] [] := by
    refine G_aload_n hG 1 dX7_init_133 rfl ?_
    refine G_iconst (v := 2) hG dX7_init_134 (by decide) ?_
    refine G_callVk hG (n := 1) (As := [.int 2]) (t := 0) (i := 0) (ci := 10) (T := TX7) (N := 14) (FS := fs7 (Lc 933 h0 D cy (adr (busC cy h0 qm ns qf fs x q))) 0) (σ' := (qC σ0 s1)) (c_X7_begin l (Lc 933 h0 D cy (adr (busC cy h0 qm ns qf fs x q))) Lc_FL σ0 σ0 2 hb) qC_self rfl kw_275 kw_277 kp_0 kw_1 kw_278 ⟨rfl, by decide, by decide, by decide +kernel⟩ (FLi Lc_FL (t := 0) (by decide)) (fun _ _ _ => rfl) rfl rfl rfl ⟨Nat.le_of_ble_eq_true rfl, Nat.le_of_ble_eq_true rfl⟩ rfl (Nat.le_of_ble_eq_true rfl) dX7_init_135 ⟨_, rfl⟩ ⟨Nat.le_refl _, Nat.le_refl _⟩ ?_
    intro H locs ls hW hS hl
    subst hQ
    exact W.vret B.exec B.bytes B.returns (fun t ht hW' => ⟨rfl, ⟨_, rfl, hinj, hge, by rw [ht]; exact hW⟩, hS.F ht⟩) hS.2.2 dX7_init_138 B.notSynchronized
  exact key H locs ls hW hS hl
