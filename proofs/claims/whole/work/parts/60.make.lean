/-- the context of a making: machine, end, classes, array classes, which addresses are its own, locals -/
abbrev GY : Type := Program × Launch × Env × Room × State × MethodId × Array Value × List Frame × Method × Code × (State → Prop) × va_G × (Nat → ClassId) × (Nat → Prop) × Nat
def tysW (cy : Nat → ClassId) : List (ClassId × FieldType) := [(cy 0, .int), (cy 1, .byte), (cy 2, .boolean), (cy 3, .long), (cy 4, .object "CanBits$Node"), (cy 5, .object "CanBits$Frame")]
def K9 (D : va_G) (cy : Nat → ClassId) (U : State) : Prop := va_K D vwCl (tysW cy) U ∧ NS U ∧ va_AO "CanBits$Node" U ∧ va_AO "CanBits$Frame" U
theorem K9.at {D : va_G} {cy : Nat → ClassId} {s U : State} (hW : s.WarmedH U.vm) (h : K9 D cy s) : K9 D cy U := ⟨va_K.moved hW.alike h.1, h.2.1.warm hW, h.2.2.1.moved hW.alike, h.2.2.2.moved hW.alike⟩
theorem K9.calling {D : va_G} {cy : Nat → ClassId} {U : State} {g : JFrame} {mk : MethodId} {a : Array Value} (h : K9 D cy U) : K9 D cy (U.calling g mk a) := ⟨va_K.moved (u := U) (U := U.calling g mk a) (Vm.Alike.refl U.vm) h.1, h.2.1.same rfl, h.2.2.1.moved (Vm.Alike.refl U.vm), h.2.2.2.moved (Vm.Alike.refl U.vm)⟩
def yD9 (Γ : GY) : va_G := Γ.2.2.2.2.2.2.2.2.2.2.2.1
def yc9 (Γ : GY) : Nat → ClassId := Γ.2.2.2.2.2.2.2.2.2.2.2.2.1
def yl9 (Γ : GY) : Launch := Γ.2.1
def GOw (Γ : GY) (cc : ByteArray) (nL : Nat) (own : String) (Ts : List Cond) (fr lo rc rs : Nat) : Prop := match Γ with
  | (p, l, e, R, s, m, args, below, meth, c, Q, D, cy, A, n) => p.tables.exec = Jvm.exec ∧ c.code = cc ∧ c.maxLocals = nL ∧ n = nL ∧ s.vm.findClass own = some m.cls ∧ (∀ w ∈ Ts, w.before args s = true) ∧ K9 D cy s ∧ (∀ q, s.heap.size ≤ q → A q) ∧ R.frames = fr ∧ R.locals = lo ∧ R.cells = rc ∧ R.slots = rs
def GW (Γ : GY) (κ : Nat × Nat) (w : va_W) (pc : Nat) (L : List (Nat × Value)) (st : List Value) : Prop := match Γ with
  | (p, l, e, R, s, m, args, below, meth, c, Q, D, cy, A, n) => ∀ (H : Heap) (locs : List Loc) (ls : Array Slot), va_P D vwCl w H → va_D A w → va_S A s.heap H locs → lv_has ls n L → W p l e R s m args below meth c H locs κ.1 κ.2 Q (F0 m pc ls st)
section GWr
variable {Γ : GY} {κ : Nat × Nat} {w : va_W} {pc nL : Nat} {L : List (Nat × Value)} {st : List Value} {cc : ByteArray} {own : String} {Ts : List Cond} {fr lo rc rs : Nat}
theorem W_iconst (hΓ : GOw Γ cc nL own Ts fr lo rc rs) {n : Int} {v : Int32} (hd : decode cc pc = .ok (.iconst n, 1)) (hv : Int32.ofInt n = v) (k : GW Γ κ w (pc + 1) L (.int v :: st)) : GW Γ κ w pc L (st) := by
  obtain ⟨p, l, e, R, s, m, args, below, meth, c, Q, D, cy, A, n⟩ := Γ
  intro H locs ls hP hD hS hl
  exact lv_iconst hΓ.1 hΓ.2.1 hd hv (k H locs ls hP hD hS hl)
theorem W_bipush (hΓ : GOw Γ cc nL own Ts fr lo rc rs) {n : Int} {v : Int32} (hd : decode cc pc = .ok (.bipush n, 2)) (hv : (Int8.ofInt n).toInt32 = v) (k : GW Γ κ w (pc + 2) L (.int v :: st)) : GW Γ κ w pc L (st) := by
  obtain ⟨p, l, e, R, s, m, args, below, meth, c, Q, D, cy, A, n⟩ := Γ
  intro H locs ls hP hD hS hl
  exact lv_bipush hΓ.1 hΓ.2.1 hd hv (k H locs ls hP hD hS hl)
theorem W_sipush (hΓ : GOw Γ cc nL own Ts fr lo rc rs) {n : Int} {v : Int32} (hd : decode cc pc = .ok (.sipush n, 3)) (hv : (Int16.ofInt n).toInt32 = v) (k : GW Γ κ w (pc + 3) L (.int v :: st)) : GW Γ κ w pc L (st) := by
  obtain ⟨p, l, e, R, s, m, args, below, meth, c, Q, D, cy, A, n⟩ := Γ
  intro H locs ls hP hD hS hl
  exact lv_sipush hΓ.1 hΓ.2.1 hd hv (k H locs ls hP hD hS hl)
theorem W_isub (hΓ : GOw Γ cc nL own Ts fr lo rc rs) {x y : Int32} (hd : decode cc pc = .ok (.isub, 1)) (k : GW Γ κ w (pc + 1) L (.int (x - y) :: st)) : GW Γ κ w pc L (.int y :: .int x :: st) := by
  obtain ⟨p, l, e, R, s, m, args, below, meth, c, Q, D, cy, A, n⟩ := Γ
  intro H locs ls hP hD hS hl
  exact lv_isub hΓ.1 hΓ.2.1 hd (k H locs ls hP hD hS hl)
theorem W_ishl (hΓ : GOw Γ cc nL own Ts fr lo rc rs) {x y : Int32} (hd : decode cc pc = .ok (.ishl, 1)) (k : GW Γ κ w (pc + 1) L (.int (x <<< (y &&& 31)) :: st)) : GW Γ κ w pc L (.int y :: .int x :: st) := by
  obtain ⟨p, l, e, R, s, m, args, below, meth, c, Q, D, cy, A, n⟩ := Γ
  intro H locs ls hP hD hS hl
  exact lv_ishl hΓ.1 hΓ.2.1 hd (k H locs ls hP hD hS hl)
theorem W_dup (hΓ : GOw Γ cc nL own Ts fr lo rc rs) {u : Value} (hd : decode cc pc = .ok (.dup, 1)) (hu : u.category = 1) (k : GW Γ κ w (pc + 1) L (u :: u :: st)) : GW Γ κ w pc L (u :: st) := by
  obtain ⟨p, l, e, R, s, m, args, below, meth, c, Q, D, cy, A, n⟩ := Γ
  intro H locs ls hP hD hS hl
  exact lv_dup hΓ.1 hΓ.2.1 hd hu (k H locs ls hP hD hS hl)
theorem W_ldc (hΓ : GOw Γ cc nL own Ts fr lo rc rs) {index : Nat} {v : Int32} (hc : Cond.constant own index v ∈ Ts) (hd : decode cc pc = .ok (.ldc index, 2)) (k : GW Γ κ w (pc + 2) L (.int v :: st)) : GW Γ κ w pc L st := by
  obtain ⟨p, l, e, R, s, m, args, below, meth, c, Q, D, cy, A, n⟩ := Γ
  intro H locs ls hP hD hS hl
  exact lv_ldc hΓ.1 hΓ.2.1 hΓ.2.2.2.2.1 (hΓ.2.2.2.2.2.1 _ hc) hd (k H locs ls hP hD hS hl)
theorem W_iload_n (hΓ : GOw Γ cc nL own Ts fr lo rc rs) {j : Fin 4} {x : Int32} (k0 : Nat) (hd : decode cc pc = .ok (.iload_n j, 1)) (hx : L[k0]? = some ((j : Nat), .int x)) (k : GW Γ κ w (pc + 1) L (.int x :: st)) : GW Γ κ w pc L st := by
  obtain ⟨p, l, e, R, s, m, args, below, meth, c, Q, D, cy, A, n⟩ := Γ
  intro H locs ls hP hD hS hl
  exact lv_iload_n hΓ.1 hΓ.2.1 hd rfl (lv_at hl k0 hx) (k H locs ls hP hD hS hl)
theorem W_aload_n (hΓ : GOw Γ cc nL own Ts fr lo rc rs) {j : Fin 4} {x : Nat} (k0 : Nat) (hd : decode cc pc = .ok (.aload_n j, 1)) (hx : L[k0]? = some ((j : Nat), .ref x)) (k : GW Γ κ w (pc + 1) L (.ref x :: st)) : GW Γ κ w pc L st := by
  obtain ⟨p, l, e, R, s, m, args, below, meth, c, Q, D, cy, A, n⟩ := Γ
  intro H locs ls hP hD hS hl
  exact lv_aload_n hΓ.1 hΓ.2.1 hd rfl (lv_at hl k0 hx) (k H locs ls hP hD hS hl)
theorem W_objInit (hΓ : GOw Γ cc nL own Ts fr lo rc rs) {h idx : Nat} (k1 : Cond.methodLink own idx objectInit ∈ Ts) (k2 : Cond.instanceMethod objectInit ∈ Ts) (k3 : Cond.code objectInit ⟨#[0xb1]⟩ 1 none ∈ Ts) (hd : decode cc pc = .ok (.invokespecial idx, 3)) (hf : 1 ≤ fr) (hlc : (st.map fun v => v.category).sum + 12 ≤ lo) (k : GW Γ κ w (pc + 3) L st) : GW Γ κ w pc L (.ref h :: st) := by
  obtain ⟨p, l, e, R, s, m, args, below, meth, c, Q, D, cy, A, n⟩ := Γ
  intro H locs ls hP hD hS hl
  obtain ⟨hx, hb, hml, hnl, hown, hts, hK, hA, hfr, hlo, hrc, hrs⟩ := hΓ
  exact W.objInit hx hb hown (hts _ k1) (hts _ k2) (hts _ k3) rfl (hl.1.trans (hnl.trans hml.symm)) rfl hd (by rw [hfr]; exact hf) (by rw [hlo]; show 2 * 0 + _ + 12 ≤ lo; omega) (k H locs ls hP hD hS hl)
theorem W_new (hΓ : GOw Γ cc nL own Ts fr lo rc rs) {index ci N : Nat} {C : String} {T : u_T} {fs : List Value} (ty : Nat → FieldType) (hty : ∀ k, k < N → parseFieldDescriptor (T k).2.2.1 = some (ty k)) (hin : ∀ w ∈ u_ws C T N, w ∈ Ts) (kl : Cond.classLink own index C ∈ Ts) (ki : Cond.instantiable C N ∈ Ts) (kn : Cond.initialized C ∈ Ts) (hc : vwCl[ci]? = some (C, T, N)) (hfs : ∀ j, j < N → defaultValue (ty j) = vp_V fs j) (hcells : κ.1 + 1 ≤ rc) (hslots : κ.2 + N ≤ rs) (hd : decode cc pc = .ok (.new index, 3))
    (k : ∀ q : Nat, GW Γ (κ.1 + 1, κ.2 + N) (w ++ [(q, .inr (ci, fs))]) (pc + 3) L (.ref q :: st)) : GW Γ κ w pc L st := by
  obtain ⟨p, l, e, R, s, m, args, below, meth, c, Q, D, cy, A, n⟩ := Γ
  intro H locs ls hP hD hS hl
  obtain ⟨hx, hb, hml, hnl, hown, hts, hK, hA, hfr, hlo, hrc, hrs⟩ := hΓ
  exact va_new hx hb hts hin ty hty hown (hts _ kl) (hts _ ki) (hts _ kn) hK.1 hP hD hS hA hc hfs (by rw [hrc]; exact hcells) (by rw [hrs]; exact hslots) hd (fun q H1 hP1 hD1 hS1 => k q H1 locs ls hP1 hD1 hS1 hl)
theorem W_newa (hΓ : GOw Γ cc nL own Ts fr lo rc rs) {atype : ArrayType} {ty : FieldType} {n : Int32} {N t0 : Nat} (kc : Cond.arrayClass (newarray.typeOf atype) ∈ Ts) (hty : newarray.typeOf atype = ty) (ht : ∀ cy : Nat → ClassId, (tysW cy)[t0]? = some (cy t0, ty)) (hpr : ∀ C, ty ≠ .object C) (a0 : vp_A) (ha : ∀ cA : ClassId, vp_cell cA a0 = arrV cA N (fun _ => defaultValue ty)) (hn : ¬ n < 0) (hN : n.toNatClampNeg = N) (hbytes : N * componentBytes ty ≤ 536870912) (hcells : κ.1 + 1 ≤ rc) (hslots : κ.2 + N ≤ rs) (hd : decode cc pc = .ok (.newarray atype, 2))
    (k : ∀ q : Nat, GW Γ (κ.1 + 1, κ.2 + N) (w ++ [(q, .inl (yc9 Γ t0, a0))]) (pc + 2) L (.ref q :: st)) : GW Γ κ w pc L (.int n :: st) := by
  obtain ⟨p, l, e, R, s, m, args, below, meth, c, Q, D, cy, A, n'⟩ := Γ
  intro H locs ls hP hD hS hl
  obtain ⟨hx, hb, hml, hnl, hown, hts, hK, hA, hfr, hlo, hrc, hrs⟩ := hΓ
  refine va_newa hx hb (hts _ kc) hty hK.1 hP hD hS hA ha hn hN hbytes (by rw [hrc]; exact hcells) (by rw [hrs]; exact hslots) hd (fun q cA H1 hK1 hP1 hD1 hS1 => ?_)
  have h1 : va_RA s cA ty := (hK1.2 (tysW cy).length (cA, ty) (by simp)).2
  have h2 : va_RA s (cy t0) ty := (hK.1.2 t0 _ (ht cy)).2
  have e1 : cA = cy t0 := by
    cases ty with
    | object C => exact absurd rfl (hpr C)
    | _ => exact Option.some.inj (h1.symm.trans h2)
  subst e1
  exact k q H1 locs ls hP1 hD1 hS1 hl
theorem W_putF (hΓ : GOw Γ cc nL own Ts fr lo rc rs) {ci N index h : Nat} {C : String} {T : u_T} {fs : List Value} {ty : FieldType} {v : Value} (w' : va_W) (ty0 : Nat → FieldType) (hty : ∀ k, k < N → parseFieldDescriptor (T k).2.2.1 = some (ty0 k)) (hnm : ∀ a, a < N → ∀ b, b < N → a ≠ b → (T a).2.1 ≠ (T b).2.1) (hin : ∀ w ∈ u_ws C T N, w ∈ Ts) (hc : vwCl[ci]? = some (C, T, N)) (q0 : Nat) (he : w[q0]? = some (h, .inr (ci, fs))) (kf : Nat) (hk : kf < N) (kl : Cond.fieldLink own index (T kf).1 (T kf).2.1 (T kf).2.2.1 ∈ Ts) (hfin : (T kf).2.2.2 = true) (hnam : ∀ meth : Method, (match Γ with | (_, _, _, _, _, _, _, _, mm, _) => mm) = meth → meth.name = "<init>") (hdecl : (T kf).1 = own) (hd2 : parseFieldDescriptor (T kf).2.2.1 = some ty) (hnar : narrow ty v = v) (hfit : fits ty v = true) (hlen : kf < fs.length) (hw : w.set q0 (h, .inr (ci, fs.set kf v)) = w') (hd : decode cc pc = .ok (.putfield index, 3)) (k : GW Γ κ w' (pc + 3) L st) : GW Γ κ w pc L (v :: .ref h :: st) := by
  obtain ⟨p, l, e, R, s, m, args, below, meth, c, Q, D, cy, A, n⟩ := Γ
  subst hw
  intro H locs ls hP hD hS hl
  obtain ⟨hx, hb, hml, hnl, hown, hts, hK, hA, hfr, hlo, hrc, hrs⟩ := hΓ
  exact va_putF (D := D) hx hb hts hin ty0 hty hnm hown hK.1 hP hD hS q0 he hc kf hk (hts _ kl) (fun _ h9 => h9) hfin (hnam meth rfl) hdecl hd2 hnar hfit hlen hd (fun H1 locs1 hP1 hD1 hS1 => k H1 locs1 ls hP1 hD1 hS1 hl)
theorem W_put (hΓ : GOw Γ cc nL own Ts fr lo rc rs) {ci N index h : Nat} {C : String} {T : u_T} {fs : List Value} {ty : FieldType} {v : Value} (w' : va_W) (ty0 : Nat → FieldType) (hty : ∀ k, k < N → parseFieldDescriptor (T k).2.2.1 = some (ty0 k)) (hnm : ∀ a, a < N → ∀ b, b < N → a ≠ b → (T a).2.1 ≠ (T b).2.1) (hin : ∀ w ∈ u_ws C T N, w ∈ Ts) (hc : vwCl[ci]? = some (C, T, N)) (q0 : Nat) (he : w[q0]? = some (h, .inr (ci, fs))) (kf : Nat) (hk : kf < N) (kl : Cond.fieldLink own index (T kf).1 (T kf).2.1 (T kf).2.2.1 ∈ Ts) (hfin : (T kf).2.2.2 = false) (hd2 : parseFieldDescriptor (T kf).2.2.1 = some ty) (hnar : narrow ty v = v) (hfit : fits ty v = true) (hlen : kf < fs.length) (hw : w.set q0 (h, .inr (ci, fs.set kf v)) = w') (hd : decode cc pc = .ok (.putfield index, 3)) (k : GW Γ κ w' (pc + 3) L st) : GW Γ κ w pc L (v :: .ref h :: st) := by
  obtain ⟨p, l, e, R, s, m, args, below, meth, c, Q, D, cy, A, n⟩ := Γ
  subst hw
  intro H locs ls hP hD hS hl
  obtain ⟨hx, hb, hml, hnl, hown, hts, hK, hA, hfr, hlo, hrc, hrs⟩ := hΓ
  exact va_put (D := D) hx hb hts hin ty0 hty hnm hown hK.1 hP hD hS q0 he hc kf hk (hts _ kl) (fun _ h9 => h9) hfin hd2 hnar hfit hlen hd (fun H1 locs1 hP1 hD1 hS1 => k H1 locs1 ls hP1 hD1 hS1 hl)
end GWr
/-- a constructor's contract: of a blank object at h0 it makes the cells 'post a' -/
def CI (l : Launch) (y : MethodName) (ws : List Cond) (rm : Room) (D : va_G) (cy : Nat → ClassId) (sz h0 : Nat) (blank : va_E) (As : List Value) (post : (Nat → Nat) → va_W) : Prop :=
  Met l y ws rm (va_Pc (.ref h0 :: As) (fun U => U.heap.size = sz ∧ va_P D vwCl [(h0, blank)] U.heap ∧ K9 D cy U)) (fun _ st oc t => oc = .returned none ∧ (∃ a : Nat → Nat, va_P D vwCl (post a) t.heap ∧ va_D (va_A [(h0, blank)] sz) (post a)) ∧ va_F (va_A [(h0, blank)] sz) st t) rm.cells rm.slots (va_A [(h0, blank)] sz)
def GEw (Γ : GY) (post : (Nat → Nat) → va_W) (mc ms : Nat) : Prop := match Γ with
  | (_, _, _, _, s, _, args, below, meth, _, Q, D, _, A, _) => meth.sig.returnType = none ∧ Q = MQ below (fun _ st oc t => oc = .returned none ∧ (∃ a : Nat → Nat, va_P D vwCl (post a) t.heap ∧ va_D A (post a)) ∧ va_F A st t) args s mc ms A ∧ meth.locks = false
def gm9 (Γ : GY) : Method := match Γ with | (_, _, _, _, _, _, _, _, mm, _) => mm
theorem CI_intro {l : Launch} {y : MethodName} {cc : ByteArray} {maxL : Nat} {rm : Room} {D : va_G} {cy : Nat → ClassId} {sz h0 : Nat} {blank : va_E} {As : List Value} {post : (Nat → Nat) → va_W} {own : String} (hy : plainName y.cls = true) (hown : y.cls = own) (hnm : y.name = "<init>") (hlen : (lg_sl (.ref h0 :: As)).length ≤ maxL)
    (body : ∀ Γ : GY, yD9 Γ = D → yc9 Γ = cy → yl9 Γ = l → GOw Γ cc maxL own (.code y cc maxL none :: TT) rm.frames rm.locals rm.cells rm.slots → (∀ meth : Method, (match Γ with | (_, _, _, _, _, _, _, _, mm, _) => mm) = meth → meth.name = "<init>") → GEw Γ post rm.cells rm.slots → GW Γ (0, 0) [(h0, blank)] 0 (lv_args 0 (.ref h0 :: As)) []) : CI l y (.code y cc maxL none :: TT) rm D cy sz h0 blank As post := by
  refine Met.ofW (cc := cc) (maxL := maxL) (ret := none) hy rfl ?_
  intro p e s m args below meth c s₁ B hml hv
  obtain ⟨rfl, hsz, hP, hK⟩ := hv
  subst hsz
  have hts := atoms_spec (ws := .code y cc maxL none :: TT) B.pre
  have hown' : s.vm.findClass own = some m.cls := hown ▸ findClass_of_methodNamed B.named
  have hin : meth.name = "<init>" := (name_of_methodNamed B.named B.method).1.trans hnm
  have hl := lv_entry (.ref h0 :: As) (n := maxL) hlen
  have hD : va_D (va_A [(h0, blank)] s.heap.size) [(h0, blank)] := ⟨fun i j p q hi hj _ => by
    have h1 := (List.getElem?_eq_some_iff.mp hi).1
    have h2 := (List.getElem?_eq_some_iff.mp hj).1
    simp only [List.length_cons, List.length_nil] at h1 h2
    omega, fun k q hk => va_A.in hk⟩
  rw [lg_entry_eq]
  exact body (p, l, e, (headSpec (.code y cc maxL none :: TT) rm).room, s, m, (.ref h0 :: As).toArray, below, meth, c, MQ below (fun _ st oc t => oc = .returned none ∧ (∃ a : Nat → Nat, va_P D vwCl (post a) t.heap ∧ va_D (va_A [(h0, blank)] s.heap.size) (post a)) ∧ va_F (va_A [(h0, blank)] s.heap.size) st t) (.ref h0 :: As).toArray s rm.cells rm.slots (va_A [(h0, blank)] s.heap.size), D, cy, va_A [(h0, blank)] s.heap.size, maxL) rfl rfl rfl ⟨B.exec, B.bytes, hml, rfl, hown', hts, hK, fun q hq => Or.inr hq, rfl, rfl, rfl, rfl⟩ (fun meth' e' => by rw [← e']; exact hin) ⟨B.returns, rfl, B.notSynchronized⟩ s.heap [] _ hP hD va_S.rf hl
section GWe
variable {Γ : GY} {κ : Nat × Nat} {w : va_W} {pc nL : Nat} {L : List (Nat × Value)} {st : List Value} {cc : ByteArray} {own : String} {fr lo rc rs : Nat} {w0 : Cond}
theorem W_vret (hΓ : GOw Γ cc nL own (w0 :: TT) fr lo rc rs) {post : (Nat → Nat) → va_W} (hE : GEw Γ post rc rs) (a : Nat → Nat) (hw : w = post a) (hκ : κ.1 ≤ rc ∧ κ.2 ≤ rs) (hd : decode cc pc = .ok (.return_, 1)) : GW Γ κ w pc L [] := by
  obtain ⟨p, l, e, R, s, m, args, below, meth, c, Q, D, cy, A, n⟩ := Γ
  obtain ⟨hr, hQ, hlk⟩ := hE
  subst hQ
  subst hw
  intro H locs ls hP hD hS hl
  refine W.widen (k := rc) (n := rs) hκ.1 hκ.2 ?_
  exact W.vret hΓ.1 hΓ.2.1 hr (fun t ht hW' => ⟨rfl, ⟨a, by rw [ht]; exact hP, hD⟩, hS.F ht⟩) hS.2.2 hd hlk
/-- the end of a making: the old cells and the new ones -/
theorem W_join {p : Program} {l : Launch} {e : Env} {R : Room} {s : State} {m : MethodId} {args : Array Value} {below : List Frame} {meth : Method} {c : Code} {Q : State → Prop} {D : va_G} {cy : Nat → ClassId} {A : Nat → Prop} {n q mc ms : Nat} {blank : va_E} {post : (Nat → Nat) → va_W} {st0 : List Value} {H : Heap} {locs : List Loc} {ls : Array Slot}
    (hr : va_Run p l e R s m args below meth c H locs κ.1 κ.2 mc ms (F0 m pc ls st0) st (fun st oc t => oc = .returned none ∧ (∃ a : Nat → Nat, va_P D vwCl (post a) t.heap ∧ va_D (va_A [(q, blank)] H.size) (post a)) ∧ va_F (va_A [(q, blank)] H.size) st t) (va_A [(q, blank)] H.size)) (hA : ∀ x, s.heap.size ≤ x → A x) (hP : va_P D vwCl (w ++ [(q, blank)]) H) (hD : va_D A (w ++ [(q, blank)])) (hS : va_S A s.heap H locs) (hl : lv_has ls n L)
    (k : ∀ a : Nat → Nat, GW (p, l, e, R, s, m, args, below, meth, c, Q, D, cy, A, n) (κ.1 + mc, κ.2 + ms) (w ++ post a) (pc + 3) L st) : W p l e R s m args below meth c H locs κ.1 κ.2 Q (F0 m pc ls st0) := by
  intro T hT X
  obtain ⟨v, st₀, t, T', Lc, h0, X', hL, e1, e2, ⟨hv, ⟨a, hPa, hDa⟩, hz, hk⟩, stp⟩ := hr T hT X
  cases hv
  rw [h0] at hz hk
  have hq : (w ++ [(q, blank)])[w.length]? = some (q, blank) := by simp
  have hAq : A q := hD.2 w.length _ hq
  have hfree : ∀ x, va_A [(q, blank)] H.size x → A x := fun x hx => by
    rcases hx with ⟨k9, e9, h9⟩ | h9
    · have h8 : k9 = 0 := by
        have := (List.getElem?_eq_some_iff.mp h9).1
        simp only [List.length_cons, List.length_nil] at this
        omega
      subst h8
      cases h9
      exact hAq
    · exact hA x (Nat.le_trans hS.1 h9)
  have hold : ∀ (i : Nat) (x : Nat × va_E), w[i]? = some x → x.1 < H.size ∧ ¬ va_A [(q, blank)] H.size x.1 := fun i x hi => by
    have hi2 : (w ++ [(q, blank)])[i]? = some x := by rw [List.getElem?_append_left (List.getElem?_eq_some_iff.mp hi).1]; exact hi
    have hlt : x.1 < H.size := (hP i x hi2).lt
    refine ⟨hlt, fun hx => ?_⟩
    rcases hx with ⟨k9, e9, h9⟩ | h9
    · have h8 : k9 = 0 := by
        have := (List.getElem?_eq_some_iff.mp h9).1
        simp only [List.length_cons, List.length_nil] at this
        omega
      subst h8
      have e7 : x.1 = q := by cases h9; rfl
      have := hD.1 i w.length x (q, blank) hi2 hq e7
      have h6 := (List.getElem?_eq_some_iff.mp hi).1
      omega
    · omega
  have hP1 : va_P D vwCl (w ++ post a) T'.heap := by
    refine va_P.app (fun i x hi => ?_) (by rw [e1]; exact hPa)
    have hi2 : (w ++ [(q, blank)])[i]? = some x := by rw [List.getElem?_append_left (List.getElem?_eq_some_iff.mp hi).1]; exact hi
    refine (hP i x hi2).kept ?_
    rw [e1]
    exact hk x.1 (hold i x hi).1 (hold i x hi).2
  have hDw : va_D A w := ⟨fun i j p q hi hj e => hD.1 i j p q (by rw [List.getElem?_append_left (List.getElem?_eq_some_iff.mp hi).1]; exact hi) (by rw [List.getElem?_append_left (List.getElem?_eq_some_iff.mp hj).1]; exact hj) e, fun i x hi => hD.2 i x (by rw [List.getElem?_append_left (List.getElem?_eq_some_iff.mp hi).1]; exact hi)⟩
  have hD1 : va_D A (w ++ post a) := va_D.app hDw (hDa.weaken fun _ _ _ hx => hfree _ hx) (fun i j x y hi hj e => (hold i x hi).2 (by rw [e]; exact hDa.2 j y hj))
  have hS' : va_S A s.heap T'.heap (locs ++ Lc) := ⟨Nat.le_trans hS.1 (by rw [e1]; exact hz), fun x h1 h2 => by rw [e1, hk x (Nat.lt_of_lt_of_le h1 hS.1) (fun h => h2 (hfree x h))]; exact hS.2.1 x h1 h2, fun x hx => (List.mem_append.mp hx).elim (hS.2.2 x) (fun h => hfree _ (hL x h))⟩
  obtain ⟨t2, a1, b1⟩ := k a T'.heap (locs ++ Lc) ls hP1 hD1 hS' hl T' rfl X'
  exact ⟨t2, stp t2 a1, b1⟩
theorem CI_blind {D : va_G} {cy : Nat → ClassId} {sz h0 : Nat} {blank : va_E} {av : List Value} : FrameBlind (va_Pc av (fun U => U.heap.size = sz ∧ va_P D vwCl [(h0, blank)] U.heap ∧ K9 D cy U)) := fun a U g mk q => by
  obtain ⟨q0, q1, q2, q3⟩ := q
  exact ⟨q0, q1, q2, q3.calling⟩
theorem last_P {D : va_G} {q : Nat} {blank : va_E} {H : Heap} (h : va_P D vwCl (w ++ [(q, blank)]) H) : va_P D vwCl [(q, blank)] H := fun k x hk => by
  have h1 := (List.getElem?_eq_some_iff.mp hk).1
  simp only [List.length_cons, List.length_nil] at h1
  have h2 : k = 0 := by omega
  subst h2
  exact h w.length x (by simpa using hk)
theorem W_ctor (hΓ : GOw Γ cc nL own (w0 :: TT) fr lo rc rs) {y : MethodName} {bytes : ByteArray} {maxL n index q : Nat} {rm : Room} {blank : va_E} {As : List Value} {post : (Nat → Nat) → va_W} (hM : ∀ sz, CI (yl9 Γ) y (.code y bytes maxL none :: TT) rm (yD9 Γ) (yc9 Γ) sz q blank As post)
    (kl : Cond.methodLink own index y ∈ TT) (ki : Cond.instanceMethod y ∈ TT) (kn : Cond.initialized y.cls ∈ TT) (kc : Cond.code y bytes maxL none ∈ TT) (hnm : y.name = "<init>") (hy : y.cls ≠ "java/lang/invoke/MethodHandle" ∧ y.cls ≠ "java/lang/invoke/VarHandle" ∧ (parseMethodDescriptor y.desc).map (fun d => d.parameters.length) = some n) (hR : rm.frames + 1 ≤ fr ∧ 8 + (maxL + 11) + rm.locals ≤ lo) (hcs : κ.1 + rm.cells ≤ rc ∧ κ.2 + rm.slots ≤ rs) (hn : As.length = n) (hcat : (st.map fun v => v.category).sum ≤ 8) (hd : decode cc pc = .ok (.invokespecial index, 3)) (k : ∀ a : Nat → Nat, GW Γ (κ.1 + rm.cells, κ.2 + rm.slots) (w ++ post a) (pc + 3) L st) : GW Γ κ (w ++ [(q, blank)]) pc L (As.reverse ++ .ref q :: st) := by
  obtain ⟨p, l, e, R, s, m, args, below, meth, c, Q, D, cy, A, nn⟩ := Γ
  intro H locs ls hP hD hS hl
  obtain ⟨hx, hb, hml, hnl, hown, hts, hK, hA, hfr, hlo, hrc, hrs⟩ := hΓ
  have hT : GoodIn (w0 :: TT) (.code y bytes maxL none :: TT) := TT_in kc
  have hts' : ∀ w ∈ TT, w.before args s = true := fun w hw => hts w (List.mem_cons_of_mem _ hw)
  have hR' : rm.frames + 1 ≤ R.frames ∧ 8 + (maxL + 11) + rm.locals ≤ R.locals := by rw [hfr, hlo]; exact hR
  exact W_join (D := D) (cy := cy) (q := q) (blank := blank) (post := post) (mc := rm.cells) (ms := rm.slots) (va_runI (l := l) (As := As) (rest := st) ⟨hx, hb, hml, hown, hts⟩ (hM H.size) ⟨⟨rfl, rfl, hR'.1, hR'.2, pay_in hts hT, List.mem_cons_self, hts' _ kc, hts' _ kn, ⟨hy.1, hy.2.1⟩, fun sig h => by have h2 := hy.2.2; rw [h] at h2; exact (Option.some.inj h2).symm, hts' _ kl⟩, hnm, hts' _ ki⟩ ⟨CI_blind, fun U hU hWm => ⟨rfl, by rw [hU], by rw [hU]; exact last_P hP, hK.at hWm⟩⟩ rfl hn (hl.1.trans hnl) rfl (lv_room hcat) hd ⟨by rw [hrc]; exact hcs.1, by rw [hrs]; exact hcs.2⟩) hA hP hD hS hl k
theorem W_ctorN (hΓ : GOw Γ cc nL own (w0 :: TT) fr lo rc rs) {y : MethodName} {bytes : ByteArray} {maxL n index q : Nat} {host : String} {rm : Room} {blank : va_E} {As : List Value} {post : (Nat → Nat) → va_W} (hM : ∀ sz, CI (yl9 Γ) y (.code y bytes maxL none :: TT) rm (yD9 Γ) (yc9 Γ) sz q blank As post)
    (k9 : Nat) (kl : NM[k9]? = some (own, index, y, host)) (ki : Cond.instanceMethod y ∈ TT) (kn : Cond.initialized y.cls ∈ TT) (kc : Cond.code y bytes maxL none ∈ TT) (hnm : y.name = "<init>") (hy : y.cls ≠ "java/lang/invoke/MethodHandle" ∧ y.cls ≠ "java/lang/invoke/VarHandle" ∧ (parseMethodDescriptor y.desc).map (fun d => d.parameters.length) = some n) (hR : rm.frames + 1 ≤ fr ∧ 8 + (maxL + 11) + rm.locals ≤ lo) (hcs : κ.1 + rm.cells ≤ rc ∧ κ.2 + rm.slots ≤ rs) (hn : As.length = n) (hcat : (st.map fun v => v.category).sum ≤ 8) (hd : decode cc pc = .ok (.invokespecial index, 3)) (k : ∀ a : Nat → Nat, GW Γ (κ.1 + rm.cells, κ.2 + rm.slots) (w ++ post a) (pc + 3) L st) : GW Γ κ (w ++ [(q, blank)]) pc L (As.reverse ++ .ref q :: st) := by
  obtain ⟨p, l, e, R, s, m, args, below, meth, c, Q, D, cy, A, nn⟩ := Γ
  intro H locs ls hP hD hS hl
  obtain ⟨hx, hb, hml, hnl, hown, hts, hK, hA, hfr, hlo, hrc, hrs⟩ := hΓ
  have hT : GoodIn (w0 :: TT) (.code y bytes maxL none :: TT) := TT_in kc
  have hts' : ∀ w ∈ TT, w.before args s = true := fun w hw => hts w (List.mem_cons_of_mem _ hw)
  have hR' : rm.frames + 1 ≤ R.frames ∧ 8 + (maxL + 11) + rm.locals ≤ R.locals := by rw [hfr, hlo]; exact hR
  exact W_join (D := D) (cy := cy) (q := q) (blank := blank) (post := post) (mc := rm.cells) (ms := rm.slots) (va_runIN (l := l) (As := As) (rest := st) ⟨hx, hb, hml, hown, hts⟩ (hM H.size) ⟨va_cnB n hts hT rfl rfl rfl (hK.2.1.2 _ (List.mem_of_getElem? kl)) (hts' _ kn) hy hR', hnm, hts' _ ki⟩ ⟨CI_blind, fun U hU hWm => ⟨rfl, by rw [hU], by rw [hU]; exact last_P hP, hK.at hWm⟩⟩ rfl hn (hl.1.trans hnl) rfl (lv_room hcat) hd ⟨by rw [hrc]; exact hcs.1, by rw [hrs]; exact hcs.2⟩) hA hP hD hS hl k
end GWe
