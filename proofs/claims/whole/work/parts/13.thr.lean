/-- the classes thrown, by number -/
def xn (e : Nat) : String := match e with
  | 1 => "java/lang/IndexOutOfBoundsException"
  | 2 => "java/lang/IllegalArgumentException"
  | 3 => "java/lang/IllegalStateException"
  | 4 => "java/lang/NegativeArraySizeException"
  | _ => "java/lang/ArrayIndexOutOfBoundsException"
def XS : List (String × Nat × String) := [("CanBits", 54, "more than 32 nodes"), ("CanBits", 61, "fewer than 0 nodes"), ("CanBits", 251, "no such node"), ("CanBits", 67, "no such kind"), ("CanBits", 74, "the identifier has more bits"), ("CanBits", 76, "the length is not 0 .. 15"), ("CanBits", 84, "there are 200 frames"), ("CanBits", 253, "no such frame"), ("CanBits", 125, "no such octet"), ("CanBits", 128, "the octet is not 0 .. 255"), ("CanBits", 141, "the frame is being sent or done"), ("CanBits", 158, "the bit time has gone by or is above 19999"), ("CanBits", 168, "fewer than 0 bits"), ("CanBits", 170, "more than 20000 bits"), ("CanBits", 191, "the bit time has not gone by"), ("CanBits", 194, "no such check"), ("CanBits", 196, "not 0 <= from <= to <= time()"), ("CanBits", 255, "no such thing told"), ("CanBits", 257, "no such thing to tell")]
def XK : List (String × String) := [("java/lang/NegativeArraySizeException", "java/lang/NegativeArraySizeException"), ("java/lang/IllegalArgumentException", "java/lang/IllegalArgumentException"), ("java/lang/ArrayIndexOutOfBoundsException", "java/lang/ArrayIndexOutOfBoundsException"), ("java/lang/IndexOutOfBoundsException", "java/lang/IndexOutOfBoundsException"), ("java/lang/IllegalStateException", "java/lang/IllegalStateException"), ("java/lang/ArrayIndexOutOfBoundsException", "java/lang/IndexOutOfBoundsException")]
def XN : List (String × String) := [("java/lang/ArrayIndexOutOfBoundsException", "java/lang/IllegalArgumentException"), ("java/lang/ArrayIndexOutOfBoundsException", "java/lang/IllegalStateException"), ("java/lang/ArrayIndexOutOfBoundsException", "java/lang/NegativeArraySizeException"), ("java/lang/IllegalArgumentException", "java/lang/ArrayIndexOutOfBoundsException"), ("java/lang/IllegalArgumentException", "java/lang/IllegalStateException"), ("java/lang/IllegalArgumentException", "java/lang/IndexOutOfBoundsException"), ("java/lang/IllegalArgumentException", "java/lang/NegativeArraySizeException"), ("java/lang/IllegalStateException", "java/lang/ArrayIndexOutOfBoundsException"), ("java/lang/IllegalStateException", "java/lang/IllegalArgumentException"), ("java/lang/IllegalStateException", "java/lang/IndexOutOfBoundsException"), ("java/lang/IllegalStateException", "java/lang/NegativeArraySizeException"), ("java/lang/IndexOutOfBoundsException", "java/lang/ArrayIndexOutOfBoundsException"), ("java/lang/IndexOutOfBoundsException", "java/lang/IllegalArgumentException"), ("java/lang/IndexOutOfBoundsException", "java/lang/IllegalStateException"), ("java/lang/IndexOutOfBoundsException", "java/lang/NegativeArraySizeException"), ("java/lang/NegativeArraySizeException", "java/lang/ArrayIndexOutOfBoundsException"), ("java/lang/NegativeArraySizeException", "java/lang/IllegalArgumentException"), ("java/lang/NegativeArraySizeException", "java/lang/IllegalStateException"), ("java/lang/NegativeArraySizeException", "java/lang/IndexOutOfBoundsException")]
def XD : List MethodName := [⟨"java/lang/RuntimeException", "<init>", "(Ljava/lang/String;)V"⟩, ⟨"java/lang/Exception", "<init>", "(Ljava/lang/String;)V"⟩, ⟨"java/lang/Throwable", "<init>", "(Ljava/lang/String;)V"⟩, ⟨"java/lang/IndexOutOfBoundsException", "<init>", "(Ljava/lang/String;)V"⟩]
theorem warmD {y : MethodName} {s U : State} (hW : s.WarmedH U.vm) (hZ : va_Nw (.declares y) s) : va_Nw (.declares y) U := va_tabs rfl (rfl : (s.setVm U.vm).vm = U.vm) (by rw [Cond.declares_setVm hW.alike]; exact hZ)
def EX (Λ : LY) (U : State) : Prop := (∀ y ∈ XD, va_Nw (.declares y) U) ∧ (∀ q ∈ XK, va_Nw (.castable q.1 q.2) U) ∧ (∀ q ∈ XN, va_Nc q.1 q.2 U) ∧ (∀ q ∈ XS, ∃ a, vk_R q.1 q.2.1 q.2.2 a U) ∧ vx_Zq Bundle.tN "UNASSIGNED_STACK" Bundle.steD (yA Λ) U U.heap ∧ vx_Zq Bundle.tN "SUPPRESSED_SENTINEL" Bundle.listD (yA Λ) U U.heap
theorem EX.at {Λ : LY} {s U : State} (hW : s.WarmedH U.vm) (hq : ∀ a : Nat, a < s.heap.size → ¬ yA Λ a → U.heap[a]? = s.heap[a]?) (h : EX Λ s) : EX Λ U := by
  obtain ⟨h0, h1, h2, h3, h4, h5⟩ := h
  exact ⟨fun y hy => warmD hW (h0 y hy), fun q hq => va_Nw.warmC hW (h1 q hq), fun q hq => va_Nc.moved hW.alike (h2 q hq), fun q hq => (h3 q hq).imp fun a ha => vk_R.warm hW ha, (h4.moved hW.alike).kept hq, (h5.moved hW.alike).kept hq⟩
theorem EX.calling {Λ : LY} {U : State} {g : JFrame} {mk : MethodId} {a : Array Value} (h : EX Λ U) : EX Λ (U.calling g mk a) := by
  obtain ⟨h0, h1, h2, h3, h4, h5⟩ := h
  have hv : U.vm.Alike (U.calling g mk a).vm := Vm.Alike.refl U.vm
  exact ⟨fun y hy => va_Nw.same rfl rfl (h0 y hy), fun q hq => va_Nw.same rfl rfl (h1 q hq), fun q hq => va_Nc.moved hv (h2 q hq), fun q hq => (h3 q hq).imp fun a ha => vk_R.same rfl ha, (h4.moved hv).kept (fun _ _ _ => rfl), (h5.moved hv).kept (fun _ _ _ => rfl)⟩
def PX (Λ : LY) (σ : CS) (U : State) : Prop := PR Λ σ U ∧ EX Λ U
/-- how a throw ends: the class, the state as it was -/
def XT (Λ : LY) (σ : CS) (E : String) : String → State → State → Prop := fun E' st t => E' = E ∧ Wd Λ σ t.heap ∧ va_F (yA Λ) st t
def XF : Array Value → State → Outcome → State → Prop := fun _ _ _ _ => False
/-- a method's contract where it throws E: the state stays, one cell of six slots is new -/
def CT (l : Launch) (y : MethodName) (ws : List Cond) (rm : Room) (Λ : LY) (av : List Value) (σ : CS) (E : String) : Prop :=
  vx_Met l y ws rm (va_Pc av (PX Λ σ)) XF (XT Λ σ E) 1 6 (yA Λ)
def GT (Γ : GX) (E : String) (σ0 : CS) : Prop := match Γ with
  | (_, l, _, R, s, _, args, below, meth, c, Q, Λ, _) => Q = vx_MQ below XF (XT Λ σ0 E) args s 1 6 (yA Λ) ∧ meth.locks = false ∧ (∀ x ∈ c.exceptionTable.toList, False) ∧ EX Λ s ∧ R.cells = 1 ∧ R.slots = 6 ∧ l.stackTraces = false
theorem CT_intro {l : Launch} (hst : l.stackTraces = false) {y : MethodName} {cc : ByteArray} {maxL : Nat} {ret : Option FieldType} {rm : Room} {Λ : LY} {av : List Value} {σ : CS} {E : String} {own : String} (hy : plainName y.cls = true) (hown : y.cls = own) (hlen : (lg_sl av).length ≤ maxL) (hrc : rm.cells = 1) (hrs : rm.slots = 6)
    (body : ∀ Γ : GX, gl Γ = Λ → gL Γ = l → GO Γ cc maxL own (.code y cc maxL ret :: TT) rm.frames rm.locals → GT Γ E σ → GG Γ (0, 0) σ 0 (lv_args 0 av) []) : CT l y (.code y cc maxL ret :: TT) rm Λ av σ E := by
  refine vx_ofW (cc := cc) (maxL := maxL) (ret := ret) hy rfl ?_
  intro p e s m args below meth c s₁ B hml htab hv
  obtain ⟨rfl, ⟨hB0, hW, hK, hO⟩, hE⟩ := hv
  have hts := atoms_spec (ws := .code y cc maxL ret :: TT) B.pre
  have hown' : s.vm.findClass own = some m.cls := hown ▸ findClass_of_methodNamed B.named
  have hl := lv_entry av (n := maxL) hlen
  rw [lg_entry_eq]
  exact body (p, l, e, (headSpec (.code y cc maxL ret :: TT) rm).room, s, m, av.toArray, below, meth, c, vx_MQ below XF (XT Λ σ E) av.toArray s 1 6 (yA Λ), Λ, maxL) rfl rfl ⟨B.exec, B.bytes, hml, rfl, hown', hts, hK, hO, hB0, rfl, rfl⟩ ⟨rfl, B.notSynchronized, htab, hE, hrc, hrs, hst⟩ s.heap [] _ hW va_S.rf hl
theorem Wd_kept {Λ : LY} {σ : CS} {H H1 : Heap} (h : Wd Λ σ H) (hk : ∀ q : Nat, q < H.size → H1[q]? = H[q]?) : Wd Λ σ H1 := va_P.kept h fun k q hq => hk q.1 (h k q hq).lt
theorem at_1 : ∀ w ∈ vx_atS RX7 127 "java/lang/IndexOutOfBoundsException" ["java/lang/RuntimeException", "java/lang/Exception"], w ∈ lw_tbl ∧ (goodWord w = true ∨ w = Cond.castable "java/lang/IndexOutOfBoundsException" "java/lang/IndexOutOfBoundsException" ∨ w ∈ XD.map Cond.declares) := by decide +kernel
theorem ao_1 : ∀ w ∈ Cond.classLink RX7 123 "java/lang/IndexOutOfBoundsException" :: Cond.initialized "java/lang/IndexOutOfBoundsException" :: vx_atS RX7 127 "java/lang/IndexOutOfBoundsException" ["java/lang/RuntimeException", "java/lang/Exception"], vx_ot w = true := by decide +kernel
theorem at_2 : ∀ w ∈ vx_atS RX7 56 "java/lang/IllegalArgumentException" ["java/lang/RuntimeException", "java/lang/Exception"], w ∈ lw_tbl ∧ (goodWord w = true ∨ w = Cond.castable "java/lang/IllegalArgumentException" "java/lang/IllegalArgumentException" ∨ w ∈ XD.map Cond.declares) := by decide +kernel
theorem ao_2 : ∀ w ∈ Cond.classLink RX7 52 "java/lang/IllegalArgumentException" :: Cond.initialized "java/lang/IllegalArgumentException" :: vx_atS RX7 56 "java/lang/IllegalArgumentException" ["java/lang/RuntimeException", "java/lang/Exception"], vx_ot w = true := by decide +kernel
theorem at_3 : ∀ w ∈ vx_atS RX7 86 "java/lang/IllegalStateException" ["java/lang/RuntimeException", "java/lang/Exception"], w ∈ lw_tbl ∧ (goodWord w = true ∨ w = Cond.castable "java/lang/IllegalStateException" "java/lang/IllegalStateException" ∨ w ∈ XD.map Cond.declares) := by decide +kernel
theorem ao_3 : ∀ w ∈ Cond.classLink RX7 82 "java/lang/IllegalStateException" :: Cond.initialized "java/lang/IllegalStateException" :: vx_atS RX7 86 "java/lang/IllegalStateException" ["java/lang/RuntimeException", "java/lang/Exception"], vx_ot w = true := by decide +kernel
theorem at_4 : ∀ w ∈ vx_atS RX7 63 "java/lang/NegativeArraySizeException" ["java/lang/RuntimeException", "java/lang/Exception"], w ∈ lw_tbl ∧ (goodWord w = true ∨ w = Cond.castable "java/lang/NegativeArraySizeException" "java/lang/NegativeArraySizeException" ∨ w ∈ XD.map Cond.declares) := by decide +kernel
theorem ao_4 : ∀ w ∈ Cond.classLink RX7 59 "java/lang/NegativeArraySizeException" :: Cond.initialized "java/lang/NegativeArraySizeException" :: vx_atS RX7 63 "java/lang/NegativeArraySizeException" ["java/lang/RuntimeException", "java/lang/Exception"], vx_ot w = true := by decide +kernel
theorem at_5 : ∀ w ∈ vx_atS RX7 193 "java/lang/ArrayIndexOutOfBoundsException" ["java/lang/IndexOutOfBoundsException", "java/lang/RuntimeException", "java/lang/Exception"], w ∈ lw_tbl ∧ (goodWord w = true ∨ w = Cond.castable "java/lang/ArrayIndexOutOfBoundsException" "java/lang/ArrayIndexOutOfBoundsException" ∨ w ∈ XD.map Cond.declares) := by decide +kernel
theorem ao_5 : ∀ w ∈ Cond.classLink RX7 189 "java/lang/ArrayIndexOutOfBoundsException" :: Cond.initialized "java/lang/ArrayIndexOutOfBoundsException" :: vx_atS RX7 193 "java/lang/ArrayIndexOutOfBoundsException" ["java/lang/IndexOutOfBoundsException", "java/lang/RuntimeException", "java/lang/Exception"], vx_ot w = true := by decide +kernel
section GTh
variable {Γ : GX} {σ σ0 : CS} {pc nL : Nat} {L : List (Nat × Value)} {st : List Value} {cc : ByteArray} {own : String} {fr lo : Nat} {w0 : Cond}
/-- new, dup, a text, the constructor, athrow: out of the method -/
theorem G_throw (hΓ : GO Γ cc nL RX7 (w0 :: TT) fr lo) {E : String} (hT : GT Γ E σ) {names : List String} {text : String} {ik is ic : Nat} (hfit : Bundle.fit E = true) (hnames : ∀ n ∈ names, Bundle.fit n = true)
    (hk : Cond.classLink RX7 ik E ∈ TT) (hini : Cond.initialized E ∈ TT) (k9 : Nat) (hs : XS[k9]? = some (RX7, is, text)) (hat : ∀ w ∈ vx_atS RX7 ic E names, w ∈ lw_tbl ∧ (goodWord w = true ∨ w = Cond.castable E E ∨ w ∈ XD.map Cond.declares)) (k8 : Nat) (hc : XK[k8]? = some (E, E))
    (hgood : ∀ w ∈ Cond.classLink RX7 ik E :: Cond.initialized E :: vx_atS RX7 ic E names, vx_ot w = true)
    (d0 : decode cc pc = .ok (.new ik, 3)) (d3 : decode cc (pc + 3) = .ok (.dup, 1)) (d4 : decode cc (pc + 4) = .ok (.ldc is, 2)) (d6 : decode cc (pc + 6) = .ok (.invokespecial ic, 3)) (d9 : decode cc (pc + 9) = .ok (.athrow, 1))
    (hf : names.length + 3 < fr) (hlc : (st.map fun v => v.category).sum + (13 * (names.length + 1) + 43) ≤ lo) : GG Γ (0, 0) σ pc L st := by
  obtain ⟨p, l, e, R, s, m, args, below, meth, c, Q, Λ, n⟩ := Γ
  obtain ⟨hx, hb, hml, hnl, hown, hts, hKK, hO, hB, hfr, hlo⟩ := hΓ
  obtain ⟨hQ, hlk, htab, ⟨e0, e1, e2, e3, e4, e5⟩, hrc, hrs, hst⟩ := hT
  subst hQ
  intro H locs ls hW hS hl
  have hts' : ∀ w ∈ TT, w.before args s = true := fun w hw => hts w (List.mem_cons_of_mem _ hw)
  obtain ⟨sa, hsa⟩ := e3 _ (List.mem_of_getElem? hs)
  have hca : va_Nw (.castable E E) s := e1 _ (List.mem_of_getElem? hc)
  refine vx_throwS (names := names) hx hb hst hown hfit hnames (hts' _ hk) (hts' _ hini) hsa (fun w hw => ?_) hgood e4 e5 hS (hl.1.trans (hnl.trans hml.symm)) d0 d3 d4 d6 d9 (fun x hx => (htab x hx).elim) (by rw [hfr]; exact hf) (by rw [hlo]; exact hlc) (by rw [hrc]; exact Nat.le_refl _) (by rw [hrs]; exact Nat.le_refl _) hlk (fun t hvm hz hk9 => ?_) hS.2.2 (Nat.le_refl _) (Nat.le_refl _)
  · rcases (hat w hw).2 with h9 | h9 | h9
    · exact hts' w (List.mem_filter.mpr ⟨(hat w hw).1, h9⟩)
    · rw [h9]
      exact va_Nw.use rfl hca
    · obtain ⟨y, hy, rfl⟩ := List.mem_map.mp h9
      exact va_Nw.use rfl (e0 y hy)
  · exact ⟨rfl, Wd_kept hW hk9, Nat.le_trans hS.1 hz, fun q h1 h2 => (hk9 q (Nat.lt_of_lt_of_le h1 hS.1)).trans (hS.2.1 q h1 h2)⟩
theorem G_throwW (hΓ : GO Γ cc nL RX7 (w0 :: TT) fr lo) {E : String} (hT : GT Γ E σ) {names : List String} {text : String} {ik is ic : Nat} (hfit : Bundle.fit E = true) (hnames : ∀ n ∈ names, Bundle.fit n = true)
    (hk : Cond.classLink RX7 ik E ∈ TT) (hini : Cond.initialized E ∈ TT) (k9 : Nat) (hs : XS[k9]? = some (RX7, is, text)) (hat : ∀ w ∈ vx_atS RX7 ic E names, w ∈ lw_tbl ∧ (goodWord w = true ∨ w = Cond.castable E E ∨ w ∈ XD.map Cond.declares)) (k8 : Nat) (hc : XK[k8]? = some (E, E))
    (hgood : ∀ w ∈ Cond.classLink RX7 ik E :: Cond.initialized E :: vx_atS RX7 ic E names, vx_ot w = true)
    (d0 : decode cc pc = .ok (.new ik, 3)) (d3 : decode cc (pc + 3) = .ok (.dup, 1)) (d4 : decode cc (pc + 4) = .ok (.ldc_w is, 3)) (d6 : decode cc (pc + 7) = .ok (.invokespecial ic, 3)) (d9 : decode cc (pc + 10) = .ok (.athrow, 1))
    (hf : names.length + 3 < fr) (hlc : (st.map fun v => v.category).sum + (13 * (names.length + 1) + 43) ≤ lo) : GG Γ (0, 0) σ pc L st := by
  obtain ⟨p, l, e, R, s, m, args, below, meth, c, Q, Λ, n⟩ := Γ
  obtain ⟨hx, hb, hml, hnl, hown, hts, hKK, hO, hB, hfr, hlo⟩ := hΓ
  obtain ⟨hQ, hlk, htab, ⟨e0, e1, e2, e3, e4, e5⟩, hrc, hrs, hst⟩ := hT
  subst hQ
  intro H locs ls hW hS hl
  have hts' : ∀ w ∈ TT, w.before args s = true := fun w hw => hts w (List.mem_cons_of_mem _ hw)
  obtain ⟨sa, hsa⟩ := e3 _ (List.mem_of_getElem? hs)
  have hca : va_Nw (.castable E E) s := e1 _ (List.mem_of_getElem? hc)
  refine vx_throwSW (names := names) hx hb hst hown hfit hnames (hts' _ hk) (hts' _ hini) hsa (fun w hw => ?_) hgood e4 e5 hS (hl.1.trans (hnl.trans hml.symm)) d0 d3 d4 d6 d9 (fun x hx => (htab x hx).elim) (by rw [hfr]; exact hf) (by rw [hlo]; exact hlc) (by rw [hrc]; exact Nat.le_refl _) (by rw [hrs]; exact Nat.le_refl _) hlk (fun t hvm hz hk9 => ?_) hS.2.2 (Nat.le_refl _) (Nat.le_refl _)
  · rcases (hat w hw).2 with h9 | h9 | h9
    · exact hts' w (List.mem_filter.mpr ⟨(hat w hw).1, h9⟩)
    · rw [h9]
      exact va_Nw.use rfl hca
    · obtain ⟨y, hy, rfl⟩ := List.mem_map.mp h9
      exact va_Nw.use rfl (e0 y hy)
  · exact ⟨rfl, Wd_kept hW hk9, Nat.le_trans hS.1 hz, fun q h1 h2 => (hk9 q (Nat.lt_of_lt_of_le h1 hS.1)).trans (hS.2.1 q h1 h2)⟩
theorem PX_blind {Λ : LY} {av : List Value} {σ : CS} : FrameBlind (va_Pc av (PX Λ σ)) := fun a U g mk q => by
  obtain ⟨q0, ⟨q1, q2, q3, q4⟩, q5⟩ := q
  exact ⟨q0, ⟨q1, q2, q3.calling, q4⟩, q5.calling⟩
/-- a call that throws, out of a method that catches nothing -/
theorem G_outX {p : Program} {l : Launch} {e : Env} {R : Room} {s : State} {m : MethodId} {args : Array Value} {below : List Frame} {meth : Method} {c : Code} {Λ : LY} {st0 : List Value} {H : Heap} {locs : List Loc} {ls : Array Slot} {E : String} {av : Array Value}
    (hr : vx_Run p l e R s m args below meth c H locs 0 0 1 6 (F0 m pc ls st0) st (XF av) (XT Λ σ E) (yA Λ)) (hS : va_S (yA Λ) s.heap H locs) (htab : ∀ x ∈ c.exceptionTable.toList, False) (hlk : meth.locks = false) : W p l e R s m args below meth c H locs 0 0 (vx_MQ below XF (XT Λ σ E) args s 1 6 (yA Λ)) (F0 m pc ls st0) := by
  intro T hT X
  rcases hr T hT X with ⟨v, st₀, t, T', Lc, h0, X', hL, e1, e2, hq, stp⟩ | ⟨q, st₀, t, T', Lc, E', ce, h0, X', hL, e1, e2, ⟨rfl, hw2, hz, hk⟩, hce, hcv, hcl, stp⟩
  · exact hq.elim
  · rw [h0] at hz hk
    have hS' : va_S (yA Λ) s.heap T'.heap (locs ++ Lc) := ⟨Nat.le_trans hS.1 (by rw [e1]; exact hz), fun q h1 h2 => by rw [e1, hk q (Nat.lt_of_lt_of_le h1 hS.1) h2]; exact hS.2.1 q h1 h2, fun q hq => (List.mem_append.mp hq).elim (hS.2.2 q) (hL q)⟩
    have ho := vx_out (p := p) (e := e) (m := m) (R := R) (l := l) (Qc := XF) (XC := XT Λ σ E') (mc := 1) (ms := 6) (free := yA Λ) (ls := ls) (rest := st) (pc := pc) (below := below) (args := args) (fun x hx => (htab x hx).elim) hlk (show T'.heap[q]? = some ce by rw [e1]; exact hce) hcv hcl (fun t9 ht9 _ => ⟨rfl, by rw [ht9, e1]; exact hw2, hS'.F ht9⟩) hS'.2.2 (Nat.le_refl _) (Nat.le_refl _)
    obtain ⟨t2, a1, b1⟩ := ho T' rfl X'
    exact ⟨t2, stp.trans a1, b1⟩
theorem G_callVX (hΓ : GO Γ cc nL own (w0 :: TT) fr lo) {E : String} (hT : GT Γ E σ) {y : MethodName} {bytes : ByteArray} {maxL n index t i ci N : Nat} {ret : Option FieldType} {rm : Room} {C : String} {T : u_T} {FS : (Nat → Int32) → Int64 → (Option Nat × Option Nat) → List Value} {As : List Value} (hM : CT (gL Γ) y (.code y bytes maxL ret :: TT) rm (gl Γ) (.ref (ya (gl Γ) t i) :: As) σ E)
    (kl : Cond.methodLink own index y ∈ TT) (ki : Cond.instanceMethod y ∈ TT) (ks : Cond.selects C y y ∈ TT) (kn : Cond.initialized y.cls ∈ TT) (kc : Cond.code y bytes maxL ret ∈ TT) (hy : y.cls = C ∧ y.cls ≠ "java/lang/invoke/MethodHandle" ∧ y.cls ≠ "java/lang/invoke/VarHandle" ∧ (parseMethodDescriptor y.desc).map (fun d => d.parameters.length) = some n) (hi : i < yn (gl Γ) t) (hc : ∀ f h r, cel (gl Γ) t i f h r = .inr (ci, FS f h r)) (hcl : vwCl[ci]? = some (C, T, N)) (hrc : rm.cells = 1) (hrs : rm.slots = 6) (hR : rm.frames + 1 ≤ fr ∧ 8 + (maxL + 11) + rm.locals ≤ lo) (hn : As.length = n) (hcat : (st.map fun v => v.category).sum ≤ 8) (hd : decode cc pc = .ok (.invokevirtual index, 3)) : GG Γ (0, 0) σ pc L (As.reverse ++ .ref (ya (gl Γ) t i) :: st) := by
  obtain ⟨p, l, e, R, s, m, args, below, meth, c, Q, Λ, nn⟩ := Γ
  obtain ⟨hx, hb, hml, hnl, hown, hts, hKK, hO, hB, hfr, hlo⟩ := hΓ
  obtain ⟨hQ, hlk, htab, hEX, hRc, hRs, hst⟩ := hT
  subst hQ
  intro H locs ls hW hS hl
  have hT : GoodIn (w0 :: TT) (.code y bytes maxL ret :: TT) := TT_in kc
  have hts' : ∀ w ∈ TT, w.before args s = true := fun w hw => hts w (List.mem_cons_of_mem _ hw)
  have hR' : rm.frames + 1 ≤ R.frames ∧ 8 + (maxL + 11) + rm.locals ≤ R.locals := by rw [hfr, hlo]; exact hR
  obtain ⟨q0, hq⟩ := yW_get (σ := σ) hO hi
  rw [show ce Λ σ t i = .inr (ci, FS (σ.1 t i) (σ.2.1 t i) (σ.2.2 i)) from hc _ _ _] at hq
  exact G_outX (vx_runV (As := As) (rest := st) ⟨hx, hb, hml, hown, hts⟩ hM ⟨⟨hrc, hrs, hR'.1, hR'.2, pay_in hts hT, List.mem_cons_self, hts' _ kc, hts' _ kn, ⟨hy.2.1, hy.2.2.1⟩, fun sig h => by have h2 := hy.2.2.2; rw [h] at h2; exact (Option.some.inj h2).symm, hts' _ kl⟩, hts' _ ki, hts' _ ks⟩ ⟨PX_blind, va_recv hKK.1 hW hcl hq, fun U hU hWm => ⟨rfl, PR_at hB hW hKK hO hS hU hWm, hEX.at hWm (fun a h1 h2 => by rw [hU]; exact hS.2.1 a h1 h2)⟩⟩ rfl hn (hl.1.trans hnl) rfl (lv_room hcat) hd ⟨by rw [hRc]; exact Nat.le_refl _, by rw [hRs]; exact Nat.le_refl _⟩) hS htab hlk
theorem G_callSX (hΓ : GO Γ cc nL own (w0 :: TT) fr lo) {E : String} (hT : GT Γ E σ) {y : MethodName} {bytes : ByteArray} {maxL n index : Nat} {ret : Option FieldType} {rm : Room} {As : List Value} (hM : CT (gL Γ) y (.code y bytes maxL ret :: TT) rm (gl Γ) As σ E)
    (kl : Cond.methodLink own index y ∈ TT) (ks : Cond.static y ∈ TT) (kn : Cond.initialized y.cls ∈ TT) (kc : Cond.code y bytes maxL ret ∈ TT) (hy : y.cls ≠ "java/lang/invoke/MethodHandle" ∧ y.cls ≠ "java/lang/invoke/VarHandle" ∧ (parseMethodDescriptor y.desc).map (fun d => d.parameters.length) = some n) (hrc : rm.cells = 1) (hrs : rm.slots = 6) (hR : rm.frames + 1 ≤ fr ∧ 8 + (maxL + 11) + rm.locals ≤ lo) (hn : As.length = n) (hcat : (st.map fun v => v.category).sum ≤ 8) (hd : decode cc pc = .ok (.invokestatic index, 3)) : GG Γ (0, 0) σ pc L (As.reverse ++ st) := by
  obtain ⟨p, l, e, R, s, m, args, below, meth, c, Q, Λ, nn⟩ := Γ
  obtain ⟨hx, hb, hml, hnl, hown, hts, hKK, hO, hB, hfr, hlo⟩ := hΓ
  obtain ⟨hQ, hlk, htab, hEX, hRc, hRs, hst⟩ := hT
  subst hQ
  intro H locs ls hW hS hl
  have hT : GoodIn (w0 :: TT) (.code y bytes maxL ret :: TT) := TT_in kc
  have hts' : ∀ w ∈ TT, w.before args s = true := fun w hw => hts w (List.mem_cons_of_mem _ hw)
  have hR' : rm.frames + 1 ≤ R.frames ∧ 8 + (maxL + 11) + rm.locals ≤ R.locals := by rw [hfr, hlo]; exact hR
  exact G_outX (vx_runS (As := As) (rest := st) ⟨hx, hb, hml, hown, hts⟩ hM ⟨⟨hrc, hrs, hR'.1, hR'.2, pay_in hts hT, List.mem_cons_self, hts' _ kc, hts' _ kn, ⟨hy.1, hy.2.1⟩, fun sig h => by have h2 := hy.2.2; rw [h] at h2; exact (Option.some.inj h2).symm, hts' _ kl⟩, hts' _ ks⟩ ⟨PX_blind, fun U hU hWm => ⟨rfl, PR_at hB hW hKK hO hS hU hWm, hEX.at hWm (fun a h1 h2 => by rw [hU]; exact hS.2.1 a h1 h2)⟩⟩ rfl hn (hl.1.trans hnl) rfl (lv_room hcat) hd ⟨by rw [hRc]; exact Nat.le_refl _, by rw [hRs]; exact Nat.le_refl _⟩) hS htab hlk
end GTh
/-- what comes of a call that may throw -/
def bx {α β : Type} (x : Option (Nat ⊕ α)) (k : α → Option (Nat ⊕ β)) : Option (Nat ⊕ β) := match x with
  | none => none
  | some (.inl e) => some (.inl e)
  | some (.inr a) => k a
theorem bx_r {α β : Type} {x : Option (Nat ⊕ α)} {k : α → Option (Nat ⊕ β)} {z : β} (h : bx x k = some (.inr z)) : ∃ a, x = some (.inr a) ∧ k a = some (.inr z) := by
  match x, h with
  | some (.inr a), h => exact ⟨a, rfl, h⟩
theorem bx_l {α β : Type} {x : Option (Nat ⊕ α)} {k : α → Option (Nat ⊕ β)} {e : Nat} (h : bx x k = some (.inl e)) : x = some (.inl e) ∨ ∃ a, x = some (.inr a) ∧ k a = some (.inl e) := by
  match x, h with
  | some (.inl e2), h => exact Or.inl (by simpa [bx] using h)
  | some (.inr a), h => exact Or.inr ⟨a, rfl, h⟩
