/-- the numbers of the state: ints by tag, number and place; longs by tag and number; references to frames by node and place -/
abbrev CS : Type := (Nat → Nat → Nat → Int32) × (Nat → Nat → Int64) × (Nat → Option Nat × Option Nat)
/-- a layout: the address of a tag and number; the tag and number of an address; how many of a tag; the addresses; the classes; the array classes; where the law's cells begin -/
abbrev LY : Type := (Nat → Nat → Nat) × (Nat → Nat × Nat) × (Nat → Nat) × List Nat × va_G × (Nat → ClassId) × Nat
def ya (Λ : LY) : Nat → Nat → Nat := Λ.1
def yi (Λ : LY) : Nat → Nat × Nat := Λ.2.1
def yn (Λ : LY) : Nat → Nat := Λ.2.2.1
def yL (Λ : LY) : List Nat := Λ.2.2.2.1
def yD (Λ : LY) : va_G := Λ.2.2.2.2.1
def yc (Λ : LY) : Nat → ClassId := Λ.2.2.2.2.2.1
def yB (Λ : LY) : Nat := Λ.2.2.2.2.2.2
def yA (Λ : LY) : Nat → Prop := fun q => yB Λ ≤ q
def sZ (σ : CS) (t i : Nat) (f : Nat → Int32) : CS := (fun t' i' => if t' = t ∧ i' = i then f else σ.1 t' i', σ.2)
def sH (σ : CS) (t i : Nat) (h : Int64) : CS := (σ.1, fun t' i' => if t' = t ∧ i' = i then h else σ.2.1 t' i', σ.2.2)
def sR (σ : CS) (i : Nat) (r : Option Nat × Option Nat) : CS := (σ.1, σ.2.1, fun i' => if i' = i then r else σ.2.2 i')

def mt (j : Nat) : Nat := match j with
  | 0 => 1
  | 1 => 0
  | 2 => 0
  | 3 => 0
  | 4 => 0
  | 5 => 0
  | 6 => 2
  | 7 => 0
  | 8 => 0
  | 9 => 0
  | 10 => 0
  | 11 => 0
  | 12 => 0
  | 13 => 0
  | 14 => 0
  | 15 => 1
  | 16 => 2
  | 17 => 0
  | 18 => 0
  | 19 => 1
  | 20 => 1
  | 21 => 0
  | 22 => 1
  | 23 => 1
  | 24 => 1
  | 25 => 0
  | 26 => 1
  | 27 => 1
  | 28 => 2
  | 29 => 1
  | _ => 1
def ml (j : Nat) : Nat := match j with
  | 0 => 20000
  | 1 => 200
  | 2 => 200
  | 3 => 200
  | 4 => 200
  | 5 => 12800
  | 6 => 200
  | 7 => 200
  | 8 => 200
  | 9 => 32
  | 10 => 32
  | 11 => 32
  | 12 => 32
  | 13 => 32
  | 14 => 32
  | 15 => 38400
  | 16 => 640000
  | 17 => 14000
  | 18 => 14000
  | 19 => 14000
  | 20 => 14000
  | 21 => 14000
  | 22 => 896000
  | 23 => 92000
  | 24 => 92000
  | 25 => 92000
  | 26 => 700
  | 27 => 1200
  | 28 => 1200
  | 29 => 700
  | _ => 1200
def ct (j : Nat) : Nat := if j = 0 then 1 else 0
def cn (j : Nat) : Nat := match j with
  | 0 => 20000
  | 1 => 20000
  | 2 => 200
  | 3 => 200
  | _ => 80000
def fs0 (Λ : LY) (i : Nat) (f : Nat → Int32) (h : Int64) (r : Option Nat × Option Nat) : List Value := [.ref (ya Λ 14 i), .ref (ya Λ 15 i), .int (f 2), .int (f 3), .int (f 4), .int (f 5), .long h, .int (f 7), .int (f 8)]
def fs1 (Λ : LY) (i : Nat) (f : Nat → Int32) (h : Int64) (r : Option Nat × Option Nat) : List Value := [.ref (ya Λ 6 i), .ref (ya Λ 5 i), .int (f 2), .int (f 3), .int (f 4), .int (f 5), .int (f 6), .int (f 7), .long h, .int (f 9), .int (f 10), .int (f 11), .int (f 12), .int (f 13), .int (f 14), .int (f 15), .int (f 16)]
def fs2 (Λ : LY) (i : Nat) (f : Nat → Int32) (h : Int64) (r : Option Nat × Option Nat) : List Value := [.ref (ya Λ 4 i), .ref (ya Λ 10 i), .int (f 2), .int (f 3), .int (f 4), .int (f 5), .int (f 6), va_rf (r.1.map (ya Λ 13)), va_rf (r.2.map (ya Λ 13)), .int (f 9)]
def fs3 (Λ : LY) (i : Nat) (f : Nat → Int32) (h : Int64) (r : Option Nat × Option Nat) : List Value := [.int (f 0), .int (f 1), .int (f 2), .int (f 3)]
def fs4 (Λ : LY) (i : Nat) (f : Nat → Int32) (h : Int64) (r : Option Nat × Option Nat) : List Value := [.ref (ya Λ 7 i), .ref (ya Λ 8 i), .ref (ya Λ 9 i)]
def fs5 (Λ : LY) (i : Nat) (f : Nat → Int32) (h : Int64) (r : Option Nat × Option Nat) : List Value := [.ref (ya Λ 11 i), .ref (ya Λ 12 i), .int (f 2), .int (f 3)]
def fs6 (Λ : LY) (i : Nat) (f : Nat → Int32) (h : Int64) (r : Option Nat × Option Nat) : List Value := [.ref (ya Λ 6 32), .int (f 1), .int (f 2), .int (f 3)]
def fs7 (Λ : LY) (i : Nat) (f : Nat → Int32) (h : Int64) (r : Option Nat × Option Nat) : List Value := [.ref (ya Λ 1 0), .ref (ya Λ 2 0), .ref (ya Λ 16 0), .ref (ya Λ 17 0), .ref (ya Λ 17 1), .ref (ya Λ 17 2), .ref (ya Λ 17 3), .ref (ya Λ 17 4), .int (f 8), .int (f 9), .int (f 10), .int (f 11), .int (f 12), .int (f 13)]
def fs8 (Λ : LY) (i : Nat) (f : Nat → Int32) (h : Int64) (r : Option Nat × Option Nat) : List Value := [.int (f 0), .int (f 1), .int (f 2), .ref (ya Λ 19 0), .int (f 4), .ref (ya Λ 19 1), .ref (ya Λ 19 2), .ref (ya Λ 19 3), .ref (ya Λ 19 4), .ref (ya Λ 19 5), .ref (ya Λ 19 6), .int (f 11), .ref (ya Λ 19 7), .ref (ya Λ 19 8), .ref (ya Λ 19 9), .ref (ya Λ 19 10), .ref (ya Λ 19 11), .ref (ya Λ 19 12), .ref (ya Λ 19 13), .ref (ya Λ 19 14), .ref (ya Λ 19 15), .ref (ya Λ 19 16), .int (f 22), .ref (ya Λ 19 17), .ref (ya Λ 19 18), .ref (ya Λ 19 19), .ref (ya Λ 19 20), .ref (ya Λ 19 21), .ref (ya Λ 19 22), .int (f 29), .ref (ya Λ 19 23), .ref (ya Λ 19 24), .ref (ya Λ 19 25), .ref (ya Λ 19 26), .int (f 34), .ref (ya Λ 19 27), .ref (ya Λ 19 28), .int (f 37), .int (f 38), .ref (ya Λ 19 29), .ref (ya Λ 19 30), .int (f 41), .int (f 42), .int (f 43), .int (f 44), .int (f 45), .int (f 46)]
/-- what a cell holds -/
def cel (Λ : LY) (t i : Nat) (f : Nat → Int32) (h : Int64) (r : Option Nat × Option Nat) : va_E := match t with
  | 0 => .inr (10, fs7 Λ i f h r)
  | 1 => .inl (yc Λ 4, 32, .inr (.inr (.inr (.inr (fun j => some (ya Λ 3 j))))))
  | 2 => .inl (yc Λ 5, 200, .inr (.inr (.inr (.inr (fun j => some (ya Λ 13 j))))))
  | 3 => .inr (5, fs2 Λ i f h r)
  | 4 => .inr (4, fs1 Λ i f h r)
  | 5 => .inl (yc Λ 0, 64, .inl f)
  | 6 => .inr (7, fs4 Λ i f h r)
  | 7 => .inr (6, fs3 Λ i f h r)
  | 8 => .inr (6, fs3 Λ i f h r)
  | 9 => .inr (6, fs3 Λ i f h r)
  | 10 => .inr (8, fs5 Λ i f h r)
  | 11 => .inl (yc Λ 0, 2616, .inl f)
  | 12 => .inl (yc Λ 0, 2500, .inl f)
  | 13 => .inr (3, fs0 Λ i f h r)
  | 14 => .inl (yc Λ 0, 64, .inl f)
  | 15 => .inl (yc Λ 1, 733, .inl f)
  | 16 => .inr (9, fs6 Λ i f h r)
  | 17 => .inl (yc Λ (ct i), cn i, .inl f)
  | 18 => .inr (11, fs8 Λ i f h r)
  | 19 => .inl (yc Λ (mt i), ml i, .inl f)
  | _ => .inl (yc Λ 3, 1, .inr (.inl (vp_updL (fun _ => 0) 0 h)))
def ce (Λ : LY) (σ : CS) (t i : Nat) : va_E := cel Λ t i (σ.1 t i) (σ.2.1 t i) (σ.2.2 i)
def fce (Λ : LY) (σ : CS) (q : Nat) : va_E := ce Λ σ (yi Λ q).1 (yi Λ q).2
def yW (Λ : LY) (σ : CS) : va_W := va_pl (yL Λ) (fce Λ σ)
def ytys (Λ : LY) : List (ClassId × FieldType) := [(yc Λ 0, .int), (yc Λ 1, .byte), (yc Λ 2, .boolean), (yc Λ 3, .long), (yc Λ 4, .object "CanBits$Node"), (yc Λ 5, .object "CanBits$Frame")]
/-- the world: the heap holds the state -/
def Wd (Λ : LY) (σ : CS) (H : Heap) : Prop := va_P (yD Λ) vwCl (yW Λ σ) H
/-- a layout that is one -/
def LO (Λ : LY) : Prop := (yL Λ).Nodup ∧ (∀ q ∈ yL Λ, yB Λ ≤ q ∧ ya Λ (yi Λ q).1 (yi Λ q).2 = q) ∧ ∀ t i, i < yn Λ t → ya Λ t i ∈ yL Λ ∧ yi Λ (ya Λ t i) = (t, i)
theorem yW_D {Λ : LY} {σ : CS} (h : LO Λ) : va_D (yA Λ) (yW Λ σ) := by
  refine ⟨fun i j p q hi hj e => ?_, fun k q hk => ?_⟩
  · simp only [yW, va_pl, List.getElem?_map, Option.map_eq_some_iff] at hi hj
    obtain ⟨x, hx, rfl⟩ := hi
    obtain ⟨y, hy, rfl⟩ := hj
    have e : x = y := e
    subst e
    obtain ⟨hi, ex⟩ := List.getElem?_eq_some_iff.mp hx
    obtain ⟨hj, ey⟩ := List.getElem?_eq_some_iff.mp hy
    exact (List.getElem_inj h.1).mp (ex.trans ey.symm)
  · simp only [yW, va_pl, List.getElem?_map, Option.map_eq_some_iff] at hk
    obtain ⟨x, hx, rfl⟩ := hk
    exact (h.2.1 x (List.mem_of_getElem? hx)).1
theorem yW_get {Λ : LY} {σ : CS} (h : LO Λ) {t i : Nat} (hi : i < yn Λ t) : ∃ k : Nat, (yW Λ σ)[k]? = some (ya Λ t i, ce Λ σ t i) := by
  obtain ⟨h1, h2⟩ := h.2.2 t i hi
  obtain ⟨k, hk⟩ := va_pl_get (X := []) (f := fce Λ σ) h1
  refine ⟨k, ?_⟩
  have e : fce Λ σ (ya Λ t i) = ce Λ σ t i := by simp only [fce, h2]
  rw [← e]
  exact hk
theorem yW_set {Λ : LY} {σ σ' : CS} (h : LO Λ) {t i k : Nat} (hi : i < yn Λ t) (hk : (yW Λ σ)[k]? = some (ya Λ t i, ce Λ σ t i)) (ho : ∀ t' i', ¬ (t' = t ∧ i' = i) → ce Λ σ' t' i' = ce Λ σ t' i') : (yW Λ σ).set k (ya Λ t i, ce Λ σ' t i) = yW Λ σ' := by
  obtain ⟨h1, h2⟩ := h.2.2 t i hi
  have hD : va_D (yA Λ) ([] ++ va_pl (yL Λ) (fce Λ σ)) := yW_D h
  have e : fce Λ σ (ya Λ t i) = ce Λ σ t i := by simp only [fce, h2]
  have e3 := va_pl_set (X := []) (e := ce Λ σ' t i) hD h1 (by rw [e]; exact hk)
  refine e3.trans ?_
  show va_pl (yL Λ) _ = va_pl (yL Λ) _
  refine List.map_congr_left fun q hq => ?_
  by_cases e4 : q = ya Λ t i
  · subst e4
    rw [va_up_self]
    simp only [fce, h2]
  · rw [va_up_ne _ _ e4]
    refine congrArg (Prod.mk q) (ho _ _ fun e5 => e4 ?_).symm
    rw [← (h.2.1 q hq).2, e5.1, e5.2]
def NF : List (String × Nat × String × String × String × String) := [("CanBits$Writer", 68, "CanBits$Register", "value", "I", "CanBits"), ("CanBits$Sums", 35, "CanBits$Register", "value", "I", "CanBits"), ("CanBits", 221, "CanBits$Register", "value", "I", "CanBits"), ("CanBits$Listener", 124, "CanBits$Register", "value", "I", "CanBits"), ("CanBits$Writer", 64, "CanBits$Sums", "of15", "LCanBits$Register;", "CanBits"), ("CanBits", 206, "CanBits$Sums", "of15", "LCanBits$Register;", "CanBits"), ("CanBits$Listener", 120, "CanBits$Sums", "of15", "LCanBits$Register;", "CanBits"), ("CanBits", 210, "CanBits$Sums", "of17", "LCanBits$Register;", "CanBits"), ("CanBits", 213, "CanBits$Sums", "of21", "LCanBits$Register;", "CanBits"), ("CanBits$Takings", 40, "CanBits$Listener", "octets", "[I", "CanBits"), ("CanBits$Takings", 25, "CanBits$Listener", "octetCount", "I", "CanBits"), ("CanBits", 237, "CanBits$Takings", "count", "I", "CanBits"), ("CanBits", 233, "CanBits$Node", "takings", "LCanBits$Takings;", "CanBits"), ("CanBits", 224, "CanBits$Node", "state", "I", "CanBits"), ("CanBits", 149, "CanBits$Node", "mask", "I", "CanBits"), ("CanBits", 152, "CanBits$Node", "match", "I", "CanBits"), ("CanBits", 106, "CanBits$Node", "waiting", "I", "CanBits"), ("CanBits", 113, "CanBits$Node", "first", "LCanBits$Frame;", "CanBits"), ("CanBits", 266, "CanBits$Node", "sending", "LCanBits$Frame;", "CanBits"), ("CanBits$Writer", 52, "CanBits$Frame", "octets", "[I", "CanBits"), ("CanBits", 143, "CanBits$Frame", "octets", "[I", "CanBits"), ("CanBits$Writer", 21, "CanBits$Frame", "rowLength", "I", "CanBits"), ("CanBits", 146, "CanBits$Frame", "rowLength", "I", "CanBits"), ("CanBits$Node", 101, "CanBits$Frame", "rowLength", "I", "CanBits"), ("CanBits", 269, "CanBits$Frame", "number", "I", "CanBits"), ("CanBits", 130, "CanBits$Frame", "node", "I", "CanBits"), ("CanBits$Writer", 27, "CanBits$Frame", "kind", "I", "CanBits"), ("CanBits$Writer", 41, "CanBits$Frame", "head", "J", "CanBits"), ("CanBits", 98, "CanBits$Frame", "head", "J", "CanBits"), ("CanBits$Writer", 49, "CanBits$Frame", "octetCount", "I", "CanBits"), ("CanBits", 120, "CanBits$Frame", "octetCount", "I", "CanBits"), ("CanBits", 133, "CanBits$Frame", "isDone", "Z", "CanBits"), ("CanBits", 198, "CanBits$Writer", "sums", "LCanBits$Sums;", "CanBits")]
def NM : List (String × Nat × MethodName × String) := [("CanBits", 15, ⟨"CanBits$Node", "<init>", "()V"⟩, "CanBits"), ("CanBits$Node", 11, ⟨"CanBits$Listener", "<init>", "()V"⟩, "CanBits"), ("CanBits$Listener", 11, ⟨"CanBits$Sums", "<init>", "()V"⟩, "CanBits"), ("CanBits$Node", 20, ⟨"CanBits$Takings", "<init>", "()V"⟩, "CanBits"), ("CanBits", 22, ⟨"CanBits$Frame", "<init>", "()V"⟩, "CanBits"), ("CanBits", 25, ⟨"CanBits$Writer", "<init>", "()V"⟩, "CanBits"), ("CanBits$Writer", 11, ⟨"CanBits$Sums", "<init>", "()V"⟩, "CanBits"), ("CanBits$Writer", 30, ⟨"CanBits", "isLong", "(I)Z"⟩, "CanBits"), ("CanBits$Writer", 34, ⟨"CanBits", "isFlexible", "(I)Z"⟩, "CanBits"), ("CanBits$Writer", 37, ⟨"CanBits", "headLength", "(ZZ)I"⟩, "CanBits"), ("CanBits$Writer", 97, ⟨"CanBits", "countOf", "(I)I"⟩, "CanBits"), ("CanBits$Listener", 138, ⟨"CanBits", "countOf", "(I)I"⟩, "CanBits"), ("CanBits$Listener", 105, ⟨"CanBits", "headLength", "(ZZ)I"⟩, "CanBits"), ("CanBits$Listener", 116, ⟨"CanBits", "octetsOf", "(II)I"⟩, "CanBits")]
/-- the words of the nest -/
def NS (U : State) : Prop := (∀ q ∈ NF, va_Nw (.fieldLinkNest q.1 q.2.1 q.2.2.1 q.2.2.2.1 q.2.2.2.2.1 q.2.2.2.2.2) U) ∧ ∀ q ∈ NM, va_Nw (.methodLinkNest q.1 q.2.1 q.2.2.1 q.2.2.2) U
theorem NS.warm {s U : State} (hW : s.WarmedH U.vm) (h : NS s) : NS U := ⟨fun q hq => va_Nw.warmF hW (h.1 q hq), fun q hq => va_Nw.warmM hW (h.2 q hq)⟩
theorem NS.same {s U : State} (e : s.vm = U.vm) (h : NS s) : NS U := ⟨fun q hq => va_Nw.same rfl e (h.1 q hq), fun q hq => va_Nw.same rfl e (h.2 q hq)⟩
def flx (j : Nat) : Int32 := match j with
  | 0 => 12
  | 1 => 16
  | 2 => 20
  | 3 => 24
  | 4 => 32
  | 5 => 48
  | _ => 64
/-- the static table -/
def ST (Λ : LY) (U : State) : Prop := ∃ t : Nat, va_Z "CanBits" "FLEXIBLE_OCTETS" "[I" (.ref t) (yA Λ) U U.heap ∧ va_T .int t 7 (fun j => .int (flx j)) (yA Λ) U U.heap
theorem ST.at {Λ : LY} {s U : State} (hvm : s.vm.Alike U.vm) (hq : ∀ a : Nat, a < s.heap.size → ¬ yA Λ a → U.heap[a]? = s.heap[a]?) (h : ST Λ s) : ST Λ U := by
  obtain ⟨t, h1, h2⟩ := h
  exact ⟨t, (h1.moved hvm).kept hq, (h2.moved hvm).kept hq⟩
/-- what is fixed at a method's start: classes, the nest's words, the static table -/
def KK (Λ : LY) (U : State) : Prop := va_K (yD Λ) vwCl (ytys Λ) U ∧ NS U ∧ ST Λ U
theorem KK.at {Λ : LY} {s U : State} (hW : s.WarmedH U.vm) (hq : ∀ a : Nat, a < s.heap.size → ¬ yA Λ a → U.heap[a]? = s.heap[a]?) (h : KK Λ s) : KK Λ U := ⟨va_K.moved hW.alike h.1, h.2.1.warm hW, h.2.2.at hW.alike hq⟩
theorem KK.calling {Λ : LY} {U : State} {g : JFrame} {mk : MethodId} {a : Array Value} (h : KK Λ U) : KK Λ (U.calling g mk a) := ⟨va_K.moved (u := U) (U := U.calling g mk a) (Vm.Alike.refl U.vm) h.1, h.2.1.same rfl, h.2.2.at (Vm.Alike.refl U.vm) (fun _ _ _ => rfl)⟩
def cnt (t : Nat) : Nat := match t with
  | 3 => 32
  | 4 => 32
  | 5 => 32
  | 6 => 33
  | 7 => 33
  | 8 => 33
  | 9 => 33
  | 10 => 32
  | 11 => 32
  | 12 => 32
  | 13 => 200
  | 14 => 200
  | 15 => 200
  | 17 => 5
  | 19 => 31
  | t + 21 => 0
  | _ => 1
/-- the context of a walk: machine, contract's end, layout, how many locals -/
abbrev GX : Type := Program × Launch × Env × Room × State × MethodId × Array Value × List Frame × Method × Code × (State → Prop) × LY × Nat
def gl (Γ : GX) : LY := Γ.2.2.2.2.2.2.2.2.2.2.2.1
def gL (Γ : GX) : Launch := Γ.2.1
/-- what holds of it all the way -/
def GO (Γ : GX) (cc : ByteArray) (nL : Nat) (own : String) (Ts : List Cond) (fr lo : Nat) : Prop := match Γ with
  | (p, l, e, R, s, m, args, below, meth, c, Q, Λ, n) => p.tables.exec = Jvm.exec ∧ c.code = cc ∧ c.maxLocals = nL ∧ n = nL ∧ s.vm.findClass own = some m.cls ∧ (∀ w ∈ Ts, w.before args s = true) ∧ KK Λ s ∧ LO Λ ∧ yB Λ ≤ s.heap.size ∧ R.frames = fr ∧ R.locals = lo
/-- the machine at pc, with the state σ, the locals L, the stack st, comes to its end -/
def GG (Γ : GX) (κ : Nat × Nat) (σ : CS) (pc : Nat) (L : List (Nat × Value)) (st : List Value) : Prop := match Γ with
  | (p, l, e, R, s, m, args, below, meth, c, Q, Λ, n) => ∀ (H : Heap) (locs : List Loc) (ls : Array Slot), Wd Λ σ H → va_S (yA Λ) s.heap H locs → lv_has ls n L → W p l e R s m args below meth c H locs κ.1 κ.2 Q (F0 m pc ls st)

section GR
variable {Γ : GX} {κ : Nat × Nat} {σ : CS} {pc nL : Nat} {L : List (Nat × Value)} {st : List Value} {cc : ByteArray} {own : String} {Ts : List Cond} {fr lo : Nat}
theorem G_iconst (hΓ : GO Γ cc nL own Ts fr lo) {n : Int} {v : Int32} (hd : decode cc pc = .ok (.iconst n, 1)) (hv : Int32.ofInt n = v) (k : GG Γ κ σ (pc + 1) L (.int v :: st)) : GG Γ κ σ pc L (st) := by
  obtain ⟨p, l, e, R, s, m, args, below, meth, c, Q, Λ, n⟩ := Γ
  intro H locs ls hW hS hl
  exact lv_iconst hΓ.1 hΓ.2.1 hd hv (k H locs ls hW hS hl)
theorem G_bipush (hΓ : GO Γ cc nL own Ts fr lo) {n : Int} {v : Int32} (hd : decode cc pc = .ok (.bipush n, 2)) (hv : (Int8.ofInt n).toInt32 = v) (k : GG Γ κ σ (pc + 2) L (.int v :: st)) : GG Γ κ σ pc L (st) := by
  obtain ⟨p, l, e, R, s, m, args, below, meth, c, Q, Λ, n⟩ := Γ
  intro H locs ls hW hS hl
  exact lv_bipush hΓ.1 hΓ.2.1 hd hv (k H locs ls hW hS hl)
theorem G_sipush (hΓ : GO Γ cc nL own Ts fr lo) {n : Int} {v : Int32} (hd : decode cc pc = .ok (.sipush n, 3)) (hv : (Int16.ofInt n).toInt32 = v) (k : GG Γ κ σ (pc + 3) L (.int v :: st)) : GG Γ κ σ pc L (st) := by
  obtain ⟨p, l, e, R, s, m, args, below, meth, c, Q, Λ, n⟩ := Γ
  intro H locs ls hW hS hl
  exact lv_sipush hΓ.1 hΓ.2.1 hd hv (k H locs ls hW hS hl)
theorem G_lconst (hΓ : GO Γ cc nL own Ts fr lo) {n : Fin 2} {v : Int64} (hd : decode cc pc = .ok (.lconst n, 1)) (hv : Int64.ofNat (n : Nat) = v) (k : GG Γ κ σ (pc + 1) L (.long v :: st)) : GG Γ κ σ pc L (st) := by
  obtain ⟨p, l, e, R, s, m, args, below, meth, c, Q, Λ, n⟩ := Γ
  intro H locs ls hW hS hl
  exact lv_lconst hΓ.1 hΓ.2.1 hd hv (k H locs ls hW hS hl)
theorem G_iadd (hΓ : GO Γ cc nL own Ts fr lo) {x y : Int32} (hd : decode cc pc = .ok (.iadd, 1)) (k : GG Γ κ σ (pc + 1) L (.int (x + y) :: st)) : GG Γ κ σ pc L (.int y :: .int x :: st) := by
  obtain ⟨p, l, e, R, s, m, args, below, meth, c, Q, Λ, n⟩ := Γ
  intro H locs ls hW hS hl
  exact lv_iadd hΓ.1 hΓ.2.1 hd (k H locs ls hW hS hl)
theorem G_isub (hΓ : GO Γ cc nL own Ts fr lo) {x y : Int32} (hd : decode cc pc = .ok (.isub, 1)) (k : GG Γ κ σ (pc + 1) L (.int (x - y) :: st)) : GG Γ κ σ pc L (.int y :: .int x :: st) := by
  obtain ⟨p, l, e, R, s, m, args, below, meth, c, Q, Λ, n⟩ := Γ
  intro H locs ls hW hS hl
  exact lv_isub hΓ.1 hΓ.2.1 hd (k H locs ls hW hS hl)
theorem G_imul (hΓ : GO Γ cc nL own Ts fr lo) {x y : Int32} (hd : decode cc pc = .ok (.imul, 1)) (k : GG Γ κ σ (pc + 1) L (.int (x * y) :: st)) : GG Γ κ σ pc L (.int y :: .int x :: st) := by
  obtain ⟨p, l, e, R, s, m, args, below, meth, c, Q, Λ, n⟩ := Γ
  intro H locs ls hW hS hl
  exact lv_imul hΓ.1 hΓ.2.1 hd (k H locs ls hW hS hl)
theorem G_iand (hΓ : GO Γ cc nL own Ts fr lo) {x y : Int32} (hd : decode cc pc = .ok (.iand, 1)) (k : GG Γ κ σ (pc + 1) L (.int (x &&& y) :: st)) : GG Γ κ σ pc L (.int y :: .int x :: st) := by
  obtain ⟨p, l, e, R, s, m, args, below, meth, c, Q, Λ, n⟩ := Γ
  intro H locs ls hW hS hl
  exact lv_iand hΓ.1 hΓ.2.1 hd (k H locs ls hW hS hl)
theorem G_ior (hΓ : GO Γ cc nL own Ts fr lo) {x y : Int32} (hd : decode cc pc = .ok (.ior, 1)) (k : GG Γ κ σ (pc + 1) L (.int (x ||| y) :: st)) : GG Γ κ σ pc L (.int y :: .int x :: st) := by
  obtain ⟨p, l, e, R, s, m, args, below, meth, c, Q, Λ, n⟩ := Γ
  intro H locs ls hW hS hl
  exact lv_ior hΓ.1 hΓ.2.1 hd (k H locs ls hW hS hl)
theorem G_ixor (hΓ : GO Γ cc nL own Ts fr lo) {x y : Int32} (hd : decode cc pc = .ok (.ixor, 1)) (k : GG Γ κ σ (pc + 1) L (.int (x ^^^ y) :: st)) : GG Γ κ σ pc L (.int y :: .int x :: st) := by
  obtain ⟨p, l, e, R, s, m, args, below, meth, c, Q, Λ, n⟩ := Γ
  intro H locs ls hW hS hl
  exact lv_ixor hΓ.1 hΓ.2.1 hd (k H locs ls hW hS hl)
theorem G_ishl (hΓ : GO Γ cc nL own Ts fr lo) {x y : Int32} (hd : decode cc pc = .ok (.ishl, 1)) (k : GG Γ κ σ (pc + 1) L (.int (x <<< (y &&& 31)) :: st)) : GG Γ κ σ pc L (.int y :: .int x :: st) := by
  obtain ⟨p, l, e, R, s, m, args, below, meth, c, Q, Λ, n⟩ := Γ
  intro H locs ls hW hS hl
  exact lv_ishl hΓ.1 hΓ.2.1 hd (k H locs ls hW hS hl)
theorem G_ishr (hΓ : GO Γ cc nL own Ts fr lo) {x y : Int32} (hd : decode cc pc = .ok (.ishr, 1)) (k : GG Γ κ σ (pc + 1) L (.int (x >>> (y &&& 31)) :: st)) : GG Γ κ σ pc L (.int y :: .int x :: st) := by
  obtain ⟨p, l, e, R, s, m, args, below, meth, c, Q, Λ, n⟩ := Γ
  intro H locs ls hW hS hl
  exact lv_ishr hΓ.1 hΓ.2.1 hd (k H locs ls hW hS hl)
theorem G_land (hΓ : GO Γ cc nL own Ts fr lo) {x y : Int64} (hd : decode cc pc = .ok (.land, 1)) (k : GG Γ κ σ (pc + 1) L (.long (x &&& y) :: st)) : GG Γ κ σ pc L (.long y :: .long x :: st) := by
  obtain ⟨p, l, e, R, s, m, args, below, meth, c, Q, Λ, n⟩ := Γ
  intro H locs ls hW hS hl
  exact lv_land hΓ.1 hΓ.2.1 hd (k H locs ls hW hS hl)
theorem G_lor (hΓ : GO Γ cc nL own Ts fr lo) {x y : Int64} (hd : decode cc pc = .ok (.lor, 1)) (k : GG Γ κ σ (pc + 1) L (.long (x ||| y) :: st)) : GG Γ κ σ pc L (.long y :: .long x :: st) := by
  obtain ⟨p, l, e, R, s, m, args, below, meth, c, Q, Λ, n⟩ := Γ
  intro H locs ls hW hS hl
  exact lv_lor hΓ.1 hΓ.2.1 hd (k H locs ls hW hS hl)
theorem G_idiv (hΓ : GO Γ cc nL own Ts fr lo) {x y : Int32} (hd : decode cc pc = .ok (.idiv, 1)) (hne : ¬ y = 0) (k : GG Γ κ σ (pc + 1) L (.int (x / y) :: st)) : GG Γ κ σ pc L (.int y :: .int x :: st) := by
  obtain ⟨p, l, e, R, s, m, args, below, meth, c, Q, Λ, n⟩ := Γ
  intro H locs ls hW hS hl
  exact lv_idiv hΓ.1 hΓ.2.1 hd hne (k H locs ls hW hS hl)
theorem G_irem (hΓ : GO Γ cc nL own Ts fr lo) {x y : Int32} (hd : decode cc pc = .ok (.irem, 1)) (hne : ¬ y = 0) (k : GG Γ κ σ (pc + 1) L (.int (x - x / y * y) :: st)) : GG Γ κ σ pc L (.int y :: .int x :: st) := by
  obtain ⟨p, l, e, R, s, m, args, below, meth, c, Q, Λ, n⟩ := Γ
  intro H locs ls hW hS hl
  exact lv_irem hΓ.1 hΓ.2.1 hd hne (k H locs ls hW hS hl)
theorem G_iushr (hΓ : GO Γ cc nL own Ts fr lo) {x y : Int32} (hd : decode cc pc = .ok (.iushr, 1)) (k : GG Γ κ σ (pc + 1) L (.int ((x.toUInt32 >>> (y.toUInt32 &&& Int32.toUInt32 31)).toInt32) :: st)) : GG Γ κ σ pc L (.int y :: .int x :: st) := by
  obtain ⟨p, l, e, R, s, m, args, below, meth, c, Q, Λ, n⟩ := Γ
  intro H locs ls hW hS hl
  exact lv_iushr hΓ.1 hΓ.2.1 hd rfl (k H locs ls hW hS hl)
theorem G_lshl (hΓ : GO Γ cc nL own Ts fr lo) {x : Int64} {y : Int32} (hd : decode cc pc = .ok (.lshl, 1)) (k : GG Γ κ σ (pc + 1) L (.long (x <<< (y.toInt64 &&& 63)) :: st)) : GG Γ κ σ pc L (.int y :: .long x :: st) := by
  obtain ⟨p, l, e, R, s, m, args, below, meth, c, Q, Λ, n⟩ := Γ
  intro H locs ls hW hS hl
  exact lv_lshl hΓ.1 hΓ.2.1 hd rfl (k H locs ls hW hS hl)
theorem G_lshr (hΓ : GO Γ cc nL own Ts fr lo) {x : Int64} {y : Int32} (hd : decode cc pc = .ok (.lshr, 1)) (k : GG Γ κ σ (pc + 1) L (.long (x >>> (y.toInt64 &&& 63)) :: st)) : GG Γ κ σ pc L (.int y :: .long x :: st) := by
  obtain ⟨p, l, e, R, s, m, args, below, meth, c, Q, Λ, n⟩ := Γ
  intro H locs ls hW hS hl
  exact lv_lshr hΓ.1 hΓ.2.1 hd rfl (k H locs ls hW hS hl)
theorem G_i2l (hΓ : GO Γ cc nL own Ts fr lo) {x : Int32} (hd : decode cc pc = .ok (.i2l, 1)) (k : GG Γ κ σ (pc + 1) L (.long x.toInt64 :: st)) : GG Γ κ σ pc L (.int x :: st) := by
  obtain ⟨p, l, e, R, s, m, args, below, meth, c, Q, Λ, n⟩ := Γ
  intro H locs ls hW hS hl
  exact lv_i2l hΓ.1 hΓ.2.1 hd rfl (k H locs ls hW hS hl)
theorem G_l2i (hΓ : GO Γ cc nL own Ts fr lo) {x : Int64} (hd : decode cc pc = .ok (.l2i, 1)) (k : GG Γ κ σ (pc + 1) L (.int x.toInt32 :: st)) : GG Γ κ σ pc L (.long x :: st) := by
  obtain ⟨p, l, e, R, s, m, args, below, meth, c, Q, Λ, n⟩ := Γ
  intro H locs ls hW hS hl
  exact lv_l2i hΓ.1 hΓ.2.1 hd rfl (k H locs ls hW hS hl)
theorem G_i2b (hΓ : GO Γ cc nL own Ts fr lo) {x : Int32} (hd : decode cc pc = .ok (.i2b, 1)) (k : GG Γ κ σ (pc + 1) L (.int x.toInt8.toInt32 :: st)) : GG Γ κ σ pc L (.int x :: st) := by
  obtain ⟨p, l, e, R, s, m, args, below, meth, c, Q, Λ, n⟩ := Γ
  intro H locs ls hW hS hl
  exact lv_i2b hΓ.1 hΓ.2.1 hd rfl (k H locs ls hW hS hl)
theorem G_lcmp (hΓ : GO Γ cc nL own Ts fr lo) {x y : Int64} (hd : decode cc pc = .ok (.lcmp, 1)) (k : GG Γ κ σ (pc + 1) L (.int (lg_cmp x y) :: st)) : GG Γ κ σ pc L (.long y :: .long x :: st) := by
  obtain ⟨p, l, e, R, s, m, args, below, meth, c, Q, Λ, n⟩ := Γ
  intro H locs ls hW hS hl
  exact W.lcmp hΓ.1 hΓ.2.1 hd (k H locs ls hW hS hl)
theorem G_dup (hΓ : GO Γ cc nL own Ts fr lo) {u : Value} (hd : decode cc pc = .ok (.dup, 1)) (hu : u.category = 1) (k : GG Γ κ σ (pc + 1) L (u :: u :: st)) : GG Γ κ σ pc L (u :: st) := by
  obtain ⟨p, l, e, R, s, m, args, below, meth, c, Q, Λ, n⟩ := Γ
  intro H locs ls hW hS hl
  exact lv_dup hΓ.1 hΓ.2.1 hd hu (k H locs ls hW hS hl)
theorem G_pop (hΓ : GO Γ cc nL own Ts fr lo) {u : Value} (hd : decode cc pc = .ok (.pop, 1)) (hu : u.category = 1) (k : GG Γ κ σ (pc + 1) L (st)) : GG Γ κ σ pc L (u :: st) := by
  obtain ⟨p, l, e, R, s, m, args, below, meth, c, Q, Λ, n⟩ := Γ
  intro H locs ls hW hS hl
  exact lv_pop hΓ.1 hΓ.2.1 hd hu (k H locs ls hW hS hl)
theorem G_dup_x1 (hΓ : GO Γ cc nL own Ts fr lo) {u v : Value} (hd : decode cc pc = .ok (.dup_x1, 1)) (hu : u.category = 1) (hv : v.category = 1) (k : GG Γ κ σ (pc + 1) L (u :: v :: u :: st)) : GG Γ κ σ pc L (u :: v :: st) := by
  obtain ⟨p, l, e, R, s, m, args, below, meth, c, Q, Λ, n⟩ := Γ
  intro H locs ls hW hS hl
  exact lv_dup_x1 hΓ.1 hΓ.2.1 hd hu hv (k H locs ls hW hS hl)
theorem G_dup_x2 (hΓ : GO Γ cc nL own Ts fr lo) {u v z : Value} (hd : decode cc pc = .ok (.dup_x2, 1)) (hu : u.category = 1) (hv : v.category = 1) (hz : z.category = 1) (k : GG Γ κ σ (pc + 1) L (u :: v :: z :: u :: st)) : GG Γ κ σ pc L (u :: v :: z :: st) := by
  obtain ⟨p, l, e, R, s, m, args, below, meth, c, Q, Λ, n⟩ := Γ
  intro H locs ls hW hS hl
  exact lv_dup_x2 hΓ.1 hΓ.2.1 hd hu hv hz (k H locs ls hW hS hl)
theorem G_dup2 (hΓ : GO Γ cc nL own Ts fr lo) {u v : Value} (hd : decode cc pc = .ok (.dup2, 1)) (hu : u.category = 1) (hv : v.category = 1) (k : GG Γ κ σ (pc + 1) L (u :: v :: u :: v :: st)) : GG Γ κ σ pc L (u :: v :: st) := by
  obtain ⟨p, l, e, R, s, m, args, below, meth, c, Q, Λ, n⟩ := Γ
  intro H locs ls hW hS hl
  exact lv_dup2_11 hΓ.1 hΓ.2.1 hd hu hv (k H locs ls hW hS hl)
theorem G_null (hΓ : GO Γ cc nL own Ts fr lo) (hd : decode cc pc = .ok (.aconst_null, 1)) (k : GG Γ κ σ (pc + 1) L (.null :: st)) : GG Γ κ σ pc L (st) := by
  obtain ⟨p, l, e, R, s, m, args, below, meth, c, Q, Λ, n⟩ := Γ
  intro H locs ls hW hS hl
  exact lv_null hΓ.1 hΓ.2.1 hd (k H locs ls hW hS hl)
theorem G_iload_n (hΓ : GO Γ cc nL own Ts fr lo) {j : Fin 4} {x : Int32} (k0 : Nat) (hd : decode cc pc = .ok (.iload_n j, 1)) (hx : L[k0]? = some ((j : Nat), .int x)) (k : GG Γ κ σ (pc + 1) L (.int x :: st)) : GG Γ κ σ pc L (st) := by
  obtain ⟨p, l, e, R, s, m, args, below, meth, c, Q, Λ, n⟩ := Γ
  intro H locs ls hW hS hl
  exact lv_iload_n hΓ.1 hΓ.2.1 hd rfl (lv_at hl k0 hx) (k H locs ls hW hS hl)
theorem G_iload (hΓ : GO Γ cc nL own Ts fr lo) {j : Nat} {x : Int32} (k0 : Nat) (hd : decode cc pc = .ok (.iload j, 2)) (hx : L[k0]? = some (j, .int x)) (k : GG Γ κ σ (pc + 2) L (.int x :: st)) : GG Γ κ σ pc L (st) := by
  obtain ⟨p, l, e, R, s, m, args, below, meth, c, Q, Λ, n⟩ := Γ
  intro H locs ls hW hS hl
  exact lv_iload hΓ.1 hΓ.2.1 hd (lv_at hl k0 hx) (k H locs ls hW hS hl)
theorem G_lload_n (hΓ : GO Γ cc nL own Ts fr lo) {j : Fin 4} {x : Int64} (k0 : Nat) (hd : decode cc pc = .ok (.lload_n j, 1)) (hx : L[k0]? = some ((j : Nat), .long x)) (k : GG Γ κ σ (pc + 1) L (.long x :: st)) : GG Γ κ σ pc L (st) := by
  obtain ⟨p, l, e, R, s, m, args, below, meth, c, Q, Λ, n⟩ := Γ
  intro H locs ls hW hS hl
  exact lv_lload_n hΓ.1 hΓ.2.1 hd rfl (lv_at hl k0 hx) (k H locs ls hW hS hl)
theorem G_lload (hΓ : GO Γ cc nL own Ts fr lo) {j : Nat} {x : Int64} (k0 : Nat) (hd : decode cc pc = .ok (.lload j, 2)) (hx : L[k0]? = some (j, .long x)) (k : GG Γ κ σ (pc + 2) L (.long x :: st)) : GG Γ κ σ pc L (st) := by
  obtain ⟨p, l, e, R, s, m, args, below, meth, c, Q, Λ, n⟩ := Γ
  intro H locs ls hW hS hl
  exact lv_lload hΓ.1 hΓ.2.1 hd (lv_at hl k0 hx) (k H locs ls hW hS hl)
theorem G_aload_n (hΓ : GO Γ cc nL own Ts fr lo) {j : Fin 4} {x : Nat} (k0 : Nat) (hd : decode cc pc = .ok (.aload_n j, 1)) (hx : L[k0]? = some ((j : Nat), .ref x)) (k : GG Γ κ σ (pc + 1) L (.ref x :: st)) : GG Γ κ σ pc L (st) := by
  obtain ⟨p, l, e, R, s, m, args, below, meth, c, Q, Λ, n⟩ := Γ
  intro H locs ls hW hS hl
  exact lv_aload_n hΓ.1 hΓ.2.1 hd rfl (lv_at hl k0 hx) (k H locs ls hW hS hl)
theorem G_aload (hΓ : GO Γ cc nL own Ts fr lo) {j : Nat} {x : Nat} (k0 : Nat) (hd : decode cc pc = .ok (.aload j, 2)) (hx : L[k0]? = some (j, .ref x)) (k : GG Γ κ σ (pc + 2) L (.ref x :: st)) : GG Γ κ σ pc L (st) := by
  obtain ⟨p, l, e, R, s, m, args, below, meth, c, Q, Λ, n⟩ := Γ
  intro H locs ls hW hS hl
  exact lv_aload hΓ.1 hΓ.2.1 hd (lv_at hl k0 hx) (k H locs ls hW hS hl)
theorem G_istore_n (hΓ : GO Γ cc nL own Ts fr lo) {j : Fin 4} {x : Int32} (L' : List (Nat × Value)) (hd : decode cc pc = .ok (.istore_n j, 1)) (hn : (j : Nat) < nL) (hL : ((j : Nat), Value.int x) :: L.filter (fun q => !(q.1 == (j : Nat)) && !(q.1 + 1 == (j : Nat) && q.2.category == 2)) = L') (k : GG Γ κ σ (pc + 1) L' st) : GG Γ κ σ pc L (.int x :: st) := by
  obtain ⟨p, l, e, R, s, m, args, below, meth, c, Q, Λ, n⟩ := Γ
  intro H locs ls hW hS hl
  have hn' := hΓ.2.2.2.1
  subst hn'
  exact lv_istore_n hΓ.1 hΓ.2.1 hd rfl hl hn hL (fun ls' hl' => k H locs ls' hW hS hl')
theorem G_istore (hΓ : GO Γ cc nL own Ts fr lo) {j : Nat} {x : Int32} (L' : List (Nat × Value)) (hd : decode cc pc = .ok (.istore j, 2)) (hn : j < nL) (hL : (j, Value.int x) :: L.filter (fun q => !(q.1 == j) && !(q.1 + 1 == j && q.2.category == 2)) = L') (k : GG Γ κ σ (pc + 2) L' st) : GG Γ κ σ pc L (.int x :: st) := by
  obtain ⟨p, l, e, R, s, m, args, below, meth, c, Q, Λ, n⟩ := Γ
  intro H locs ls hW hS hl
  have hn' := hΓ.2.2.2.1
  subst hn'
  exact lv_istore hΓ.1 hΓ.2.1 hd hl hn hL (fun ls' hl' => k H locs ls' hW hS hl')
theorem G_astore_n (hΓ : GO Γ cc nL own Ts fr lo) {j : Fin 4} {x : Nat} (L' : List (Nat × Value)) (hd : decode cc pc = .ok (.astore_n j, 1)) (hn : (j : Nat) < nL) (hL : ((j : Nat), Value.ref x) :: L.filter (fun q => !(q.1 == (j : Nat)) && !(q.1 + 1 == (j : Nat) && q.2.category == 2)) = L') (k : GG Γ κ σ (pc + 1) L' st) : GG Γ κ σ pc L (.ref x :: st) := by
  obtain ⟨p, l, e, R, s, m, args, below, meth, c, Q, Λ, n⟩ := Γ
  intro H locs ls hW hS hl
  have hn' := hΓ.2.2.2.1
  subst hn'
  exact lv_astore_n hΓ.1 hΓ.2.1 hd rfl hl hn hL (fun ls' hl' => k H locs ls' hW hS hl')
theorem G_astore (hΓ : GO Γ cc nL own Ts fr lo) {j : Nat} {x : Nat} (L' : List (Nat × Value)) (hd : decode cc pc = .ok (.astore j, 2)) (hn : j < nL) (hL : (j, Value.ref x) :: L.filter (fun q => !(q.1 == j) && !(q.1 + 1 == j && q.2.category == 2)) = L') (k : GG Γ κ σ (pc + 2) L' st) : GG Γ κ σ pc L (.ref x :: st) := by
  obtain ⟨p, l, e, R, s, m, args, below, meth, c, Q, Λ, n⟩ := Γ
  intro H locs ls hW hS hl
  have hn' := hΓ.2.2.2.1
  subst hn'
  exact lv_astore hΓ.1 hΓ.2.1 hd hl hn hL (fun ls' hl' => k H locs ls' hW hS hl')
theorem G_lstore_n (hΓ : GO Γ cc nL own Ts fr lo) {j : Fin 4} {x : Int64} (L' : List (Nat × Value)) (hd : decode cc pc = .ok (.lstore_n j, 1)) (hn : (j : Nat) + 1 < nL) (hL : ((j : Nat), Value.long x) :: L.filter (fun q => !(q.1 == (j : Nat)) && (!(q.1 == (j : Nat) + 1) && !(q.1 + 1 == (j : Nat) && q.2.category == 2))) = L') (k : GG Γ κ σ (pc + 1) L' st) : GG Γ κ σ pc L (.long x :: st) := by
  obtain ⟨p, l, e, R, s, m, args, below, meth, c, Q, Λ, n⟩ := Γ
  intro H locs ls hW hS hl
  have hn' := hΓ.2.2.2.1
  subst hn'
  exact lv_lstore_n hΓ.1 hΓ.2.1 hd rfl hl hn hL (fun ls' hl' => k H locs ls' hW hS hl')
theorem G_lstore (hΓ : GO Γ cc nL own Ts fr lo) {j : Nat} {x : Int64} (L' : List (Nat × Value)) (hd : decode cc pc = .ok (.lstore j, 2)) (hn : j + 1 < nL) (hL : (j, Value.long x) :: L.filter (fun q => !(q.1 == j) && (!(q.1 == j + 1) && !(q.1 + 1 == j && q.2.category == 2))) = L') (k : GG Γ κ σ (pc + 2) L' st) : GG Γ κ σ pc L (.long x :: st) := by
  obtain ⟨p, l, e, R, s, m, args, below, meth, c, Q, Λ, n⟩ := Γ
  intro H locs ls hW hS hl
  have hn' := hΓ.2.2.2.1
  subst hn'
  exact lv_lstore hΓ.1 hΓ.2.1 hd hl hn hL (fun ls' hl' => k H locs ls' hW hS hl')
theorem G_iinc (hΓ : GO Γ cc nL own Ts fr lo) {j : Nat} {n : Int} {x v : Int32} (k0 : Nat) (L' : List (Nat × Value)) (hd : decode cc pc = .ok (.iinc j n, 3)) (hx : L[k0]? = some (j, .int x)) (hv : x + Int32.ofInt n = v) (hn : j < nL) (hL : (j, Value.int v) :: L.filter (fun q => !(q.1 == j) && !(q.1 + 1 == j && q.2.category == 2)) = L') (k : GG Γ κ σ (pc + 3) L' st) : GG Γ κ σ pc L st := by
  obtain ⟨p, l, e, R, s, m, args, below, meth, c, Q, Λ, n'⟩ := Γ
  intro H locs ls hW hS hl
  have hn' := hΓ.2.2.2.1
  subst hn'
  exact lv_iinc hΓ.1 hΓ.2.1 hd hl hx hv hn hL (fun ls' hl' => k H locs ls' hW hS hl')
theorem G_if_eq (hΓ : GO Γ cc nL own Ts fr lo) {x : Int32} {off : Int} {tgt : Nat} (hd : decode cc pc = .ok (.ifCond .eq off, 3)) (ht : (pc : Int) + off = (tgt : Int)) (kt : x = 0 → GG Γ κ σ tgt L st) (kf : ¬ x = 0 → GG Γ κ σ (pc + 3) L st) : GG Γ κ σ pc L (.int x :: st) := by
  obtain ⟨p, l, e, R, s, m, args, below, meth, c, Q, Λ, n⟩ := Γ
  intro H locs ls hW hS hl
  exact lv_if_eq hΓ.1 hΓ.2.1 hd ht (fun q => kt q H locs ls hW hS hl) (fun q => kf q H locs ls hW hS hl)
theorem G_if_ne (hΓ : GO Γ cc nL own Ts fr lo) {x : Int32} {off : Int} {tgt : Nat} (hd : decode cc pc = .ok (.ifCond .ne off, 3)) (ht : (pc : Int) + off = (tgt : Int)) (kt : ¬ x = 0 → GG Γ κ σ tgt L st) (kf : x = 0 → GG Γ κ σ (pc + 3) L st) : GG Γ κ σ pc L (.int x :: st) := by
  obtain ⟨p, l, e, R, s, m, args, below, meth, c, Q, Λ, n⟩ := Γ
  intro H locs ls hW hS hl
  exact lv_if_ne hΓ.1 hΓ.2.1 hd ht (fun q => kt q H locs ls hW hS hl) (fun q => kf q H locs ls hW hS hl)
theorem G_if_lt (hΓ : GO Γ cc nL own Ts fr lo) {x : Int32} {off : Int} {tgt : Nat} (hd : decode cc pc = .ok (.ifCond .lt off, 3)) (ht : (pc : Int) + off = (tgt : Int)) (kt : x < 0 → GG Γ κ σ tgt L st) (kf : ¬ x < 0 → GG Γ κ σ (pc + 3) L st) : GG Γ κ σ pc L (.int x :: st) := by
  obtain ⟨p, l, e, R, s, m, args, below, meth, c, Q, Λ, n⟩ := Γ
  intro H locs ls hW hS hl
  exact lv_if_lt hΓ.1 hΓ.2.1 hd ht (fun q => kt q H locs ls hW hS hl) (fun q => kf q H locs ls hW hS hl)
theorem G_if_ge (hΓ : GO Γ cc nL own Ts fr lo) {x : Int32} {off : Int} {tgt : Nat} (hd : decode cc pc = .ok (.ifCond .ge off, 3)) (ht : (pc : Int) + off = (tgt : Int)) (kt : 0 ≤ x → GG Γ κ σ tgt L st) (kf : ¬ 0 ≤ x → GG Γ κ σ (pc + 3) L st) : GG Γ κ σ pc L (.int x :: st) := by
  obtain ⟨p, l, e, R, s, m, args, below, meth, c, Q, Λ, n⟩ := Γ
  intro H locs ls hW hS hl
  exact lv_if_ge hΓ.1 hΓ.2.1 hd ht (fun q => kt q H locs ls hW hS hl) (fun q => kf q H locs ls hW hS hl)
theorem G_if_gt (hΓ : GO Γ cc nL own Ts fr lo) {x : Int32} {off : Int} {tgt : Nat} (hd : decode cc pc = .ok (.ifCond .gt off, 3)) (ht : (pc : Int) + off = (tgt : Int)) (kt : 0 < x → GG Γ κ σ tgt L st) (kf : ¬ 0 < x → GG Γ κ σ (pc + 3) L st) : GG Γ κ σ pc L (.int x :: st) := by
  obtain ⟨p, l, e, R, s, m, args, below, meth, c, Q, Λ, n⟩ := Γ
  intro H locs ls hW hS hl
  exact lv_if_gt hΓ.1 hΓ.2.1 hd ht (fun q => kt q H locs ls hW hS hl) (fun q => kf q H locs ls hW hS hl)
theorem G_if_le (hΓ : GO Γ cc nL own Ts fr lo) {x : Int32} {off : Int} {tgt : Nat} (hd : decode cc pc = .ok (.ifCond .le off, 3)) (ht : (pc : Int) + off = (tgt : Int)) (kt : x ≤ 0 → GG Γ κ σ tgt L st) (kf : ¬ x ≤ 0 → GG Γ κ σ (pc + 3) L st) : GG Γ κ σ pc L (.int x :: st) := by
  obtain ⟨p, l, e, R, s, m, args, below, meth, c, Q, Λ, n⟩ := Γ
  intro H locs ls hW hS hl
  exact lv_if_le hΓ.1 hΓ.2.1 hd ht (fun q => kt q H locs ls hW hS hl) (fun q => kf q H locs ls hW hS hl)
theorem G_icmp_eq (hΓ : GO Γ cc nL own Ts fr lo) {x y : Int32} {off : Int} {tgt : Nat} (hd : decode cc pc = .ok (.if_icmp .eq off, 3)) (ht : (pc : Int) + off = (tgt : Int)) (kt : x = y → GG Γ κ σ tgt L st) (kf : ¬ x = y → GG Γ κ σ (pc + 3) L st) : GG Γ κ σ pc L (.int y :: .int x :: st) := by
  obtain ⟨p, l, e, R, s, m, args, below, meth, c, Q, Λ, n⟩ := Γ
  intro H locs ls hW hS hl
  exact lv_icmp_eq hΓ.1 hΓ.2.1 hd ht (fun q => kt q H locs ls hW hS hl) (fun q => kf q H locs ls hW hS hl)
theorem G_icmp_ne (hΓ : GO Γ cc nL own Ts fr lo) {x y : Int32} {off : Int} {tgt : Nat} (hd : decode cc pc = .ok (.if_icmp .ne off, 3)) (ht : (pc : Int) + off = (tgt : Int)) (kt : ¬ x = y → GG Γ κ σ tgt L st) (kf : x = y → GG Γ κ σ (pc + 3) L st) : GG Γ κ σ pc L (.int y :: .int x :: st) := by
  obtain ⟨p, l, e, R, s, m, args, below, meth, c, Q, Λ, n⟩ := Γ
  intro H locs ls hW hS hl
  exact lv_icmp_ne hΓ.1 hΓ.2.1 hd ht (fun q => kt q H locs ls hW hS hl) (fun q => kf q H locs ls hW hS hl)
theorem G_icmp_lt (hΓ : GO Γ cc nL own Ts fr lo) {x y : Int32} {off : Int} {tgt : Nat} (hd : decode cc pc = .ok (.if_icmp .lt off, 3)) (ht : (pc : Int) + off = (tgt : Int)) (kt : x < y → GG Γ κ σ tgt L st) (kf : ¬ x < y → GG Γ κ σ (pc + 3) L st) : GG Γ κ σ pc L (.int y :: .int x :: st) := by
  obtain ⟨p, l, e, R, s, m, args, below, meth, c, Q, Λ, n⟩ := Γ
  intro H locs ls hW hS hl
  exact lv_icmp_lt hΓ.1 hΓ.2.1 hd ht (fun q => kt q H locs ls hW hS hl) (fun q => kf q H locs ls hW hS hl)
theorem G_icmp_ge (hΓ : GO Γ cc nL own Ts fr lo) {x y : Int32} {off : Int} {tgt : Nat} (hd : decode cc pc = .ok (.if_icmp .ge off, 3)) (ht : (pc : Int) + off = (tgt : Int)) (kt : y ≤ x → GG Γ κ σ tgt L st) (kf : ¬ y ≤ x → GG Γ κ σ (pc + 3) L st) : GG Γ κ σ pc L (.int y :: .int x :: st) := by
  obtain ⟨p, l, e, R, s, m, args, below, meth, c, Q, Λ, n⟩ := Γ
  intro H locs ls hW hS hl
  exact lv_icmp_ge hΓ.1 hΓ.2.1 hd ht (fun q => kt q H locs ls hW hS hl) (fun q => kf q H locs ls hW hS hl)
theorem G_icmp_gt (hΓ : GO Γ cc nL own Ts fr lo) {x y : Int32} {off : Int} {tgt : Nat} (hd : decode cc pc = .ok (.if_icmp .gt off, 3)) (ht : (pc : Int) + off = (tgt : Int)) (kt : y < x → GG Γ κ σ tgt L st) (kf : ¬ y < x → GG Γ κ σ (pc + 3) L st) : GG Γ κ σ pc L (.int y :: .int x :: st) := by
  obtain ⟨p, l, e, R, s, m, args, below, meth, c, Q, Λ, n⟩ := Γ
  intro H locs ls hW hS hl
  exact lv_icmp_gt hΓ.1 hΓ.2.1 hd ht (fun q => kt q H locs ls hW hS hl) (fun q => kf q H locs ls hW hS hl)
theorem G_icmp_le (hΓ : GO Γ cc nL own Ts fr lo) {x y : Int32} {off : Int} {tgt : Nat} (hd : decode cc pc = .ok (.if_icmp .le off, 3)) (ht : (pc : Int) + off = (tgt : Int)) (kt : x ≤ y → GG Γ κ σ tgt L st) (kf : ¬ x ≤ y → GG Γ κ σ (pc + 3) L st) : GG Γ κ σ pc L (.int y :: .int x :: st) := by
  obtain ⟨p, l, e, R, s, m, args, below, meth, c, Q, Λ, n⟩ := Γ
  intro H locs ls hW hS hl
  exact lv_icmp_le hΓ.1 hΓ.2.1 hd ht (fun q => kt q H locs ls hW hS hl) (fun q => kf q H locs ls hW hS hl)
theorem G_goto (hΓ : GO Γ cc nL own Ts fr lo) {off : Int} {tgt : Nat} (hd : decode cc pc = .ok (.goto off, 3)) (ht : (pc : Int) + off = (tgt : Int)) (k : GG Γ κ σ tgt L st) : GG Γ κ σ pc L (st) := by
  obtain ⟨p, l, e, R, s, m, args, below, meth, c, Q, Λ, n⟩ := Γ
  intro H locs ls hW hS hl
  exact lv_goto hΓ.1 hΓ.2.1 hd ht (k H locs ls hW hS hl)
theorem G_ldc (hΓ : GO Γ cc nL own Ts fr lo) {index : Nat} {v : Int32} (hc : Cond.constant own index v ∈ Ts) (hd : decode cc pc = .ok (.ldc index, 2)) (k : GG Γ κ σ (pc + 2) L (.int v :: st)) : GG Γ κ σ pc L (st) := by
  obtain ⟨p, l, e, R, s, m, args, below, meth, c, Q, Λ, n⟩ := Γ
  intro H locs ls hW hS hl
  exact lv_ldc hΓ.1 hΓ.2.1 hΓ.2.2.2.2.1 (hΓ.2.2.2.2.2.1 _ hc) hd (k H locs ls hW hS hl)
theorem G_ldcw (hΓ : GO Γ cc nL own Ts fr lo) {index : Nat} {v : Int32} (hc : Cond.constant own index v ∈ Ts) (hd : decode cc pc = .ok (.ldc_w index, 3)) (k : GG Γ κ σ (pc + 3) L (.int v :: st)) : GG Γ κ σ pc L (st) := by
  obtain ⟨p, l, e, R, s, m, args, below, meth, c, Q, Λ, n⟩ := Γ
  intro H locs ls hW hS hl
  exact lv_ldcw hΓ.1 hΓ.2.1 hΓ.2.2.2.2.1 (hΓ.2.2.2.2.2.1 _ hc) hd (k H locs ls hW hS hl)
theorem G_get (hΓ : GO Γ cc nL own Ts fr lo) {t i ci N index : Nat} {C : String} {T : u_T} {fs : List Value} {v : Value} (hi : i < yn (gl Γ) t) (hc : ce (gl Γ) σ t i = .inr (ci, fs)) (hcl : vwCl[ci]? = some (C, T, N)) (hin : ∀ w ∈ u_ws C T N, w ∈ Ts) (kf : Nat) (hk : kf < N) (hlink : Cond.fieldLink own index (T kf).1 (T kf).2.1 (T kf).2.2.1 ∈ Ts) (hv : fs[kf]? = some v) (hd : decode cc pc = .ok (.getfield index, 3)) (k : GG Γ κ σ (pc + 3) L (v :: st)) : GG Γ κ σ pc L (.ref (ya (gl Γ) t i) :: st) := by
  obtain ⟨p, l, e, R, s, m, args, below, meth, c, Q, Λ, n⟩ := Γ
  intro H locs ls hW hS hl
  obtain ⟨hx, hb, hml, hnl, hown, hts, ⟨hK, hN, hZ⟩, hO, hB, hfr, hlo⟩ := hΓ
  obtain ⟨q0, hq⟩ := yW_get (σ := σ) hO hi
  rw [show ce Λ σ t i = .inr (ci, fs) from hc] at hq
  exact va_get (D := yD Λ) hx hb hts hin hown hK hW q0 hq hcl kf hk (hts _ hlink) (fun _ h9 => h9) hv hd (k H locs ls hW hS hl)
theorem G_put (hΓ : GO Γ cc nL own Ts fr lo) {t i ci N index : Nat} {C : String} {T : u_T} {fs : List Value} {σ' : CS} {ty : FieldType} {v : Value} (ty0 : Nat → FieldType) (hty : ∀ k, k < N → parseFieldDescriptor (T k).2.2.1 = some (ty0 k)) (hnm : ∀ a, a < N → ∀ b, b < N → a ≠ b → (T a).2.1 ≠ (T b).2.1) (hi : i < yn (gl Γ) t) (hc : ce (gl Γ) σ t i = .inr (ci, fs)) (hcl : vwCl[ci]? = some (C, T, N)) (hin : ∀ w ∈ u_ws C T N, w ∈ Ts) (kf : Nat) (hk : kf < N) (hlink : Cond.fieldLink own index (T kf).1 (T kf).2.1 (T kf).2.2.1 ∈ Ts) (hfin : (T kf).2.2.2 = false) (hd2 : parseFieldDescriptor (T kf).2.2.1 = some ty) (hnar : narrow ty v = v) (hfit : fits ty v = true) (hlen : kf < fs.length) (hc' : ce (gl Γ) σ' t i = .inr (ci, fs.set kf v)) (ho : ∀ t' i', ¬ (t' = t ∧ i' = i) → ce (gl Γ) σ' t' i' = ce (gl Γ) σ t' i') (hd : decode cc pc = .ok (.putfield index, 3)) (k : GG Γ κ σ' (pc + 3) L st) : GG Γ κ σ pc L (v :: .ref (ya (gl Γ) t i) :: st) := by
  obtain ⟨p, l, e, R, s, m, args, below, meth, c, Q, Λ, n⟩ := Γ
  intro H locs ls hW hS hl
  obtain ⟨hx, hb, hml, hnl, hown, hts, ⟨hK, hN, hZ⟩, hO, hB, hfr, hlo⟩ := hΓ
  obtain ⟨q0, hq⟩ := yW_get (σ := σ) hO hi
  have es := yW_set (σ' := σ') hO hi hq ho
  rw [show ce Λ σ t i = .inr (ci, fs) from hc] at hq
  rw [show ce Λ σ' t i = .inr (ci, fs.set kf v) from hc'] at es
  refine va_put (D := yD Λ) hx hb hts hin ty0 hty hnm hown hK hW (yW_D hO) hS q0 hq hcl kf hk (hts _ hlink) (fun _ h9 => h9) hfin hd2 hnar hfit hlen hd (fun H1 locs1 hP1 hD1 hS1 => ?_)
  rw [es] at hP1
  exact k H1 locs1 ls hP1 hS1 hl

theorem G_getN (hΓ : GO Γ cc nL own Ts fr lo) {t i ci N index : Nat} {C host : String} {T : u_T} {fs : List Value} {v : Value} (hi : i < yn (gl Γ) t) (hc : ce (gl Γ) σ t i = .inr (ci, fs)) (hcl : vwCl[ci]? = some (C, T, N)) (hin : ∀ w ∈ u_ws C T N, w ∈ Ts) (kf : Nat) (hk : kf < N) (k9 : Nat) (hlink : NF[k9]? = some (own, index, (T kf).1, (T kf).2.1, (T kf).2.2.1, host)) (hv : fs[kf]? = some v) (hd : decode cc pc = .ok (.getfield index, 3)) (k : GG Γ κ σ (pc + 3) L (v :: st)) : GG Γ κ σ pc L (.ref (ya (gl Γ) t i) :: st) := by
  obtain ⟨p, l, e, R, s, m, args, below, meth, c, Q, Λ, n⟩ := Γ
  intro H locs ls hW hS hl
  obtain ⟨hx, hb, hml, hnl, hown, hts, ⟨hK, hN, hZ⟩, hO, hB, hfr, hlo⟩ := hΓ
  obtain ⟨q0, hq⟩ := yW_get (σ := σ) hO hi
  rw [show ce Λ σ t i = .inr (ci, fs) from hc] at hq
  exact va_getN (D := yD Λ) hx hb hts hin hown hK hW q0 hq hcl kf hk (va_Nw.use rfl (hN.1 _ (List.mem_of_getElem? hlink))) (fun _ h9 => h9) hv hd (k H locs ls hW hS hl)
theorem G_putN (hΓ : GO Γ cc nL own Ts fr lo) {t i ci N index : Nat} {C host : String} {T : u_T} {fs : List Value} {σ' : CS} {ty : FieldType} {v : Value} (ty0 : Nat → FieldType) (hty : ∀ k, k < N → parseFieldDescriptor (T k).2.2.1 = some (ty0 k)) (hnm : ∀ a, a < N → ∀ b, b < N → a ≠ b → (T a).2.1 ≠ (T b).2.1) (hi : i < yn (gl Γ) t) (hc : ce (gl Γ) σ t i = .inr (ci, fs)) (hcl : vwCl[ci]? = some (C, T, N)) (hin : ∀ w ∈ u_ws C T N, w ∈ Ts) (kf : Nat) (hk : kf < N) (k9 : Nat) (hlink : NF[k9]? = some (own, index, (T kf).1, (T kf).2.1, (T kf).2.2.1, host)) (hfin : (T kf).2.2.2 = false) (hd2 : parseFieldDescriptor (T kf).2.2.1 = some ty) (hnar : narrow ty v = v) (hfit : fits ty v = true) (hlen : kf < fs.length) (hc' : ce (gl Γ) σ' t i = .inr (ci, fs.set kf v)) (ho : ∀ t' i', ¬ (t' = t ∧ i' = i) → ce (gl Γ) σ' t' i' = ce (gl Γ) σ t' i') (hd : decode cc pc = .ok (.putfield index, 3)) (k : GG Γ κ σ' (pc + 3) L st) : GG Γ κ σ pc L (v :: .ref (ya (gl Γ) t i) :: st) := by
  obtain ⟨p, l, e, R, s, m, args, below, meth, c, Q, Λ, n⟩ := Γ
  intro H locs ls hW hS hl
  obtain ⟨hx, hb, hml, hnl, hown, hts, ⟨hK, hN, hZ⟩, hO, hB, hfr, hlo⟩ := hΓ
  obtain ⟨q0, hq⟩ := yW_get (σ := σ) hO hi
  have es := yW_set (σ' := σ') hO hi hq ho
  rw [show ce Λ σ t i = .inr (ci, fs) from hc] at hq
  rw [show ce Λ σ' t i = .inr (ci, fs.set kf v) from hc'] at es
  refine va_putN (D := yD Λ) hx hb hts hin ty0 hty hnm hown hK hW (yW_D hO) hS q0 hq hcl kf hk (va_Nw.use rfl (hN.1 _ (List.mem_of_getElem? hlink))) (fun _ h9 => h9) hfin hd2 hnar hfit hlen hd (fun H1 locs1 hP1 hD1 hS1 => ?_)
  rw [es] at hP1
  exact k H1 locs1 ls hP1 hS1 hl

theorem G_iald (hΓ : GO Γ cc nL own Ts fr lo) {t i n : Nat} {f : Nat → Int32} {x : Int32} (hi : i < yn (gl Γ) t) (hc : ce (gl Γ) σ t i = .inl (yc (gl Γ) 0, n, .inl f)) (hin : vp_in x n) (hd : decode cc pc = .ok (.iaload, 1)) (k : GG Γ κ σ (pc + 1) L (.int (f x.toNatClampNeg) :: st)) : GG Γ κ σ pc L (.int x :: .ref (ya (gl Γ) t i) :: st) := by
  obtain ⟨p, l, e, R, s, m, args, below, meth, c, Q, Λ, n'⟩ := Γ
  intro H locs ls hW hS hl
  obtain ⟨hx, hb, hml, hnl, hown, hts, ⟨hK, hN, hZ⟩, hO, hB, hfr, hlo⟩ := hΓ
  obtain ⟨q0, hq⟩ := yW_get (σ := σ) hO hi
  rw [show ce Λ σ t i = .inl (yc Λ 0, n, .inl f) from hc] at hq
  exact va_iald (D := yD Λ) hx hb hK hW q0 0 hq rfl hin hd (k H locs ls hW hS hl)
theorem G_bald (hΓ : GO Γ cc nL own Ts fr lo) {t i n : Nat} {f : Nat → Int32} {x : Int32} (hi : i < yn (gl Γ) t) (hc : ce (gl Γ) σ t i = .inl (yc (gl Γ) 1, n, .inl f)) (hin : vp_in x n) (hd : decode cc pc = .ok (.baload, 1)) (k : GG Γ κ σ (pc + 1) L (.int (f x.toNatClampNeg) :: st)) : GG Γ κ σ pc L (.int x :: .ref (ya (gl Γ) t i) :: st) := by
  obtain ⟨p, l, e, R, s, m, args, below, meth, c, Q, Λ, n'⟩ := Γ
  intro H locs ls hW hS hl
  obtain ⟨hx, hb, hml, hnl, hown, hts, ⟨hK, hN, hZ⟩, hO, hB, hfr, hlo⟩ := hΓ
  obtain ⟨q0, hq⟩ := yW_get (σ := σ) hO hi
  rw [show ce Λ σ t i = .inl (yc Λ 1, n, .inl f) from hc] at hq
  exact va_bald (D := yD Λ) hx hb hK hW q0 1 hq rfl hin hd (k H locs ls hW hS hl)
theorem G_zald (hΓ : GO Γ cc nL own Ts fr lo) {t i n : Nat} {f : Nat → Int32} {x : Int32} (hi : i < yn (gl Γ) t) (hc : ce (gl Γ) σ t i = .inl (yc (gl Γ) 2, n, .inl f)) (hin : vp_in x n) (hd : decode cc pc = .ok (.baload, 1)) (k : GG Γ κ σ (pc + 1) L (.int (f x.toNatClampNeg) :: st)) : GG Γ κ σ pc L (.int x :: .ref (ya (gl Γ) t i) :: st) := by
  obtain ⟨p, l, e, R, s, m, args, below, meth, c, Q, Λ, n'⟩ := Γ
  intro H locs ls hW hS hl
  obtain ⟨hx, hb, hml, hnl, hown, hts, ⟨hK, hN, hZ⟩, hO, hB, hfr, hlo⟩ := hΓ
  obtain ⟨q0, hq⟩ := yW_get (σ := σ) hO hi
  rw [show ce Λ σ t i = .inl (yc Λ 2, n, .inl f) from hc] at hq
  exact va_zald (D := yD Λ) hx hb hK hW q0 2 hq rfl hin hd (k H locs ls hW hS hl)
theorem G_iast (hΓ : GO Γ cc nL own Ts fr lo) {t i n : Nat} {f : Nat → Int32} {x y : Int32} {σ' : CS} (hi : i < yn (gl Γ) t) (hc : ce (gl Γ) σ t i = .inl (yc (gl Γ) 0, n, .inl f)) (hin : vp_in y n) (hc' : ce (gl Γ) σ' t i = .inl (yc (gl Γ) 0, n, .inl (upd f y.toNatClampNeg x))) (ho : ∀ t' i', ¬ (t' = t ∧ i' = i) → ce (gl Γ) σ' t' i' = ce (gl Γ) σ t' i') (hd : decode cc pc = .ok (.iastore, 1)) (k : GG Γ κ σ' (pc + 1) L st) : GG Γ κ σ pc L (.int x :: .int y :: .ref (ya (gl Γ) t i) :: st) := by
  obtain ⟨p, l, e, R, s, m, args, below, meth, c, Q, Λ, n'⟩ := Γ
  intro H locs ls hW hS hl
  obtain ⟨hx, hb, hml, hnl, hown, hts, ⟨hK, hN, hZ⟩, hO, hB, hfr, hlo⟩ := hΓ
  obtain ⟨q0, hq⟩ := yW_get (σ := σ) hO hi
  have es := yW_set (σ' := σ') hO hi hq ho
  rw [show ce Λ σ t i = .inl (yc Λ 0, n, .inl f) from hc] at hq
  rw [show ce Λ σ' t i = .inl (yc Λ 0, n, .inl (upd f y.toNatClampNeg x)) from hc'] at es
  refine va_iast (D := yD Λ) hx hb hK hW (yW_D hO) hS q0 0 hq rfl hin hd (fun H1 locs1 hP1 hD1 hS1 => ?_)
  rw [es] at hP1
  exact k H1 locs1 ls hP1 hS1 hl
theorem G_bast (hΓ : GO Γ cc nL own Ts fr lo) {t i n : Nat} {f : Nat → Int32} {x y : Int32} {σ' : CS} (hi : i < yn (gl Γ) t) (hc : ce (gl Γ) σ t i = .inl (yc (gl Γ) 1, n, .inl f)) (hin : vp_in y n) (hc' : ce (gl Γ) σ' t i = .inl (yc (gl Γ) 1, n, .inl (upd f y.toNatClampNeg (vp_nar .byte x)))) (ho : ∀ t' i', ¬ (t' = t ∧ i' = i) → ce (gl Γ) σ' t' i' = ce (gl Γ) σ t' i') (hd : decode cc pc = .ok (.bastore, 1)) (k : GG Γ κ σ' (pc + 1) L st) : GG Γ κ σ pc L (.int x :: .int y :: .ref (ya (gl Γ) t i) :: st) := by
  obtain ⟨p, l, e, R, s, m, args, below, meth, c, Q, Λ, n'⟩ := Γ
  intro H locs ls hW hS hl
  obtain ⟨hx, hb, hml, hnl, hown, hts, ⟨hK, hN, hZ⟩, hO, hB, hfr, hlo⟩ := hΓ
  obtain ⟨q0, hq⟩ := yW_get (σ := σ) hO hi
  have es := yW_set (σ' := σ') hO hi hq ho
  rw [show ce Λ σ t i = .inl (yc Λ 1, n, .inl f) from hc] at hq
  rw [show ce Λ σ' t i = .inl (yc Λ 1, n, .inl (upd f y.toNatClampNeg (vp_nar .byte x))) from hc'] at es
  refine va_bast (D := yD Λ) hx hb hK hW (yW_D hO) hS q0 1 hq rfl hin hd (fun H1 locs1 hP1 hD1 hS1 => ?_)
  rw [es] at hP1
  exact k H1 locs1 ls hP1 hS1 hl
theorem G_zast (hΓ : GO Γ cc nL own Ts fr lo) {t i n : Nat} {f : Nat → Int32} {x y : Int32} {σ' : CS} (hi : i < yn (gl Γ) t) (hc : ce (gl Γ) σ t i = .inl (yc (gl Γ) 2, n, .inl f)) (hin : vp_in y n) (hc' : ce (gl Γ) σ' t i = .inl (yc (gl Γ) 2, n, .inl (upd f y.toNatClampNeg (vp_nar .boolean x)))) (ho : ∀ t' i', ¬ (t' = t ∧ i' = i) → ce (gl Γ) σ' t' i' = ce (gl Γ) σ t' i') (hd : decode cc pc = .ok (.bastore, 1)) (k : GG Γ κ σ' (pc + 1) L st) : GG Γ κ σ pc L (.int x :: .int y :: .ref (ya (gl Γ) t i) :: st) := by
  obtain ⟨p, l, e, R, s, m, args, below, meth, c, Q, Λ, n'⟩ := Γ
  intro H locs ls hW hS hl
  obtain ⟨hx, hb, hml, hnl, hown, hts, ⟨hK, hN, hZ⟩, hO, hB, hfr, hlo⟩ := hΓ
  obtain ⟨q0, hq⟩ := yW_get (σ := σ) hO hi
  have es := yW_set (σ' := σ') hO hi hq ho
  rw [show ce Λ σ t i = .inl (yc Λ 2, n, .inl f) from hc] at hq
  rw [show ce Λ σ' t i = .inl (yc Λ 2, n, .inl (upd f y.toNatClampNeg (vp_nar .boolean x))) from hc'] at es
  refine va_zast (D := yD Λ) hx hb hK hW (yW_D hO) hS q0 2 hq rfl hin hd (fun H1 locs1 hP1 hD1 hS1 => ?_)
  rw [es] at hP1
  exact k H1 locs1 ls hP1 hS1 hl
end GR
