theorem dX7_init_0 : decode cX7_init 0 = .ok (.aload_n 0, 1) := by decide +kernel
theorem dX7_init_1 : decode cX7_init 1 = .ok (.invokespecial 1, 3) := by decide +kernel
theorem dX7_init_4 : decode cX7_init 4 = .ok (.aload_n 0, 1) := by decide +kernel
theorem dX7_init_5 : decode cX7_init 5 = .ok (.bipush 32, 2) := by decide +kernel
theorem dX7_init_7 : decode cX7_init 7 = .ok (.anewarray 9, 3) := by decide +kernel
theorem dX7_init_10 : decode cX7_init 10 = .ok (.putfield 11, 3) := by decide +kernel
theorem dX7_init_13 : decode cX7_init 13 = .ok (.iconst 0, 1) := by decide +kernel
theorem dX7_init_14 : decode cX7_init 14 = .ok (.istore_n 1, 1) := by decide +kernel
theorem dX7_init_15 : decode cX7_init 15 = .ok (.iload_n 1, 1) := by decide +kernel
theorem dX7_init_16 : decode cX7_init 16 = .ok (.bipush 32, 2) := by decide +kernel
theorem dX7_init_18 : decode cX7_init 18 = .ok (.if_icmp .ge 22, 3) := by decide +kernel
theorem dX7_init_21 : decode cX7_init 21 = .ok (.aload_n 0, 1) := by decide +kernel
theorem dX7_init_22 : decode cX7_init 22 = .ok (.getfield 11, 3) := by decide +kernel
theorem dX7_init_25 : decode cX7_init 25 = .ok (.iload_n 1, 1) := by decide +kernel
theorem dX7_init_26 : decode cX7_init 26 = .ok (.new 9, 3) := by decide +kernel
theorem dX7_init_29 : decode cX7_init 29 = .ok (.dup, 1) := by decide +kernel
theorem dX7_init_30 : decode cX7_init 30 = .ok (.invokespecial 15, 3) := by decide +kernel
theorem dX7_init_33 : decode cX7_init 33 = .ok (.aastore, 1) := by decide +kernel
theorem dX7_init_34 : decode cX7_init 34 = .ok (.iinc 1 1, 3) := by decide +kernel
theorem dX7_init_37 : decode cX7_init 37 = .ok (.goto (-22), 3) := by decide +kernel
theorem dX7_init_40 : decode cX7_init 40 = .ok (.aload_n 0, 1) := by decide +kernel
theorem dX7_init_41 : decode cX7_init 41 = .ok (.sipush 200, 3) := by decide +kernel
theorem dX7_init_44 : decode cX7_init 44 = .ok (.anewarray 16, 3) := by decide +kernel
theorem dX7_init_47 : decode cX7_init 47 = .ok (.putfield 18, 3) := by decide +kernel
theorem dX7_init_50 : decode cX7_init 50 = .ok (.iconst 0, 1) := by decide +kernel
theorem dX7_init_51 : decode cX7_init 51 = .ok (.istore_n 1, 1) := by decide +kernel
theorem dX7_init_52 : decode cX7_init 52 = .ok (.iload_n 1, 1) := by decide +kernel
theorem dX7_init_53 : decode cX7_init 53 = .ok (.sipush 200, 3) := by decide +kernel
theorem dX7_init_56 : decode cX7_init 56 = .ok (.if_icmp .ge 22, 3) := by decide +kernel
theorem dX7_init_59 : decode cX7_init 59 = .ok (.aload_n 0, 1) := by decide +kernel
theorem dX7_init_60 : decode cX7_init 60 = .ok (.getfield 18, 3) := by decide +kernel
theorem dX7_init_63 : decode cX7_init 63 = .ok (.iload_n 1, 1) := by decide +kernel
theorem dX7_init_64 : decode cX7_init 64 = .ok (.new 16, 3) := by decide +kernel
theorem dX7_init_67 : decode cX7_init 67 = .ok (.dup, 1) := by decide +kernel
theorem dX7_init_68 : decode cX7_init 68 = .ok (.invokespecial 22, 3) := by decide +kernel
theorem dX7_init_71 : decode cX7_init 71 = .ok (.aastore, 1) := by decide +kernel
theorem dX7_init_72 : decode cX7_init 72 = .ok (.iinc 1 1, 3) := by decide +kernel
theorem dX7_init_75 : decode cX7_init 75 = .ok (.goto (-23), 3) := by decide +kernel
theorem dX7_init_78 : decode cX7_init 78 = .ok (.aload_n 0, 1) := by decide +kernel
theorem dX7_init_79 : decode cX7_init 79 = .ok (.new 23, 3) := by decide +kernel
theorem dX7_init_82 : decode cX7_init 82 = .ok (.dup, 1) := by decide +kernel
theorem dX7_init_83 : decode cX7_init 83 = .ok (.invokespecial 25, 3) := by decide +kernel
theorem dX7_init_86 : decode cX7_init 86 = .ok (.putfield 26, 3) := by decide +kernel
theorem dX7_init_89 : decode cX7_init 89 = .ok (.aload_n 0, 1) := by decide +kernel
theorem dX7_init_90 : decode cX7_init 90 = .ok (.sipush 20000, 3) := by decide +kernel
theorem dX7_init_93 : decode cX7_init 93 = .ok (.newarray .byte, 2) := by decide +kernel
theorem dX7_init_95 : decode cX7_init 95 = .ok (.putfield 30, 3) := by decide +kernel
theorem dX7_init_98 : decode cX7_init 98 = .ok (.aload_n 0, 1) := by decide +kernel
theorem dX7_init_99 : decode cX7_init 99 = .ok (.sipush 20000, 3) := by decide +kernel
theorem dX7_init_102 : decode cX7_init 102 = .ok (.newarray .int, 2) := by decide +kernel
theorem dX7_init_104 : decode cX7_init 104 = .ok (.putfield 34, 3) := by decide +kernel
theorem dX7_init_107 : decode cX7_init 107 = .ok (.aload_n 0, 1) := by decide +kernel
theorem dX7_init_108 : decode cX7_init 108 = .ok (.sipush 200, 3) := by decide +kernel
theorem dX7_init_111 : decode cX7_init 111 = .ok (.newarray .int, 2) := by decide +kernel
theorem dX7_init_113 : decode cX7_init 113 = .ok (.putfield 38, 3) := by decide +kernel
theorem dX7_init_116 : decode cX7_init 116 = .ok (.aload_n 0, 1) := by decide +kernel
theorem dX7_init_117 : decode cX7_init 117 = .ok (.sipush 200, 3) := by decide +kernel
theorem dX7_init_120 : decode cX7_init 120 = .ok (.newarray .int, 2) := by decide +kernel
theorem dX7_init_122 : decode cX7_init 122 = .ok (.putfield 41, 3) := by decide +kernel
theorem dX7_init_125 : decode cX7_init 125 = .ok (.aload_n 0, 1) := by decide +kernel
theorem dX7_init_126 : decode cX7_init 126 = .ok (.ldc 44, 2) := by decide +kernel
theorem dX7_init_128 : decode cX7_init 128 = .ok (.newarray .int, 2) := by decide +kernel
theorem dX7_init_130 : decode cX7_init 130 = .ok (.putfield 45, 3) := by decide +kernel
theorem dX7_init_133 : decode cX7_init 133 = .ok (.aload_n 0, 1) := by decide +kernel
theorem dX7_init_134 : decode cX7_init 134 = .ok (.iconst 2, 1) := by decide +kernel
theorem dX7_init_135 : decode cX7_init 135 = .ok (.invokevirtual 48, 3) := by decide +kernel
theorem dX7_init_138 : decode cX7_init 138 = .ok (.return_, 1) := by decide +kernel
section GWs
variable {Γ : GY} {κ : Nat × Nat} {w : va_W} {pc nL : Nat} {L : List (Nat × Value)} {st : List Value} {cc : ByteArray} {own : String} {Ts : List Cond} {fr lo rc rs : Nat}
theorem W_istore_n (hΓ : GOw Γ cc nL own Ts fr lo rc rs) {j : Fin 4} {x : Int32} (L' : List (Nat × Value)) (hd : decode cc pc = .ok (.istore_n j, 1)) (hn : (j : Nat) < nL) (hL : ((j : Nat), Value.int x) :: L.filter (fun q => !(q.1 == (j : Nat)) && !(q.1 + 1 == (j : Nat) && q.2.category == 2)) = L') (k : GW Γ κ w (pc + 1) L' st) : GW Γ κ w pc L (.int x :: st) := by
  obtain ⟨p, l, e, R, s, m, args, below, meth, c, Q, D, cy, A, n⟩ := Γ
  intro H locs ls hP hD hS hl
  have hn' := hΓ.2.2.2.1
  subst hn'
  exact lv_istore_n hΓ.1 hΓ.2.1 hd rfl hl hn hL (fun ls' hl' => k H locs ls' hP hD hS hl')
theorem W_iinc (hΓ : GOw Γ cc nL own Ts fr lo rc rs) {j : Nat} {n0 : Int} {x v : Int32} (k0 : Nat) (L' : List (Nat × Value)) (hd : decode cc pc = .ok (.iinc j n0, 3)) (hx : L[k0]? = some (j, .int x)) (hv : x + Int32.ofInt n0 = v) (hn : j < nL) (hL : (j, Value.int v) :: L.filter (fun q => !(q.1 == j) && !(q.1 + 1 == j && q.2.category == 2)) = L') (k : GW Γ κ w (pc + 3) L' st) : GW Γ κ w pc L st := by
  obtain ⟨p, l, e, R, s, m, args, below, meth, c, Q, D, cy, A, n⟩ := Γ
  intro H locs ls hP hD hS hl
  have hn' := hΓ.2.2.2.1
  subst hn'
  exact lv_iinc hΓ.1 hΓ.2.1 hd hl hx hv hn hL (fun ls' hl' => k H locs ls' hP hD hS hl')
theorem W_goto (hΓ : GOw Γ cc nL own Ts fr lo rc rs) {off : Int} {tgt : Nat} (hd : decode cc pc = .ok (.goto off, 3)) (ht : (pc : Int) + off = (tgt : Int)) (k : GW Γ κ w tgt L st) : GW Γ κ w pc L st := by
  obtain ⟨p, l, e, R, s, m, args, below, meth, c, Q, D, cy, A, n⟩ := Γ
  intro H locs ls hP hD hS hl
  exact lv_goto hΓ.1 hΓ.2.1 hd ht (k H locs ls hP hD hS hl)
theorem W_icmp_ge (hΓ : GOw Γ cc nL own Ts fr lo rc rs) {x y : Int32} {off : Int} {tgt : Nat} (hd : decode cc pc = .ok (.if_icmp .ge off, 3)) (ht : (pc : Int) + off = (tgt : Int)) (kt : y ≤ x → GW Γ κ w tgt L st) (kf : ¬ y ≤ x → GW Γ κ w (pc + 3) L st) : GW Γ κ w pc L (.int y :: .int x :: st) := by
  obtain ⟨p, l, e, R, s, m, args, below, meth, c, Q, D, cy, A, n⟩ := Γ
  intro H locs ls hP hD hS hl
  exact lv_icmp_ge hΓ.1 hΓ.2.1 hd ht (fun q => kt q H locs ls hP hD hS hl) (fun q => kf q H locs ls hP hD hS hl)
theorem W_get (hΓ : GOw Γ cc nL own Ts fr lo rc rs) {ci N index h : Nat} {C : String} {T : u_T} {fs : List Value} {v : Value} (hin : ∀ w ∈ u_ws C T N, w ∈ Ts) (hc : vwCl[ci]? = some (C, T, N)) (q0 : Nat) (he : w[q0]? = some (h, .inr (ci, fs))) (kf : Nat) (hk : kf < N) (kl : Cond.fieldLink own index (T kf).1 (T kf).2.1 (T kf).2.2.1 ∈ Ts) (hv : fs[kf]? = some v) (hd : decode cc pc = .ok (.getfield index, 3)) (k : GW Γ κ w (pc + 3) L (v :: st)) : GW Γ κ w pc L (.ref h :: st) := by
  obtain ⟨p, l, e, R, s, m, args, below, meth, c, Q, D, cy, A, n⟩ := Γ
  intro H locs ls hP hD hS hl
  obtain ⟨hx, hb, hml, hnl, hown, hts, hK, hA, hfr, hlo, hrc, hrs⟩ := hΓ
  exact va_get (D := D) hx hb hts hin hown hK.1 hP q0 he hc kf hk (hts _ kl) (fun _ h9 => h9) hv hd (k H locs ls hP hD hS hl)
theorem W_newq (hΓ : GOw Γ cc nL own Ts fr lo rc rs) {index : Nat} {C : String} {n0 : Int32} {N t0 : Nat} (kl : Cond.classLink own index C ∈ Ts) (hAO : ∀ (D : va_G) (cy : Nat → ClassId) (U : State), K9 D cy U → va_AO C U) (ht : ∀ cy : Nat → ClassId, (tysW cy)[t0]? = some (cy t0, .object C)) (hn : ¬ n0 < 0) (hN : n0.toNatClampNeg = N) (hbytes : N * 4 ≤ 536870912) (hcells : κ.1 + 1 ≤ rc) (hslots : κ.2 + N ≤ rs) (hd : decode cc pc = .ok (.anewarray index, 3))
    (k : ∀ q : Nat, GW Γ (κ.1 + 1, κ.2 + N) (w ++ [(q, .inl (yc9 Γ t0, N, .inr (.inr (.inr (.inr (fun _ => none))))))]) (pc + 3) L (.ref q :: st)) : GW Γ κ w pc L (.int n0 :: st) := by
  obtain ⟨p, l, e, R, s, m, args, below, meth, c, Q, D, cy, A, n⟩ := Γ
  intro H locs ls hP hD hS hl
  obtain ⟨hx, hb, hml, hnl, hown, hts, hK, hA, hfr, hlo, hrc, hrs⟩ := hΓ
  refine va_newq hx hb hown (hts _ kl) (hAO _ _ _ hK) hK.1 hP hD hS hA hn hN hbytes (by rw [hrc]; exact hcells) (by rw [hrs]; exact hslots) hd (fun q cA H1 hK1 hP1 hD1 hS1 => ?_)
  have h1 : va_RA s cA (.object C) := (hK1.2 (tysW cy).length (cA, .object C) (by simp)).2
  have h2 : va_RA s (cy t0) (.object C) := (hK.1.2 t0 _ (ht cy)).2
  obtain ⟨_, _, -, -, -, a1⟩ := h1
  obtain ⟨_, _, -, -, -, a2⟩ := h2
  have e1 : cA = cy t0 := Option.some.inj (a1.symm.trans a2)
  subst e1
  exact k q H1 locs ls hP1 hD1 hS1 hl
theorem W_aast (hΓ : GOw Γ cc nL own Ts fr lo rc rs) {N t0 ci h v : Nat} {C : String} {T : u_T} {Nc : Nat} {vs : List Value} {f : Nat → Option Nat} {i : Int32} (w' : va_W) (q0 qk : Nat) (ha : w[q0]? = some (h, .inl (yc9 Γ t0, N, .inr (.inr (.inr (.inr f)))))) (ht : ∀ cy : Nat → ClassId, (tysW cy)[t0]? = some (cy t0, .object C)) (hv : w[qk]? = some (v, .inr (ci, vs))) (hc : vwCl[ci]? = some (C, T, Nc)) (hin : vp_in i N) (hw : w.set q0 (h, .inl (yc9 Γ t0, N, .inr (.inr (.inr (.inr (va_up f i.toNatClampNeg (some v))))))) = w') (hd : decode cc pc = .ok (.aastore, 1)) (k : GW Γ κ w' (pc + 1) L st) : GW Γ κ w pc L (.ref v :: .int i :: .ref h :: st) := by
  obtain ⟨p, l, e, R, s, m, args, below, meth, c, Q, D, cy, A, n⟩ := Γ
  intro H locs ls hP hD hS hl
  subst hw
  obtain ⟨hx, hb, hml, hnl, hown, hts, hK, hA, hfr, hlo, hrc, hrs⟩ := hΓ
  exact va_astq (D := D) (r := (C, T, Nc)) hx hb hK.1 hP hD hS q0 t0 qk ci ha (ht cy) hv hc hin hd (fun H1 locs1 hP1 hD1 hS1 => k H1 locs1 ls hP1 hD1 hS1 hl)
end GWs
/-- the cells of a node, of a frame -/
def nodeC (cy : Nat → ClassId) (x : Nat × (Nat → Nat)) : va_W := [(x.1, .inr (5, [.ref (x.2 1), .ref (x.2 7), .int 0, .int 0, .int 0, .int 0, .int 0, .null, .null, .int 0])), ((x.2 1), .inr (4, [.ref (x.2 2), .ref (x.2 6), .int 0, .int 0, .int 0, .int 0, .int 0, .int 0, .long 0, .int 0, .int 0, .int 0, .int 0, .int 0, .int 0, .int 0, .int 0])), ((x.2 2), .inr (7, [.ref (x.2 3), .ref (x.2 4), .ref (x.2 5)])), ((x.2 3), .inr (6, [.int ((1 : Int32) <<< (((15 - 1) : Int32) &&& 31)), .int 17817, .int 0, .int 0])), ((x.2 4), .inr (6, [.int ((1 : Int32) <<< (((17 - 1) : Int32) &&& 31)), .int 92251, .int 65536, .int 0])), ((x.2 5), .inr (6, [.int ((1 : Int32) <<< (((21 - 1) : Int32) &&& 31)), .int 1058969, .int 1048576, .int 0])), ((x.2 6), .inl (cy 0, 64, .inl (fun _ => 0))), ((x.2 7), .inr (8, [.ref (x.2 8), .ref (x.2 9), .int 0, .int 0])), ((x.2 8), .inl (cy 0, 2616, .inl (fun _ => 0))), ((x.2 9), .inl (cy 0, 2500, .inl (fun _ => 0)))]
def frameC (cy : Nat → ClassId) (x : Nat × (Nat → Nat)) : va_W := [(x.1, .inr (3, [.ref (x.2 1), .ref (x.2 2), .int 0, .int 0, .int 0, .int 0, .long 0, .int 0, .int 0])), ((x.2 1), .inl (cy 0, 64, .inl (fun _ => 0))), ((x.2 2), .inl (cy 1, 733, .inl (fun _ => 0)))]
def nodesC (cy : Nat → ClassId) (ns : List (Nat × (Nat → Nat))) : va_W := ns.flatMap (nodeC cy)
def framesC (cy : Nat → ClassId) (ns : List (Nat × (Nat → Nat))) : va_W := ns.flatMap (frameC cy)
def gN (ns : List (Nat × (Nat → Nat))) : Nat → Option Nat := fun j => (ns[j]?).map Prod.fst
theorem gN_nil : (fun _ => none) = gN [] := by funext j; simp [gN]
theorem gN_add {ns : List (Nat × (Nat → Nat))} {x : Nat × (Nat → Nat)} : va_up (gN ns) ns.length (some x.1) = gN (ns ++ [x]) := by
  funext j
  simp only [gN, va_up]
  by_cases h : j = ns.length
  · subst h; simp
  · rw [if_neg h]
    by_cases h2 : j < ns.length
    · rw [List.getElem?_append_left h2]
    · rw [List.getElem?_eq_none (by omega), List.getElem?_eq_none (by simp; omega)]
theorem nodesC_add {cy : Nat → ClassId} {ns : List (Nat × (Nat → Nat))} {x : Nat × (Nat → Nat)} : nodesC cy ns ++ nodeC cy x = nodesC cy (ns ++ [x]) := by simp [nodesC]
theorem framesC_add {cy : Nat → ClassId} {ns : List (Nat × (Nat → Nat))} {x : Nat × (Nat → Nat)} : framesC cy ns ++ frameC cy x = framesC cy (ns ++ [x]) := by simp [framesC]
theorem app_at {X Z Y : va_W} {y : Nat × va_E} : ((X ++ y :: Z) ++ Y)[X.length]? = some y := by simp
theorem app_at2 {X Y : va_W} {z : Nat × va_E} : (X ++ (z :: Y))[X.length]? = some z := by simp
theorem app_set {X Z Y : va_W} {y y' : Nat × va_E} : ((X ++ y :: Z) ++ Y).set X.length y' = X ++ y' :: (Z ++ Y) := by
  rw [List.append_assoc, List.set_append_right _ _ (Nat.le_refl _)]
  simp
theorem app_0 {X Y : va_W} {y : Nat × va_E} (h : X[0]? = some y) : (X ++ Y)[0]? = some y := by
  rw [List.getElem?_append_left (List.getElem?_eq_some_iff.mp h).1]
  exact h
set_option maxHeartbeats 4000000 in
set_option maxRecDepth 100000 in
theorem X7_loop1 {Γ : GY} {fr lo rc rs cb sb h0 qm : Nat} {w0 : Cond} {X : va_W} {fsC : List Value} (hΓ : GOw Γ cX7_init 2 RX7 (w0 :: TT) fr lo rc rs) (hfr : 5 ≤ fr) (hlo : 95 ≤ lo) (hrc : cb + 10 * 32 ≤ rc) (hrs : sb + 5226 * 32 ≤ rs) (hX0 : X[0]? = some (h0, .inr (10, fsC))) (hq : fsC[0]? = some (.ref qm))
    (kk : ∀ ns : List (Nat × (Nat → Nat)), ns.length = 32 → GW Γ (cb + 10 * 32, sb + 5226 * 32) (X ++ ((qm, .inl (yc9 Γ 4, 32, .inr (.inr (.inr (.inr (gN ns)))))) :: nodesC (yc9 Γ) ns)) 40 [(1, .int (nI 32)), (0, .ref h0)] []) :
    ∀ (n : Nat) (ns : List (Nat × (Nat → Nat))), ns.length + n = 32 → GW Γ (cb + 10 * ns.length, sb + 5226 * ns.length) (X ++ ((qm, .inl (yc9 Γ 4, 32, .inr (.inr (.inr (.inr (gN ns)))))) :: nodesC (yc9 Γ) ns)) 15 [(1, .int (nI ns.length)), (0, .ref h0)] [] := by
  intro n
  induction n with
  | zero =>
    intro ns h
    have e : ns.length = 32 := by omega
    refine W_iload_n hΓ 0 dX7_init_15 rfl ?_
    refine W_bipush (v := 32) hΓ dX7_init_16 (by decide) ?_
    refine W_icmp_ge hΓ (tgt := 40) dX7_init_18 (by decide) (fun _ => ?_) (fun hc => ?_)
    · rw [e]
      exact kk ns e
    · exact absurd (by rw [e]; decide) hc
  | succ n ih =>
    intro ns h
    have hlt : ns.length < 32 := by omega
    refine W_iload_n hΓ 0 dX7_init_15 rfl ?_
    refine W_bipush (v := 32) hΓ dX7_init_16 (by decide) ?_
    refine W_icmp_ge hΓ (tgt := 40) dX7_init_18 (by decide) (fun hc => ?_) (fun _ => ?_)
    · exact absurd hc (nI_ge (a := ns.length) (b := 32) hlt (by decide))
    refine W_aload_n hΓ 1 dX7_init_21 rfl ?_
    refine W_get hΓ (ci := 10) (C := RX7) (T := TX7) (N := 14) (v := .ref qm) inW7 rfl 0 (app_0 hX0) 0 (by decide) (TT_cons kw_291) hq dX7_init_22 ?_
    refine W_iload_n hΓ 0 dX7_init_25 rfl ?_
    refine W_new hΓ (ci := 5) (C := RX2) (T := TX2) (N := 10) (fs := [.null, .null, .int 0, .int 0, .int 0, .int 0, .int 0, .null, .null, .int 0]) tyX2 tyX2_ok inW2 (TT_cons kw_29) (TT_cons kw_31) (TT_cons kw_2) rfl (fun j hj => by rcases (show j = 0 ∨ j = 1 ∨ j = 2 ∨ j = 3 ∨ j = 4 ∨ j = 5 ∨ j = 6 ∨ j = 7 ∨ j = 8 ∨ j = 9 by omega) with rfl | rfl | rfl | rfl | rfl | rfl | rfl | rfl | rfl | rfl <;> rfl) (by show cb + 10 * ns.length + 1 ≤ rc; omega) (by show sb + 5226 * ns.length + 10 ≤ rs; omega) dX7_init_26 (fun q => ?_)
    refine W_dup hΓ dX7_init_29 rfl ?_
    refine W_ctorN hΓ (n := 0) (q := q) (As := []) (blank := .inr (5, [.null, .null, .int 0, .int 0, .int 0, .int 0, .int 0, .null, .null, .int 0])) (post := fun a => nodeC (yc9 Γ) (q, a)) (fun sz => c_X2_init (yl9 Γ) (yD9 Γ) (yc9 Γ) sz q) 0 (host := "CanBits") rfl kw_33 kw_2 kw_34 rfl ⟨by decide, by decide, by decide +kernel⟩ ⟨by show 5 ≤ fr; omega, by show 95 ≤ lo; omega⟩ ⟨by show cb + 10 * ns.length + 1 + 9 ≤ rc; omega, by show sb + 5226 * ns.length + 10 + 5216 ≤ rs; omega⟩ rfl (Nat.le_of_ble_eq_true rfl) dX7_init_30 (fun a => ?_)
    have e2 : va_up (gN ns) ns.length (some q) = gN (ns ++ [(q, a)]) := gN_add (x := (q, a))
    refine W_aast hΓ (t0 := 4) (N := 32) (ci := 5) (C := RX2) (T := TX2) (Nc := 10) (f := gN ns) (i := nI ns.length) (X ++ ((qm, .inl (yc9 Γ 4, 32, .inr (.inr (.inr (.inr (gN (ns ++ [(q, a)]))))))) :: nodesC (yc9 Γ) (ns ++ [(q, a)]))) X.length (X ++ ((qm, .inl (yc9 Γ 4, 32, .inr (.inr (.inr (.inr (gN ns)))))) :: nodesC (yc9 Γ) ns)).length app_at (fun _ => rfl) app_at2 rfl (vp_in_nI hlt (by decide)) (by rw [app_set, nI_clamp (by omega), e2, nodesC_add]) dX7_init_33 ?_
    have e3 : ns.length + 1 = (ns ++ [(q, a)]).length := by simp
    refine W_iinc hΓ (v := nI (ns.length + 1)) 0 [(1, .int (nI (ns.length + 1))), (0, .ref h0)] dX7_init_34 rfl (nI_1 _) (by decide) rfl ?_
    refine W_goto hΓ (tgt := 15) dX7_init_37 (by decide) ?_
    have e4 : (cb + 10 * ns.length + 1 + 9, sb + 5226 * ns.length + 10 + 5216) = (cb + 10 * (ns ++ [(q, a)]).length, sb + 5226 * (ns ++ [(q, a)]).length) := by
      rw [← e3]
      exact Prod.ext (by show _ = _; omega) (by show _ = _; omega)
    have e5 := ih (ns ++ [(q, a)]) (by rw [← e3]; omega)
    rw [← e4, ← e3] at e5
    exact e5

set_option maxHeartbeats 4000000 in
set_option maxRecDepth 100000 in
theorem X7_loop2 {Γ : GY} {fr lo rc rs cb sb h0 qm : Nat} {w0 : Cond} {X : va_W} {fsC : List Value} (hΓ : GOw Γ cX7_init 2 RX7 (w0 :: TT) fr lo rc rs) (hfr : 2 ≤ fr) (hlo : 32 ≤ lo) (hrc : cb + 3 * 200 ≤ rc) (hrs : sb + 806 * 200 ≤ rs) (hX0 : X[0]? = some (h0, .inr (10, fsC))) (hq : fsC[1]? = some (.ref qm))
    (kk : ∀ ns : List (Nat × (Nat → Nat)), ns.length = 200 → GW Γ (cb + 3 * 200, sb + 806 * 200) (X ++ ((qm, .inl (yc9 Γ 5, 200, .inr (.inr (.inr (.inr (gN ns)))))) :: framesC (yc9 Γ) ns)) 78 [(1, .int (nI 200)), (0, .ref h0)] []) :
    ∀ (n : Nat) (ns : List (Nat × (Nat → Nat))), ns.length + n = 200 → GW Γ (cb + 3 * ns.length, sb + 806 * ns.length) (X ++ ((qm, .inl (yc9 Γ 5, 200, .inr (.inr (.inr (.inr (gN ns)))))) :: framesC (yc9 Γ) ns)) 52 [(1, .int (nI ns.length)), (0, .ref h0)] [] := by
  intro n
  induction n with
  | zero =>
    intro ns h
    have e : ns.length = 200 := by omega
    refine W_iload_n hΓ 0 dX7_init_52 rfl ?_
    refine W_sipush (v := 200) hΓ dX7_init_53 (by decide) ?_
    refine W_icmp_ge hΓ (tgt := 78) dX7_init_56 (by decide) (fun _ => ?_) (fun hc => ?_)
    · rw [e]
      exact kk ns e
    · exact absurd (by rw [e]; decide) hc
  | succ n ih =>
    intro ns h
    have hlt : ns.length < 200 := by omega
    refine W_iload_n hΓ 0 dX7_init_52 rfl ?_
    refine W_sipush (v := 200) hΓ dX7_init_53 (by decide) ?_
    refine W_icmp_ge hΓ (tgt := 78) dX7_init_56 (by decide) (fun hc => ?_) (fun _ => ?_)
    · exact absurd hc (nI_ge (a := ns.length) (b := 200) hlt (by decide))
    refine W_aload_n hΓ 1 dX7_init_59 rfl ?_
    refine W_get hΓ (ci := 10) (C := RX7) (T := TX7) (N := 14) (v := .ref qm) inW7 rfl 0 (app_0 hX0) 1 (by decide) (TT_cons kw_292) hq dX7_init_60 ?_
    refine W_iload_n hΓ 0 dX7_init_63 rfl ?_
    refine W_new hΓ (ci := 3) (C := RX0) (T := TX0) (N := 9) (fs := [.null, .null, .int 0, .int 0, .int 0, .int 0, .long 0, .int 0, .int 0]) tyX0 tyX0_ok inW0 (TT_cons kw_203) (TT_cons kw_205) (TT_cons kw_7) rfl (fun j hj => by rcases (show j = 0 ∨ j = 1 ∨ j = 2 ∨ j = 3 ∨ j = 4 ∨ j = 5 ∨ j = 6 ∨ j = 7 ∨ j = 8 by omega) with rfl | rfl | rfl | rfl | rfl | rfl | rfl | rfl | rfl <;> rfl) (by show cb + 3 * ns.length + 1 ≤ rc; omega) (by show sb + 806 * ns.length + 9 ≤ rs; omega) dX7_init_64 (fun q => ?_)
    refine W_dup hΓ dX7_init_67 rfl ?_
    refine W_ctorN hΓ (n := 0) (q := q) (As := []) (blank := .inr (3, [.null, .null, .int 0, .int 0, .int 0, .int 0, .long 0, .int 0, .int 0])) (post := fun a => frameC (yc9 Γ) (q, a)) (fun sz => c_X0_init (yl9 Γ) (yD9 Γ) (yc9 Γ) sz q) 4 (host := "CanBits") rfl kw_207 kw_7 kw_208 rfl ⟨by decide, by decide, by decide +kernel⟩ ⟨by show 2 ≤ fr; omega, by show 32 ≤ lo; omega⟩ ⟨by show cb + 3 * ns.length + 1 + 2 ≤ rc; omega, by show sb + 806 * ns.length + 9 + 797 ≤ rs; omega⟩ rfl (Nat.le_of_ble_eq_true rfl) dX7_init_68 (fun a => ?_)
    have e2 : va_up (gN ns) ns.length (some q) = gN (ns ++ [(q, a)]) := gN_add (x := (q, a))
    refine W_aast hΓ (t0 := 5) (N := 200) (ci := 3) (C := RX0) (T := TX0) (Nc := 9) (f := gN ns) (i := nI ns.length) (X ++ ((qm, .inl (yc9 Γ 5, 200, .inr (.inr (.inr (.inr (gN (ns ++ [(q, a)]))))))) :: framesC (yc9 Γ) (ns ++ [(q, a)]))) X.length (X ++ ((qm, .inl (yc9 Γ 5, 200, .inr (.inr (.inr (.inr (gN ns)))))) :: framesC (yc9 Γ) ns)).length app_at (fun _ => rfl) app_at2 rfl (vp_in_nI hlt (by decide)) (by rw [app_set, nI_clamp (by omega), e2, framesC_add]) dX7_init_71 ?_
    have e3 : ns.length + 1 = (ns ++ [(q, a)]).length := by simp
    refine W_iinc hΓ (v := nI (ns.length + 1)) 0 [(1, .int (nI (ns.length + 1))), (0, .ref h0)] dX7_init_72 rfl (nI_1 _) (by decide) rfl ?_
    refine W_goto hΓ (tgt := 52) dX7_init_75 (by decide) ?_
    have e4 : (cb + 3 * ns.length + 1 + 2, sb + 806 * ns.length + 9 + 797) = (cb + 3 * (ns ++ [(q, a)]).length, sb + 806 * (ns ++ [(q, a)]).length) := by
      rw [← e3]
      exact Prod.ext (by show _ = _; omega) (by show _ = _; omega)
    have e5 := ih (ns ++ [(q, a)]) (by rw [← e3]; omega)
    rw [← e4, ← e3] at e5
    exact e5

