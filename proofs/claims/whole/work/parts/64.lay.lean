/-- where the cell of a tag and number stands in the list of all cells -/
def pos (t i : Nat) : Nat := match t with
  | 0 => 0
  | 1 => 1
  | 2 => 322
  | 3 => 2 + 10 * i
  | 4 => 2 + 10 * i + 1
  | 5 => 2 + 10 * i + 6
  | 6 => if i < 32 then 2 + 10 * i + 2 else 924
  | 7 => if i < 32 then 2 + 10 * i + 3 else 925
  | 8 => if i < 32 then 2 + 10 * i + 4 else 926
  | 9 => if i < 32 then 2 + 10 * i + 5 else 927
  | 10 => 2 + 10 * i + 7
  | 11 => 2 + 10 * i + 8
  | 12 => 2 + 10 * i + 9
  | 13 => 323 + 3 * i
  | 14 => 323 + 3 * i + 1
  | 15 => 323 + 3 * i + 2
  | 16 => 923
  | 17 => 928 + i
  | 18 => 933
  | 19 => 934 + i
  | _ => 965
def inv (k : Nat) : Nat × Nat := if k = 0 then (0, 0) else if k = 1 then (1, 0) else if k < 322 then
    (match (k - 2) % 10 with | 0 => 3 | 1 => 4 | 2 => 6 | 3 => 7 | 4 => 8 | 5 => 9 | 6 => 5 | 7 => 10 | 8 => 11 | _ => 12, (k - 2) / 10)
  else if k = 322 then (2, 0) else if k < 923 then (13 + (k - 323) % 3, (k - 323) / 3)
  else if k = 923 then (16, 0) else if k < 928 then (k - 918, 32) else if k < 933 then (17, k - 928)
  else if k = 933 then (18, 0) else if k < 965 then (19, k - 934) else (20, 0)
set_option maxRecDepth 100000 in
theorem pos_inv : ∀ k, k < 966 → pos (inv k).1 (inv k).2 = k ∧ (inv k).1 < 21 ∧ (inv k).2 < cnt (inv k).1 ∧ (k < 933 → (inv k).1 < 18) ∧ pos (inv k).1 0 ≤ k := by decide +kernel
set_option maxRecDepth 100000 in
theorem inv_pos : ∀ t, t < 21 → ∀ i, i < cnt t → inv (pos t i) = (t, i) ∧ pos t i < 966 ∧ (t < 18 → pos t i < 933) := by decide +kernel
theorem cnt_0 {t : Nat} (h : 21 ≤ t) : cnt t = 0 := by
  obtain ⟨u, rfl⟩ : ∃ u, t = u + 21 := ⟨t - 21, by omega⟩
  rfl
/-- the layout of N cells at the addresses a -/
def Lc (N B : Nat) (D : va_G) (cy : Nat → ClassId) (a : Nat → Nat) : LY := (fun t i => a (pos t i), fun q => inv (((List.range N).find? (fun k => a k == q)).getD 0), fun t => if t < 18 ∨ N = 966 then cnt t else 0, (List.range N).map a, D, cy, B)
theorem Lc_yi {N B : Nat} {D : va_G} {cy : Nat → ClassId} {a : Nat → Nat} (hi : ∀ j k, j < N → k < N → a j = a k → j = k) {k : Nat} (hk : k < N) : yi (Lc N B D cy a) (a k) = inv k := by
  show inv (((List.range N).find? (fun j => a j == a k)).getD 0) = inv k
  have h1 : ((List.range N).find? (fun j => a j == a k)).isSome = true := by
    rw [List.find?_isSome]
    exact ⟨k, List.mem_range.mpr hk, beq_self_eq_true _⟩
  obtain ⟨j, hj⟩ := Option.isSome_iff_exists.mp h1
  rw [hj]
  have h2 := List.find?_some hj
  have h3 := List.mem_range.mp (List.mem_of_find?_eq_some hj)
  have e : j = k := hi j k h3 hk (by simpa using h2)
  rw [e]; rfl
theorem Lc_LO {N B : Nat} {D : va_G} {cy : Nat → ClassId} {a : Nat → Nat} (hN : N = 933 ∨ N = 966) (hi : ∀ j k, j < N → k < N → a j = a k → j = k) (hB : ∀ k, k < N → B ≤ a k) : LO (Lc N B D cy a) := by
  have hN6 : N ≤ 966 := by omega
  refine ⟨?_, ?_, ?_⟩
  · show ((List.range N).map a).Nodup
    refine List.Pairwise.map (R := fun x y => x < N ∧ y < N ∧ x ≠ y) _ ?_ (List.pairwise_iff_getElem.mpr ?_)
    · intro x y h e
      exact h.2.2 (hi x y h.1 h.2.1 e)
    · intro i j h1 h2 h3
      simp only [List.length_range] at h1 h2
      simp only [List.getElem_range]
      omega
  · intro q hq
    obtain ⟨k, hk, rfl⟩ := List.mem_map.mp (show q ∈ (List.range N).map a from hq)
    have hk := List.mem_range.mp hk
    refine ⟨hB k hk, ?_⟩
    rw [Lc_yi hi hk]
    show a (pos _ _) = a k
    rw [(pos_inv k (by omega)).1]
  · intro t i h
    have h : i < if t < 18 ∨ N = 966 then cnt t else 0 := h
    by_cases c : t < 18 ∨ N = 966
    · rw [if_pos c] at h
      by_cases ht : t < 21
      · obtain ⟨h1, h2, h3⟩ := inv_pos t ht i h
        have hk : pos t i < N := by
          rcases c with c | c
          · have := h3 c; omega
          · omega
        refine ⟨List.mem_map.mpr ⟨pos t i, List.mem_range.mpr hk, rfl⟩, ?_⟩
        show yi (Lc N B D cy a) (a (pos t i)) = (t, i)
        rw [Lc_yi hi hk, h1]
      · rw [cnt_0 (by omega)] at h
        omega
    · rw [if_neg c] at h
      omega
theorem Lc_FL {N B : Nat} {D : va_G} {cy : Nat → ClassId} {a : Nat → Nat} : FL (Lc N B D cy a) := fun t ht => by
  show (if t < 18 ∨ N = 966 then cnt t else 0) = cnt t
  rw [if_pos (Or.inl ht)]
theorem Lc_FM {B : Nat} {D : va_G} {cy : Nat → ClassId} {a : Nat → Nat} : FM (Lc 966 B D cy a) := fun t _ => by
  show (if t < 18 ∨ 966 = 966 then cnt t else 0) = cnt t
  rw [if_pos (Or.inr rfl)]
/-- a list of cells is the world of a layout -/
theorem Lc_Wd {N B : Nat} {D : va_G} {cy : Nat → ClassId} {a : Nat → Nat} {w : va_W} {σ : CS} {H : Heap} (hN : N = 933 ∨ N = 966) (hi : ∀ j k, j < N → k < N → a j = a k → j = k) (hw : ∀ t i, i < cnt t → (t < 18 ∨ N = 966) → ∃ e, w[pos t i]? = some (a (pos t i), e) ∧ (va_at D vwCl (a (pos t i), e) H → va_at D vwCl (a (pos t i), ce (Lc N B D cy a) σ t i) H)) (hP : va_P D vwCl w H) : Wd (Lc N B D cy a) σ H := by
  intro k q hk
  have hk : (((List.range N).map a).map (fun q => (q, fce (Lc N B D cy a) σ q)))[k]? = some q := hk
  simp only [List.getElem?_map, Option.map_map, Option.map_eq_some_iff] at hk
  obtain ⟨j, hj, rfl⟩ := hk
  have hkN : k < N := by
    have := (List.getElem?_eq_some_iff.mp hj).1
    simpa using this
  rw [List.getElem?_range hkN] at hj
  cases hj
  obtain ⟨h1, h2, h3, h4, -⟩ := pos_inv k (by omega)
  obtain ⟨e, he, hc⟩ := hw (inv k).1 (inv k).2 h3 (by
    rcases hN with c | c
    · exact Or.inl (h4 (by omega))
    · exact Or.inr c)
  rw [h1] at he hc
  have e2 : fce (Lc N B D cy a) σ (a k) = ce (Lc N B D cy a) σ (inv k).1 (inv k).2 := by
    unfold fce
    rw [Lc_yi hi hkN]
  show va_at D vwCl (a k, fce (Lc N B D cy a) σ (a k)) H
  rw [e2]
  exact hc (hP k _ he)
/-- the state of a new bus, before begin -/
def σ0 : CS := (fun t _ j => match t with
  | 7 => (match j with | 0 => ((1 : Int32) <<< (((15 - 1) : Int32) &&& 31)) | 1 => 17817 | _ => 0)
  | 8 => (match j with | 0 => ((1 : Int32) <<< (((17 - 1) : Int32) &&& 31)) | 1 => 92251 | 2 => 65536 | _ => 0)
  | 9 => (match j with | 0 => ((1 : Int32) <<< (((21 - 1) : Int32) &&& 31)) | 1 => 1058969 | 2 => 1048576 | _ => 0)
  | 18 => (match j with | 1 => 2 | _ => 0)
  | _ => 0, fun _ _ => 0, fun _ => (none, none))
theorem flat_get {α β : Type} {g : α → List β} {c : Nat} (hg : ∀ x, (g x).length = c) : ∀ (xs : List α) (i j : Nat) (x : α), xs[i]? = some x → j < c → (xs.flatMap g)[c * i + j]? = (g x)[j]?
  | [], i, j, x, h, _ => by simp at h
  | y :: ys, 0, j, x, h, hj => by
    simp only [List.getElem?_cons_zero, Option.some.injEq] at h
    subst h
    rw [List.flatMap_cons, List.getElem?_append_left (by rw [hg]; omega)]
    simp
  | y :: ys, i + 1, j, x, h, hj => by
    rw [List.flatMap_cons, List.getElem?_append_right (by rw [hg, Nat.mul_add]; omega), hg, show c * (i + 1) + j - c = c * i + j by rw [Nat.mul_add]; omega]
    exact flat_get hg ys i j x (by simpa using h) hj
theorem flat_len {α β : Type} {g : α → List β} {c : Nat} (hg : ∀ x, (g x).length = c) : ∀ (xs : List α), (xs.flatMap g).length = c * xs.length
  | [] => rfl
  | y :: ys => by rw [List.flatMap_cons, List.length_append, hg, flat_len hg ys, List.length_cons, Nat.mul_add]; omega
def writC (x : Nat × (Nat → Nat)) : va_W := [(x.1, .inr (9, [.ref (x.2 1), .int 0, .int 0, .int 0])), ((x.2 1), .inr (7, [.ref (x.2 2), .ref (x.2 3), .ref (x.2 4)])), ((x.2 2), .inr (6, [.int ((1 : Int32) <<< (((15 - 1) : Int32) &&& 31)), .int 17817, .int 0, .int 0])), ((x.2 3), .inr (6, [.int ((1 : Int32) <<< (((17 - 1) : Int32) &&& 31)), .int 92251, .int 65536, .int 0])), ((x.2 4), .inr (6, [.int ((1 : Int32) <<< (((21 - 1) : Int32) &&& 31)), .int 1058969, .int 1048576, .int 0]))]
def arrsC (cy : Nat → ClassId) (q : Nat → Nat) : va_W := [(q 0, .inl (cy 1, 20000, .inl (fun _ => 0))), (q 1, .inl (cy 0, 20000, .inl (fun _ => 0))), (q 2, .inl (cy 0, 200, .inl (fun _ => 0))), (q 3, .inl (cy 0, 200, .inl (fun _ => 0))), (q 4, .inl (cy 0, 80000, .inl (fun _ => 0)))]
/-- the cells of a new bus -/
def busC (cy : Nat → ClassId) (h0 qm : Nat) (ns : List (Nat × (Nat → Nat))) (qf : Nat) (fs : List (Nat × (Nat → Nat))) (x : Nat × (Nat → Nat)) (q : Nat → Nat) : va_W :=
  [(h0, .inr (10, [.ref qm, .ref qf, .ref x.1, .ref (q 0), .ref (q 1), .ref (q 2), .ref (q 3), .ref (q 4), .int 0, .int 0, .int 0, .int 0, .int 0, .int 0])), (qm, .inl (cy 4, 32, .inr (.inr (.inr (.inr (gN ns))))))] ++ nodesC cy ns ++ [(qf, .inl (cy 5, 200, .inr (.inr (.inr (.inr (gN fs))))))] ++ framesC cy fs ++ writC x ++ arrsC cy q
section BC
variable {cy : Nat → ClassId} {h0 qm : Nat} {ns : List (Nat × (Nat → Nat))} {qf : Nat} {fs : List (Nat × (Nat → Nat))} {x : Nat × (Nat → Nat)} {q : Nat → Nat}
theorem nodesC_len (h : ns.length = 32) : (nodesC cy ns).length = 320 := by rw [nodesC, flat_len (c := 10) (fun _ => rfl), h]
theorem framesC_len (h : fs.length = 200) : (framesC cy fs).length = 600 := by rw [framesC, flat_len (c := 3) (fun _ => rfl), h]
theorem busC_n (h : ns.length = 32) {i j : Nat} {y : Nat × (Nat → Nat)} (hy : ns[i]? = some y) (hj : j < 10) : (busC cy h0 qm ns qf fs x q)[2 + 10 * i + j]? = (nodeC cy y)[j]? := by
  have hi := (List.getElem?_eq_some_iff.mp hy).1
  have hl := nodesC_len (cy := cy) h
  unfold busC
  rw [List.getElem?_append_left (by simp [hl]; omega), List.getElem?_append_left (by simp [hl]; omega), List.getElem?_append_left (by simp [hl]; omega), List.getElem?_append_left (by simp [hl]; omega), List.getElem?_append_right (by simp; omega)]
  rw [show 2 + 10 * i + j - [(h0, _), (qm, _)].length = 10 * i + j by simp; omega]
  exact flat_get (c := 10) (fun _ => rfl) ns i j y hy hj
theorem busC_qf (h : ns.length = 32) : (busC cy h0 qm ns qf fs x q)[322]? = some (qf, .inl (cy 5, 200, .inr (.inr (.inr (.inr (gN fs)))))) := by
  have hl := nodesC_len (cy := cy) h
  unfold busC
  rw [List.getElem?_append_left (by simp [hl]; omega), List.getElem?_append_left (by simp [hl]; omega), List.getElem?_append_left (by simp [hl]), List.getElem?_append_right (by simp [hl])]
  simp [hl]
theorem busC_f (h : ns.length = 32) (h2 : fs.length = 200) {i j : Nat} {y : Nat × (Nat → Nat)} (hy : fs[i]? = some y) (hj : j < 3) : (busC cy h0 qm ns qf fs x q)[323 + 3 * i + j]? = (frameC cy y)[j]? := by
  have hi := (List.getElem?_eq_some_iff.mp hy).1
  have hl := nodesC_len (cy := cy) h
  have hl2 := framesC_len (cy := cy) h2
  unfold busC
  rw [List.getElem?_append_left (by simp [hl, hl2]; omega), List.getElem?_append_left (by simp [hl, hl2]; omega), List.getElem?_append_right (by simp [hl]; omega)]
  have e : 323 + 3 * i + j - (([(h0, (.inr (10, [.ref qm, .ref qf, .ref x.1, .ref (q 0), .ref (q 1), .ref (q 2), .ref (q 3), .ref (q 4), .int 0, .int 0, .int 0, .int 0, .int 0, .int 0]) : va_E)), (qm, .inl (cy 4, 32, .inr (.inr (.inr (.inr (gN ns))))))] ++ nodesC cy ns ++ [(qf, .inl (cy 5, 200, .inr (.inr (.inr (.inr (gN fs))))))] : va_W)).length = 3 * i + j := by simp [hl]; omega
  rw [e]
  exact flat_get (c := 3) (fun _ => rfl) fs i j y hy hj
theorem busC_w (h : ns.length = 32) (h2 : fs.length = 200) {j : Nat} (hj : j < 5) : (busC cy h0 qm ns qf fs x q)[923 + j]? = (writC x)[j]? := by
  have hl := nodesC_len (cy := cy) h
  have hl2 := framesC_len (cy := cy) h2
  unfold busC
  rw [List.getElem?_append_left (by simp [hl, hl2, writC]; omega), List.getElem?_append_right (by simp [hl, hl2])]
  have e : (([(h0, (.inr (10, [.ref qm, .ref qf, .ref x.1, .ref (q 0), .ref (q 1), .ref (q 2), .ref (q 3), .ref (q 4), .int 0, .int 0, .int 0, .int 0, .int 0, .int 0]) : va_E)), (qm, .inl (cy 4, 32, .inr (.inr (.inr (.inr (gN ns))))))] ++ nodesC cy ns ++ [(qf, .inl (cy 5, 200, .inr (.inr (.inr (.inr (gN fs))))))] ++ framesC cy fs : va_W)).length = 923 := by simp [hl, hl2]
  rw [e, Nat.add_sub_cancel_left]
theorem busC_a (h : ns.length = 32) (h2 : fs.length = 200) {j : Nat} : (busC cy h0 qm ns qf fs x q)[928 + j]? = (arrsC cy q)[j]? := by
  have hl := nodesC_len (cy := cy) h
  have hl2 := framesC_len (cy := cy) h2
  unfold busC
  have e : (([(h0, (.inr (10, [.ref qm, .ref qf, .ref x.1, .ref (q 0), .ref (q 1), .ref (q 2), .ref (q 3), .ref (q 4), .int 0, .int 0, .int 0, .int 0, .int 0, .int 0]) : va_E)), (qm, .inl (cy 4, 32, .inr (.inr (.inr (.inr (gN ns))))))] ++ nodesC cy ns ++ [(qf, .inl (cy 5, 200, .inr (.inr (.inr (.inr (gN fs))))))] ++ framesC cy fs ++ writC x : va_W)).length = 928 := by simp [hl, hl2, writC]
  rw [List.getElem?_append_right (by rw [e]; omega), e, Nat.add_sub_cancel_left]
/-- the addresses of the cells, in their order -/
def adr (w : va_W) (k : Nat) : Nat := (w[k]?.map Prod.fst).getD 0
theorem adr_of {w : va_W} {k q : Nat} {e : va_E} (h : w[k]? = some (q, e)) : adr w k = q := by rw [adr, h]; rfl
theorem arr_eq {D : va_G} {q n : Nat} {cA : ClassId} {f g : Nat → Option Nat} {H : Heap} (h : ∀ j, j < n → f j = g j) (h1 : va_at D vwCl (q, .inl (cA, n, .inr (.inr (.inr (.inr f))))) H) : va_at D vwCl (q, .inl (cA, n, .inr (.inr (.inr (.inr g))))) H := by
  have e : vp_cell cA (n, .inr (.inr (.inr (.inr f)))) = vp_cell cA (n, .inr (.inr (.inr (.inr g)))) := by
    rw [vp_cell_q, vp_cell_q]
    unfold arrV
    congr 2
    funext j
    show va_rf (f j.val) = va_rf (g j.val)
    rw [h j.val j.isLt]
  show H[q]? = some _
  rw [← e]
  exact h1
set_option maxHeartbeats 4000000 in
set_option maxRecDepth 100000 in
theorem busC_all {B N : Nat} {D : va_G} {H : Heap} (h : ns.length = 32) (h2 : fs.length = 200) (Y : va_W) (a : Nat → Nat) (ha : ∀ k, k < 933 → a k = adr (busC cy h0 qm ns qf fs x q) k) : ∀ t i, i < cnt t → t < 18 → ∃ e, (busC cy h0 qm ns qf fs x q ++ Y)[pos t i]? = some (a (pos t i), e) ∧ (va_at D vwCl (a (pos t i), e) H → va_at D vwCl (a (pos t i), ce (Lc N B D cy a) σ0 t i) H) := by
  intro t i hi ht
  have hlen : (busC cy h0 qm ns qf fs x q).length = 933 := by
    unfold busC
    simp [nodesC_len (cy := cy) h, framesC_len (cy := cy) h2, writC, arrsC]
  have gap : ∀ k, k < 933 → (busC cy h0 qm ns qf fs x q ++ Y)[k]? = (busC cy h0 qm ns qf fs x q)[k]? := fun k hk => List.getElem?_append_left (by omega)
  have fin : ∀ k e, k < 933 → (busC cy h0 qm ns qf fs x q)[k]? = some e → (busC cy h0 qm ns qf fs x q ++ Y)[k]? = some (a k, e.2) := fun k e hk h9 => by
    rw [gap k hk, h9, ha k hk, adr_of (q := e.1) (e := e.2) h9]
  have nod : ∀ i y, i < 32 → ns[i]? = some y → ∀ j, j < 10 → ∀ e, (nodeC cy y)[j]? = some e → a (2 + 10 * i + j) = e.1 := fun i y hi hy j hj e he => by
    rw [ha _ (by omega)]
    exact adr_of (e := e.2) ((busC_n h hy hj).trans he)
  have frm : ∀ i y, i < 200 → fs[i]? = some y → ∀ j, j < 3 → ∀ e, (frameC cy y)[j]? = some e → a (323 + 3 * i + j) = e.1 := fun i y hi hy j hj e he => by
    rw [ha _ (by omega)]
    exact adr_of (e := e.2) ((busC_f h h2 hy hj).trans he)
  have wri : ∀ j, j < 5 → ∀ e, (writC x)[j]? = some e → a (923 + j) = e.1 := fun j hj e he => by
    rw [ha _ (by omega)]
    exact adr_of (e := e.2) ((busC_w h h2 hj).trans he)
  have arr : ∀ j, j < 5 → ∀ e, (arrsC cy q)[j]? = some e → a (928 + j) = e.1 := fun j hj e he => by
    rw [ha _ (by omega)]
    exact adr_of (e := e.2) ((busC_a h h2).trans he)
  have gns : ∀ j, j < 32 → gN ns j = some (a (2 + 10 * j)) := fun j hj => by
    obtain ⟨y, hy⟩ : ∃ y, ns[j]? = some y := ⟨ns[j], List.getElem?_eq_getElem (by omega)⟩
    rw [gN, hy]
    exact congrArg some (nod j y hj hy 0 (by omega) _ rfl).symm
  have gfs : ∀ j, j < 200 → gN fs j = some (a (323 + 3 * j)) := fun j hj => by
    obtain ⟨y, hy⟩ : ∃ y, fs[j]? = some y := ⟨fs[j], List.getElem?_eq_getElem (by omega)⟩
    rw [gN, hy]
    exact congrArg some (frm j y hj hy 0 (by omega) _ rfl).symm
  have a322 : a 322 = qf := by rw [ha _ (by omega)]; exact adr_of (busC_qf h)
  have a1 : a 1 = qm := by rw [ha _ (by omega)]; exact adr_of (e := .inl (cy 4, 32, .inr (.inr (.inr (.inr (gN ns)))))) rfl
  rcases (show t = 0 ∨ t = 1 ∨ t = 2 ∨ t = 3 ∨ t = 4 ∨ t = 5 ∨ t = 6 ∨ t = 7 ∨ t = 8 ∨ t = 9 ∨ t = 10 ∨ t = 11 ∨ t = 12 ∨ t = 13 ∨ t = 14 ∨ t = 15 ∨ t = 16 ∨ t = 17 by omega) with rfl | rfl | rfl | rfl | rfl | rfl | rfl | rfl | rfl | rfl | rfl | rfl | rfl | rfl | rfl | rfl | rfl | rfl
  · refine ⟨_, fin 0 _ (by omega) rfl, fun h9 => ?_⟩
    have e : ce (Lc N B D cy a) σ0 0 i = .inr (10, [.ref (a 1), .ref (a 322), .ref (a 923), .ref (a (928 + 0)), .ref (a (928 + 1)), .ref (a (928 + 2)), .ref (a (928 + 3)), .ref (a (928 + 4)), .int 0, .int 0, .int 0, .int 0, .int 0, .int 0]) := rfl
    rw [e, a1, a322, show a 923 = x.1 from wri 0 (by omega) _ rfl, arr 0 (by omega) _ rfl, arr 1 (by omega) _ rfl, arr 2 (by omega) _ rfl, arr 3 (by omega) _ rfl, arr 4 (by omega) _ rfl]
    exact h9
  · refine ⟨_, fin 1 _ (by omega) rfl, fun h9 => ?_⟩
    exact arr_eq (g := fun j => some (a (2 + 10 * j))) gns h9
  · refine ⟨_, fin 322 _ (by omega) (busC_qf h), fun h9 => ?_⟩
    exact arr_eq (g := fun j => some (a (323 + 3 * j))) gfs h9
  · have hi : i < 32 := hi
    obtain ⟨y, hy⟩ : ∃ y, ns[i]? = some y := ⟨ns[i], List.getElem?_eq_getElem (by omega)⟩
    refine ⟨_, fin (2 + 10 * i + 0) _ (by omega) ((busC_n h hy (by omega)).trans rfl), fun h9 => ?_⟩
    have e : ce (Lc N B D cy a) σ0 3 i = .inr (5, [.ref (a (2 + 10 * i + 1)), .ref (a (2 + 10 * i + 7)), .int 0, .int 0, .int 0, .int 0, .int 0, .null, .null, .int 0]) := rfl
    rw [e, nod i y hi hy 1 (by omega) _ rfl, nod i y hi hy 7 (by omega) _ rfl]
    exact h9
  · have hi : i < 32 := hi
    obtain ⟨y, hy⟩ : ∃ y, ns[i]? = some y := ⟨ns[i], List.getElem?_eq_getElem (by omega)⟩
    refine ⟨_, fin (2 + 10 * i + 1) _ (by omega) ((busC_n h hy (by omega)).trans rfl), fun h9 => ?_⟩
    have p6 : pos 6 i = 2 + 10 * i + 2 := if_pos hi
    have e : ce (Lc N B D cy a) σ0 4 i = .inr (4, [.ref (a (pos 6 i)), .ref (a (2 + 10 * i + 6)), .int 0, .int 0, .int 0, .int 0, .int 0, .int 0, .long 0, .int 0, .int 0, .int 0, .int 0, .int 0, .int 0, .int 0, .int 0]) := rfl
    rw [e, p6, nod i y hi hy 2 (by omega) _ rfl, nod i y hi hy 6 (by omega) _ rfl]
    exact h9
  · have hi : i < 32 := hi
    obtain ⟨y, hy⟩ : ∃ y, ns[i]? = some y := ⟨ns[i], List.getElem?_eq_getElem (by omega)⟩
    refine ⟨_, fin (2 + 10 * i + 6) _ (by omega) ((busC_n h hy (by omega)).trans rfl), fun h9 => ?_⟩
    exact h9
  · have hi : i < 33 := hi
    by_cases c : i < 32
    · obtain ⟨y, hy⟩ : ∃ y, ns[i]? = some y := ⟨ns[i], List.getElem?_eq_getElem (by omega)⟩
      have p6 : pos 6 i = 2 + 10 * i + 2 := if_pos c
      have p7 : pos 7 i = 2 + 10 * i + 3 := if_pos c
      have p8 : pos 8 i = 2 + 10 * i + 4 := if_pos c
      have p9 : pos 9 i = 2 + 10 * i + 5 := if_pos c
      rw [p6]
      refine ⟨_, fin (2 + 10 * i + 2) _ (by omega) ((busC_n h hy (by omega)).trans rfl), fun h9 => ?_⟩
      have e : ce (Lc N B D cy a) σ0 6 i = .inr (7, [.ref (a (pos 7 i)), .ref (a (pos 8 i)), .ref (a (pos 9 i))]) := rfl
      rw [e, p7, p8, p9, nod i y c hy 3 (by omega) _ rfl, nod i y c hy 4 (by omega) _ rfl, nod i y c hy 5 (by omega) _ rfl]
      exact h9
    · have e0 : i = 32 := by omega
      subst e0
      refine ⟨_, fin (923 + 1) _ (by omega) ((busC_w h h2 (by omega)).trans rfl), fun h9 => ?_⟩
      have e : ce (Lc N B D cy a) σ0 6 32 = .inr (7, [.ref (a (923 + 2)), .ref (a (923 + 3)), .ref (a (923 + 4))]) := rfl
      rw [e, wri 2 (by omega) _ rfl, wri 3 (by omega) _ rfl, wri 4 (by omega) _ rfl]
      exact h9
  · have hi : i < 33 := hi
    by_cases c : i < 32
    · obtain ⟨y, hy⟩ : ∃ y, ns[i]? = some y := ⟨ns[i], List.getElem?_eq_getElem (by omega)⟩
      have p : pos 7 i = 2 + 10 * i + 3 := if_pos c
      rw [p]
      exact ⟨_, fin (2 + 10 * i + 3) _ (by omega) ((busC_n h hy (by omega)).trans rfl), fun h9 => h9⟩
    · have e0 : i = 32 := by omega
      subst e0
      exact ⟨_, fin (923 + 2) _ (by omega) ((busC_w h h2 (by omega)).trans rfl), fun h9 => h9⟩
  · have hi : i < 33 := hi
    by_cases c : i < 32
    · obtain ⟨y, hy⟩ : ∃ y, ns[i]? = some y := ⟨ns[i], List.getElem?_eq_getElem (by omega)⟩
      have p : pos 8 i = 2 + 10 * i + 4 := if_pos c
      rw [p]
      exact ⟨_, fin (2 + 10 * i + 4) _ (by omega) ((busC_n h hy (by omega)).trans rfl), fun h9 => h9⟩
    · have e0 : i = 32 := by omega
      subst e0
      exact ⟨_, fin (923 + 3) _ (by omega) ((busC_w h h2 (by omega)).trans rfl), fun h9 => h9⟩
  · have hi : i < 33 := hi
    by_cases c : i < 32
    · obtain ⟨y, hy⟩ : ∃ y, ns[i]? = some y := ⟨ns[i], List.getElem?_eq_getElem (by omega)⟩
      have p : pos 9 i = 2 + 10 * i + 5 := if_pos c
      rw [p]
      exact ⟨_, fin (2 + 10 * i + 5) _ (by omega) ((busC_n h hy (by omega)).trans rfl), fun h9 => h9⟩
    · have e0 : i = 32 := by omega
      subst e0
      exact ⟨_, fin (923 + 4) _ (by omega) ((busC_w h h2 (by omega)).trans rfl), fun h9 => h9⟩
  · have hi : i < 32 := hi
    obtain ⟨y, hy⟩ : ∃ y, ns[i]? = some y := ⟨ns[i], List.getElem?_eq_getElem (by omega)⟩
    refine ⟨_, fin (2 + 10 * i + 7) _ (by omega) ((busC_n h hy (by omega)).trans rfl), fun h9 => ?_⟩
    have e : ce (Lc N B D cy a) σ0 10 i = .inr (8, [.ref (a (2 + 10 * i + 8)), .ref (a (2 + 10 * i + 9)), .int 0, .int 0]) := rfl
    rw [e, nod i y hi hy 8 (by omega) _ rfl, nod i y hi hy 9 (by omega) _ rfl]
    exact h9
  · have hi : i < 32 := hi
    obtain ⟨y, hy⟩ : ∃ y, ns[i]? = some y := ⟨ns[i], List.getElem?_eq_getElem (by omega)⟩
    refine ⟨_, fin (2 + 10 * i + 8) _ (by omega) ((busC_n h hy (by omega)).trans rfl), fun h9 => ?_⟩
    exact h9
  · have hi : i < 32 := hi
    obtain ⟨y, hy⟩ : ∃ y, ns[i]? = some y := ⟨ns[i], List.getElem?_eq_getElem (by omega)⟩
    refine ⟨_, fin (2 + 10 * i + 9) _ (by omega) ((busC_n h hy (by omega)).trans rfl), fun h9 => ?_⟩
    exact h9
  · have hi : i < 200 := hi
    obtain ⟨y, hy⟩ : ∃ y, fs[i]? = some y := ⟨fs[i], List.getElem?_eq_getElem (by omega)⟩
    refine ⟨_, fin (323 + 3 * i + 0) _ (by omega) ((busC_f h h2 hy (by omega)).trans rfl), fun h9 => ?_⟩
    have e : ce (Lc N B D cy a) σ0 13 i = .inr (3, [.ref (a (323 + 3 * i + 1)), .ref (a (323 + 3 * i + 2)), .int 0, .int 0, .int 0, .int 0, .long 0, .int 0, .int 0]) := rfl
    rw [e, frm i y hi hy 1 (by omega) _ rfl, frm i y hi hy 2 (by omega) _ rfl]
    exact h9
  · have hi : i < 200 := hi
    obtain ⟨y, hy⟩ : ∃ y, fs[i]? = some y := ⟨fs[i], List.getElem?_eq_getElem (by omega)⟩
    refine ⟨_, fin (323 + 3 * i + 1) _ (by omega) ((busC_f h h2 hy (by omega)).trans rfl), fun h9 => ?_⟩
    exact h9
  · have hi : i < 200 := hi
    obtain ⟨y, hy⟩ : ∃ y, fs[i]? = some y := ⟨fs[i], List.getElem?_eq_getElem (by omega)⟩
    refine ⟨_, fin (323 + 3 * i + 2) _ (by omega) ((busC_f h h2 hy (by omega)).trans rfl), fun h9 => ?_⟩
    exact h9
  · refine ⟨_, fin (923 + 0) _ (by omega) ((busC_w h h2 (by omega)).trans rfl), fun h9 => ?_⟩
    have e : ce (Lc N B D cy a) σ0 16 i = .inr (9, [.ref (a (923 + 1)), .int 0, .int 0, .int 0]) := rfl
    rw [e, wri 1 (by omega) _ rfl]
    exact h9
  · have hi : i < 5 := hi
    rcases (show i = 0 ∨ i = 1 ∨ i = 2 ∨ i = 3 ∨ i = 4 by omega) with rfl | rfl | rfl | rfl | rfl
    · exact ⟨_, fin (928 + 0) _ (by omega) ((busC_a h h2).trans rfl), fun h9 => h9⟩
    · exact ⟨_, fin (928 + 1) _ (by omega) ((busC_a h h2).trans rfl), fun h9 => h9⟩
    · exact ⟨_, fin (928 + 2) _ (by omega) ((busC_a h h2).trans rfl), fun h9 => h9⟩
    · exact ⟨_, fin (928 + 3) _ (by omega) ((busC_a h h2).trans rfl), fun h9 => h9⟩
    · exact ⟨_, fin (928 + 4) _ (by omega) ((busC_a h h2).trans rfl), fun h9 => h9⟩
end BC
