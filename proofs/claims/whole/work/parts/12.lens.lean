theorem sZ_same {σ : CS} {t i : Nat} {f g : Nat → Int32} : sZ (sZ σ t i f) t i g = sZ σ t i g := Prod.ext (funext fun t' => funext fun i' => by simp only [sZ]; split <;> simp_all) rfl
theorem sZ_comm {σ : CS} {t i t' i' : Nat} {f g : Nat → Int32} (h : t ≠ t') : sZ (sZ σ t i f) t' i' g = sZ (sZ σ t' i' g) t i f := Prod.ext (funext fun x => funext fun y => by simp only [sZ]; by_cases h1 : x = t <;> by_cases h2 : x = t' <;> simp_all) rfl
theorem sZ_sH {σ : CS} {t i t' i' : Nat} {f : Nat → Int32} {g : Int64} : sH (sZ σ t i f) t' i' g = sZ (sH σ t' i' g) t i f := rfl
theorem sH_same {σ : CS} {t i : Nat} {f g : Int64} : sH (sH σ t i f) t i g = sH σ t i g := Prod.ext rfl (Prod.ext (funext fun t' => funext fun i' => by simp only [sH]; split <;> simp_all) rfl)
theorem sZ_sR {σ : CS} {t i i' : Nat} {f : Nat → Int32} {g : Option Nat × Option Nat} : sR (sZ σ t i f) i' g = sZ (sR σ i' g) t i f := rfl
theorem sH_sR {σ : CS} {t i i' : Nat} {f : Int64} {g : Option Nat × Option Nat} : sR (sH σ t i f) i' g = sH (sR σ i' g) t i f := rfl
theorem sR_same {σ : CS} {i : Nat} {f g : Option Nat × Option Nat} : sR (sR σ i f) i g = sR σ i g := Prod.ext rfl (Prod.ext rfl (funext fun i' => by simp only [sR]; split <;> simp_all))
def qM (σ : CS) (v : Nat → Int32) (m : Nat → Nat → Int32) : CS := (fun t i => if t = 18 ∧ i = 0 then v else if t = 19 then m i else σ.1 t i, σ.2)
theorem qM_v {σ : CS} {v z : Nat → Int32} {m : Nat → Nat → Int32} : sZ (qM σ v m) 18 0 z = qM σ z m := Prod.ext (funext fun t' => funext fun i' => by simp only [sZ, qM]; by_cases h : t' = 18 ∧ i' = 0 <;> simp [h]) rfl
theorem qM_m {σ : CS} {v z : Nat → Int32} {m : Nat → Nat → Int32} {j : Nat} : sZ (qM σ v m) 19 j z = qM σ v (va_up m j z) := Prod.ext (funext fun t' => funext fun i' => by simp only [sZ, qM, va_up]; by_cases h : t' = 19 <;> by_cases h2 : i' = j <;> simp_all) rfl
theorem qM_mm {σ : CS} {v y z : Nat → Int32} {m : Nat → Nat → Int32} {j : Nat} : sZ (qM σ v (va_up m j y)) 19 j z = qM σ v (va_up m j z) := by rw [qM_m, bx_uu]
def qC (σ s : CS) : CS := (fun t i => if t < 18 then s.1 t i else σ.1 t i, fun t i => if t < 18 then s.2.1 t i else σ.2.1 t i, s.2.2)
theorem qC_s {σ s : CS} {t i : Nat} {z : Nat → Int32} (h : t < 18) : sZ (qC σ s) t i z = qC σ (sZ s t i z) := Prod.ext (funext fun t' => funext fun i' => by simp only [sZ, qC]; by_cases h2 : t' = t ∧ i' = i; (rw [if_pos h2, if_pos (h2.1 ▸ h : t' < 18), if_pos h2]); (simp only [if_neg h2])) rfl
theorem qC_sH {σ s : CS} {t i : Nat} {z : Int64} (h : t < 18) : sH (qC σ s) t i z = qC σ (sH s t i z) := Prod.ext rfl (Prod.ext (funext fun t' => funext fun i' => by simp only [sH, qC]; by_cases h2 : t' = t ∧ i' = i; (rw [if_pos h2, if_pos (h2.1 ▸ h : t' < 18), if_pos h2]); (simp only [if_neg h2])) rfl)
theorem qC_sR {σ s : CS} {i : Nat} {z : Option Nat × Option Nat} : sR (qC σ s) i z = qC σ (sR s i z) := rfl
theorem sZ_self {s : CS} {t i : Nat} : sZ s t i (s.1 t i) = s := Prod.ext (funext fun t' => funext fun i' => by simp only [sZ]; split <;> simp_all) rfl
theorem sH_self {s : CS} {t i : Nat} : sH s t i (s.2.1 t i) = s := Prod.ext rfl (Prod.ext (funext fun t' => funext fun i' => by simp only [sH]; split <;> simp_all) rfl)
theorem sR_self {s : CS} {i : Nat} : sR s i ((s.2.2 i).1, (s.2.2 i).2) = s := Prod.ext rfl (Prod.ext rfl (funext fun i' => by simp only [sR]; split <;> simp_all))
def rr (r1 r2 : Option Nat) : Option Nat × Option Nat := (r1, r2)
def qSum (σ : CS) (s : Nat) (a : Nat → Int32) (b : Nat → Int32) (c : Nat → Int32) : CS := sZ (sZ (sZ σ 7 s a) 8 s b) 9 s c
theorem qSum_g7 {σ : CS} {s : Nat} {a : Nat → Int32} {b : Nat → Int32} {c : Nat → Int32} : (qSum σ s a b c).1 7 s = a := by simp [qSum, sZ, sH, sR]
theorem qSum_s7 {σ : CS} {s : Nat} {a : Nat → Int32} {b : Nat → Int32} {c : Nat → Int32} {z : Nat → Int32} : sZ (qSum σ s a b c) 7 s z = qSum σ s z b c := by
  unfold qSum
  rw [sZ_comm (by decide : (9 : Nat) ≠ 7), sZ_comm (by decide : (8 : Nat) ≠ 7), sZ_same]
theorem qSum_g8 {σ : CS} {s : Nat} {a : Nat → Int32} {b : Nat → Int32} {c : Nat → Int32} : (qSum σ s a b c).1 8 s = b := by simp [qSum, sZ, sH, sR]
theorem qSum_s8 {σ : CS} {s : Nat} {a : Nat → Int32} {b : Nat → Int32} {c : Nat → Int32} {z : Nat → Int32} : sZ (qSum σ s a b c) 8 s z = qSum σ s a z c := by
  unfold qSum
  rw [sZ_comm (by decide : (9 : Nat) ≠ 8), sZ_same]
theorem qSum_g9 {σ : CS} {s : Nat} {a : Nat → Int32} {b : Nat → Int32} {c : Nat → Int32} : (qSum σ s a b c).1 9 s = c := by simp [qSum, sZ, sH, sR]
theorem qSum_s9 {σ : CS} {s : Nat} {a : Nat → Int32} {b : Nat → Int32} {c : Nat → Int32} {z : Nat → Int32} : sZ (qSum σ s a b c) 9 s z = qSum σ s a b z := by
  unfold qSum
  rw [sZ_same]
def qLis (σ : CS) (i : Nat) (h : Int64) (f : Nat → Int32) (o : Nat → Int32) (a : Nat → Int32) (b : Nat → Int32) (c : Nat → Int32) : CS := sZ (sZ (sZ (sZ (sZ (sH σ 4 i h) 4 i f) 5 i o) 7 i a) 8 i b) 9 i c
theorem qLis_g4 {σ : CS} {i : Nat} {h : Int64} {f : Nat → Int32} {o : Nat → Int32} {a : Nat → Int32} {b : Nat → Int32} {c : Nat → Int32} : (qLis σ i h f o a b c).1 4 i = f := by simp [qLis, sZ, sH, sR]
theorem qLis_s4 {σ : CS} {i : Nat} {h : Int64} {f : Nat → Int32} {o : Nat → Int32} {a : Nat → Int32} {b : Nat → Int32} {c : Nat → Int32} {z : Nat → Int32} : sZ (qLis σ i h f o a b c) 4 i z = qLis σ i h z o a b c := by
  unfold qLis
  rw [sZ_comm (by decide : (9 : Nat) ≠ 4), sZ_comm (by decide : (8 : Nat) ≠ 4), sZ_comm (by decide : (7 : Nat) ≠ 4), sZ_comm (by decide : (5 : Nat) ≠ 4), sZ_same]
theorem qLis_g5 {σ : CS} {i : Nat} {h : Int64} {f : Nat → Int32} {o : Nat → Int32} {a : Nat → Int32} {b : Nat → Int32} {c : Nat → Int32} : (qLis σ i h f o a b c).1 5 i = o := by simp [qLis, sZ, sH, sR]
theorem qLis_s5 {σ : CS} {i : Nat} {h : Int64} {f : Nat → Int32} {o : Nat → Int32} {a : Nat → Int32} {b : Nat → Int32} {c : Nat → Int32} {z : Nat → Int32} : sZ (qLis σ i h f o a b c) 5 i z = qLis σ i h f z a b c := by
  unfold qLis
  rw [sZ_comm (by decide : (9 : Nat) ≠ 5), sZ_comm (by decide : (8 : Nat) ≠ 5), sZ_comm (by decide : (7 : Nat) ≠ 5), sZ_same]
theorem qLis_g7 {σ : CS} {i : Nat} {h : Int64} {f : Nat → Int32} {o : Nat → Int32} {a : Nat → Int32} {b : Nat → Int32} {c : Nat → Int32} : (qLis σ i h f o a b c).1 7 i = a := by simp [qLis, sZ, sH, sR]
theorem qLis_s7 {σ : CS} {i : Nat} {h : Int64} {f : Nat → Int32} {o : Nat → Int32} {a : Nat → Int32} {b : Nat → Int32} {c : Nat → Int32} {z : Nat → Int32} : sZ (qLis σ i h f o a b c) 7 i z = qLis σ i h f o z b c := by
  unfold qLis
  rw [sZ_comm (by decide : (9 : Nat) ≠ 7), sZ_comm (by decide : (8 : Nat) ≠ 7), sZ_same]
theorem qLis_g8 {σ : CS} {i : Nat} {h : Int64} {f : Nat → Int32} {o : Nat → Int32} {a : Nat → Int32} {b : Nat → Int32} {c : Nat → Int32} : (qLis σ i h f o a b c).1 8 i = b := by simp [qLis, sZ, sH, sR]
theorem qLis_s8 {σ : CS} {i : Nat} {h : Int64} {f : Nat → Int32} {o : Nat → Int32} {a : Nat → Int32} {b : Nat → Int32} {c : Nat → Int32} {z : Nat → Int32} : sZ (qLis σ i h f o a b c) 8 i z = qLis σ i h f o a z c := by
  unfold qLis
  rw [sZ_comm (by decide : (9 : Nat) ≠ 8), sZ_same]
theorem qLis_g9 {σ : CS} {i : Nat} {h : Int64} {f : Nat → Int32} {o : Nat → Int32} {a : Nat → Int32} {b : Nat → Int32} {c : Nat → Int32} : (qLis σ i h f o a b c).1 9 i = c := by simp [qLis, sZ, sH, sR]
theorem qLis_s9 {σ : CS} {i : Nat} {h : Int64} {f : Nat → Int32} {o : Nat → Int32} {a : Nat → Int32} {b : Nat → Int32} {c : Nat → Int32} {z : Nat → Int32} : sZ (qLis σ i h f o a b c) 9 i z = qLis σ i h f o a b z := by
  unfold qLis
  rw [sZ_same]
theorem qLis_h {σ : CS} {i : Nat} {h : Int64} {f : Nat → Int32} {o : Nat → Int32} {a : Nat → Int32} {b : Nat → Int32} {c : Nat → Int32} : (qLis σ i h f o a b c).2.1 4 i = h := by simp [qLis, sZ, sH, sR]
theorem qLis_sh {σ : CS} {i : Nat} {h : Int64} {f : Nat → Int32} {o : Nat → Int32} {a : Nat → Int32} {b : Nat → Int32} {c : Nat → Int32} {z : Int64} : sH (qLis σ i h f o a b c) 4 i z = qLis σ i z f o a b c := by
  unfold qLis
  rw [sZ_sH, sZ_sH, sZ_sH, sZ_sH, sZ_sH, sH_same]
def qFr (σ : CS) (j : Nat) (fh : Int64) (ff : Nat → Int32) (fo : Nat → Int32) (fb : Nat → Int32) : CS := sZ (sZ (sZ (sH σ 13 j fh) 13 j ff) 14 j fo) 15 j fb
theorem qFr_g13 {σ : CS} {j : Nat} {fh : Int64} {ff : Nat → Int32} {fo : Nat → Int32} {fb : Nat → Int32} : (qFr σ j fh ff fo fb).1 13 j = ff := by simp [qFr, sZ, sH, sR]
theorem qFr_s13 {σ : CS} {j : Nat} {fh : Int64} {ff : Nat → Int32} {fo : Nat → Int32} {fb : Nat → Int32} {z : Nat → Int32} : sZ (qFr σ j fh ff fo fb) 13 j z = qFr σ j fh z fo fb := by
  unfold qFr
  rw [sZ_comm (by decide : (15 : Nat) ≠ 13), sZ_comm (by decide : (14 : Nat) ≠ 13), sZ_same]
theorem qFr_g14 {σ : CS} {j : Nat} {fh : Int64} {ff : Nat → Int32} {fo : Nat → Int32} {fb : Nat → Int32} : (qFr σ j fh ff fo fb).1 14 j = fo := by simp [qFr, sZ, sH, sR]
theorem qFr_s14 {σ : CS} {j : Nat} {fh : Int64} {ff : Nat → Int32} {fo : Nat → Int32} {fb : Nat → Int32} {z : Nat → Int32} : sZ (qFr σ j fh ff fo fb) 14 j z = qFr σ j fh ff z fb := by
  unfold qFr
  rw [sZ_comm (by decide : (15 : Nat) ≠ 14), sZ_same]
theorem qFr_g15 {σ : CS} {j : Nat} {fh : Int64} {ff : Nat → Int32} {fo : Nat → Int32} {fb : Nat → Int32} : (qFr σ j fh ff fo fb).1 15 j = fb := by simp [qFr, sZ, sH, sR]
theorem qFr_s15 {σ : CS} {j : Nat} {fh : Int64} {ff : Nat → Int32} {fo : Nat → Int32} {fb : Nat → Int32} {z : Nat → Int32} : sZ (qFr σ j fh ff fo fb) 15 j z = qFr σ j fh ff fo z := by
  unfold qFr
  rw [sZ_same]
theorem qFr_h {σ : CS} {j : Nat} {fh : Int64} {ff : Nat → Int32} {fo : Nat → Int32} {fb : Nat → Int32} : (qFr σ j fh ff fo fb).2.1 13 j = fh := by simp [qFr, sZ, sH, sR]
theorem qFr_sh {σ : CS} {j : Nat} {fh : Int64} {ff : Nat → Int32} {fo : Nat → Int32} {fb : Nat → Int32} {z : Int64} : sH (qFr σ j fh ff fo fb) 13 j z = qFr σ j z ff fo fb := by
  unfold qFr
  rw [sZ_sH, sZ_sH, sZ_sH, sH_same]
def qTak (σ : CS) (i : Nat) (tf : Nat → Int32) (tt : Nat → Int32) (tk : Nat → Int32) : CS := sZ (sZ (sZ σ 10 i tf) 11 i tt) 12 i tk
theorem qTak_g10 {σ : CS} {i : Nat} {tf : Nat → Int32} {tt : Nat → Int32} {tk : Nat → Int32} : (qTak σ i tf tt tk).1 10 i = tf := by simp [qTak, sZ, sH, sR]
theorem qTak_s10 {σ : CS} {i : Nat} {tf : Nat → Int32} {tt : Nat → Int32} {tk : Nat → Int32} {z : Nat → Int32} : sZ (qTak σ i tf tt tk) 10 i z = qTak σ i z tt tk := by
  unfold qTak
  rw [sZ_comm (by decide : (12 : Nat) ≠ 10), sZ_comm (by decide : (11 : Nat) ≠ 10), sZ_same]
theorem qTak_g11 {σ : CS} {i : Nat} {tf : Nat → Int32} {tt : Nat → Int32} {tk : Nat → Int32} : (qTak σ i tf tt tk).1 11 i = tt := by simp [qTak, sZ, sH, sR]
theorem qTak_s11 {σ : CS} {i : Nat} {tf : Nat → Int32} {tt : Nat → Int32} {tk : Nat → Int32} {z : Nat → Int32} : sZ (qTak σ i tf tt tk) 11 i z = qTak σ i tf z tk := by
  unfold qTak
  rw [sZ_comm (by decide : (12 : Nat) ≠ 11), sZ_same]
theorem qTak_g12 {σ : CS} {i : Nat} {tf : Nat → Int32} {tt : Nat → Int32} {tk : Nat → Int32} : (qTak σ i tf tt tk).1 12 i = tk := by simp [qTak, sZ, sH, sR]
theorem qTak_s12 {σ : CS} {i : Nat} {tf : Nat → Int32} {tt : Nat → Int32} {tk : Nat → Int32} {z : Nat → Int32} : sZ (qTak σ i tf tt tk) 12 i z = qTak σ i tf tt z := by
  unfold qTak
  rw [sZ_same]
def qWr (σ : CS) (w : Nat → Int32) (a : Nat → Int32) (b : Nat → Int32) (c : Nat → Int32) : CS := sZ (sZ (sZ (sZ σ 16 0 w) 7 32 a) 8 32 b) 9 32 c
theorem qWr_g16 {σ : CS} {w : Nat → Int32} {a : Nat → Int32} {b : Nat → Int32} {c : Nat → Int32} : (qWr σ w a b c).1 16 0 = w := by simp [qWr, sZ, sH, sR]
theorem qWr_s16 {σ : CS} {w : Nat → Int32} {a : Nat → Int32} {b : Nat → Int32} {c : Nat → Int32} {z : Nat → Int32} : sZ (qWr σ w a b c) 16 0 z = qWr σ z a b c := by
  unfold qWr
  rw [sZ_comm (by decide : (9 : Nat) ≠ 16), sZ_comm (by decide : (8 : Nat) ≠ 16), sZ_comm (by decide : (7 : Nat) ≠ 16), sZ_same]
theorem qWr_g7 {σ : CS} {w : Nat → Int32} {a : Nat → Int32} {b : Nat → Int32} {c : Nat → Int32} : (qWr σ w a b c).1 7 32 = a := by simp [qWr, sZ, sH, sR]
theorem qWr_s7 {σ : CS} {w : Nat → Int32} {a : Nat → Int32} {b : Nat → Int32} {c : Nat → Int32} {z : Nat → Int32} : sZ (qWr σ w a b c) 7 32 z = qWr σ w z b c := by
  unfold qWr
  rw [sZ_comm (by decide : (9 : Nat) ≠ 7), sZ_comm (by decide : (8 : Nat) ≠ 7), sZ_same]
theorem qWr_g8 {σ : CS} {w : Nat → Int32} {a : Nat → Int32} {b : Nat → Int32} {c : Nat → Int32} : (qWr σ w a b c).1 8 32 = b := by simp [qWr, sZ, sH, sR]
theorem qWr_s8 {σ : CS} {w : Nat → Int32} {a : Nat → Int32} {b : Nat → Int32} {c : Nat → Int32} {z : Nat → Int32} : sZ (qWr σ w a b c) 8 32 z = qWr σ w a z c := by
  unfold qWr
  rw [sZ_comm (by decide : (9 : Nat) ≠ 8), sZ_same]
theorem qWr_g9 {σ : CS} {w : Nat → Int32} {a : Nat → Int32} {b : Nat → Int32} {c : Nat → Int32} : (qWr σ w a b c).1 9 32 = c := by simp [qWr, sZ, sH, sR]
theorem qWr_s9 {σ : CS} {w : Nat → Int32} {a : Nat → Int32} {b : Nat → Int32} {c : Nat → Int32} {z : Nat → Int32} : sZ (qWr σ w a b c) 9 32 z = qWr σ w a b z := by
  unfold qWr
  rw [sZ_same]
def qWF (σ : CS) (j : Nat) (w : Nat → Int32) (a : Nat → Int32) (b : Nat → Int32) (c : Nat → Int32) (fh : Int64) (ff : Nat → Int32) (fo : Nat → Int32) (fb : Nat → Int32) : CS := sZ (sZ (sZ (sZ (sZ (sZ (sZ (sH σ 13 j fh) 16 0 w) 7 32 a) 8 32 b) 9 32 c) 13 j ff) 14 j fo) 15 j fb
theorem qWF_g16 {σ : CS} {j : Nat} {w : Nat → Int32} {a : Nat → Int32} {b : Nat → Int32} {c : Nat → Int32} {fh : Int64} {ff : Nat → Int32} {fo : Nat → Int32} {fb : Nat → Int32} : (qWF σ j w a b c fh ff fo fb).1 16 0 = w := by simp [qWF, sZ, sH, sR]
theorem qWF_s16 {σ : CS} {j : Nat} {w : Nat → Int32} {a : Nat → Int32} {b : Nat → Int32} {c : Nat → Int32} {fh : Int64} {ff : Nat → Int32} {fo : Nat → Int32} {fb : Nat → Int32} {z : Nat → Int32} : sZ (qWF σ j w a b c fh ff fo fb) 16 0 z = qWF σ j z a b c fh ff fo fb := by
  unfold qWF
  rw [sZ_comm (by decide : (15 : Nat) ≠ 16), sZ_comm (by decide : (14 : Nat) ≠ 16), sZ_comm (by decide : (13 : Nat) ≠ 16), sZ_comm (by decide : (9 : Nat) ≠ 16), sZ_comm (by decide : (8 : Nat) ≠ 16), sZ_comm (by decide : (7 : Nat) ≠ 16), sZ_same]
theorem qWF_g7 {σ : CS} {j : Nat} {w : Nat → Int32} {a : Nat → Int32} {b : Nat → Int32} {c : Nat → Int32} {fh : Int64} {ff : Nat → Int32} {fo : Nat → Int32} {fb : Nat → Int32} : (qWF σ j w a b c fh ff fo fb).1 7 32 = a := by simp [qWF, sZ, sH, sR]
theorem qWF_s7 {σ : CS} {j : Nat} {w : Nat → Int32} {a : Nat → Int32} {b : Nat → Int32} {c : Nat → Int32} {fh : Int64} {ff : Nat → Int32} {fo : Nat → Int32} {fb : Nat → Int32} {z : Nat → Int32} : sZ (qWF σ j w a b c fh ff fo fb) 7 32 z = qWF σ j w z b c fh ff fo fb := by
  unfold qWF
  rw [sZ_comm (by decide : (15 : Nat) ≠ 7), sZ_comm (by decide : (14 : Nat) ≠ 7), sZ_comm (by decide : (13 : Nat) ≠ 7), sZ_comm (by decide : (9 : Nat) ≠ 7), sZ_comm (by decide : (8 : Nat) ≠ 7), sZ_same]
theorem qWF_g8 {σ : CS} {j : Nat} {w : Nat → Int32} {a : Nat → Int32} {b : Nat → Int32} {c : Nat → Int32} {fh : Int64} {ff : Nat → Int32} {fo : Nat → Int32} {fb : Nat → Int32} : (qWF σ j w a b c fh ff fo fb).1 8 32 = b := by simp [qWF, sZ, sH, sR]
theorem qWF_s8 {σ : CS} {j : Nat} {w : Nat → Int32} {a : Nat → Int32} {b : Nat → Int32} {c : Nat → Int32} {fh : Int64} {ff : Nat → Int32} {fo : Nat → Int32} {fb : Nat → Int32} {z : Nat → Int32} : sZ (qWF σ j w a b c fh ff fo fb) 8 32 z = qWF σ j w a z c fh ff fo fb := by
  unfold qWF
  rw [sZ_comm (by decide : (15 : Nat) ≠ 8), sZ_comm (by decide : (14 : Nat) ≠ 8), sZ_comm (by decide : (13 : Nat) ≠ 8), sZ_comm (by decide : (9 : Nat) ≠ 8), sZ_same]
theorem qWF_g9 {σ : CS} {j : Nat} {w : Nat → Int32} {a : Nat → Int32} {b : Nat → Int32} {c : Nat → Int32} {fh : Int64} {ff : Nat → Int32} {fo : Nat → Int32} {fb : Nat → Int32} : (qWF σ j w a b c fh ff fo fb).1 9 32 = c := by simp [qWF, sZ, sH, sR]
theorem qWF_s9 {σ : CS} {j : Nat} {w : Nat → Int32} {a : Nat → Int32} {b : Nat → Int32} {c : Nat → Int32} {fh : Int64} {ff : Nat → Int32} {fo : Nat → Int32} {fb : Nat → Int32} {z : Nat → Int32} : sZ (qWF σ j w a b c fh ff fo fb) 9 32 z = qWF σ j w a b z fh ff fo fb := by
  unfold qWF
  rw [sZ_comm (by decide : (15 : Nat) ≠ 9), sZ_comm (by decide : (14 : Nat) ≠ 9), sZ_comm (by decide : (13 : Nat) ≠ 9), sZ_same]
theorem qWF_g13 {σ : CS} {j : Nat} {w : Nat → Int32} {a : Nat → Int32} {b : Nat → Int32} {c : Nat → Int32} {fh : Int64} {ff : Nat → Int32} {fo : Nat → Int32} {fb : Nat → Int32} : (qWF σ j w a b c fh ff fo fb).1 13 j = ff := by simp [qWF, sZ, sH, sR]
theorem qWF_s13 {σ : CS} {j : Nat} {w : Nat → Int32} {a : Nat → Int32} {b : Nat → Int32} {c : Nat → Int32} {fh : Int64} {ff : Nat → Int32} {fo : Nat → Int32} {fb : Nat → Int32} {z : Nat → Int32} : sZ (qWF σ j w a b c fh ff fo fb) 13 j z = qWF σ j w a b c fh z fo fb := by
  unfold qWF
  rw [sZ_comm (by decide : (15 : Nat) ≠ 13), sZ_comm (by decide : (14 : Nat) ≠ 13), sZ_same]
theorem qWF_g14 {σ : CS} {j : Nat} {w : Nat → Int32} {a : Nat → Int32} {b : Nat → Int32} {c : Nat → Int32} {fh : Int64} {ff : Nat → Int32} {fo : Nat → Int32} {fb : Nat → Int32} : (qWF σ j w a b c fh ff fo fb).1 14 j = fo := by simp [qWF, sZ, sH, sR]
theorem qWF_s14 {σ : CS} {j : Nat} {w : Nat → Int32} {a : Nat → Int32} {b : Nat → Int32} {c : Nat → Int32} {fh : Int64} {ff : Nat → Int32} {fo : Nat → Int32} {fb : Nat → Int32} {z : Nat → Int32} : sZ (qWF σ j w a b c fh ff fo fb) 14 j z = qWF σ j w a b c fh ff z fb := by
  unfold qWF
  rw [sZ_comm (by decide : (15 : Nat) ≠ 14), sZ_same]
theorem qWF_g15 {σ : CS} {j : Nat} {w : Nat → Int32} {a : Nat → Int32} {b : Nat → Int32} {c : Nat → Int32} {fh : Int64} {ff : Nat → Int32} {fo : Nat → Int32} {fb : Nat → Int32} : (qWF σ j w a b c fh ff fo fb).1 15 j = fb := by simp [qWF, sZ, sH, sR]
theorem qWF_s15 {σ : CS} {j : Nat} {w : Nat → Int32} {a : Nat → Int32} {b : Nat → Int32} {c : Nat → Int32} {fh : Int64} {ff : Nat → Int32} {fo : Nat → Int32} {fb : Nat → Int32} {z : Nat → Int32} : sZ (qWF σ j w a b c fh ff fo fb) 15 j z = qWF σ j w a b c fh ff fo z := by
  unfold qWF
  rw [sZ_same]
theorem qWF_h {σ : CS} {j : Nat} {w : Nat → Int32} {a : Nat → Int32} {b : Nat → Int32} {c : Nat → Int32} {fh : Int64} {ff : Nat → Int32} {fo : Nat → Int32} {fb : Nat → Int32} : (qWF σ j w a b c fh ff fo fb).2.1 13 j = fh := by simp [qWF, sZ, sH, sR]
theorem qWF_sh {σ : CS} {j : Nat} {w : Nat → Int32} {a : Nat → Int32} {b : Nat → Int32} {c : Nat → Int32} {fh : Int64} {ff : Nat → Int32} {fo : Nat → Int32} {fb : Nat → Int32} {z : Int64} : sH (qWF σ j w a b c fh ff fo fb) 13 j z = qWF σ j w a b c z ff fo fb := by
  unfold qWF
  rw [sZ_sH, sZ_sH, sZ_sH, sZ_sH, sZ_sH, sZ_sH, sZ_sH, sH_same]
def qNd (σ : CS) (i : Nat) (r1 : Option Nat) (r2 : Option Nat) (nf : Nat → Int32) (h : Int64) (f : Nat → Int32) (o : Nat → Int32) (a : Nat → Int32) (b : Nat → Int32) (c : Nat → Int32) (tf : Nat → Int32) (tt : Nat → Int32) (tk : Nat → Int32) : CS := sZ (sZ (sZ (sZ (sZ (sZ (sZ (sZ (sZ (sH (sR σ i (rr r1 r2)) 4 i h) 3 i nf) 4 i f) 5 i o) 7 i a) 8 i b) 9 i c) 10 i tf) 11 i tt) 12 i tk
theorem qNd_g3 {σ : CS} {i : Nat} {r1 : Option Nat} {r2 : Option Nat} {nf : Nat → Int32} {h : Int64} {f : Nat → Int32} {o : Nat → Int32} {a : Nat → Int32} {b : Nat → Int32} {c : Nat → Int32} {tf : Nat → Int32} {tt : Nat → Int32} {tk : Nat → Int32} : (qNd σ i r1 r2 nf h f o a b c tf tt tk).1 3 i = nf := by simp [qNd, sZ, sH, sR]
theorem qNd_s3 {σ : CS} {i : Nat} {r1 : Option Nat} {r2 : Option Nat} {nf : Nat → Int32} {h : Int64} {f : Nat → Int32} {o : Nat → Int32} {a : Nat → Int32} {b : Nat → Int32} {c : Nat → Int32} {tf : Nat → Int32} {tt : Nat → Int32} {tk : Nat → Int32} {z : Nat → Int32} : sZ (qNd σ i r1 r2 nf h f o a b c tf tt tk) 3 i z = qNd σ i r1 r2 z h f o a b c tf tt tk := by
  unfold qNd
  rw [sZ_comm (by decide : (12 : Nat) ≠ 3), sZ_comm (by decide : (11 : Nat) ≠ 3), sZ_comm (by decide : (10 : Nat) ≠ 3), sZ_comm (by decide : (9 : Nat) ≠ 3), sZ_comm (by decide : (8 : Nat) ≠ 3), sZ_comm (by decide : (7 : Nat) ≠ 3), sZ_comm (by decide : (5 : Nat) ≠ 3), sZ_comm (by decide : (4 : Nat) ≠ 3), sZ_same]
theorem qNd_g4 {σ : CS} {i : Nat} {r1 : Option Nat} {r2 : Option Nat} {nf : Nat → Int32} {h : Int64} {f : Nat → Int32} {o : Nat → Int32} {a : Nat → Int32} {b : Nat → Int32} {c : Nat → Int32} {tf : Nat → Int32} {tt : Nat → Int32} {tk : Nat → Int32} : (qNd σ i r1 r2 nf h f o a b c tf tt tk).1 4 i = f := by simp [qNd, sZ, sH, sR]
theorem qNd_s4 {σ : CS} {i : Nat} {r1 : Option Nat} {r2 : Option Nat} {nf : Nat → Int32} {h : Int64} {f : Nat → Int32} {o : Nat → Int32} {a : Nat → Int32} {b : Nat → Int32} {c : Nat → Int32} {tf : Nat → Int32} {tt : Nat → Int32} {tk : Nat → Int32} {z : Nat → Int32} : sZ (qNd σ i r1 r2 nf h f o a b c tf tt tk) 4 i z = qNd σ i r1 r2 nf h z o a b c tf tt tk := by
  unfold qNd
  rw [sZ_comm (by decide : (12 : Nat) ≠ 4), sZ_comm (by decide : (11 : Nat) ≠ 4), sZ_comm (by decide : (10 : Nat) ≠ 4), sZ_comm (by decide : (9 : Nat) ≠ 4), sZ_comm (by decide : (8 : Nat) ≠ 4), sZ_comm (by decide : (7 : Nat) ≠ 4), sZ_comm (by decide : (5 : Nat) ≠ 4), sZ_same]
theorem qNd_g5 {σ : CS} {i : Nat} {r1 : Option Nat} {r2 : Option Nat} {nf : Nat → Int32} {h : Int64} {f : Nat → Int32} {o : Nat → Int32} {a : Nat → Int32} {b : Nat → Int32} {c : Nat → Int32} {tf : Nat → Int32} {tt : Nat → Int32} {tk : Nat → Int32} : (qNd σ i r1 r2 nf h f o a b c tf tt tk).1 5 i = o := by simp [qNd, sZ, sH, sR]
theorem qNd_s5 {σ : CS} {i : Nat} {r1 : Option Nat} {r2 : Option Nat} {nf : Nat → Int32} {h : Int64} {f : Nat → Int32} {o : Nat → Int32} {a : Nat → Int32} {b : Nat → Int32} {c : Nat → Int32} {tf : Nat → Int32} {tt : Nat → Int32} {tk : Nat → Int32} {z : Nat → Int32} : sZ (qNd σ i r1 r2 nf h f o a b c tf tt tk) 5 i z = qNd σ i r1 r2 nf h f z a b c tf tt tk := by
  unfold qNd
  rw [sZ_comm (by decide : (12 : Nat) ≠ 5), sZ_comm (by decide : (11 : Nat) ≠ 5), sZ_comm (by decide : (10 : Nat) ≠ 5), sZ_comm (by decide : (9 : Nat) ≠ 5), sZ_comm (by decide : (8 : Nat) ≠ 5), sZ_comm (by decide : (7 : Nat) ≠ 5), sZ_same]
theorem qNd_g7 {σ : CS} {i : Nat} {r1 : Option Nat} {r2 : Option Nat} {nf : Nat → Int32} {h : Int64} {f : Nat → Int32} {o : Nat → Int32} {a : Nat → Int32} {b : Nat → Int32} {c : Nat → Int32} {tf : Nat → Int32} {tt : Nat → Int32} {tk : Nat → Int32} : (qNd σ i r1 r2 nf h f o a b c tf tt tk).1 7 i = a := by simp [qNd, sZ, sH, sR]
theorem qNd_s7 {σ : CS} {i : Nat} {r1 : Option Nat} {r2 : Option Nat} {nf : Nat → Int32} {h : Int64} {f : Nat → Int32} {o : Nat → Int32} {a : Nat → Int32} {b : Nat → Int32} {c : Nat → Int32} {tf : Nat → Int32} {tt : Nat → Int32} {tk : Nat → Int32} {z : Nat → Int32} : sZ (qNd σ i r1 r2 nf h f o a b c tf tt tk) 7 i z = qNd σ i r1 r2 nf h f o z b c tf tt tk := by
  unfold qNd
  rw [sZ_comm (by decide : (12 : Nat) ≠ 7), sZ_comm (by decide : (11 : Nat) ≠ 7), sZ_comm (by decide : (10 : Nat) ≠ 7), sZ_comm (by decide : (9 : Nat) ≠ 7), sZ_comm (by decide : (8 : Nat) ≠ 7), sZ_same]
theorem qNd_g8 {σ : CS} {i : Nat} {r1 : Option Nat} {r2 : Option Nat} {nf : Nat → Int32} {h : Int64} {f : Nat → Int32} {o : Nat → Int32} {a : Nat → Int32} {b : Nat → Int32} {c : Nat → Int32} {tf : Nat → Int32} {tt : Nat → Int32} {tk : Nat → Int32} : (qNd σ i r1 r2 nf h f o a b c tf tt tk).1 8 i = b := by simp [qNd, sZ, sH, sR]
theorem qNd_s8 {σ : CS} {i : Nat} {r1 : Option Nat} {r2 : Option Nat} {nf : Nat → Int32} {h : Int64} {f : Nat → Int32} {o : Nat → Int32} {a : Nat → Int32} {b : Nat → Int32} {c : Nat → Int32} {tf : Nat → Int32} {tt : Nat → Int32} {tk : Nat → Int32} {z : Nat → Int32} : sZ (qNd σ i r1 r2 nf h f o a b c tf tt tk) 8 i z = qNd σ i r1 r2 nf h f o a z c tf tt tk := by
  unfold qNd
  rw [sZ_comm (by decide : (12 : Nat) ≠ 8), sZ_comm (by decide : (11 : Nat) ≠ 8), sZ_comm (by decide : (10 : Nat) ≠ 8), sZ_comm (by decide : (9 : Nat) ≠ 8), sZ_same]
theorem qNd_g9 {σ : CS} {i : Nat} {r1 : Option Nat} {r2 : Option Nat} {nf : Nat → Int32} {h : Int64} {f : Nat → Int32} {o : Nat → Int32} {a : Nat → Int32} {b : Nat → Int32} {c : Nat → Int32} {tf : Nat → Int32} {tt : Nat → Int32} {tk : Nat → Int32} : (qNd σ i r1 r2 nf h f o a b c tf tt tk).1 9 i = c := by simp [qNd, sZ, sH, sR]
theorem qNd_s9 {σ : CS} {i : Nat} {r1 : Option Nat} {r2 : Option Nat} {nf : Nat → Int32} {h : Int64} {f : Nat → Int32} {o : Nat → Int32} {a : Nat → Int32} {b : Nat → Int32} {c : Nat → Int32} {tf : Nat → Int32} {tt : Nat → Int32} {tk : Nat → Int32} {z : Nat → Int32} : sZ (qNd σ i r1 r2 nf h f o a b c tf tt tk) 9 i z = qNd σ i r1 r2 nf h f o a b z tf tt tk := by
  unfold qNd
  rw [sZ_comm (by decide : (12 : Nat) ≠ 9), sZ_comm (by decide : (11 : Nat) ≠ 9), sZ_comm (by decide : (10 : Nat) ≠ 9), sZ_same]
theorem qNd_g10 {σ : CS} {i : Nat} {r1 : Option Nat} {r2 : Option Nat} {nf : Nat → Int32} {h : Int64} {f : Nat → Int32} {o : Nat → Int32} {a : Nat → Int32} {b : Nat → Int32} {c : Nat → Int32} {tf : Nat → Int32} {tt : Nat → Int32} {tk : Nat → Int32} : (qNd σ i r1 r2 nf h f o a b c tf tt tk).1 10 i = tf := by simp [qNd, sZ, sH, sR]
theorem qNd_s10 {σ : CS} {i : Nat} {r1 : Option Nat} {r2 : Option Nat} {nf : Nat → Int32} {h : Int64} {f : Nat → Int32} {o : Nat → Int32} {a : Nat → Int32} {b : Nat → Int32} {c : Nat → Int32} {tf : Nat → Int32} {tt : Nat → Int32} {tk : Nat → Int32} {z : Nat → Int32} : sZ (qNd σ i r1 r2 nf h f o a b c tf tt tk) 10 i z = qNd σ i r1 r2 nf h f o a b c z tt tk := by
  unfold qNd
  rw [sZ_comm (by decide : (12 : Nat) ≠ 10), sZ_comm (by decide : (11 : Nat) ≠ 10), sZ_same]
theorem qNd_g11 {σ : CS} {i : Nat} {r1 : Option Nat} {r2 : Option Nat} {nf : Nat → Int32} {h : Int64} {f : Nat → Int32} {o : Nat → Int32} {a : Nat → Int32} {b : Nat → Int32} {c : Nat → Int32} {tf : Nat → Int32} {tt : Nat → Int32} {tk : Nat → Int32} : (qNd σ i r1 r2 nf h f o a b c tf tt tk).1 11 i = tt := by simp [qNd, sZ, sH, sR]
theorem qNd_s11 {σ : CS} {i : Nat} {r1 : Option Nat} {r2 : Option Nat} {nf : Nat → Int32} {h : Int64} {f : Nat → Int32} {o : Nat → Int32} {a : Nat → Int32} {b : Nat → Int32} {c : Nat → Int32} {tf : Nat → Int32} {tt : Nat → Int32} {tk : Nat → Int32} {z : Nat → Int32} : sZ (qNd σ i r1 r2 nf h f o a b c tf tt tk) 11 i z = qNd σ i r1 r2 nf h f o a b c tf z tk := by
  unfold qNd
  rw [sZ_comm (by decide : (12 : Nat) ≠ 11), sZ_same]
theorem qNd_g12 {σ : CS} {i : Nat} {r1 : Option Nat} {r2 : Option Nat} {nf : Nat → Int32} {h : Int64} {f : Nat → Int32} {o : Nat → Int32} {a : Nat → Int32} {b : Nat → Int32} {c : Nat → Int32} {tf : Nat → Int32} {tt : Nat → Int32} {tk : Nat → Int32} : (qNd σ i r1 r2 nf h f o a b c tf tt tk).1 12 i = tk := by simp [qNd, sZ, sH, sR]
theorem qNd_s12 {σ : CS} {i : Nat} {r1 : Option Nat} {r2 : Option Nat} {nf : Nat → Int32} {h : Int64} {f : Nat → Int32} {o : Nat → Int32} {a : Nat → Int32} {b : Nat → Int32} {c : Nat → Int32} {tf : Nat → Int32} {tt : Nat → Int32} {tk : Nat → Int32} {z : Nat → Int32} : sZ (qNd σ i r1 r2 nf h f o a b c tf tt tk) 12 i z = qNd σ i r1 r2 nf h f o a b c tf tt z := by
  unfold qNd
  rw [sZ_same]
theorem qNd_h {σ : CS} {i : Nat} {r1 : Option Nat} {r2 : Option Nat} {nf : Nat → Int32} {h : Int64} {f : Nat → Int32} {o : Nat → Int32} {a : Nat → Int32} {b : Nat → Int32} {c : Nat → Int32} {tf : Nat → Int32} {tt : Nat → Int32} {tk : Nat → Int32} : (qNd σ i r1 r2 nf h f o a b c tf tt tk).2.1 4 i = h := by simp [qNd, sZ, sH, sR]
theorem qNd_sh {σ : CS} {i : Nat} {r1 : Option Nat} {r2 : Option Nat} {nf : Nat → Int32} {h : Int64} {f : Nat → Int32} {o : Nat → Int32} {a : Nat → Int32} {b : Nat → Int32} {c : Nat → Int32} {tf : Nat → Int32} {tt : Nat → Int32} {tk : Nat → Int32} {z : Int64} : sH (qNd σ i r1 r2 nf h f o a b c tf tt tk) 4 i z = qNd σ i r1 r2 nf z f o a b c tf tt tk := by
  unfold qNd
  rw [sZ_sH, sZ_sH, sZ_sH, sZ_sH, sZ_sH, sZ_sH, sZ_sH, sZ_sH, sZ_sH, sH_same]
theorem qNd_r {σ : CS} {i : Nat} {r1 : Option Nat} {r2 : Option Nat} {nf : Nat → Int32} {h : Int64} {f : Nat → Int32} {o : Nat → Int32} {a : Nat → Int32} {b : Nat → Int32} {c : Nat → Int32} {tf : Nat → Int32} {tt : Nat → Int32} {tk : Nat → Int32} : (qNd σ i r1 r2 nf h f o a b c tf tt tk).2.2 i = rr r1 r2 := by simp [qNd, sZ, sH, sR]
theorem qNd_sr {σ : CS} {i : Nat} {r1 : Option Nat} {r2 : Option Nat} {nf : Nat → Int32} {h : Int64} {f : Nat → Int32} {o : Nat → Int32} {a : Nat → Int32} {b : Nat → Int32} {c : Nat → Int32} {tf : Nat → Int32} {tt : Nat → Int32} {tk : Nat → Int32} {z1 z2 : Option Nat} : sR (qNd σ i r1 r2 nf h f o a b c tf tt tk) i (rr z1 z2) = qNd σ i z1 z2 nf h f o a b c tf tt tk := by
  unfold qNd
  rw [sZ_sR, sZ_sR, sZ_sR, sZ_sR, sZ_sR, sZ_sR, sZ_sR, sZ_sR, sZ_sR, sH_sR, sR_same]
theorem qSum_qLis {σ : CS} {i : Nat} {h : Int64} {f : Nat → Int32} {o : Nat → Int32} {a : Nat → Int32} {b : Nat → Int32} {c : Nat → Int32} {a' : Nat → Int32} {b' : Nat → Int32} {c' : Nat → Int32} : qSum (qLis σ i h f o a b c) i a' b' c' = qLis σ i h f o a' b' c' := by
  unfold qSum
  rw [qLis_s7, qLis_s8, qLis_s9]
theorem qSum_qWr {σ : CS} {w : Nat → Int32} {a : Nat → Int32} {b : Nat → Int32} {c : Nat → Int32} {a' : Nat → Int32} {b' : Nat → Int32} {c' : Nat → Int32} : qSum (qWr σ w a b c) 32 a' b' c' = qWr σ w a' b' c' := by
  unfold qSum
  rw [qWr_s7, qWr_s8, qWr_s9]
theorem qSum_qWF {σ : CS} {j : Nat} {w : Nat → Int32} {a : Nat → Int32} {b : Nat → Int32} {c : Nat → Int32} {fh : Int64} {ff : Nat → Int32} {fo : Nat → Int32} {fb : Nat → Int32} {a' : Nat → Int32} {b' : Nat → Int32} {c' : Nat → Int32} : qSum (qWF σ j w a b c fh ff fo fb) 32 a' b' c' = qWF σ j w a' b' c' fh ff fo fb := by
  unfold qSum
  rw [qWF_s7, qWF_s8, qWF_s9]
theorem qFr_qWF {σ : CS} {j : Nat} {w : Nat → Int32} {a : Nat → Int32} {b : Nat → Int32} {c : Nat → Int32} {fh : Int64} {ff : Nat → Int32} {fo : Nat → Int32} {fb : Nat → Int32} {fh' : Int64} {ff' : Nat → Int32} {fo' : Nat → Int32} {fb' : Nat → Int32} : qFr (qWF σ j w a b c fh ff fo fb) j fh' ff' fo' fb' = qWF σ j w a b c fh' ff' fo' fb' := by
  unfold qFr
  rw [qWF_sh, qWF_s13, qWF_s14, qWF_s15]
theorem qWr_qWF {σ : CS} {j : Nat} {w : Nat → Int32} {a : Nat → Int32} {b : Nat → Int32} {c : Nat → Int32} {fh : Int64} {ff : Nat → Int32} {fo : Nat → Int32} {fb : Nat → Int32} {w' : Nat → Int32} {a' : Nat → Int32} {b' : Nat → Int32} {c' : Nat → Int32} : qWr (qWF σ j w a b c fh ff fo fb) w' a' b' c' = qWF σ j w' a' b' c' fh ff fo fb := by
  unfold qWr
  rw [qWF_s16, qWF_s7, qWF_s8, qWF_s9]
theorem qLis_qNd {σ : CS} {i : Nat} {r1 : Option Nat} {r2 : Option Nat} {nf : Nat → Int32} {h : Int64} {f : Nat → Int32} {o : Nat → Int32} {a : Nat → Int32} {b : Nat → Int32} {c : Nat → Int32} {tf : Nat → Int32} {tt : Nat → Int32} {tk : Nat → Int32} {h' : Int64} {f' : Nat → Int32} {o' : Nat → Int32} {a' : Nat → Int32} {b' : Nat → Int32} {c' : Nat → Int32} : qLis (qNd σ i r1 r2 nf h f o a b c tf tt tk) i h' f' o' a' b' c' = qNd σ i r1 r2 nf h' f' o' a' b' c' tf tt tk := by
  unfold qLis
  rw [qNd_sh, qNd_s4, qNd_s5, qNd_s7, qNd_s8, qNd_s9]
theorem qTak_qNd {σ : CS} {i : Nat} {r1 : Option Nat} {r2 : Option Nat} {nf : Nat → Int32} {h : Int64} {f : Nat → Int32} {o : Nat → Int32} {a : Nat → Int32} {b : Nat → Int32} {c : Nat → Int32} {tf : Nat → Int32} {tt : Nat → Int32} {tk : Nat → Int32} {tf' : Nat → Int32} {tt' : Nat → Int32} {tk' : Nat → Int32} : qTak (qNd σ i r1 r2 nf h f o a b c tf tt tk) i tf' tt' tk' = qNd σ i r1 r2 nf h f o a b c tf' tt' tk' := by
  unfold qTak
  rw [qNd_s10, qNd_s11, qNd_s12]
theorem qSum_qC {σ s0 : CS} {s : Nat} {a : Nat → Int32} {b : Nat → Int32} {c : Nat → Int32} : qSum (qC σ s0) s a b c = qC σ (qSum s0 s a b c) := by
  unfold qSum
  rw [qC_s (by decide), qC_s (by decide), qC_s (by decide)]
theorem qSum_self {s0 : CS} {s : Nat} : qSum s0 s (s0.1 7 s) (s0.1 8 s) (s0.1 9 s) = s0 := by
  unfold qSum
  rw [sZ_self, sZ_self, sZ_self]
theorem qLis_qC {σ s0 : CS} {i : Nat} {h : Int64} {f : Nat → Int32} {o : Nat → Int32} {a : Nat → Int32} {b : Nat → Int32} {c : Nat → Int32} : qLis (qC σ s0) i h f o a b c = qC σ (qLis s0 i h f o a b c) := by
  unfold qLis
  rw [qC_sH (by decide), qC_s (by decide), qC_s (by decide), qC_s (by decide), qC_s (by decide), qC_s (by decide)]
theorem qLis_self {s0 : CS} {i : Nat} : qLis s0 i (s0.2.1 4 i) (s0.1 4 i) (s0.1 5 i) (s0.1 7 i) (s0.1 8 i) (s0.1 9 i) = s0 := by
  unfold qLis
  rw [sH_self, sZ_self, sZ_self, sZ_self, sZ_self, sZ_self]
theorem qFr_qC {σ s0 : CS} {j : Nat} {fh : Int64} {ff : Nat → Int32} {fo : Nat → Int32} {fb : Nat → Int32} : qFr (qC σ s0) j fh ff fo fb = qC σ (qFr s0 j fh ff fo fb) := by
  unfold qFr
  rw [qC_sH (by decide), qC_s (by decide), qC_s (by decide), qC_s (by decide)]
theorem qFr_self {s0 : CS} {j : Nat} : qFr s0 j (s0.2.1 13 j) (s0.1 13 j) (s0.1 14 j) (s0.1 15 j) = s0 := by
  unfold qFr
  rw [sH_self, sZ_self, sZ_self, sZ_self]
theorem qTak_qC {σ s0 : CS} {i : Nat} {tf : Nat → Int32} {tt : Nat → Int32} {tk : Nat → Int32} : qTak (qC σ s0) i tf tt tk = qC σ (qTak s0 i tf tt tk) := by
  unfold qTak
  rw [qC_s (by decide), qC_s (by decide), qC_s (by decide)]
theorem qTak_self {s0 : CS} {i : Nat} : qTak s0 i (s0.1 10 i) (s0.1 11 i) (s0.1 12 i) = s0 := by
  unfold qTak
  rw [sZ_self, sZ_self, sZ_self]
theorem qWr_qC {σ s0 : CS} {w : Nat → Int32} {a : Nat → Int32} {b : Nat → Int32} {c : Nat → Int32} : qWr (qC σ s0) w a b c = qC σ (qWr s0 w a b c) := by
  unfold qWr
  rw [qC_s (by decide), qC_s (by decide), qC_s (by decide), qC_s (by decide)]
theorem qWr_self {s0 : CS} : qWr s0 (s0.1 16 0) (s0.1 7 32) (s0.1 8 32) (s0.1 9 32) = s0 := by
  unfold qWr
  rw [sZ_self, sZ_self, sZ_self, sZ_self]
theorem qWF_qC {σ s0 : CS} {j : Nat} {w : Nat → Int32} {a : Nat → Int32} {b : Nat → Int32} {c : Nat → Int32} {fh : Int64} {ff : Nat → Int32} {fo : Nat → Int32} {fb : Nat → Int32} : qWF (qC σ s0) j w a b c fh ff fo fb = qC σ (qWF s0 j w a b c fh ff fo fb) := by
  unfold qWF
  rw [qC_sH (by decide), qC_s (by decide), qC_s (by decide), qC_s (by decide), qC_s (by decide), qC_s (by decide), qC_s (by decide), qC_s (by decide)]
theorem qWF_self {s0 : CS} {j : Nat} : qWF s0 j (s0.1 16 0) (s0.1 7 32) (s0.1 8 32) (s0.1 9 32) (s0.2.1 13 j) (s0.1 13 j) (s0.1 14 j) (s0.1 15 j) = s0 := by
  unfold qWF
  rw [sH_self, sZ_self, sZ_self, sZ_self, sZ_self, sZ_self, sZ_self, sZ_self]
theorem qNd_qC {σ s0 : CS} {i : Nat} {r1 : Option Nat} {r2 : Option Nat} {nf : Nat → Int32} {h : Int64} {f : Nat → Int32} {o : Nat → Int32} {a : Nat → Int32} {b : Nat → Int32} {c : Nat → Int32} {tf : Nat → Int32} {tt : Nat → Int32} {tk : Nat → Int32} : qNd (qC σ s0) i r1 r2 nf h f o a b c tf tt tk = qC σ (qNd s0 i r1 r2 nf h f o a b c tf tt tk) := by
  unfold qNd
  rw [qC_sR, qC_sH (by decide), qC_s (by decide), qC_s (by decide), qC_s (by decide), qC_s (by decide), qC_s (by decide), qC_s (by decide), qC_s (by decide), qC_s (by decide), qC_s (by decide)]
theorem qNd_self {s0 : CS} {i : Nat} : qNd s0 i (s0.2.2 i).1 (s0.2.2 i).2 (s0.1 3 i) (s0.2.1 4 i) (s0.1 4 i) (s0.1 5 i) (s0.1 7 i) (s0.1 8 i) (s0.1 9 i) (s0.1 10 i) (s0.1 11 i) (s0.1 12 i) = s0 := by
  unfold qNd
  rw [show sR s0 i (rr (s0.2.2 i).1 (s0.2.2 i).2) = s0 from sR_self, sH_self, sZ_self, sZ_self, sZ_self, sZ_self, sZ_self, sZ_self, sZ_self, sZ_self, sZ_self]
theorem vp_lt {x : Int32} {n : Nat} (h : vp_in x n) : x.toNatClampNeg < n := Nat.not_le.mp fun q => h (Or.inr q)
theorem cel_reg {Λ : LY} {t i : Nat} (ht : t = 7 ∨ t = 8 ∨ t = 9) : ∀ f h r, cel Λ t i f h r = .inr (6, fs3 Λ i f h r) := by
  rcases ht with rfl | rfl | rfl <;> intro f h r <;> rfl
def FL (Λ : LY) : Prop := ∀ t, t < 18 → yn Λ t = cnt t
def FM (Λ : LY) : Prop := ∀ t, t = 18 ∨ t = 19 → yn Λ t = cnt t
theorem FLi {Λ : LY} (h : FL Λ) {t i : Nat} (hi : i < cnt t) (ht : t < 18 := by decide) : i < yn Λ t := by rw [h t ht]; exact hi
theorem FMi {Λ : LY} (h : FM Λ) {t i : Nat} (hi : i < cnt t) (ht : t = 18 ∨ t = 19 := by decide) : i < yn Λ t := by rw [h t ht]; exact hi
theorem FLr {Λ : LY} (h : FL Λ) {t i : Nat} (ht : t = 7 ∨ t = 8 ∨ t = 9) (hi : i < 33) : i < yn Λ t := by rw [h t (by omega)]; rcases ht with rfl | rfl | rfl <;> exact hi
/-- a guard -/
noncomputable def gd {β : Type} (P : Prop) (x : Option β) : Option β := @ite _ P (Classical.propDecidable P) x none
theorem gd_some {β : Type} {P : Prop} {x : Option β} {y : β} (h : gd P x = some y) : P ∧ x = some y := by
  unfold gd at h
  split at h
  · exact ⟨by assumption, h⟩
  · cases h
theorem gd_t {β : Type} {P : Prop} {x : Option β} (h : P) : gd P x = x := by unfold gd; exact if_pos h
/-- a value with a name -/
def lt {α β : Type} (x : α) (k : α → β) : β := k x
theorem lt_eq {α β : Type} {x : α} {k : α → β} {z : β} (h : lt x k = z) : ∃ x', x' = x ∧ k x' = z := ⟨x, rfl, h⟩
/-- a place where roads join -/
def jn {α β : Type} (k : α → β) (g : (α → β) → β) : β := g k
theorem jn_eq {α β : Type} {k : α → β} {g : (α → β) → β} {z : β} (h : jn k g = z) : ∃ k', k' = k ∧ g k' = z := ⟨k, rfl, h⟩
def bd {α β : Type} (x : Option α) (k : α → Option β) : Option β := x.bind k
theorem bd_some {α β : Type} {x : Option α} {k : α → Option β} {z : β} (h : bd x k = some z) : ∃ y, x = some y ∧ k y = some z := Option.bind_eq_some_iff.mp h
/-- more rounds than any loop has -/
def fu : Nat := 1000000
section GF
variable {w0 : Cond} {Γ : GX} {κ : Nat × Nat} {σ : CS} {pc nL : Nat} {L : List (Nat × Value)} {st : List Value} {cc : ByteArray} {own : String} {Ts : List Cond} {fr lo : Nat}
/-- a field of the object t i of which the numbers are f, h, r -/
theorem F_get (hΓ : GO Γ cc nL own Ts fr lo) {t i ci N index : Nat} {C : String} {T : u_T} (FS : (Nat → Int32) → Int64 → (Option Nat × Option Nat) → List Value) {f : Nat → Int32} {h : Int64} {r : Option Nat × Option Nat} {v : Value} (hi : i < yn (gl Γ) t) (hc : ∀ f h r, cel (gl Γ) t i f h r = .inr (ci, FS f h r)) (hf : σ.1 t i = f) (hh : σ.2.1 t i = h) (hr : σ.2.2 i = r) (hcl : vwCl[ci]? = some (C, T, N)) (hin : ∀ w ∈ u_ws C T N, w ∈ Ts) (kf : Nat) (hk : kf < N) (hlink : Cond.fieldLink own index (T kf).1 (T kf).2.1 (T kf).2.2.1 ∈ Ts) (hv : (FS f h r)[kf]? = some v) (hd : decode cc pc = .ok (.getfield index, 3)) (k : GG Γ κ σ (pc + 3) L (v :: st)) : GG Γ κ σ pc L (.ref (ya (gl Γ) t i) :: st) := by
  subst hf; subst hh; subst hr
  exact G_get hΓ hi (hc _ _ _) hcl hin kf hk hlink hv hd k
theorem F_getN (hΓ : GO Γ cc nL own Ts fr lo) {t i ci N index : Nat} {C host : String} {T : u_T} (FS : (Nat → Int32) → Int64 → (Option Nat × Option Nat) → List Value) {f : Nat → Int32} {h : Int64} {r : Option Nat × Option Nat} {v : Value} (hi : i < yn (gl Γ) t) (hc : ∀ f h r, cel (gl Γ) t i f h r = .inr (ci, FS f h r)) (hf : σ.1 t i = f) (hh : σ.2.1 t i = h) (hr : σ.2.2 i = r) (hcl : vwCl[ci]? = some (C, T, N)) (hin : ∀ w ∈ u_ws C T N, w ∈ Ts) (kf : Nat) (hk : kf < N) (k9 : Nat) (hlink : NF[k9]? = some (own, index, (T kf).1, (T kf).2.1, (T kf).2.2.1, host)) (hv : (FS f h r)[kf]? = some v) (hd : decode cc pc = .ok (.getfield index, 3)) (k : GG Γ κ σ (pc + 3) L (v :: st)) : GG Γ κ σ pc L (.ref (ya (gl Γ) t i) :: st) := by
  subst hf; subst hh; subst hr
  exact G_getN hΓ hi (hc _ _ _) hcl hin kf hk k9 hlink hv hd k
/-- an int field is written -/
theorem ce_sZ {Λ : LY} {σ : CS} {t i : Nat} {f : Nat → Int32} : ce Λ (sZ σ t i f) t i = cel Λ t i f (σ.2.1 t i) (σ.2.2 i) := by simp [ce, sZ]
theorem ce_sZo {Λ : LY} {σ : CS} {t i : Nat} {f : Nat → Int32} : ∀ t' i', ¬ (t' = t ∧ i' = i) → ce Λ (sZ σ t i f) t' i' = ce Λ σ t' i' := fun t' i' h => by simp [ce, sZ, h]
theorem ce_sH {Λ : LY} {σ : CS} {t i : Nat} {g : Int64} : ce Λ (sH σ t i g) t i = cel Λ t i (σ.1 t i) g (σ.2.2 i) := by simp [ce, sH]
theorem ce_sHo {Λ : LY} {σ : CS} {t i : Nat} {g : Int64} : ∀ t' i', ¬ (t' = t ∧ i' = i) → ce Λ (sH σ t i g) t' i' = ce Λ σ t' i' := fun t' i' h => by simp [ce, sH, h]
theorem F_put (hΓ : GO Γ cc nL own Ts fr lo) {t i ci N index : Nat} {C : String} {T : u_T} (FS : (Nat → Int32) → Int64 → (Option Nat × Option Nat) → List Value) {f f' : Nat → Int32} {σ' : CS} {ty : FieldType} {v : Value} (ty0 : Nat → FieldType) (hty : ∀ k, k < N → parseFieldDescriptor (T k).2.2.1 = some (ty0 k)) (hnm : ∀ a, a < N → ∀ b, b < N → a ≠ b → (T a).2.1 ≠ (T b).2.1) (hi : i < yn (gl Γ) t) (hc : ∀ f h r, cel (gl Γ) t i f h r = .inr (ci, FS f h r)) (hf : σ.1 t i = f) (hs : sZ σ t i f' = σ') (hcl : vwCl[ci]? = some (C, T, N)) (hin : ∀ w ∈ u_ws C T N, w ∈ Ts) (kf : Nat) (hk : kf < N) (hlink : Cond.fieldLink own index (T kf).1 (T kf).2.1 (T kf).2.2.1 ∈ Ts) (hfin : (T kf).2.2.2 = false) (hd2 : parseFieldDescriptor (T kf).2.2.1 = some ty) (hnar : narrow ty v = v) (hfit : fits ty v = true) (hlen : ∀ h r, kf < (FS f h r).length) (hset : ∀ h r, FS f' h r = (FS f h r).set kf v) (hd : decode cc pc = .ok (.putfield index, 3)) (k : GG Γ κ σ' (pc + 3) L st) : GG Γ κ σ pc L (v :: .ref (ya (gl Γ) t i) :: st) := by
  subst hf; subst hs
  exact G_put hΓ ty0 hty hnm hi (hc _ _ _) hcl hin kf hk hlink hfin hd2 hnar hfit (hlen _ _) (ce_sZ.trans ((hc _ _ _).trans (by rw [hset]))) ce_sZo hd k
theorem F_putN (hΓ : GO Γ cc nL own Ts fr lo) {t i ci N index : Nat} {C host : String} {T : u_T} (FS : (Nat → Int32) → Int64 → (Option Nat × Option Nat) → List Value) {f f' : Nat → Int32} {σ' : CS} {ty : FieldType} {v : Value} (ty0 : Nat → FieldType) (hty : ∀ k, k < N → parseFieldDescriptor (T k).2.2.1 = some (ty0 k)) (hnm : ∀ a, a < N → ∀ b, b < N → a ≠ b → (T a).2.1 ≠ (T b).2.1) (hi : i < yn (gl Γ) t) (hc : ∀ f h r, cel (gl Γ) t i f h r = .inr (ci, FS f h r)) (hf : σ.1 t i = f) (hs : sZ σ t i f' = σ') (hcl : vwCl[ci]? = some (C, T, N)) (hin : ∀ w ∈ u_ws C T N, w ∈ Ts) (kf : Nat) (hk : kf < N) (k9 : Nat) (hlink : NF[k9]? = some (own, index, (T kf).1, (T kf).2.1, (T kf).2.2.1, host)) (hfin : (T kf).2.2.2 = false) (hd2 : parseFieldDescriptor (T kf).2.2.1 = some ty) (hnar : narrow ty v = v) (hfit : fits ty v = true) (hlen : ∀ h r, kf < (FS f h r).length) (hset : ∀ h r, FS f' h r = (FS f h r).set kf v) (hd : decode cc pc = .ok (.putfield index, 3)) (k : GG Γ κ σ' (pc + 3) L st) : GG Γ κ σ pc L (v :: .ref (ya (gl Γ) t i) :: st) := by
  subst hf; subst hs
  exact G_putN hΓ ty0 hty hnm hi (hc _ _ _) hcl hin kf hk k9 hlink hfin hd2 hnar hfit (hlen _ _) (ce_sZ.trans ((hc _ _ _).trans (by rw [hset]))) ce_sZo hd k
/-- a long field is written -/
theorem F_putJ (hΓ : GO Γ cc nL own Ts fr lo) {t i ci N index : Nat} {C : String} {T : u_T} (FS : (Nat → Int32) → Int64 → (Option Nat × Option Nat) → List Value) {g g' : Int64} {σ' : CS} {ty : FieldType} {v : Value} (ty0 : Nat → FieldType) (hty : ∀ k, k < N → parseFieldDescriptor (T k).2.2.1 = some (ty0 k)) (hnm : ∀ a, a < N → ∀ b, b < N → a ≠ b → (T a).2.1 ≠ (T b).2.1) (hi : i < yn (gl Γ) t) (hc : ∀ f h r, cel (gl Γ) t i f h r = .inr (ci, FS f h r)) (hf : σ.2.1 t i = g) (hs : sH σ t i g' = σ') (hcl : vwCl[ci]? = some (C, T, N)) (hin : ∀ w ∈ u_ws C T N, w ∈ Ts) (kf : Nat) (hk : kf < N) (hlink : Cond.fieldLink own index (T kf).1 (T kf).2.1 (T kf).2.2.1 ∈ Ts) (hfin : (T kf).2.2.2 = false) (hd2 : parseFieldDescriptor (T kf).2.2.1 = some ty) (hnar : narrow ty v = v) (hfit : fits ty v = true) (hlen : ∀ f r, kf < (FS f g r).length) (hset : ∀ f r, FS f g' r = (FS f g r).set kf v) (hd : decode cc pc = .ok (.putfield index, 3)) (k : GG Γ κ σ' (pc + 3) L st) : GG Γ κ σ pc L (v :: .ref (ya (gl Γ) t i) :: st) := by
  subst hf; subst hs
  exact G_put hΓ ty0 hty hnm hi (hc _ _ _) hcl hin kf hk hlink hfin hd2 hnar hfit (hlen _ _) (ce_sH.trans ((hc _ _ _).trans (by rw [hset]))) ce_sHo hd k
theorem F_putJN (hΓ : GO Γ cc nL own Ts fr lo) {t i ci N index : Nat} {C host : String} {T : u_T} (FS : (Nat → Int32) → Int64 → (Option Nat × Option Nat) → List Value) {g g' : Int64} {σ' : CS} {ty : FieldType} {v : Value} (ty0 : Nat → FieldType) (hty : ∀ k, k < N → parseFieldDescriptor (T k).2.2.1 = some (ty0 k)) (hnm : ∀ a, a < N → ∀ b, b < N → a ≠ b → (T a).2.1 ≠ (T b).2.1) (hi : i < yn (gl Γ) t) (hc : ∀ f h r, cel (gl Γ) t i f h r = .inr (ci, FS f h r)) (hf : σ.2.1 t i = g) (hs : sH σ t i g' = σ') (hcl : vwCl[ci]? = some (C, T, N)) (hin : ∀ w ∈ u_ws C T N, w ∈ Ts) (kf : Nat) (hk : kf < N) (k9 : Nat) (hlink : NF[k9]? = some (own, index, (T kf).1, (T kf).2.1, (T kf).2.2.1, host)) (hfin : (T kf).2.2.2 = false) (hd2 : parseFieldDescriptor (T kf).2.2.1 = some ty) (hnar : narrow ty v = v) (hfit : fits ty v = true) (hlen : ∀ f r, kf < (FS f g r).length) (hset : ∀ f r, FS f g' r = (FS f g r).set kf v) (hd : decode cc pc = .ok (.putfield index, 3)) (k : GG Γ κ σ' (pc + 3) L st) : GG Γ κ σ pc L (v :: .ref (ya (gl Γ) t i) :: st) := by
  subst hf; subst hs
  exact G_putN hΓ ty0 hty hnm hi (hc _ _ _) hcl hin kf hk k9 hlink hfin hd2 hnar hfit (hlen _ _) (ce_sH.trans ((hc _ _ _).trans (by rw [hset]))) ce_sHo hd k
theorem F_ald {tyn : Nat} {dty : Instr} (X : ∀ {t i n : Nat} {f : Nat → Int32} {x : Int32}, i < yn (gl Γ) t → ce (gl Γ) σ t i = .inl (yc (gl Γ) tyn, n, .inl f) → vp_in x n → decode cc pc = .ok (dty, 1) → GG Γ κ σ (pc + 1) L (.int (f x.toNatClampNeg) :: st) → GG Γ κ σ pc L (.int x :: .ref (ya (gl Γ) t i) :: st))
    {t i n : Nat} {f : Nat → Int32} {x : Int32} (hi : i < yn (gl Γ) t) (hc : ∀ f h r, cel (gl Γ) t i f h r = .inl (yc (gl Γ) tyn, n, .inl f)) (hf : σ.1 t i = f) (hin : vp_in x n) (hd : decode cc pc = .ok (dty, 1)) (k : GG Γ κ σ (pc + 1) L (.int (f x.toNatClampNeg) :: st)) : GG Γ κ σ pc L (.int x :: .ref (ya (gl Γ) t i) :: st) := by
  subst hf
  exact X hi (hc _ _ _) hin hd k
theorem F_iast (hΓ : GO Γ cc nL own Ts fr lo) {t i n : Nat} {f : Nat → Int32} {x y : Int32} {σ' : CS} (hi : i < yn (gl Γ) t) (hc : ∀ f h r, cel (gl Γ) t i f h r = .inl (yc (gl Γ) 0, n, .inl f)) (hf : σ.1 t i = f) (hs : sZ σ t i (upd f y.toNatClampNeg x) = σ') (hin : vp_in y n) (hd : decode cc pc = .ok (.iastore, 1)) (k : GG Γ κ σ' (pc + 1) L st) : GG Γ κ σ pc L (.int x :: .int y :: .ref (ya (gl Γ) t i) :: st) := by
  subst hf; subst hs
  exact G_iast hΓ hi (hc _ _ _) hin (ce_sZ.trans (hc _ _ _)) ce_sZo hd k
theorem F_bast (hΓ : GO Γ cc nL own Ts fr lo) {t i n : Nat} {f : Nat → Int32} {x y : Int32} {σ' : CS} (hi : i < yn (gl Γ) t) (hc : ∀ f h r, cel (gl Γ) t i f h r = .inl (yc (gl Γ) 1, n, .inl f)) (hf : σ.1 t i = f) (hs : sZ σ t i (upd f y.toNatClampNeg (vp_nar .byte x)) = σ') (hin : vp_in y n) (hd : decode cc pc = .ok (.bastore, 1)) (k : GG Γ κ σ' (pc + 1) L st) : GG Γ κ σ pc L (.int x :: .int y :: .ref (ya (gl Γ) t i) :: st) := by
  subst hf; subst hs
  exact G_bast hΓ hi (hc _ _ _) hin (ce_sZ.trans (hc _ _ _)) ce_sZo hd k
theorem F_zast (hΓ : GO Γ cc nL own Ts fr lo) {t i n : Nat} {f : Nat → Int32} {x y : Int32} {σ' : CS} (hi : i < yn (gl Γ) t) (hc : ∀ f h r, cel (gl Γ) t i f h r = .inl (yc (gl Γ) 2, n, .inl f)) (hf : σ.1 t i = f) (hs : sZ σ t i (upd f y.toNatClampNeg (vp_nar .boolean x)) = σ') (hin : vp_in y n) (hd : decode cc pc = .ok (.bastore, 1)) (k : GG Γ κ σ' (pc + 1) L st) : GG Γ κ σ pc L (.int x :: .int y :: .ref (ya (gl Γ) t i) :: st) := by
  subst hf; subst hs
  exact G_zast hΓ hi (hc _ _ _) hin (ce_sZ.trans (hc _ _ _)) ce_sZo hd k
/-- fewer locals -/
theorem G_loc {L' : List (Nat × Value)} (ks : List Nat) (hL : lv_pick L ks = L') (k : GG Γ κ σ pc L' st) : GG Γ κ σ pc L st := by
  obtain ⟨p, l, e, R, s, m, args, below, meth, c, Q, Λ, n⟩ := Γ
  intro H locs ls hW hS hl
  exact k H locs ls hW hS (lv_sub hl ks hL)
theorem sZ_g {σ : CS} {t i : Nat} {f : Nat → Int32} : (sZ σ t i f).1 t i = f := by simp [sZ]
theorem fit_z {x : Int32} (h : narrow .boolean (.int x) = .int x) : fits .boolean (.int x) = true := by
  rw [← h]
  obtain ⟨j, hj, e⟩ := pk_andE x (m := 1) 1 (by decide)
  show (x &&& 1 == 0 || x &&& 1 == 1) = true
  rw [e]
  match j, hj with
  | 0, _ => decide
  | 1, _ => decide
theorem G_ldc2 (hΓ : GO Γ cc nL own Ts fr lo) {index : Nat} {v : Int64} (hc : Cond.constantLong own index v ∈ Ts) (hd : decode cc pc = .ok (.ldc2_w index, 3)) (k : GG Γ κ σ (pc + 3) L (.long v :: st)) : GG Γ κ σ pc L st := by
  obtain ⟨p, l, e, R, s, m, args, below, meth, c, Q, Λ, n⟩ := Γ
  intro H locs ls hW hS hl
  exact lv_ldc2 hΓ.1 hΓ.2.1 hΓ.2.2.2.2.1 (hΓ.2.2.2.2.2.1 _ hc) hd (k H locs ls hW hS hl)
theorem G_ifnull (hΓ : GO Γ cc nL own Ts fr lo) {x : Nat} {off : Int} (hd : decode cc pc = .ok (.ifnull off, 3)) (k : GG Γ κ σ (pc + 3) L st) : GG Γ κ σ pc L (.ref x :: st) := by
  obtain ⟨p, l, e, R, s, m, args, below, meth, c, Q, Λ, n⟩ := Γ
  intro H locs ls hW hS hl
  exact lv_ifnull hΓ.1 hΓ.2.1 hd (k H locs ls hW hS hl)
theorem G_ifnullN (hΓ : GO Γ cc nL own Ts fr lo) {off : Int} {tgt : Nat} (hd : decode cc pc = .ok (.ifnull off, 3)) (ht : (pc : Int) + off = (tgt : Int)) (k : GG Γ κ σ tgt L st) : GG Γ κ σ pc L (.null :: st) := by
  obtain ⟨p, l, e, R, s, m, args, below, meth, c, Q, Λ, n⟩ := Γ
  intro H locs ls hW hS hl
  exact lv_ifnullN hΓ.1 hΓ.2.1 hd ht (k H locs ls hW hS hl)
theorem G_ifnonnull (hΓ : GO Γ cc nL own Ts fr lo) {x : Nat} {off : Int} {tgt : Nat} (hd : decode cc pc = .ok (.ifnonnull off, 3)) (ht : (pc : Int) + off = (tgt : Int)) (k : GG Γ κ σ tgt L st) : GG Γ κ σ pc L (.ref x :: st) := by
  obtain ⟨p, l, e, R, s, m, args, below, meth, c, Q, Λ, n⟩ := Γ
  intro H locs ls hW hS hl
  exact lv_ifnonnull hΓ.1 hΓ.2.1 hd ht (k H locs ls hW hS hl)
theorem G_ifnonnullN (hΓ : GO Γ cc nL own Ts fr lo) {off : Int} (hd : decode cc pc = .ok (.ifnonnull off, 3)) (k : GG Γ κ σ (pc + 3) L st) : GG Γ κ σ pc L (.null :: st) := by
  obtain ⟨p, l, e, R, s, m, args, below, meth, c, Q, Λ, n⟩ := Γ
  intro H locs ls hW hS hl
  exact lv_ifnonnullN hΓ.1 hΓ.2.1 hd (k H locs ls hW hS hl)
theorem G_acmp_ne (hΓ : GO Γ cc nL own Ts fr lo) {rx ry : Option Nat} {off : Int} {tgt : Nat} (hd : decode cc pc = .ok (.if_acmp .ne off, 3)) (ht : (pc : Int) + off = (tgt : Int)) (kt : ¬ rx = ry → GG Γ κ σ tgt L st) (kf : rx = ry → GG Γ κ σ (pc + 3) L st) : GG Γ κ σ pc L (va_rf ry :: va_rf rx :: st) := by
  obtain ⟨p, l, e, R, s, m, args, below, meth, c, Q, Λ, n⟩ := Γ
  intro H locs ls hW hS hl
  exact lv_acmp_ne hΓ.1 hΓ.2.1 hd ht (fun q => kt q H locs ls hW hS hl) (fun q => kf q H locs ls hW hS hl)
theorem G_tabV (hΓ : GO Γ cc nL own Ts fr lo) {dflt lo' hi off : Int} {offs : Array Int} {len tgt : Nat} {x : Int32} (v : Int32) (hx : x = v) (hd : decode cc pc = .ok (.tableswitch dflt lo' hi offs, len)) (h1 : ¬ v.toInt < lo') (h2 : ¬ hi < v.toInt) (ho : offs[(v.toInt - lo').toNat]? = some off) (ht : (pc : Int) + off = (tgt : Int)) (k : GG Γ κ σ tgt L st) : GG Γ κ σ pc L (.int x :: st) := by
  obtain ⟨p, l, e, R, s, m, args, below, meth, c, Q, Λ, n⟩ := Γ
  subst hx
  intro H locs ls hW hS hl
  exact lv_tableIn hΓ.1 hΓ.2.1 hd h1 h2 ho ht (k H locs ls hW hS hl)
theorem G_tabD (hΓ : GO Γ cc nL own Ts fr lo) {dflt lo' hi : Int} {offs : Array Int} {len tgt : Nat} {x : Int32} (hd : decode cc pc = .ok (.tableswitch dflt lo' hi offs, len)) (h : x.toInt < lo' ∨ hi < x.toInt) (ht : (pc : Int) + dflt = (tgt : Int)) (k : GG Γ κ σ tgt L st) : GG Γ κ σ pc L (.int x :: st) := by
  obtain ⟨p, l, e, R, s, m, args, below, meth, c, Q, Λ, n⟩ := Γ
  intro H locs ls hW hS hl
  exact lv_tableOut hΓ.1 hΓ.2.1 hd h ht (k H locs ls hW hS hl)
theorem ce_sR {Λ : LY} {σ : CS} {t i : Nat} {g : Option Nat × Option Nat} : ce Λ (sR σ i g) t i = cel Λ t i (σ.1 t i) (σ.2.1 t i) g := by simp [ce, sR]
/-- which cells a node's references to frames stand in: the node's alone -/
theorem ce_sRo {Λ : LY} {σ : CS} {i : Nat} {g : Option Nat × Option Nat} : ∀ t' i', ¬ (t' = 3 ∧ i' = i) → ce Λ (sR σ i g) t' i' = ce Λ σ t' i' := fun t' i' h => by
  by_cases h2 : i' = i
  · have h3 : t' ≠ 3 := fun e => h ⟨e, h2⟩
    show cel Λ t' i' (σ.1 t' i') (σ.2.1 t' i') _ = cel Λ t' i' (σ.1 t' i') (σ.2.1 t' i') _
    unfold cel
    split <;> first | rfl | (exfalso; exact h3 rfl)
  · simp [ce, sR, h2]
theorem F_putR (hΓ : GO Γ cc nL own Ts fr lo) {i index : Nat} {r r' : Option Nat × Option Nat} {σ' : CS} {ty : FieldType} {v : Value} (hi : i < yn (gl Γ) 3) (hf : σ.2.2 i = r) (hs : sR σ i r' = σ') (hin : ∀ w ∈ u_ws RX2 TX2 10, w ∈ Ts) (kf : Nat) (hk : kf < 10) (hlink : Cond.fieldLink own index (TX2 kf).1 (TX2 kf).2.1 (TX2 kf).2.2.1 ∈ Ts) (hfin : (TX2 kf).2.2.2 = false) (hd2 : parseFieldDescriptor (TX2 kf).2.2.1 = some ty) (hnar : narrow ty v = v) (hfit : fits ty v = true) (hlen : ∀ f h, kf < (fs2 (gl Γ) i f h r).length) (hset : ∀ f h, fs2 (gl Γ) i f h r' = (fs2 (gl Γ) i f h r).set kf v) (hd : decode cc pc = .ok (.putfield index, 3)) (k : GG Γ κ σ' (pc + 3) L st) : GG Γ κ σ pc L (v :: .ref (ya (gl Γ) 3 i) :: st) := by
  subst hf; subst hs
  exact G_put hΓ tyX2 tyX2_ok nmX2 hi (ci := 5) (show ce (gl Γ) σ 3 i = .inr (5, fs2 (gl Γ) i (σ.1 3 i) (σ.2.1 3 i) (σ.2.2 i)) from rfl) rfl hin kf hk hlink hfin hd2 hnar hfit (hlen _ _) (ce_sR.trans (by show Sum.inr (5, fs2 (gl Γ) i (σ.1 3 i) (σ.2.1 3 i) r') = _; rw [hset])) ce_sRo hd k
theorem F_putRN (hΓ : GO Γ cc nL own Ts fr lo) {i index : Nat} {host : String} {r r' : Option Nat × Option Nat} {σ' : CS} {ty : FieldType} {v : Value} (hi : i < yn (gl Γ) 3) (hf : σ.2.2 i = r) (hs : sR σ i r' = σ') (hin : ∀ w ∈ u_ws RX2 TX2 10, w ∈ Ts) (kf : Nat) (hk : kf < 10) (k9 : Nat) (hlink : NF[k9]? = some (own, index, (TX2 kf).1, (TX2 kf).2.1, (TX2 kf).2.2.1, host)) (hfin : (TX2 kf).2.2.2 = false) (hd2 : parseFieldDescriptor (TX2 kf).2.2.1 = some ty) (hnar : narrow ty v = v) (hfit : fits ty v = true) (hlen : ∀ f h, kf < (fs2 (gl Γ) i f h r).length) (hset : ∀ f h, fs2 (gl Γ) i f h r' = (fs2 (gl Γ) i f h r).set kf v) (hd : decode cc pc = .ok (.putfield index, 3)) (k : GG Γ κ σ' (pc + 3) L st) : GG Γ κ σ pc L (v :: .ref (ya (gl Γ) 3 i) :: st) := by
  subst hf; subst hs
  exact G_putN hΓ tyX2 tyX2_ok nmX2 hi (ci := 5) (show ce (gl Γ) σ 3 i = .inr (5, fs2 (gl Γ) i (σ.1 3 i) (σ.2.1 3 i) (σ.2.2 i)) from rfl) rfl hin kf hk k9 hlink hfin hd2 hnar hfit (hlen _ _) (ce_sR.trans (by show Sum.inr (5, fs2 (gl Γ) i (σ.1 3 i) (σ.2.1 3 i) r') = _; rw [hset])) ce_sRo hd k
/-- a reference that may be none -/
def oc {α β : Type} (x : Option α) (a : β) (b : α → β) : β := match x with
  | none => a
  | some y => b y
theorem oc_n {α β : Type} {a z : β} {b : α → β} (h : oc none a b = z) : a = z := h
theorem oc_s {α β : Type} {y : α} {a z : β} {b : α → β} (h : oc (some y) a b = z) : b y = z := h
def okr (x : Option Nat) : Prop := ∀ k, x = some k → k < 200
theorem fits_rf {C : String} {x : Option Nat} : narrow (.object C) (va_rf x) = va_rf x ∧ fits (.object C) (va_rf x) = true := by cases x <;> exact ⟨rfl, rfl⟩
theorem map_inj {Λ : LY} (hF : FL Λ) (hO : LO Λ) {x : Option Nat} {j : Nat} (hx : okr x) (hj : j < 200) : (x.map (ya Λ 13) = some (ya Λ 13 j)) = (x = some j) := by
  cases x with
  | none => simp
  | some k =>
    have hk : k < 200 := hx k rfl
    simp only [Option.map_some, Option.some.injEq, eq_iff_iff]
    refine ⟨fun e => ?_, fun e => by rw [e]⟩
    have h1 := (hO.2.2 13 k (FLi hF (t := 13) hk)).2
    have h2 := (hO.2.2 13 j (FLi hF (t := 13) hj)).2
    rw [e, h2] at h1
    exact (congrArg Prod.snd h1).symm
theorem GO_O {Γ : GX} (hΓ : GO Γ cc nL own Ts fr lo) : LO (gl Γ) := by
  obtain ⟨p, l, e, R, s, m, args, below, meth, c, Q, Λ, n⟩ := Γ
  exact hΓ.2.2.2.2.2.2.2.1
theorem G_aload_nQ (hΓ : GO Γ cc nL own Ts fr lo) {j : Fin 4} (r : Option Nat) (k0 : Nat) (hd : decode cc pc = .ok (.aload_n j, 1)) (hx : L[k0]? = some ((j : Nat), va_rf r)) (k : GG Γ κ σ (pc + 1) L (va_rf r :: st)) : GG Γ κ σ pc L st := by
  obtain ⟨p, l, e, R, s, m, args, below, meth, c, Q, Λ, n⟩ := Γ
  intro H locs ls hW hS hl
  cases r with
  | none => exact lv_aload_nN hΓ.1 hΓ.2.1 hd rfl (lv_at hl k0 hx) (k H locs ls hW hS hl)
  | some a => exact lv_aload_n hΓ.1 hΓ.2.1 hd rfl (lv_at hl k0 hx) (k H locs ls hW hS hl)
theorem G_aloadQ (hΓ : GO Γ cc nL own Ts fr lo) {j : Nat} (r : Option Nat) (k0 : Nat) (hd : decode cc pc = .ok (.aload j, 2)) (hx : L[k0]? = some (j, va_rf r)) (k : GG Γ κ σ (pc + 2) L (va_rf r :: st)) : GG Γ κ σ pc L st := by
  obtain ⟨p, l, e, R, s, m, args, below, meth, c, Q, Λ, n⟩ := Γ
  intro H locs ls hW hS hl
  cases r with
  | none => exact lv_aloadN hΓ.1 hΓ.2.1 hd (lv_at hl k0 hx) (k H locs ls hW hS hl)
  | some a => exact lv_aload hΓ.1 hΓ.2.1 hd (lv_at hl k0 hx) (k H locs ls hW hS hl)
theorem G_astore_nQ (hΓ : GO Γ cc nL own Ts fr lo) {j : Fin 4} (r : Option Nat) (L' : List (Nat × Value)) (hd : decode cc pc = .ok (.astore_n j, 1)) (hn : (j : Nat) < nL) (hL : ((j : Nat), va_rf r) :: L.filter (fun q => !(q.1 == (j : Nat)) && !(q.1 + 1 == (j : Nat) && q.2.category == 2)) = L') (k : GG Γ κ σ (pc + 1) L' st) : GG Γ κ σ pc L (va_rf r :: st) := by
  obtain ⟨p, l, e, R, s, m, args, below, meth, c, Q, Λ, n⟩ := Γ
  intro H locs ls hW hS hl
  have hn' := hΓ.2.2.2.1
  subst hn'
  cases r with
  | none => exact lv_astore_nN hΓ.1 hΓ.2.1 hd rfl hl hn hL (fun ls' hl' => k H locs ls' hW hS hl')
  | some a => exact lv_astore_n hΓ.1 hΓ.2.1 hd rfl hl hn hL (fun ls' hl' => k H locs ls' hW hS hl')
theorem G_topq {x v : Option Nat} (h : v = x) (k : GG Γ κ σ pc L (va_rf (v.map (ya (gl Γ) 13)) :: st)) : GG Γ κ σ pc L (va_rf (x.map (ya (gl Γ) 13)) :: st) := h ▸ k
theorem rf_or {x : Option Nat} : va_rf x = .null ∨ ∃ a, va_rf x = .ref a := by
  cases x with
  | none => exact Or.inl rfl
  | some a => exact Or.inr ⟨a, rfl⟩
theorem F_aaN (hΓ : GO Γ cc nL own Ts fr lo) {x : Int32} (hi : 0 < yn (gl Γ) 1) (hin : vp_in x 32) (hd : decode cc pc = .ok (.aaload, 1)) (k : GG Γ κ σ (pc + 1) L (.ref (ya (gl Γ) 3 x.toNatClampNeg) :: st)) : GG Γ κ σ pc L (.int x :: .ref (ya (gl Γ) 1 0) :: st) := by
  obtain ⟨p, l, e, R, s, m, args, below, meth, c, Q, Λ, n'⟩ := Γ
  intro H locs ls hW hS hl
  obtain ⟨hx, hb, hml, hnl, hown, hts, ⟨hK, hN, hZ⟩, hO, hB, hfr, hlo⟩ := hΓ
  obtain ⟨q0, hq⟩ := yW_get (σ := σ) hO hi
  exact va_aldq (D := yD Λ) hx hb hK hW q0 4 hq rfl hin hd (k H locs ls hW hS hl)
theorem F_aaF (hΓ : GO Γ cc nL own Ts fr lo) {x : Int32} (hi : 0 < yn (gl Γ) 2) (hin : vp_in x 200) (hd : decode cc pc = .ok (.aaload, 1)) (k : GG Γ κ σ (pc + 1) L (.ref (ya (gl Γ) 13 x.toNatClampNeg) :: st)) : GG Γ κ σ pc L (.int x :: .ref (ya (gl Γ) 2 0) :: st) := by
  obtain ⟨p, l, e, R, s, m, args, below, meth, c, Q, Λ, n'⟩ := Γ
  intro H locs ls hW hS hl
  obtain ⟨hx, hb, hml, hnl, hown, hts, ⟨hK, hN, hZ⟩, hO, hB, hfr, hlo⟩ := hΓ
  obtain ⟨q0, hq⟩ := yW_get (σ := σ) hO hi
  exact va_aldq (D := yD Λ) hx hb hK hW q0 5 hq rfl hin hd (k H locs ls hW hS hl)
theorem G_mmax (hΓ : GO Γ cc nL own (w0 :: TT) fr lo) {index : Nat} {x y : Int32} (kl : Cond.methodLink own index Lib.Math.max.name ∈ TT) (ks : Cond.static Lib.Math.max.name ∈ TT) (kn : Cond.initialized "java/lang/Math" ∈ TT) (kc : Cond.code Lib.Math.max.name Lib.Math.max.code 2 (some .int) ∈ TT) (hf : 1 ≤ fr) (hlc : (st.map fun v => v.category).sum + 13 ≤ lo) (hd : decode cc pc = .ok (.invokestatic index, 3)) (k : GG Γ (0, 0) σ (pc + 3) L (.int (if x < y then y else x) :: st)) : GG Γ (0, 0) σ pc L (.int y :: .int x :: st) := by
  obtain ⟨p, l, e, R, s, m, args, below, meth, c, Q, Λ, n⟩ := Γ
  intro H locs ls hW hS hl
  obtain ⟨hx, hb, hml, hnl, hown, hts, hKK, hO, hB, hfr, hlo⟩ := hΓ
  have hts' : ∀ w ∈ TT, w.before args s = true := fun w hw => hts w (List.mem_cons_of_mem _ hw)
  exact va_mmax hx hb (hml.trans (hnl.symm.trans hl.1.symm)) hown (hts' _ kl) (hts' _ ks) (hts' _ kn) (hts' _ kc) (by rw [hfr]; exact hf) (by rw [hlo]; exact hlc) (Nat.zero_le _) (Nat.zero_le _) hd (k H locs ls hW hS hl)
theorem nar01 {x : Int32} (h : x = 0 ∨ x = 1) : narrow .boolean (.int x) = .int x := by rcases h with rfl | rfl <;> rfl
theorem G_topi {x v : Int32} (h : v = x) (k : GG Γ κ σ pc L (.int v :: st)) : GG Γ κ σ pc L (.int x :: st) := h ▸ k
theorem G_topl {x v : Int64} (h : v = x) (k : GG Γ κ σ pc L (.long v :: st)) : GG Γ κ σ pc L (.long x :: st) := h ▸ k
/-- an array's length -/
theorem F_len (hΓ : GO Γ cc nL own Ts fr lo) {t i ty : Nat} {n : Nat} {v : Int32} (hi : i < yn (gl Γ) t) (hc : ∀ f h r, cel (gl Γ) t i f h r = .inl (yc (gl Γ) ty, n, .inl f)) (hv : Int32.ofNat n = v) (ht : ty < 3) (hd : decode cc pc = .ok (.arraylength, 1)) (k : GG Γ κ σ (pc + 1) L (.int v :: st)) : GG Γ κ σ pc L (.ref (ya (gl Γ) t i) :: st) := by
  obtain ⟨p, l, e, R, s, m, args, below, meth, c, Q, Λ, nn⟩ := Γ
  intro H locs ls hW hS hl
  obtain ⟨hx, hb, hml, hnl, hown, hts, ⟨hK, hN, hZ⟩, hO, hB, hfr, hlo⟩ := hΓ
  obtain ⟨q0, hq⟩ := yW_get (σ := σ) hO hi
  rw [show ce Λ σ t i = .inl (yc Λ ty, n, .inl (σ.1 t i)) from hc _ _ _] at hq
  have h3 : ∃ ft, (ytys Λ)[ty]? = some (yc Λ ty, ft) := by
    match ty, ht with
    | 0, _ => exact ⟨_, rfl⟩
    | 1, _ => exact ⟨_, rfl⟩
    | 2, _ => exact ⟨_, rfl⟩
  obtain ⟨ft, h3⟩ := h3
  exact va_alen (D := yD Λ) hx hb hK hW q0 ty hq h3 hv hd (k H locs ls hW hS hl)
/-- the static table -/
def FT (Γ : GX) (t : Nat) : Prop := match Γ with
  | (_, _, _, _, s, _, _, _, _, _, _, Λ, _) => va_T .int t 7 (fun j => .int (flx j)) (yA Λ) s s.heap
theorem G_flx (hΓ : GO Γ cc nL own Ts fr lo) {index : Nat} (hlink : Cond.fieldLink own index "CanBits" "FLEXIBLE_OCTETS" "[I" ∈ Ts) (hd : decode cc pc = .ok (.getstatic index, 3)) (k : ∀ t, FT Γ t → GG Γ κ σ (pc + 3) L (.ref t :: st)) : GG Γ κ σ pc L st := by
  obtain ⟨p, l, e, R, s, m, args, below, meth, c, Q, Λ, nn⟩ := Γ
  intro H locs ls hW hS hl
  obtain ⟨hx, hb, hml, hnl, hown, hts, ⟨hK, hN, t, hZ1, hZ2⟩, hO, hB, hfr, hlo⟩ := hΓ
  exact va_gets hx hb hZ1 hS hown (hts _ hlink) (fun _ h9 => h9) hd (k t hZ2 H locs ls hW hS hl)
theorem G_flxi (hΓ : GO Γ cc nL own Ts fr lo) {t : Nat} {x : Int32} (hT : FT Γ t) (hin : vp_in x 7) (hd : decode cc pc = .ok (.iaload, 1)) (k : GG Γ κ σ (pc + 1) L (.int (flx x.toNatClampNeg) :: st)) : GG Γ κ σ pc L (.int x :: .ref t :: st) := by
  obtain ⟨p, l, e, R, s, m, args, below, meth, c, Q, Λ, nn⟩ := Γ
  intro H locs ls hW hS hl
  exact va_ti hΓ.1 hΓ.2.1 hT hS hin rfl hd (k H locs ls hW hS hl)
theorem G_flxn (hΓ : GO Γ cc nL own Ts fr lo) {t : Nat} (hT : FT Γ t) (hd : decode cc pc = .ok (.arraylength, 1)) (k : GG Γ κ σ (pc + 1) L (.int 7 :: st)) : GG Γ κ σ pc L (.ref t :: st) := by
  obtain ⟨p, l, e, R, s, m, args, below, meth, c, Q, Λ, nn⟩ := Γ
  intro H locs ls hW hS hl
  obtain ⟨cell, h1, h2, h3, h4, h5, h6, h7⟩ := hT
  exact W.alen (n := 7) hΓ.1 hΓ.2.1 (by rw [hS.2.1 t (Array.getElem?_eq_some_iff.mp h1).1 h7]; exact h1) h2 h5 rfl rfl hd (k H locs ls hW hS hl)
end GF
theorem inW0 {w0 : Cond} : ∀ w ∈ u_ws RX0 TX0 9, w ∈ w0 :: TT := fun w hw => TT_cons (inT0 w hw)
theorem inW1 {w0 : Cond} : ∀ w ∈ u_ws RX1 TX1 17, w ∈ w0 :: TT := fun w hw => TT_cons (inT1 w hw)
theorem inW2 {w0 : Cond} : ∀ w ∈ u_ws RX2 TX2 10, w ∈ w0 :: TT := fun w hw => TT_cons (inT2 w hw)
theorem inW3 {w0 : Cond} : ∀ w ∈ u_ws RX3 TX3 4, w ∈ w0 :: TT := fun w hw => TT_cons (inT3 w hw)
theorem inW4 {w0 : Cond} : ∀ w ∈ u_ws RX4 TX4 3, w ∈ w0 :: TT := fun w hw => TT_cons (inT4 w hw)
theorem inW5 {w0 : Cond} : ∀ w ∈ u_ws RX5 TX5 4, w ∈ w0 :: TT := fun w hw => TT_cons (inT5 w hw)
theorem inW6 {w0 : Cond} : ∀ w ∈ u_ws RX6 TX6 4, w ∈ w0 :: TT := fun w hw => TT_cons (inT6 w hw)
theorem inW7 {w0 : Cond} : ∀ w ∈ u_ws RX7 TX7 14, w ∈ w0 :: TT := fun w hw => TT_cons (inT7 w hw)
theorem inW8 {w0 : Cond} : ∀ w ∈ u_ws RX8 TX8 47, w ∈ w0 :: TT := fun w hw => TT_cons (inT8 w hw)
