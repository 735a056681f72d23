theorem jw_min : Jvm.Cond.static Lib.Math.min.name ∈ TW ∧ Jvm.Cond.initialized "java/lang/Math" ∈ TW ∧ Jvm.Cond.code Lib.Math.min.name Lib.Math.min.code 2 (some .int) ∈ TW := ⟨TW_pos 496 (by decide +kernel) rfl, TW_pos 14 (by decide +kernel) rfl, TW_pos 497 (by decide +kernel) rfl⟩
theorem jw_max : Jvm.Cond.static Lib.Math.max.name ∈ TW ∧ Jvm.Cond.code Lib.Math.max.name Lib.Math.max.code 2 (some .int) ∈ TW := ⟨TW_pos 630 (by decide +kernel) rfl, TW_pos 631 (by decide +kernel) rfl⟩
theorem jw_abs : Jvm.Cond.static Lib.MathLoose.abs_long.x ∈ TW ∧ Jvm.Cond.code Lib.MathLoose.abs_long.x Lib.MathLoose.abs_long.code 2 (some .long) ∈ TW := ⟨TW_pos 1115 (by decide +kernel) rfl, TW_pos 1116 (by decide +kernel) rfl⟩
section
variable {G : SG} {l : Launch} {d m pc : Nat} {ls st : List AV} {h : HP} {Q : PQ}
theorem r8_inv {r : List AV} {P : Prop} (H : r8 r P) : wrds r ≤ 8 ∧ P := by
  obtain ⟨h1, h2⟩ := bif_inv H
  exact ⟨Nat.le_of_ble_eq_true h1, h2⟩
theorem sx_mmin {ix : Nat} (hd : decode (aBY m) pc = .ok (.invokestatic ix, 3)) (hw : Jvm.Cond.methodLink (vO (aOW m)) ix Lib.Math.min.name ∈ TW) (H : pI st fun y st => pI st fun x st => r8 st (7 < d ∧ SX G l d m (pc + 3) ls ((0, min x y) :: st) h Q)) : SX G l d m pc ls st h Q := by
  obtain ⟨y, r1, rfl, K1⟩ := pI_inv H
  obtain ⟨x, r, rfl, K2⟩ := pI_inv K1
  obtain ⟨h8, h7, K⟩ := r8_inv K2
  intro p e R s mm args below meth c cells slots Z H0 locs L C hc1 hc2 hR hS hl hs hwh hn hv hret
  have hy := (List.forall_mem_cons.mp hs).1.1 rfl
  have hs1 := (List.forall_mem_cons.mp hs).2
  have hx := (List.forall_mem_cons.mp hs1).1.1 rfl
  have hs2 := (List.forall_mem_cons.mp hs1).2
  dsimp only at hx hy
  have hCR := C.2.2.2.2.2.2
  have hsum := wrds_sum G r
  have ht := C.2.2.2.2.1
  have hm : r32 (min x y) := ⟨by have := hx.1; have := hy.1; omega, by have := hx.2; have := hy.2; omega⟩
  refine va_mmin C.1 C.2.1 (by rw [C.2.2.1]; exact hv.1.symm) C.2.2.2.1 (ht _ hw) (ht _ jw_min.1) (ht _ jw_min.2.1) (ht _ jw_min.2.2) (by omega) (by omega) hc1 hc2 hd ?_
  have e1 : (if Int32.ofInt y < Int32.ofInt x then Int32.ofInt y else Int32.ofInt x) = Int32.ofInt (min x y) := by
    by_cases hq : y < x
    · rw [if_pos ((i32_lt hy hx).mpr hq), show min x y = y by omega]
    · rw [if_neg (fun z => hq ((i32_lt hy hx).mp z)), show min x y = x by omega]
  rw [e1]
  exact K p e R s mm args below meth c cells slots Z H0 locs L C hc1 hc2 hR hS hl (List.forall_mem_cons.mpr ⟨wf_int hm, hs2⟩) hwh hn hv hret
theorem sx_mmax {ix : Nat} (hd : decode (aBY m) pc = .ok (.invokestatic ix, 3)) (hw : Jvm.Cond.methodLink (vO (aOW m)) ix Lib.Math.max.name ∈ TW) (H : pI st fun y st => pI st fun x st => r8 st (7 < d ∧ SX G l d m (pc + 3) ls ((0, max x y) :: st) h Q)) : SX G l d m pc ls st h Q := by
  obtain ⟨y, r1, rfl, K1⟩ := pI_inv H
  obtain ⟨x, r, rfl, K2⟩ := pI_inv K1
  obtain ⟨h8, h7, K⟩ := r8_inv K2
  intro p e R s mm args below meth c cells slots Z H0 locs L C hc1 hc2 hR hS hl hs hwh hn hv hret
  have hy := (List.forall_mem_cons.mp hs).1.1 rfl
  have hs1 := (List.forall_mem_cons.mp hs).2
  have hx := (List.forall_mem_cons.mp hs1).1.1 rfl
  have hs2 := (List.forall_mem_cons.mp hs1).2
  dsimp only at hx hy
  have hCR := C.2.2.2.2.2.2
  have hsum := wrds_sum G r
  have ht := C.2.2.2.2.1
  have hm : r32 (max x y) := ⟨by have := hx.1; have := hy.1; omega, by have := hx.2; have := hy.2; omega⟩
  refine va_mmax C.1 C.2.1 (by rw [C.2.2.1]; exact hv.1.symm) C.2.2.2.1 (ht _ hw) (ht _ jw_max.1) (ht _ jw_min.2.1) (ht _ jw_max.2) (by omega) (by omega) hc1 hc2 hd ?_
  have e1 : (if Int32.ofInt x < Int32.ofInt y then Int32.ofInt y else Int32.ofInt x) = Int32.ofInt (max x y) := by
    by_cases hq : x < y
    · rw [if_pos ((i32_lt hx hy).mpr hq), show max x y = y by omega]
    · rw [if_neg (fun z => hq ((i32_lt hx hy).mp z)), show max x y = x by omega]
  rw [e1]
  exact K p e R s mm args below meth c cells slots Z H0 locs L C hc1 hc2 hR hS hl (List.forall_mem_cons.mpr ⟨wf_int hm, hs2⟩) hwh hn hv hret
theorem sx_mabs {ix : Nat} (hd : decode (aBY m) pc = .ok (.invokestatic ix, 3)) (hw : Jvm.Cond.methodLink (vO (aOW m)) ix Lib.MathLoose.abs_long.x ∈ TW) (H : pL st fun x st => r8 st (r64 (-x) ∧ 7 < d ∧ SX G l d m (pc + 3) ls ((1, lAbs x) :: st) h Q)) : SX G l d m pc ls st h Q := by
  obtain ⟨x, r, rfl, K2⟩ := pL_inv H
  obtain ⟨h8, hneg, h7, K⟩ := r8_inv K2
  intro p e R s mm args below meth c cells slots Z H0 locs L C hc1 hc2 hR hS hl hs hwh hn hv hret
  have hx := (List.forall_mem_cons.mp hs).1.2.1 rfl
  have hs2 := (List.forall_mem_cons.mp hs).2
  dsimp only at hx
  have hCR := C.2.2.2.2.2.2
  have hsum := wrds_sum G r
  have ht := C.2.2.2.2.1
  have hm : r64 (lAbs x) := by
    unfold lAbs
    split
    · exact hneg
    · exact hx
  refine va_mabs_long C.1 C.2.1 (by rw [C.2.2.1]; exact hv.1.symm) C.2.2.2.1 (ht _ hw) (ht _ jw_abs.1) (ht _ jw_min.2.1) (ht _ jw_abs.2) (by omega) (by omega) hc1 hc2 hd ?_
  have e0 : (0 < Int64.ofInt x) ↔ 0 < x := by
    rw [Int64.lt_iff_toInt_lt, i64_r x hx]
    exact Iff.rfl
  have e1 : (if 0 < Int64.ofInt x then Int64.ofInt x else -Int64.ofInt x) = Int64.ofInt (lAbs x) := by
    unfold lAbs
    by_cases hq : 0 < x
    · rw [if_pos (e0.mpr hq), if_neg (by omega)]
    · rw [if_neg (fun z => hq (e0.mp z))]
      by_cases hz : x < 0
      · rw [if_pos hz, Int64.ofInt_neg]
      · rw [if_neg hz, show x = 0 by omega]; rfl
  rw [e1]
  exact K p e R s mm args below meth c cells slots Z H0 locs L C hc1 hc2 hR hS hl (List.forall_mem_cons.mpr ⟨wf_long hm, hs2⟩) hwh hn hv hret
end
