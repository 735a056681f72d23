theorem sf_i {e : Nat} {z : Int} {f : Int → Prop} (H : sf e r32 w32 z f) : ∃ v, r32 v ∧ Int32.ofInt v = Int32.ofInt z ∧ f v := by
  unfold sf at H
  cases hb : Nat.beq e 0 with
  | true => rw [hb] at H; exact ⟨z, H.1, rfl, H.2⟩
  | false => rw [hb] at H; exact ⟨w32 z, r32_w z, i32_w z, H⟩
theorem sf_l {e : Nat} {z : Int} {f : Int → Prop} (H : sf e r64 w64 z f) : ∃ v, r64 v ∧ Int64.ofInt v = Int64.ofInt z ∧ f v := by
  unfold sf at H
  cases hb : Nat.beq e 0 with
  | true => rw [hb] at H; exact ⟨z, H.1, rfl, H.2⟩
  | false => rw [hb] at H; exact ⟨w64 z, r64_w z, i64_w z, H⟩
theorem ofInt_nI (a : Nat) : Int32.ofInt (a : Int) = nI a := rfl
theorem ofInt_lN (a : Nat) : Int64.ofInt (a : Int) = lN a := rfl
theorem dv32 {x y : Int} (hx : r32 x) (hy : r32 y) (h : 0 ≤ x ∧ 0 < y) : Int32.ofInt x / Int32.ofInt y = Int32.ofInt (x / y) ∧ Int32.ofInt x - Int32.ofInt x / Int32.ofInt y * Int32.ofInt y = Int32.ofInt (x % y) ∧ ¬ Int32.ofInt y = 0 ∧ r32 (x / y) ∧ r32 (x % y) := by
  obtain ⟨a, rfl⟩ := Int.eq_ofNat_of_zero_le h.1
  obtain ⟨b, rfl⟩ := Int.eq_ofNat_of_zero_le (Int.le_of_lt h.2)
  have h1 := hx.2
  have h2 := hy.2
  have h3 := h.2
  have e1 : ((a : Int) / (b : Int)) = ((a / b : Nat) : Int) := by omega
  have e2 : ((a : Int) % (b : Int)) = ((a % b : Nat) : Int) := by omega
  have q1 : a / b ≤ a := Nat.div_le_self a b
  have q3 : (0 : Int) ≤ (a : Int) / (b : Int) := Int.ediv_nonneg (by omega) (by omega)
  have q2 : a % b < b := Nat.mod_lt _ (by omega)
  rw [e1, e2, ofInt_nI, ofInt_nI, ofInt_nI, ofInt_nI]
  exact ⟨pk_div (by omega) (by omega) (by omega), pk_rem (by omega) (by omega) (by omega), nI_ne0 (by omega) (by omega), ⟨by omega, by omega⟩, ⟨by omega, by omega⟩⟩
theorem dv64 {x y : Int} (hx : r64 x) (hy : r64 y) (h : 0 ≤ x ∧ 0 < y) : Int64.ofInt x / Int64.ofInt y = Int64.ofInt (x / y) ∧ Int64.ofInt x - Int64.ofInt x / Int64.ofInt y * Int64.ofInt y = Int64.ofInt (x % y) ∧ ¬ Int64.ofInt y = 0 ∧ r64 (x / y) ∧ r64 (x % y) := by
  obtain ⟨a, rfl⟩ := Int.eq_ofNat_of_zero_le h.1
  obtain ⟨b, rfl⟩ := Int.eq_ofNat_of_zero_le (Int.le_of_lt h.2)
  have h1 := hx.2
  have h2 := hy.2
  have h3 := h.2
  have e1 : ((a : Int) / (b : Int)) = ((a / b : Nat) : Int) := by omega
  have e2 : ((a : Int) % (b : Int)) = ((a % b : Nat) : Int) := by omega
  have q1 : a / b ≤ a := Nat.div_le_self a b
  have q3 : (0 : Int) ≤ (a : Int) / (b : Int) := Int.ediv_nonneg (by omega) (by omega)
  have q2 : a % b < b := Nat.mod_lt _ (by omega)
  rw [e1, e2, ofInt_lN, ofInt_lN, ofInt_lN, ofInt_lN]
  refine ⟨pk_lDiv (by omega) (by omega) (by omega), pk_lRem (by omega) (by omega) (by omega), fun h0 => ?_, ⟨by omega, by omega⟩, ⟨by omega, by omega⟩⟩
  have := (pk_lEQ (a := b) (b := 0) (by omega) (by omega)).mp h0
  omega
theorem cm64 {x y : Int} (hx : r64 x) (hy : r64 y) : Int32.ofInt (lCm x y) = lg_cmp (Int64.ofInt x) (Int64.ofInt y) ∧ r32 (lCm x y) := by
  have e1 : (Int64.ofInt x > Int64.ofInt y) ↔ y < x := by
    show Int64.ofInt y < Int64.ofInt x ↔ _
    rw [Int64.lt_iff_toInt_lt, i64_r x hx, i64_r y hy]
  have e2 : (Int64.ofInt x = Int64.ofInt y) ↔ x = y := ⟨fun h => by rw [← i64_r x hx, ← i64_r y hy, h], fun h => by rw [h]⟩
  unfold lCm lg_cmp
  constructor
  · by_cases h1 : y < x
    · rw [if_pos h1, if_pos (e1.mpr h1)]; rfl
    · rw [if_neg h1, if_neg (fun q => h1 (e1.mp q))]
      by_cases h2 : x = y
      · rw [if_pos h2, if_pos (e2.mpr h2)]; rfl
      · rw [if_neg h2, if_neg (fun q => h2 (e2.mp q))]; rfl
  · split
    · exact ⟨by decide, by decide⟩
    · split
      · exact ⟨by decide, by decide⟩
      · exact ⟨by decide, by decide⟩
section
variable {G : SG} {l : Launch} {d m pc : Nat} {ls st : List AV} {h : HP} {Q : PQ}
theorem sx_iadd {ee : Nat} (hd : decode (aBY m) pc = .ok (.iadd, 1)) (H : pI st fun y st => pI st fun x st => sf ee r32 w32 (x + y) fun v => SX G l d m (pc + 1) ls ((0, v) :: st) h Q) : SX G l d m pc ls st h Q := by
  obtain ⟨y, r, rfl, K1⟩ := pI_inv H
  obtain ⟨x, r, rfl, K2⟩ := pI_inv K1
  obtain ⟨v, hr, ev, K3⟩ := sf_i K2
  intro p e R s mm args below meth c cells slots Z H0 locs L C hc1 hc2 hR hS hl hs hw hn hv hret
  have hy := (List.forall_mem_cons.mp hs).1
  have hs := (List.forall_mem_cons.mp hs).2
  have hx := (List.forall_mem_cons.mp hs).1
  have hs := (List.forall_mem_cons.mp hs).2
  refine lv_iadd C.1 C.2.1 hd ?_
  rw [← Int32.ofInt_add, ← ev]
  exact K3 p e R s mm args below meth c cells slots Z H0 locs L C hc1 hc2 hR hS hl (List.forall_mem_cons.mpr ⟨wf_int hr, hs⟩) hw hn hv hret
theorem sx_isub {ee : Nat} (hd : decode (aBY m) pc = .ok (.isub, 1)) (H : pI st fun y st => pI st fun x st => sf ee r32 w32 (x - y) fun v => SX G l d m (pc + 1) ls ((0, v) :: st) h Q) : SX G l d m pc ls st h Q := by
  obtain ⟨y, r, rfl, K1⟩ := pI_inv H
  obtain ⟨x, r, rfl, K2⟩ := pI_inv K1
  obtain ⟨v, hr, ev, K3⟩ := sf_i K2
  intro p e R s mm args below meth c cells slots Z H0 locs L C hc1 hc2 hR hS hl hs hw hn hv hret
  have hy := (List.forall_mem_cons.mp hs).1
  have hs := (List.forall_mem_cons.mp hs).2
  have hx := (List.forall_mem_cons.mp hs).1
  have hs := (List.forall_mem_cons.mp hs).2
  refine lv_isub C.1 C.2.1 hd ?_
  rw [← Int32.ofInt_sub, ← ev]
  exact K3 p e R s mm args below meth c cells slots Z H0 locs L C hc1 hc2 hR hS hl (List.forall_mem_cons.mpr ⟨wf_int hr, hs⟩) hw hn hv hret
theorem sx_ladd {ee : Nat} (hd : decode (aBY m) pc = .ok (.ladd, 1)) (H : pL st fun y st => pL st fun x st => sf ee r64 w64 (x + y) fun v => SX G l d m (pc + 1) ls ((1, v) :: st) h Q) : SX G l d m pc ls st h Q := by
  obtain ⟨y, r, rfl, K1⟩ := pL_inv H
  obtain ⟨x, r, rfl, K2⟩ := pL_inv K1
  obtain ⟨v, hr, ev, K3⟩ := sf_l K2
  intro p e R s mm args below meth c cells slots Z H0 locs L C hc1 hc2 hR hS hl hs hw hn hv hret
  have hy := (List.forall_mem_cons.mp hs).1
  have hs := (List.forall_mem_cons.mp hs).2
  have hx := (List.forall_mem_cons.mp hs).1
  have hs := (List.forall_mem_cons.mp hs).2
  refine lv_ladd C.1 C.2.1 hd ?_
  rw [← Int64.ofInt_add, ← ev]
  exact K3 p e R s mm args below meth c cells slots Z H0 locs L C hc1 hc2 hR hS hl (List.forall_mem_cons.mpr ⟨wf_long hr, hs⟩) hw hn hv hret
theorem sx_lmul {ee : Nat} (hd : decode (aBY m) pc = .ok (.lmul, 1)) (H : pL st fun y st => pL st fun x st => sf ee r64 w64 (x * y) fun v => SX G l d m (pc + 1) ls ((1, v) :: st) h Q) : SX G l d m pc ls st h Q := by
  obtain ⟨y, r, rfl, K1⟩ := pL_inv H
  obtain ⟨x, r, rfl, K2⟩ := pL_inv K1
  obtain ⟨v, hr, ev, K3⟩ := sf_l K2
  intro p e R s mm args below meth c cells slots Z H0 locs L C hc1 hc2 hR hS hl hs hw hn hv hret
  have hy := (List.forall_mem_cons.mp hs).1
  have hs := (List.forall_mem_cons.mp hs).2
  have hx := (List.forall_mem_cons.mp hs).1
  have hs := (List.forall_mem_cons.mp hs).2
  refine lv_lmul C.1 C.2.1 hd ?_
  rw [← Int64.ofInt_mul, ← ev]
  exact K3 p e R s mm args below meth c cells slots Z H0 locs L C hc1 hc2 hR hS hl (List.forall_mem_cons.mpr ⟨wf_long hr, hs⟩) hw hn hv hret
theorem sx_imul (hd : decode (aBY m) pc = .ok (.imul, 1)) (H : pI st fun y st => pI st fun x st => r32 (x * y) ∧ SX G l d m (pc + 1) ls ((0, x * y) :: st) h Q) : SX G l d m pc ls st h Q := by
  obtain ⟨y, r, rfl, K1⟩ := pI_inv H
  obtain ⟨x, r, rfl, hr, K2⟩ := pI_inv K1
  intro p e R s mm args below meth c cells slots Z H0 locs L C hc1 hc2 hR hS hl hs hw hn hv hret
  have hy := (List.forall_mem_cons.mp hs).1
  have hs := (List.forall_mem_cons.mp hs).2
  have hx := (List.forall_mem_cons.mp hs).1
  have hs := (List.forall_mem_cons.mp hs).2
  refine lv_imul C.1 C.2.1 hd ?_
  rw [← Int32.ofInt_mul]
  exact K2 p e R s mm args below meth c cells slots Z H0 locs L C hc1 hc2 hR hS hl (List.forall_mem_cons.mpr ⟨wf_int hr, hs⟩) hw hn hv hret
theorem sx_idiv (hd : decode (aBY m) pc = .ok (.idiv, 1)) (H : pI st fun y st => pI st fun x st => (0 ≤ x ∧ 0 < y) ∧ SX G l d m (pc + 1) ls ((0, x / y) :: st) h Q) : SX G l d m pc ls st h Q := by
  obtain ⟨y, r, rfl, K1⟩ := pI_inv H
  obtain ⟨x, r, rfl, hxy, K2⟩ := pI_inv K1
  intro p e R s mm args below meth c cells slots Z H0 locs L C hc1 hc2 hR hS hl hs hw hn hv hret
  have hy := (List.forall_mem_cons.mp hs).1
  have hs := (List.forall_mem_cons.mp hs).2
  have hx := (List.forall_mem_cons.mp hs).1
  have hs := (List.forall_mem_cons.mp hs).2
  have dv := dv32 (hx.1 rfl) (hy.1 rfl) hxy
  refine lv_idiv C.1 C.2.1 hd dv.2.2.1 ?_
  rw [dv.1]
  exact K2 p e R s mm args below meth c cells slots Z H0 locs L C hc1 hc2 hR hS hl (List.forall_mem_cons.mpr ⟨wf_int dv.2.2.2.1, hs⟩) hw hn hv hret
theorem sx_irem (hd : decode (aBY m) pc = .ok (.irem, 1)) (H : pI st fun y st => pI st fun x st => (0 ≤ x ∧ 0 < y) ∧ SX G l d m (pc + 1) ls ((0, x % y) :: st) h Q) : SX G l d m pc ls st h Q := by
  obtain ⟨y, r, rfl, K1⟩ := pI_inv H
  obtain ⟨x, r, rfl, hxy, K2⟩ := pI_inv K1
  intro p e R s mm args below meth c cells slots Z H0 locs L C hc1 hc2 hR hS hl hs hw hn hv hret
  have hy := (List.forall_mem_cons.mp hs).1
  have hs := (List.forall_mem_cons.mp hs).2
  have hx := (List.forall_mem_cons.mp hs).1
  have hs := (List.forall_mem_cons.mp hs).2
  have dv := dv32 (hx.1 rfl) (hy.1 rfl) hxy
  refine lv_irem C.1 C.2.1 hd dv.2.2.1 ?_
  rw [dv.2.1]
  exact K2 p e R s mm args below meth c cells slots Z H0 locs L C hc1 hc2 hR hS hl (List.forall_mem_cons.mpr ⟨wf_int dv.2.2.2.2, hs⟩) hw hn hv hret
theorem sx_ldiv (hd : decode (aBY m) pc = .ok (.ldiv, 1)) (H : pL st fun y st => pL st fun x st => (0 ≤ x ∧ 0 < y) ∧ SX G l d m (pc + 1) ls ((1, x / y) :: st) h Q) : SX G l d m pc ls st h Q := by
  obtain ⟨y, r, rfl, K1⟩ := pL_inv H
  obtain ⟨x, r, rfl, hxy, K2⟩ := pL_inv K1
  intro p e R s mm args below meth c cells slots Z H0 locs L C hc1 hc2 hR hS hl hs hw hn hv hret
  have hy := (List.forall_mem_cons.mp hs).1
  have hs := (List.forall_mem_cons.mp hs).2
  have hx := (List.forall_mem_cons.mp hs).1
  have hs := (List.forall_mem_cons.mp hs).2
  have dv := dv64 (hx.2.1 rfl) (hy.2.1 rfl) hxy
  refine lv_ldiv C.1 C.2.1 hd dv.2.2.1 ?_
  rw [dv.1]
  exact K2 p e R s mm args below meth c cells slots Z H0 locs L C hc1 hc2 hR hS hl (List.forall_mem_cons.mpr ⟨wf_long dv.2.2.2.1, hs⟩) hw hn hv hret
theorem sx_lrem (hd : decode (aBY m) pc = .ok (.lrem, 1)) (H : pL st fun y st => pL st fun x st => (0 ≤ x ∧ 0 < y) ∧ SX G l d m (pc + 1) ls ((1, x % y) :: st) h Q) : SX G l d m pc ls st h Q := by
  obtain ⟨y, r, rfl, K1⟩ := pL_inv H
  obtain ⟨x, r, rfl, hxy, K2⟩ := pL_inv K1
  intro p e R s mm args below meth c cells slots Z H0 locs L C hc1 hc2 hR hS hl hs hw hn hv hret
  have hy := (List.forall_mem_cons.mp hs).1
  have hs := (List.forall_mem_cons.mp hs).2
  have hx := (List.forall_mem_cons.mp hs).1
  have hs := (List.forall_mem_cons.mp hs).2
  have dv := dv64 (hx.2.1 rfl) (hy.2.1 rfl) hxy
  refine lv_lrem C.1 C.2.1 hd dv.2.2.1 ?_
  rw [dv.2.1]
  exact K2 p e R s mm args below meth c cells slots Z H0 locs L C hc1 hc2 hR hS hl (List.forall_mem_cons.mpr ⟨wf_long dv.2.2.2.2, hs⟩) hw hn hv hret
theorem sx_iand (hd : decode (aBY m) pc = .ok (.iand, 1)) (H : pI st fun y st => pI st fun x st => SX G l d m (pc + 1) ls ((0, bAnd x y) :: st) h Q) : SX G l d m pc ls st h Q := by
  obtain ⟨y, r, rfl, K1⟩ := pI_inv H
  obtain ⟨x, r, rfl, K2⟩ := pI_inv K1
  intro p e R s mm args below meth c cells slots Z H0 locs L C hc1 hc2 hR hS hl hs hw hn hv hret
  have hy := (List.forall_mem_cons.mp hs).1
  have hs := (List.forall_mem_cons.mp hs).2
  have hx := (List.forall_mem_cons.mp hs).1
  have hs := (List.forall_mem_cons.mp hs).2
  refine lv_iand C.1 C.2.1 hd ?_
  have hh := K2 p e R s mm args below meth c cells slots Z H0 locs L C hc1 hc2 hR hS hl (List.forall_mem_cons.mpr ⟨wf_int (r32_of _), hs⟩) hw hn hv hret
  rw [List.map_cons, show cv G (0, bAnd x y) = .int (Int32.ofInt (bAnd x y)) from rfl] at hh
  unfold bAnd at hh
  rw [Int32.ofInt_toInt] at hh
  exact hh
theorem sx_ior (hd : decode (aBY m) pc = .ok (.ior, 1)) (H : pI st fun y st => pI st fun x st => SX G l d m (pc + 1) ls ((0, bOr x y) :: st) h Q) : SX G l d m pc ls st h Q := by
  obtain ⟨y, r, rfl, K1⟩ := pI_inv H
  obtain ⟨x, r, rfl, K2⟩ := pI_inv K1
  intro p e R s mm args below meth c cells slots Z H0 locs L C hc1 hc2 hR hS hl hs hw hn hv hret
  have hy := (List.forall_mem_cons.mp hs).1
  have hs := (List.forall_mem_cons.mp hs).2
  have hx := (List.forall_mem_cons.mp hs).1
  have hs := (List.forall_mem_cons.mp hs).2
  refine lv_ior C.1 C.2.1 hd ?_
  have hh := K2 p e R s mm args below meth c cells slots Z H0 locs L C hc1 hc2 hR hS hl (List.forall_mem_cons.mpr ⟨wf_int (r32_of _), hs⟩) hw hn hv hret
  rw [List.map_cons, show cv G (0, bOr x y) = .int (Int32.ofInt (bOr x y)) from rfl] at hh
  unfold bOr at hh
  rw [Int32.ofInt_toInt] at hh
  exact hh
theorem sx_ixor (hd : decode (aBY m) pc = .ok (.ixor, 1)) (H : pI st fun y st => pI st fun x st => SX G l d m (pc + 1) ls ((0, bXor x y) :: st) h Q) : SX G l d m pc ls st h Q := by
  obtain ⟨y, r, rfl, K1⟩ := pI_inv H
  obtain ⟨x, r, rfl, K2⟩ := pI_inv K1
  intro p e R s mm args below meth c cells slots Z H0 locs L C hc1 hc2 hR hS hl hs hw hn hv hret
  have hy := (List.forall_mem_cons.mp hs).1
  have hs := (List.forall_mem_cons.mp hs).2
  have hx := (List.forall_mem_cons.mp hs).1
  have hs := (List.forall_mem_cons.mp hs).2
  refine lv_ixor C.1 C.2.1 hd ?_
  have hh := K2 p e R s mm args below meth c cells slots Z H0 locs L C hc1 hc2 hR hS hl (List.forall_mem_cons.mpr ⟨wf_int (r32_of _), hs⟩) hw hn hv hret
  rw [List.map_cons, show cv G (0, bXor x y) = .int (Int32.ofInt (bXor x y)) from rfl] at hh
  unfold bXor at hh
  rw [Int32.ofInt_toInt] at hh
  exact hh
theorem sx_ishl (hd : decode (aBY m) pc = .ok (.ishl, 1)) (H : pI st fun y st => pI st fun x st => SX G l d m (pc + 1) ls ((0, bShl x y) :: st) h Q) : SX G l d m pc ls st h Q := by
  obtain ⟨y, r, rfl, K1⟩ := pI_inv H
  obtain ⟨x, r, rfl, K2⟩ := pI_inv K1
  intro p e R s mm args below meth c cells slots Z H0 locs L C hc1 hc2 hR hS hl hs hw hn hv hret
  have hy := (List.forall_mem_cons.mp hs).1
  have hs := (List.forall_mem_cons.mp hs).2
  have hx := (List.forall_mem_cons.mp hs).1
  have hs := (List.forall_mem_cons.mp hs).2
  refine lv_ishl C.1 C.2.1 hd ?_
  have hh := K2 p e R s mm args below meth c cells slots Z H0 locs L C hc1 hc2 hR hS hl (List.forall_mem_cons.mpr ⟨wf_int (r32_of _), hs⟩) hw hn hv hret
  rw [List.map_cons, show cv G (0, bShl x y) = .int (Int32.ofInt (bShl x y)) from rfl] at hh
  unfold bShl at hh
  rw [Int32.ofInt_toInt] at hh
  exact hh
theorem sx_ishr (hd : decode (aBY m) pc = .ok (.ishr, 1)) (H : pI st fun y st => pI st fun x st => SX G l d m (pc + 1) ls ((0, bShr x y) :: st) h Q) : SX G l d m pc ls st h Q := by
  obtain ⟨y, r, rfl, K1⟩ := pI_inv H
  obtain ⟨x, r, rfl, K2⟩ := pI_inv K1
  intro p e R s mm args below meth c cells slots Z H0 locs L C hc1 hc2 hR hS hl hs hw hn hv hret
  have hy := (List.forall_mem_cons.mp hs).1
  have hs := (List.forall_mem_cons.mp hs).2
  have hx := (List.forall_mem_cons.mp hs).1
  have hs := (List.forall_mem_cons.mp hs).2
  refine lv_ishr C.1 C.2.1 hd ?_
  have hh := K2 p e R s mm args below meth c cells slots Z H0 locs L C hc1 hc2 hR hS hl (List.forall_mem_cons.mpr ⟨wf_int (r32_of _), hs⟩) hw hn hv hret
  rw [List.map_cons, show cv G (0, bShr x y) = .int (Int32.ofInt (bShr x y)) from rfl] at hh
  unfold bShr at hh
  rw [Int32.ofInt_toInt] at hh
  exact hh
theorem sx_land (hd : decode (aBY m) pc = .ok (.land, 1)) (H : pL st fun y st => pL st fun x st => SX G l d m (pc + 1) ls ((1, lAnd x y) :: st) h Q) : SX G l d m pc ls st h Q := by
  obtain ⟨y, r, rfl, K1⟩ := pL_inv H
  obtain ⟨x, r, rfl, K2⟩ := pL_inv K1
  intro p e R s mm args below meth c cells slots Z H0 locs L C hc1 hc2 hR hS hl hs hw hn hv hret
  have hy := (List.forall_mem_cons.mp hs).1
  have hs := (List.forall_mem_cons.mp hs).2
  have hx := (List.forall_mem_cons.mp hs).1
  have hs := (List.forall_mem_cons.mp hs).2
  refine lv_land C.1 C.2.1 hd ?_
  have hh := K2 p e R s mm args below meth c cells slots Z H0 locs L C hc1 hc2 hR hS hl (List.forall_mem_cons.mpr ⟨wf_long (r64_of _), hs⟩) hw hn hv hret
  rw [List.map_cons, show cv G (1, lAnd x y) = .long (Int64.ofInt (lAnd x y)) from rfl] at hh
  unfold lAnd at hh
  rw [Int64.ofInt_toInt] at hh
  exact hh
theorem sx_lshr (hd : decode (aBY m) pc = .ok (.lshr, 1)) (H : pI st fun y st => pL st fun x st => SX G l d m (pc + 1) ls ((1, lShr x y) :: st) h Q) : SX G l d m pc ls st h Q := by
  obtain ⟨y, r, rfl, K1⟩ := pI_inv H
  obtain ⟨x, r, rfl, K2⟩ := pL_inv K1
  intro p e R s mm args below meth c cells slots Z H0 locs L C hc1 hc2 hR hS hl hs hw hn hv hret
  have hy := (List.forall_mem_cons.mp hs).1
  have hs := (List.forall_mem_cons.mp hs).2
  have hx := (List.forall_mem_cons.mp hs).1
  have hs := (List.forall_mem_cons.mp hs).2
  refine lv_lshr C.1 C.2.1 hd rfl ?_
  have hh := K2 p e R s mm args below meth c cells slots Z H0 locs L C hc1 hc2 hR hS hl (List.forall_mem_cons.mpr ⟨wf_long (r64_of _), hs⟩) hw hn hv hret
  rw [List.map_cons, show cv G (1, lShr x y) = .long (Int64.ofInt (lShr x y)) from rfl] at hh
  unfold lShr at hh
  rw [Int64.ofInt_toInt] at hh
  exact hh
theorem sx_lneg (hd : decode (aBY m) pc = .ok (.lneg, 1)) (H : pL st fun x st => r64 (-x) ∧ SX G l d m (pc + 1) ls ((1, -x) :: st) h Q) : SX G l d m pc ls st h Q := by
  obtain ⟨x, r, rfl, hr, K1⟩ := pL_inv H
  intro p e R s mm args below meth c cells slots Z H0 locs L C hc1 hc2 hR hS hl hs hw hn hv hret
  have hx := (List.forall_mem_cons.mp hs).1
  have hs := (List.forall_mem_cons.mp hs).2
  refine lv_lneg C.1 C.2.1 hd ?_
  rw [← Int64.ofInt_neg]
  exact K1 p e R s mm args below meth c cells slots Z H0 locs L C hc1 hc2 hR hS hl (List.forall_mem_cons.mpr ⟨wf_long hr, hs⟩) hw hn hv hret
theorem sx_lcmp (hd : decode (aBY m) pc = .ok (.lcmp, 1)) (H : pL st fun y st => pL st fun x st => SX G l d m (pc + 1) ls ((0, lCm x y) :: st) h Q) : SX G l d m pc ls st h Q := by
  obtain ⟨y, r, rfl, K1⟩ := pL_inv H
  obtain ⟨x, r, rfl, K2⟩ := pL_inv K1
  intro p e R s mm args below meth c cells slots Z H0 locs L C hc1 hc2 hR hS hl hs hw hn hv hret
  have hy := (List.forall_mem_cons.mp hs).1
  have hs := (List.forall_mem_cons.mp hs).2
  have hx := (List.forall_mem_cons.mp hs).1
  have hs := (List.forall_mem_cons.mp hs).2
  have hq := cm64 (hx.2.1 rfl) (hy.2.1 rfl)
  refine W.lcmp C.1 C.2.1 hd ?_
  rw [← hq.1]
  exact K2 p e R s mm args below meth c cells slots Z H0 locs L C hc1 hc2 hR hS hl (List.forall_mem_cons.mpr ⟨wf_int hq.2, hs⟩) hw hn hv hret
theorem sx_i2l (hd : decode (aBY m) pc = .ok (.i2l, 1)) (H : pI st fun x st => SX G l d m (pc + 1) ls ((1, x) :: st) h Q) : SX G l d m pc ls st h Q := by
  obtain ⟨x, r, rfl, K1⟩ := pI_inv H
  intro p e R s mm args below meth c cells slots Z H0 locs L C hc1 hc2 hR hS hl hs hw hn hv hret
  have hx := (List.forall_mem_cons.mp hs).1
  have hs := (List.forall_mem_cons.mp hs).2
  have hr := hx.1 rfl
  refine lv_i2l (v := Int64.ofInt x) C.1 C.2.1 hd (Int64.toInt_inj.mp (by rw [Int32.toInt_toInt64, i32_r _ hr, i64_r]; exact ⟨by have := hr.1; omega, by have := hr.2; omega⟩)) ?_
  exact K1 p e R s mm args below meth c cells slots Z H0 locs L C hc1 hc2 hR hS hl (List.forall_mem_cons.mpr ⟨wf_long ⟨by have := hr.1; dsimp only at this ⊢; omega, by have := hr.2; dsimp only at this ⊢; omega⟩, hs⟩) hw hn hv hret
theorem sx_l2i (hd : decode (aBY m) pc = .ok (.l2i, 1)) (H : pL st fun x st => r32 x ∧ SX G l d m (pc + 1) ls ((0, x) :: st) h Q) : SX G l d m pc ls st h Q := by
  obtain ⟨x, r, rfl, hr, K1⟩ := pL_inv H
  intro p e R s mm args below meth c cells slots Z H0 locs L C hc1 hc2 hR hS hl hs hw hn hv hret
  have hx := (List.forall_mem_cons.mp hs).1
  have hs := (List.forall_mem_cons.mp hs).2
  refine lv_l2i (v := Int32.ofInt x) C.1 C.2.1 hd Int64.toInt32_ofInt ?_
  exact K1 p e R s mm args below meth c cells slots Z H0 locs L C hc1 hc2 hR hS hl (List.forall_mem_cons.mpr ⟨wf_int hr, hs⟩) hw hn hv hret
theorem sx_dup (hd : decode (aBY m) pc = .ok (.dup, 1)) (H : pV st fun t v st => SX G l d m (pc + 1) ls ((t, v) :: (t, v) :: st) h Q) : SX G l d m pc ls st h Q := by
  obtain ⟨t, x, r, rfl, ht, K1⟩ := pV_inv H
  intro p e R s mm args below meth c cells slots Z H0 locs L C hc1 hc2 hR hS hl hs hw hn hv hret
  refine lv_dup C.1 C.2.1 hd (cv_cat ht) ?_
  exact K1 p e R s mm args below meth c cells slots Z H0 locs L C hc1 hc2 hR hS hl (List.forall_mem_cons.mpr ⟨(List.forall_mem_cons.mp hs).1, hs⟩) hw hn hv hret
theorem sx_dup2 (hd : decode (aBY m) pc = .ok (.dup2, 1)) (H : pV st fun t v st => pV st fun u w st => SX G l d m (pc + 1) ls ((t, v) :: (u, w) :: (t, v) :: (u, w) :: st) h Q) : SX G l d m pc ls st h Q := by
  obtain ⟨t, x, r, rfl, ht, K1⟩ := pV_inv H
  obtain ⟨u, y, r, rfl, hu, K2⟩ := pV_inv K1
  intro p e R s mm args below meth c cells slots Z H0 locs L C hc1 hc2 hR hS hl hs hw hn hv hret
  have h1 := (List.forall_mem_cons.mp hs).1
  have h2 := (List.forall_mem_cons.mp (List.forall_mem_cons.mp hs).2).1
  refine lv_dup2_11 C.1 C.2.1 hd (cv_cat ht) (cv_cat hu) ?_
  exact K2 p e R s mm args below meth c cells slots Z H0 locs L C hc1 hc2 hR hS hl (List.forall_mem_cons.mpr ⟨h1, List.forall_mem_cons.mpr ⟨h2, hs⟩⟩) hw hn hv hret
theorem sx_pop (hd : decode (aBY m) pc = .ok (.pop, 1)) (H : pV st fun _ _ st => SX G l d m (pc + 1) ls st h Q) : SX G l d m pc ls st h Q := by
  obtain ⟨t, x, r, rfl, ht, K1⟩ := pV_inv H
  intro p e R s mm args below meth c cells slots Z H0 locs L C hc1 hc2 hR hS hl hs hw hn hv hret
  refine lv_pop C.1 C.2.1 hd (cv_cat ht) ?_
  exact K1 p e R s mm args below meth c cells slots Z H0 locs L C hc1 hc2 hR hS hl (List.forall_mem_cons.mp hs).2 hw hn hv hret
theorem sx_goto {off : Int} {tg : Nat} (hd : decode (aBY m) pc = .ok (.goto off, 3)) (ht : (pc : Int) + off = (tg : Int)) (H : SX G l d m tg ls st h Q) : SX G l d m pc ls st h Q := by
  intro p e R s mm args below meth c cells slots Z H0 locs L C hc1 hc2 hR hS hl hs hw hn hv hret
  refine lv_goto C.1 C.2.1 hd ht ?_
  exact H p e R s mm args below meth c cells slots Z H0 locs L C hc1 hc2 hR hS hl hs hw hn hv hret
theorem sx_icmp {cnd : Jvm.ClassFile.Cond} {off : Int} {tg : Nat} (hd : decode (aBY m) pc = .ok (.if_icmp cnd off, 3)) (ht : (pc : Int) + off = (tg : Int)) (H : pI st fun y st => pI st fun x st => cmI cnd x y (SX G l d m tg ls st h Q) (SX G l d m (pc + 3) ls st h Q)) : SX G l d m pc ls st h Q := by
  obtain ⟨y, r, rfl, K1⟩ := pI_inv H
  obtain ⟨x, r, rfl, K2⟩ := pI_inv K1
  intro p e R s mm args below meth c cells slots Z H0 locs L C hc1 hc2 hR hS hl hs hw hn hv hret
  have hy := (List.forall_mem_cons.mp hs).1
  have hs := (List.forall_mem_cons.mp hs).2
  have hx := (List.forall_mem_cons.mp hs).1
  have hs := (List.forall_mem_cons.mp hs).2
  have hxr := hx.1 rfl
  have hyr := hy.1 rfl
  dsimp only at hxr hyr
  cases cnd with
  | eq =>
    have i := i32_eq hxr hyr
    exact lv_icmp_eq C.1 C.2.1 hd ht (fun q => K2.1 (i.1 q) p e R s mm args below meth c cells slots Z H0 locs L C hc1 hc2 hR hS hl hs hw hn hv hret) (fun q => K2.2 (fun z => q (i.2 z)) p e R s mm args below meth c cells slots Z H0 locs L C hc1 hc2 hR hS hl hs hw hn hv hret)
  | ne =>
    have i := i32_eq hxr hyr
    exact lv_icmp_ne C.1 C.2.1 hd ht (fun q => K2.1 (fun z => q (i.2 z)) p e R s mm args below meth c cells slots Z H0 locs L C hc1 hc2 hR hS hl hs hw hn hv hret) (fun q => K2.2 (i.1 q) p e R s mm args below meth c cells slots Z H0 locs L C hc1 hc2 hR hS hl hs hw hn hv hret)
  | lt =>
    have i := i32_lt hxr hyr
    exact lv_icmp_lt C.1 C.2.1 hd ht (fun q => K2.1 (i.1 q) p e R s mm args below meth c cells slots Z H0 locs L C hc1 hc2 hR hS hl hs hw hn hv hret) (fun q => K2.2 (Int.not_lt.mp (fun z => q (i.2 z))) p e R s mm args below meth c cells slots Z H0 locs L C hc1 hc2 hR hS hl hs hw hn hv hret)
  | ge =>
    have i := i32_le hyr hxr
    exact lv_icmp_ge C.1 C.2.1 hd ht (fun q => K2.1 (i.1 q) p e R s mm args below meth c cells slots Z H0 locs L C hc1 hc2 hR hS hl hs hw hn hv hret) (fun q => K2.2 (Int.not_le.mp (fun z => q (i.2 z))) p e R s mm args below meth c cells slots Z H0 locs L C hc1 hc2 hR hS hl hs hw hn hv hret)
  | gt =>
    have i := i32_lt hyr hxr
    exact lv_icmp_gt C.1 C.2.1 hd ht (fun q => K2.1 (i.1 q) p e R s mm args below meth c cells slots Z H0 locs L C hc1 hc2 hR hS hl hs hw hn hv hret) (fun q => K2.2 (Int.not_lt.mp (fun z => q (i.2 z))) p e R s mm args below meth c cells slots Z H0 locs L C hc1 hc2 hR hS hl hs hw hn hv hret)
  | le =>
    have i := i32_le hxr hyr
    exact lv_icmp_le C.1 C.2.1 hd ht (fun q => K2.1 (i.1 q) p e R s mm args below meth c cells slots Z H0 locs L C hc1 hc2 hR hS hl hs hw hn hv hret) (fun q => K2.2 (Int.not_le.mp (fun z => q (i.2 z))) p e R s mm args below meth c cells slots Z H0 locs L C hc1 hc2 hR hS hl hs hw hn hv hret)
theorem sx_ifc {cnd : Jvm.ClassFile.Cond} {off : Int} {tg : Nat} (hd : decode (aBY m) pc = .ok (.ifCond cnd off, 3)) (ht : (pc : Int) + off = (tg : Int)) (H : pI st fun x st => cmI cnd x 0 (SX G l d m tg ls st h Q) (SX G l d m (pc + 3) ls st h Q)) : SX G l d m pc ls st h Q := by
  obtain ⟨x, r, rfl, K1⟩ := pI_inv H
  intro p e R s mm args below meth c cells slots Z H0 locs L C hc1 hc2 hR hS hl hs hw hn hv hret
  have hx := (List.forall_mem_cons.mp hs).1
  have hs := (List.forall_mem_cons.mp hs).2
  have hxr := hx.1 rfl
  have hyr : r32 0 := ⟨by decide, by decide⟩
  dsimp only at hxr
  cases cnd with
  | eq =>
    have i := i32_eq hxr hyr
    exact lv_if_eq C.1 C.2.1 hd ht (fun q => K1.1 (i.1 q) p e R s mm args below meth c cells slots Z H0 locs L C hc1 hc2 hR hS hl hs hw hn hv hret) (fun q => K1.2 (fun z => q (i.2 z)) p e R s mm args below meth c cells slots Z H0 locs L C hc1 hc2 hR hS hl hs hw hn hv hret)
  | ne =>
    have i := i32_eq hxr hyr
    exact lv_if_ne C.1 C.2.1 hd ht (fun q => K1.1 (fun z => q (i.2 z)) p e R s mm args below meth c cells slots Z H0 locs L C hc1 hc2 hR hS hl hs hw hn hv hret) (fun q => K1.2 (i.1 q) p e R s mm args below meth c cells slots Z H0 locs L C hc1 hc2 hR hS hl hs hw hn hv hret)
  | lt =>
    have i := i32_lt hxr hyr
    exact lv_if_lt C.1 C.2.1 hd ht (fun q => K1.1 (i.1 q) p e R s mm args below meth c cells slots Z H0 locs L C hc1 hc2 hR hS hl hs hw hn hv hret) (fun q => K1.2 (Int.not_lt.mp (fun z => q (i.2 z))) p e R s mm args below meth c cells slots Z H0 locs L C hc1 hc2 hR hS hl hs hw hn hv hret)
  | ge =>
    have i := i32_le hyr hxr
    exact lv_if_ge C.1 C.2.1 hd ht (fun q => K1.1 (i.1 q) p e R s mm args below meth c cells slots Z H0 locs L C hc1 hc2 hR hS hl hs hw hn hv hret) (fun q => K1.2 (Int.not_le.mp (fun z => q (i.2 z))) p e R s mm args below meth c cells slots Z H0 locs L C hc1 hc2 hR hS hl hs hw hn hv hret)
  | gt =>
    have i := i32_lt hyr hxr
    exact lv_if_gt C.1 C.2.1 hd ht (fun q => K1.1 (i.1 q) p e R s mm args below meth c cells slots Z H0 locs L C hc1 hc2 hR hS hl hs hw hn hv hret) (fun q => K1.2 (Int.not_lt.mp (fun z => q (i.2 z))) p e R s mm args below meth c cells slots Z H0 locs L C hc1 hc2 hR hS hl hs hw hn hv hret)
  | le =>
    have i := i32_le hxr hyr
    exact lv_if_le C.1 C.2.1 hd ht (fun q => K1.1 (i.1 q) p e R s mm args below meth c cells slots Z H0 locs L C hc1 hc2 hR hS hl hs hw hn hv hret) (fun q => K1.2 (Int.not_le.mp (fun z => q (i.2 z))) p e R s mm args below meth c cells slots Z H0 locs L C hc1 hc2 hR hS hl hs hw hn hv hret)
theorem sx_ifnull {off : Int} {tg : Nat} (hd : decode (aBY m) pc = .ok (.ifnull off, 3)) (ht : (pc : Int) + off = (tg : Int)) (H : pA st fun t v st => bif Nat.ble 30 t && Nat.blt t 50 then (v = 0 → SX G l d m tg ls st h Q) ∧ (v ≠ 0 → SX G l d m (pc + 3) ls st h Q) else False) : SX G l d m pc ls st h Q := by
  obtain ⟨t, v, r, rfl, ht0, K1⟩ := pA_inv H
  obtain ⟨hb, K2⟩ := bif_inv K1
  rw [Bool.and_eq_true, Nat.blt_eq] at hb
  have hb1 := Nat.le_of_ble_eq_true hb.1
  intro p e R s mm args below meth c cells slots Z H0 locs L C hc1 hc2 hR hS hl hs hw hn hv hret
  have hs := (List.forall_mem_cons.mp hs).2
  rw [List.map_cons, cv_rf (by omega) (by omega)]
  unfold rfv
  by_cases hz : v = 0
  · rw [if_pos hz]
    exact lv_ifnullN C.1 C.2.1 hd ht (K2.1 hz p e R s mm args below meth c cells slots Z H0 locs L C hc1 hc2 hR hS hl hs hw hn hv hret)
  · rw [if_neg hz]
    exact lv_ifnull C.1 C.2.1 hd (K2.2 hz p e R s mm args below meth c cells slots Z H0 locs L C hc1 hc2 hR hS hl hs hw hn hv hret)
theorem sx_ifnonnull {off : Int} {tg : Nat} (hd : decode (aBY m) pc = .ok (.ifnonnull off, 3)) (ht : (pc : Int) + off = (tg : Int)) (H : pA st fun t v st => bif Nat.ble 30 t && Nat.blt t 50 then (v ≠ 0 → SX G l d m tg ls st h Q) ∧ (v = 0 → SX G l d m (pc + 3) ls st h Q) else False) : SX G l d m pc ls st h Q := by
  obtain ⟨t, v, r, rfl, ht0, K1⟩ := pA_inv H
  obtain ⟨hb, K2⟩ := bif_inv K1
  rw [Bool.and_eq_true, Nat.blt_eq] at hb
  have hb1 := Nat.le_of_ble_eq_true hb.1
  intro p e R s mm args below meth c cells slots Z H0 locs L C hc1 hc2 hR hS hl hs hw hn hv hret
  have hs := (List.forall_mem_cons.mp hs).2
  rw [List.map_cons, cv_rf (by omega) (by omega)]
  unfold rfv
  by_cases hz : v = 0
  · rw [if_pos hz]
    exact lv_ifnonnullN C.1 C.2.1 hd (K2.2 hz p e R s mm args below meth c cells slots Z H0 locs L C hc1 hc2 hR hS hl hs hw hn hv hret)
  · rw [if_neg hz]
    exact lv_ifnonnull C.1 C.2.1 hd ht (K2.1 hz p e R s mm args below meth c cells slots Z H0 locs L C hc1 hc2 hR hS hl hs hw hn hv hret)
theorem sx_iinc {k a : Nat} {n z : Int} (hd : decode (aBY m) pc = .ok (.iinc k n, 3)) (hk : k = a) (hz : n = z) (H : lcI ls a fun v => bif Nat.blt a ls.length then r32 (v + z) ∧ SX G l d m (pc + 3) (stL ls a (0, v + z)) st h Q else False) : SX G l d m pc ls st h Q := by
  subst hk; subst hz
  obtain ⟨v, hq, K1⟩ := lcI_inv H
  obtain ⟨hb, hr, K2⟩ := bif_inv K1
  have hb := Nat.blt_eq ▸ hb
  intro p e R s mm args below meth c cells slots Z H0 locs L C hc1 hc2 hR hS hl hs hw hn hv hret
  obtain ⟨i, hi⟩ := List.getElem?_of_mem (lcs_mem (G := G) (q := (k, cv G (0, v))).mpr ⟨_, hq, show (0 : Nat) ≠ 2 by decide, rfl⟩)
  refine lv_iinc (v := Int32.ofInt (v + n)) C.1 C.2.1 hd (lcs_has hv) hi (by rw [Int32.ofInt_add]) (by rw [← hn]; exact hb) rfl (fun L' hL' => ?_)
  exact K2 p e R s mm args below meth c cells slots Z H0 locs L' C hc1 hc2 hR hS (stL_wf hl (wf_int hr)) hs hw (by rw [stL_len]; exact hn) (lvr_st1 (v := (0, v + n)) hL') hret
end
