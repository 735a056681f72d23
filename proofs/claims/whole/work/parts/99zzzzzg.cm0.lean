section
/-! the constructors: the world that they make, cell by cell -/
abbrev CE : Type := Nat × Nat × List Int
def ceO (N : Nat) (x : Int) : Option Nat := if x = 0 then none else some (N + (x - 1).toNat)
noncomputable def isRfF (c k : Nat) : Bool := Nat.beq (fK c k).1 1 || Nat.beq (fK c k).1 2
noncomputable def ceV (G : SG) (c k : Nat) (x : Int) : Value := bif isRfF c k then rfv (gN G) x else .int (Int32.ofInt x)
noncomputable def ceFs (G : SG) (c : Nat) (fs : List Int) : List Value := (List.range (vN c)).map fun k => ceV G c k (fs.getD k 0)
noncomputable def ceE (G : SG) (x : CE) : va_E :=
  bif Nat.beq x.1 0 then .inr (x.2.1, ceFs G x.2.1 x.2.2)
  else bif Nat.beq x.1 50 then .inl (gI G, x.2.1, .inl fun _ => 0)
  else bif Nat.beq x.1 52 then .inl (gZ G, x.2.1, .inl fun _ => 0)
  else bif Nat.beq x.1 51 then .inl (gJ G, x.2.1, .inr (.inl fun j => Int64.ofInt (x.2.2.getD j 0)))
  else bif Nat.beq x.1 53 then .inl (gS G, x.2.1, .inr (.inr (.inr (.inr fun j => ceO (gN G) (x.2.2.getD j 0)))))
  else .inl (gC G, x.2.1, .inr (.inr (.inr (.inr fun j => ceO (gN G) (x.2.2.getD j 0)))))
noncomputable def cws (G : SG) (w : List CE) : va_W := w.zipIdx.map fun q => (gN G + q.2, ceE G q.1)
theorem cws_get (G : SG) (w : List CE) (j : Nat) : (cws G w)[j]? = (w[j]?).map fun x => (gN G + j, ceE G x) := by
  unfold cws
  rw [List.getElem?_map, List.getElem?_zipIdx]
  cases w[j]? <;> simp
theorem cws_at {G : SG} {w : List CE} {j : Nat} {x : CE} (h : w[j]? = some x) : (cws G w)[j]? = some (gN G + j, ceE G x) := by rw [cws_get, h]; rfl
theorem cws_app (G : SG) (w : List CE) (x : CE) : cws G (w ++ [x]) = cws G w ++ [(gN G + w.length, ceE G x)] := by
  have hl : (cws G w).length = w.length := by unfold cws; simp
  refine List.ext_getElem? (fun j => ?_)
  rw [cws_get]
  rcases Nat.lt_trichotomy j w.length with h | h | h
  · rw [List.getElem?_append_left h, List.getElem?_append_left (by omega), cws_get]
  · subst h
    rw [List.getElem?_append_right (Nat.le_refl _), List.getElem?_append_right (by omega), hl]
    simp
  · rw [List.getElem?_append_right (by omega), List.getElem?_append_right (by omega), hl]
    rw [List.getElem?_eq_none (by simp; omega), List.getElem?_eq_none (by simp; omega)]
    rfl
theorem cws_set {G : SG} {w : List CE} {i : Nat} {x : CE} (h : i < w.length) : (cws G w).set i (gN G + i, ceE G x) = cws G (w.set i x) := by
  have hl : (cws G w).length = w.length := by unfold cws; simp
  refine List.ext_getElem? (fun j => ?_)
  rw [cws_get]
  by_cases c : i = j
  · subst c
    rw [List.getElem?_set_self (by omega), List.getElem?_set_self h]
    rfl
  · rw [List.getElem?_set_ne c, List.getElem?_set_ne c, cws_get]
theorem cws_D (G : SG) (w : List CE) : va_D (gA G) (cws G w) := by
  refine ⟨fun i j p q hi hj e => ?_, fun k q hk => ?_⟩
  · rw [cws_get] at hi hj
    obtain ⟨x, _, rfl⟩ := Option.map_eq_some_iff.mp hi
    obtain ⟨y, _, rfl⟩ := Option.map_eq_some_iff.mp hj
    have e : gN G + i = gN G + j := e
    omega
  · rw [cws_get] at hk
    obtain ⟨x, _, rfl⟩ := Option.map_eq_some_iff.mp hk
    exact Nat.le_add_right _ _
/-- where the next cell comes to lie -/
theorem cws_next {G : SG} {w : List CE} {q : Nat} {E : va_E} {H : Heap} {sz : Nat} (hP : va_P (gD G) vwCl (cws G w ++ [(q, E)]) H) (hD : va_D (gA G) (cws G w ++ [(q, E)])) (hs : H.size ≤ sz) (e : sz = gN G + w.length + 1) : q = gN G + w.length := by
  have hl : (cws G w).length = w.length := by unfold cws; simp
  have last : (cws G w ++ [(q, E)])[w.length]? = some (q, E) := by rw [List.getElem?_append_right (by omega), hl]; simp
  have lt : q < H.size := (hP w.length _ last).lt
  have ge : gN G ≤ q := hD.2 w.length _ last
  rcases Nat.lt_or_ge (q - gN G) w.length with c | c
  · have g : (cws G w ++ [(q, E)])[q - gN G]? = some (gN G + (q - gN G), ceE G (w[q - gN G])) := by
      rw [List.getElem?_append_left (by omega)]
      exact cws_at (List.getElem?_eq_getElem c)
    have := hD.1 (q - gN G) w.length _ _ g last (show gN G + (q - gN G) = q by omega)
    omega
  · omega
theorem W_size {p : Program} {l : Launch} {e : Env} {R : Room} {s : State} {m : MethodId} {args : Array Value} {below : List Frame} {meth : Method} {c : Code} {H : Heap} {locs : List Loc} {cells slots : Nat} {Q : State → Prop} {g : JFrame} (K : H.size ≤ s.heap.size + cells → W p l e R s m args below meth c H locs cells slots Q g) : W p l e R s m args below meth c H locs cells slots Q g := fun T hT X => K (by have := X.same.2.2.1; rw [← hT]; exact this) T hT X
/-- the constructors' codes, by their classes -/
noncomputable def cBY (m : Nat) : ByteArray := match m with
  | 0 => prog_2_method_1_code
  | 1 => prog_3_method_1_code
  | 2 => prog_4_method_1_code
  | 3 => prog_5_method_1_code
  | 4 => prog_6_method_1_code
  | 5 => prog_7_method_1_code
  | 6 => prog_8_method_1_code
  | 7 => prog_9_method_1_code
  | 8 => prog_10_method_1_code
  | 9 => prog_11_method_1_code
  | 10 => prog_12_method_1_code
  | 11 => prog_1_method_1_code
  | _ => prog_14_method_1_code
def cNL (m : Nat) : Nat := ([2, 1, 1, 2, 2, 2, 1, 2, 4, 3, 2, 1, 1] : List Nat).getD m 1
def cDE (m : Nat) : String := (["(LBranchTypes$Program;)V", "()V", "()V", "(LBranchTypes$Program;)V", "()V", "(LBranchTypes$Program;)V", "()V", "(I)V", "(LBranchTypes$Types;LBranchTypes$Walk;I)V", "(LBranchTypes$Types;I)V", "(I)V", "()V", "()V"] : List String).getD m ""
def cNA (m : Nat) : Nat := ([1, 0, 0, 1, 0, 1, 0, 1, 3, 2, 1, 0, 0] : List Nat).getD m 0
def cY (m : Nat) : MethodName := ⟨vR m, "<init>", cDE m⟩
def AOs (s : State) : Prop := va_AO RX6 s ∧ va_AO RX1 s
theorem AOs_moved {u U : State} (h : u.vm.Alike U.vm) (a : AOs u) : AOs U := ⟨a.1.moved h, a.2.moved h⟩
def CTC (G : SG) (d m : Nat) (p : Program) (s : State) (mm : MethodId) (args : Array Value) (meth : Method) (c : Code) (R : Room) : Prop :=
  p.tables.exec = Jvm.exec ∧ c.code = cBY m ∧ c.maxLocals = cNL m ∧ s.vm.findClass (vR m) = some mm.cls ∧ (∀ w ∈ TW, w.before args s = true) ∧ KK G s ∧ AOs s ∧ (d ≤ R.frames ∧ 64 * d ≤ R.locals) ∧ meth.name = "<init>"
def CX (G : SG) (l : Launch) (d m pc : Nat) (ls st : List AV) (w w' : List CE) (k sl : Nat) : Prop :=
  ∀ (p : Program) (e : Env) (R : Room) (s : State) (mm : MethodId) (args : Array Value) (below : List Frame) (meth : Method) (c : Code) (cells slots : Nat) (Z : State → Prop) (H : Heap) (locs : List Loc) (L : Array Slot),
    CTC G d m p s mm args meth c R → cells + k ≤ R.cells → slots + sl ≤ R.slots → s.heap.size + cells = gN G + w.length → va_P (gD G) vwCl (cws G w) H → va_S (gA G) s.heap H locs → ls.length = cNL m → lvr G L (cNL m) ls →
    (∀ (H' : Heap) (locs' : List Loc) (L' : Array Slot) (pc' : Nat), va_P (gD G) vwCl (cws G w') H' → va_S (gA G) s.heap H' locs' → decode (cBY m) pc' = .ok (.return_, 1) → W p l e R s mm args below meth c H' locs' (cells + k) (slots + sl) Z (F0 mm pc' L' [])) →
    W p l e R s mm args below meth c H locs cells slots Z (F0 mm pc L (st.map (cv G)))
end
section
variable {G : SG} {l : Launch} {d m pc : Nat} {ls st : List AV} {w w' : List CE} {k sl : Nat}
theorem cx_ret (hd : decode (cBY m) pc = .ok (.return_, 1)) : CX G l d m pc ls [] w w 0 0 := by
  intro p e R s mm args below meth c cells slots Z H locs L C h1 h2 hz hP hS hn hv hret
  exact hret H locs L pc hP hS hd
theorem cx_aload {i : Fin 4} {a t : Nat} {v : Int} (hd : decode (cBY m) pc = .ok (.aload_n i, 1)) (hi : (i : Nat) = a) (hq : ls[a]? = some (t, v)) (ht : 10 ≤ t) (K : CX G l d m (pc + 1) ls ((t, v) :: st) w w' k sl) : CX G l d m pc ls st w w' k sl := by
  intro p e R s mm args below meth c cells slots Z H locs L C h1 h2 hz hP hS hn hv hret
  have hg := hv.2.2 _ _ hq (by show t ≠ 2; omega)
  have hh := K p e R s mm args below meth c cells slots Z H locs L C h1 h2 hz hP hS hn hv hret
  rw [List.map_cons] at hh
  rcases cv_ref (G := G) (z := v) ht with e1 | ⟨b, e1⟩
  · rw [e1] at hg hh
    exact lv_aload_nN C.1 C.2.1 hd hi hg hh
  · rw [e1] at hg hh
    exact lv_aload_n C.1 C.2.1 hd hi hg hh
theorem cx_iload {i : Fin 4} {a : Nat} {v : Int} (hd : decode (cBY m) pc = .ok (.iload_n i, 1)) (hi : (i : Nat) = a) (hq : ls[a]? = some (0, v)) (K : CX G l d m (pc + 1) ls ((0, v) :: st) w w' k sl) : CX G l d m pc ls st w w' k sl := by
  intro p e R s mm args below meth c cells slots Z H locs L C h1 h2 hz hP hS hn hv hret
  refine lv_iload_n C.1 C.2.1 hd hi (hv.2.2 _ _ hq (show (0 : Nat) ≠ 2 by decide)) ?_
  exact K p e R s mm args below meth c cells slots Z H locs L C h1 h2 hz hP hS hn hv hret
theorem cx_iconst {n z : Int} (hd : decode (cBY m) pc = .ok (.iconst n, 1)) (hz0 : Int32.ofInt n = Int32.ofInt z) (K : CX G l d m (pc + 1) ls ((0, z) :: st) w w' k sl) : CX G l d m pc ls st w w' k sl := by
  intro p e R s mm args below meth c cells slots Z H locs L C h1 h2 hz hP hS hn hv hret
  exact lv_iconst (v := Int32.ofInt z) C.1 C.2.1 hd hz0 (K p e R s mm args below meth c cells slots Z H locs L C h1 h2 hz hP hS hn hv hret)
theorem cx_bipush {n z : Int} (hd : decode (cBY m) pc = .ok (.bipush n, 2)) (hz0 : (Int8.ofInt n).toInt32 = Int32.ofInt z) (K : CX G l d m (pc + 2) ls ((0, z) :: st) w w' k sl) : CX G l d m pc ls st w w' k sl := by
  intro p e R s mm args below meth c cells slots Z H locs L C h1 h2 hz hP hS hn hv hret
  exact lv_bipush (v := Int32.ofInt z) C.1 C.2.1 hd hz0 (K p e R s mm args below meth c cells slots Z H locs L C h1 h2 hz hP hS hn hv hret)
theorem cx_sipush {n z : Int} (hd : decode (cBY m) pc = .ok (.sipush n, 3)) (hz0 : (Int16.ofInt n).toInt32 = Int32.ofInt z) (K : CX G l d m (pc + 3) ls ((0, z) :: st) w w' k sl) : CX G l d m pc ls st w w' k sl := by
  intro p e R s mm args below meth c cells slots Z H locs L C h1 h2 hz hP hS hn hv hret
  exact lv_sipush (v := Int32.ofInt z) C.1 C.2.1 hd hz0 (K p e R s mm args below meth c cells slots Z H locs L C h1 h2 hz hP hS hn hv hret)
theorem cx_ldc2 {ix : Nat} {z : Int} (hd : decode (cBY m) pc = .ok (.ldc2_w ix, 3)) (hz0 : (Jvm.Cond.constantLong (vR m) ix (Int64.ofInt z)) ∈ TW) (K : CX G l d m (pc + 3) ls ((1, z) :: st) w w' k sl) : CX G l d m pc ls st w w' k sl := by
  intro p e R s mm args below meth c cells slots Z H locs L C h1 h2 hz hP hS hn hv hret
  exact lv_ldc2 (v := Int64.ofInt z) C.1 C.2.1 C.2.2.2.1 (C.2.2.2.2.1 _ hz0) hd (K p e R s mm args below meth c cells slots Z H locs L C h1 h2 hz hP hS hn hv hret)
theorem cx_dup {t : Nat} {v : Int} (hd : decode (cBY m) pc = .ok (.dup, 1)) (ht : t ≠ 1) (K : CX G l d m (pc + 1) ls ((t, v) :: (t, v) :: st) w w' k sl) : CX G l d m pc ls ((t, v) :: st) w w' k sl := by
  intro p e R s mm args below meth c cells slots Z H locs L C h1 h2 hz hP hS hn hv hret
  exact lv_dup C.1 C.2.1 hd (cv_cat ht) (K p e R s mm args below meth c cells slots Z H locs L C h1 h2 hz hP hS hn hv hret)
theorem cx_imul {x y : Int} (hd : decode (cBY m) pc = .ok (.imul, 1)) (K : CX G l d m (pc + 1) ls ((0, x * y) :: st) w w' k sl) : CX G l d m pc ls ((0, y) :: (0, x) :: st) w w' k sl := by
  intro p e R s mm args below meth c cells slots Z H locs L C h1 h2 hz hP hS hn hv hret
  refine lv_imul C.1 C.2.1 hd ?_
  rw [← Int32.ofInt_mul]
  exact K p e R s mm args below meth c cells slots Z H locs L C h1 h2 hz hP hS hn hv hret
theorem cx_istore {i : Fin 4} {a : Nat} {v : Int} (hd : decode (cBY m) pc = .ok (.istore_n i, 1)) (hi : (i : Nat) = a) (hb : a < ls.length) (K : CX G l d m (pc + 1) (stL ls a (0, v)) st w w' k sl) : CX G l d m pc ls ((0, v) :: st) w w' k sl := by
  intro p e R s mm args below meth c cells slots Z H locs L C h1 h2 hz hP hS hn hv hret
  refine lv_istore_n C.1 C.2.1 hd hi (lcs_has hv) (by rw [← hn]; exact hb) rfl (fun L' hL' => ?_)
  exact K p e R s mm args below meth c cells slots Z H locs L' C h1 h2 hz hP hS (by rw [stL_len]; exact hn) (lvr_st1 (v := (0, v)) hL') hret
theorem cx_iinc {a : Nat} {n v : Int} (hd : decode (cBY m) pc = .ok (.iinc a n, 3)) (hq : ls[a]? = some (0, v)) (K : CX G l d m (pc + 3) (stL ls a (0, v + n)) st w w' k sl) : CX G l d m pc ls st w w' k sl := by
  intro p e R s mm args below meth c cells slots Z H locs L C h1 h2 hz hP hS hn hv hret
  have hb : a < ls.length := (List.getElem?_eq_some_iff.mp hq).1
  obtain ⟨i, hi⟩ := List.getElem?_of_mem (lcs_mem (G := G) (q := (a, cv G (0, v))).mpr ⟨_, hq, show (0 : Nat) ≠ 2 by decide, rfl⟩)
  refine lv_iinc (v := Int32.ofInt (v + n)) C.1 C.2.1 hd (lcs_has hv) hi (by rw [Int32.ofInt_add]) (by rw [← hn]; exact hb) rfl (fun L' hL' => ?_)
  exact K p e R s mm args below meth c cells slots Z H locs L' C h1 h2 hz hP hS (by rw [stL_len]; exact hn) (lvr_st1 (v := (0, v + n)) hL') hret
theorem cx_goto {off : Int} {tg : Nat} (hd : decode (cBY m) pc = .ok (.goto off, 3)) (ht : (pc : Int) + off = (tg : Int)) (K : CX G l d m tg ls st w w' k sl) : CX G l d m pc ls st w w' k sl := by
  intro p e R s mm args below meth c cells slots Z H locs L C h1 h2 hz hP hS hn hv hret
  exact lv_goto C.1 C.2.1 hd ht (K p e R s mm args below meth c cells slots Z H locs L C h1 h2 hz hP hS hn hv hret)
end
