section
/-! the constructors: steps that make and write cells -/
theorem dv_at : ∀ c : Fin 13, ∀ j : Fin (vN c.val), defaultValue (vTy c.val j.val) = (bif isRfF c.val j.val then .null else .int 0) := by decide +kernel
theorem cv10 (G : SG) {b : Int} (h : 1 ≤ b) : cv G (10, b) = .ref (gN G + (b - 1).toNat) := by
  rw [cv_rf (by decide) (by decide), rfv_pos h]
  congr 2
  omega
theorem rfv10 (G : SG) {b : Int} (h : 1 ≤ b) : rfv (gN G) b = .ref (gN G + (b - 1).toNat) := by
  rw [rfv_pos h]
  congr 2
  omega
theorem ceFs_at {G : SG} {c k : Nat} {fs : List Int} (h : k < vN c) : (ceFs G c fs)[k]? = some (ceV G c k (fs.getD k 0)) := by
  unfold ceFs
  rw [List.getElem?_map, List.getElem?_range h]
  rfl
theorem ceFs_set {G : SG} {c k : Nat} {fs : List Int} {x : Int} (hr : isRfF c k = true) (h : k < fs.length) (hk : k < vN c) : (ceFs G c fs).set k (rfv (gN G) x) = ceFs G c (fs.set k x) := by
  refine List.ext_getElem? (fun j => ?_)
  have hl : (ceFs G c fs).length = vN c := by unfold ceFs; simp
  by_cases e : k = j
  · subst e
    rw [List.getElem?_set_self (by omega), ceFs_at hk]
    unfold ceV
    rw [hr, List.getD_eq_getElem?_getD, List.getElem?_set_self h]
    rfl
  · rw [List.getElem?_set_ne e]
    by_cases hj : j < vN c
    · rw [ceFs_at hj, ceFs_at hj, List.getD_eq_getElem?_getD, List.getD_eq_getElem?_getD, List.getElem?_set_ne e]
    · rw [List.getElem?_eq_none (by omega), List.getElem?_eq_none (by unfold ceFs; simp; omega)]
theorem n_of {z : Int} (h : 0 ≤ z ∧ z < 4000) : (¬ Int32.ofInt z < 0) ∧ (Int32.ofInt z).toNatClampNeg = z.toNat := by
  have a := ix_of h (N := 4000) (by omega)
  exact ⟨fun q => a.1 (Or.inl q), a.2.1⟩
end
section
variable {G : SG} {l : Launch} {d m pc : Nat} {ls st : List AV} {w w' : List CE} {k sl : Nat}
theorem cx_hA {p : Program} {s : State} {mm : MethodId} {args : Array Value} {meth : Method} {c : Code} {R : Room} (C : CTC G d m p s mm args meth c R) : ∀ q, s.heap.size ≤ q → gA G q := fun q h => Nat.le_trans C.2.2.2.2.2.1.2.2.2.2.2.1 h
theorem cx_icmp {off x y : Int} {tg : Nat} (hd : decode (cBY m) pc = .ok (.if_icmp .ge off, 3)) (ht : (pc : Int) + off = (tg : Int)) (rx : r32 x) (ry : r32 y) (K1 : y ≤ x → CX G l d m tg ls st w w' k sl) (K2 : x < y → CX G l d m (pc + 3) ls st w w' k sl) : CX G l d m pc ls ((0, y) :: (0, x) :: st) w w' k sl := by
  intro p e R s mm args below meth c cells slots Z H locs L C h1 h2 hz hP hS hn hv hret
  have i := i32_le ry rx
  exact lv_icmp_ge C.1 C.2.1 hd ht (fun q => K1 (i.1 q) p e R s mm args below meth c cells slots Z H locs L C h1 h2 hz hP hS hn hv hret) (fun q => K2 (Int.not_le.mp (fun z => q (i.2 z))) p e R s mm args below meth c cells slots Z H locs L C h1 h2 hz hP hS hn hv hret)
theorem cx_new {ix c : Nat} (hd : decode (cBY m) pc = .ok (.new ix, 3)) (hc : c < 13) (hcl : Jvm.Cond.classLink (vR m) ix (vR c) ∈ TW) (hin : Jvm.Cond.instantiable (vR c) (vN c) ∈ TW) (hini : Jvm.Cond.initialized (vR c) ∈ TW) (K : CX G l d m (pc + 3) ls ((10, (w.length : Int) + 1) :: st) (w ++ [(0, c, List.replicate (vN c) 0)]) w' k sl) : CX G l d m pc ls st w w' (k + 1) (sl + vN c) := by
  intro p e R s mm args below meth c0 cells slots Z H locs L C h1 h2 hz hP hS hn hv hret
  have hts := C.2.2.2.2.1
  refine va_new (ci := c) (fs := ceFs G c (List.replicate (vN c) 0)) C.1 C.2.1 hts (in_at c hc) (vTy c) (ty_at c hc) C.2.2.2.1 (hts _ hcl) (hts _ hin) (hts _ hini) C.2.2.2.2.2.1.1 hP (cws_D G w) hS (cx_hA C) (vw_at c hc) (fun j hj => ?_) (by omega) (by omega) hd (fun q H1 hP1 hD1 hS1 => W_size (fun hs => ?_))
  · rw [dv_at ⟨c, hc⟩ ⟨j, hj⟩]
    unfold vp_V
    rw [List.getD_eq_getElem?_getD, ceFs_at hj]
    unfold ceV
    rw [show (List.replicate (vN c) (0 : Int)).getD j 0 = 0 by rw [List.getD_eq_getElem?_getD, List.getElem?_replicate]; split <;> rfl]
    cases isRfF c j <;> rfl
  · have hq := cws_next hP1 hD1 hs (by omega)
    subst hq
    have K2 := K p e R s mm args below meth c0 (cells + 1) (slots + vN c) Z H1 locs L C (by omega) (by omega) (by rw [List.length_append]; show _ = _ + (w.length + 1); omega) (by rw [cws_app]; exact hP1) hS1 hn hv (fun H' locs' L' pc' a b e => by
      have := hret H' locs' L' pc' a b e
      rw [show cells + 1 + k = cells + (k + 1) by omega, show slots + vN c + sl = slots + (sl + vN c) by omega]
      exact this)
    rw [List.map_cons, cv10 G (by omega), show ((w.length : Int) + 1 - 1).toNat = w.length by omega] at K2
    exact K2
theorem cx_newI {z : Int} (hd : decode (cBY m) pc = .ok (.newarray .int, 2)) (hr : 0 ≤ z ∧ z < 4000) (har : Jvm.Cond.arrayClass .int ∈ TW) (K : CX G l d m (pc + 2) ls ((10, (w.length : Int) + 1) :: st) (w ++ [(50, z.toNat, [])]) w' k sl) : CX G l d m pc ls ((0, z) :: st) w w' (k + 1) (sl + z.toNat) := by
  intro p e R s mm args below meth c0 cells slots Z H locs L C h1 h2 hz hP hS hn hv hret
  have hts := C.2.2.2.2.1
  have nz := n_of hr
  refine va_newa (atype := .int) (ty := .int) (a0 := (z.toNat, .inl fun _ => 0)) C.1 C.2.1 (hts _ har) rfl C.2.2.2.2.2.1.1 hP (cws_D G w) hS (cx_hA C) (fun cA => rfl) nz.1 nz.2 (by show z.toNat * _ ≤ _; exact Nat.le_trans (Nat.mul_le_mul_right _ (show z.toNat ≤ 4000 by omega)) (by decide)) (by omega) (by omega) hd (fun q cA H1 hK1 hP1 hD1 hS1 => W_size (fun hs => ?_))
  have hq := cws_next hP1 hD1 hs (by omega)
  subst hq
  have eA : cA = gI G := by
    have a := (hK1.2 5 (cA, .int) rfl).2
    have b := (C.2.2.2.2.2.1.1.2 0 (gI G, .int) rfl).2
    exact Option.some.inj ((show s.vm.findClass _ = some cA from a).symm.trans (show s.vm.findClass _ = some (gI G) from b))
  subst eA
  have K2 := K p e R s mm args below meth c0 (cells + 1) (slots + z.toNat) Z H1 locs L C (by omega) (by omega) (by rw [List.length_append]; show _ = _ + (w.length + 1); omega) (by rw [cws_app]; exact hP1) hS1 hn hv (fun H' locs' L' pc' a b e => by
    have := hret H' locs' L' pc' a b e
    rw [show cells + 1 + k = cells + (k + 1) by omega, show slots + z.toNat + sl = slots + (sl + z.toNat) by omega]
    exact this)
  rw [List.map_cons, cv10 G (by omega), show ((w.length : Int) + 1 - 1).toNat = w.length by omega] at K2
  exact K2
theorem cx_newZ {z : Int} (hd : decode (cBY m) pc = .ok (.newarray .boolean, 2)) (hr : 0 ≤ z ∧ z < 4000) (har : Jvm.Cond.arrayClass .boolean ∈ TW) (K : CX G l d m (pc + 2) ls ((10, (w.length : Int) + 1) :: st) (w ++ [(52, z.toNat, [])]) w' k sl) : CX G l d m pc ls ((0, z) :: st) w w' (k + 1) (sl + z.toNat) := by
  intro p e R s mm args below meth c0 cells slots Z H locs L C h1 h2 hz hP hS hn hv hret
  have hts := C.2.2.2.2.1
  have nz := n_of hr
  refine va_newa (atype := .boolean) (ty := .boolean) (a0 := (z.toNat, .inl fun _ => 0)) C.1 C.2.1 (hts _ har) rfl C.2.2.2.2.2.1.1 hP (cws_D G w) hS (cx_hA C) (fun cA => rfl) nz.1 nz.2 (by show z.toNat * _ ≤ _; exact Nat.le_trans (Nat.mul_le_mul_right _ (show z.toNat ≤ 4000 by omega)) (by decide)) (by omega) (by omega) hd (fun q cA H1 hK1 hP1 hD1 hS1 => W_size (fun hs => ?_))
  have hq := cws_next hP1 hD1 hs (by omega)
  subst hq
  have eA : cA = gZ G := by
    have a := (hK1.2 5 (cA, .boolean) rfl).2
    have b := (C.2.2.2.2.2.1.1.2 1 (gZ G, .boolean) rfl).2
    exact Option.some.inj ((show s.vm.findClass _ = some cA from a).symm.trans (show s.vm.findClass _ = some (gZ G) from b))
  subst eA
  have K2 := K p e R s mm args below meth c0 (cells + 1) (slots + z.toNat) Z H1 locs L C (by omega) (by omega) (by rw [List.length_append]; show _ = _ + (w.length + 1); omega) (by rw [cws_app]; exact hP1) hS1 hn hv (fun H' locs' L' pc' a b e => by
    have := hret H' locs' L' pc' a b e
    rw [show cells + 1 + k = cells + (k + 1) by omega, show slots + z.toNat + sl = slots + (sl + z.toNat) by omega]
    exact this)
  rw [List.map_cons, cv10 G (by omega), show ((w.length : Int) + 1 - 1).toNat = w.length by omega] at K2
  exact K2
theorem cx_newJ {z : Int} (hd : decode (cBY m) pc = .ok (.newarray .long, 2)) (hr : 0 ≤ z ∧ z < 4000) (har : Jvm.Cond.arrayClass .long ∈ TW) (K : CX G l d m (pc + 2) ls ((10, (w.length : Int) + 1) :: st) (w ++ [(51, z.toNat, List.replicate z.toNat 0)]) w' k sl) : CX G l d m pc ls ((0, z) :: st) w w' (k + 1) (sl + z.toNat) := by
  intro p e R s mm args below meth c0 cells slots Z H locs L C h1 h2 hz hP hS hn hv hret
  have hts := C.2.2.2.2.1
  have nz := n_of hr
  refine va_newa (atype := .long) (ty := .long) (a0 := (z.toNat, .inr (.inl fun _ => 0))) C.1 C.2.1 (hts _ har) rfl C.2.2.2.2.2.1.1 hP (cws_D G w) hS (cx_hA C) (fun cA => rfl) nz.1 nz.2 (by show z.toNat * _ ≤ _; exact Nat.le_trans (Nat.mul_le_mul_right _ (show z.toNat ≤ 4000 by omega)) (by decide)) (by omega) (by omega) hd (fun q cA H1 hK1 hP1 hD1 hS1 => W_size (fun hs => ?_))
  have hq := cws_next hP1 hD1 hs (by omega)
  subst hq
  have eA : cA = gJ G := by
    have a := (hK1.2 5 (cA, .long) rfl).2
    have b := (C.2.2.2.2.2.1.1.2 2 (gJ G, .long) rfl).2
    exact Option.some.inj ((show s.vm.findClass _ = some cA from a).symm.trans (show s.vm.findClass _ = some (gJ G) from b))
  subst eA
  have K2 := K p e R s mm args below meth c0 (cells + 1) (slots + z.toNat) Z H1 locs L C (by omega) (by omega) (by rw [List.length_append]; show _ = _ + (w.length + 1); omega) (by
    rw [cws_app]
    have ef : (fun j : Nat => Int64.ofInt ((List.replicate z.toNat (0 : Int)).getD j 0)) = fun _ => 0 := funext fun j => by rw [List.getD_eq_getElem?_getD, List.getElem?_replicate]; split <;> rfl
    show va_P _ _ (cws G w ++ [(_, .inl (gJ G, z.toNat, .inr (.inl fun j => Int64.ofInt ((List.replicate z.toNat (0 : Int)).getD j 0))))]) _
    rw [ef]
    exact hP1) hS1 hn hv (fun H' locs' L' pc' a b e => by
    have := hret H' locs' L' pc' a b e
    rw [show cells + 1 + k = cells + (k + 1) by omega, show slots + z.toNat + sl = slots + (sl + z.toNat) by omega]
    exact this)
  rw [List.map_cons, cv10 G (by omega), show ((w.length : Int) + 1 - 1).toNat = w.length by omega] at K2
  exact K2
theorem cx_newS {ix : Nat} {z : Int} (hd : decode (cBY m) pc = .ok (.anewarray ix, 3)) (hr : 0 ≤ z ∧ z < 4000) (hcl : Jvm.Cond.classLink (vR m) ix RX6 ∈ TW) (K : CX G l d m (pc + 3) ls ((10, (w.length : Int) + 1) :: st) (w ++ [(53, z.toNat, List.replicate z.toNat 0)]) w' k sl) : CX G l d m pc ls ((0, z) :: st) w w' (k + 1) (sl + z.toNat) := by
  intro p e R s mm args below meth c0 cells slots Z H locs L C h1 h2 hz hP hS hn hv hret
  have hts := C.2.2.2.2.1
  have nz := n_of hr
  refine va_newq (C := RX6) C.1 C.2.1 C.2.2.2.1 (hts _ hcl) C.2.2.2.2.2.2.1.1 C.2.2.2.2.2.1.1 hP (cws_D G w) hS (cx_hA C) nz.1 nz.2 (by omega) (by omega) (by omega) hd (fun q cA H1 hK1 hP1 hD1 hS1 => W_size (fun hs => ?_))
  have hq := cws_next hP1 hD1 hs (by omega)
  subst hq
  have eA : cA = gS G := by
    obtain ⟨_, _, _, _, _, a⟩ := (hK1.2 5 (cA, .object RX6) rfl).2
    obtain ⟨_, _, _, _, _, b⟩ := (C.2.2.2.2.2.1.1.2 3 (gS G, .object RX6) rfl).2
    exact Option.some.inj (a.symm.trans b)
  subst eA
  have K2 := K p e R s mm args below meth c0 (cells + 1) (slots + z.toNat) Z H1 locs L C (by omega) (by omega) (by rw [List.length_append]; show _ = _ + (w.length + 1); omega) (by
    rw [cws_app]
    have ef : (fun j : Nat => ceO (gN G) ((List.replicate z.toNat (0 : Int)).getD j 0)) = fun _ => none := funext fun j => by rw [List.getD_eq_getElem?_getD, List.getElem?_replicate]; split <;> rfl
    show va_P _ _ (cws G w ++ [(_, .inl (gS G, z.toNat, .inr (.inr (.inr (.inr fun j => ceO (gN G) ((List.replicate z.toNat (0 : Int)).getD j 0))))))]) _
    rw [ef]
    exact hP1) hS1 hn hv (fun H' locs' L' pc' a b e => by
    have := hret H' locs' L' pc' a b e
    rw [show cells + 1 + k = cells + (k + 1) by omega, show slots + z.toNat + sl = slots + (sl + z.toNat) by omega]
    exact this)
  rw [List.map_cons, cv10 G (by omega), show ((w.length : Int) + 1 - 1).toNat = w.length by omega] at K2
  exact K2
theorem cx_newC {ix : Nat} {z : Int} (hd : decode (cBY m) pc = .ok (.anewarray ix, 3)) (hr : 0 ≤ z ∧ z < 4000) (hcl : Jvm.Cond.classLink (vR m) ix RX1 ∈ TW) (K : CX G l d m (pc + 3) ls ((10, (w.length : Int) + 1) :: st) (w ++ [(55, z.toNat, List.replicate z.toNat 0)]) w' k sl) : CX G l d m pc ls ((0, z) :: st) w w' (k + 1) (sl + z.toNat) := by
  intro p e R s mm args below meth c0 cells slots Z H locs L C h1 h2 hz hP hS hn hv hret
  have hts := C.2.2.2.2.1
  have nz := n_of hr
  refine va_newq (C := RX1) C.1 C.2.1 C.2.2.2.1 (hts _ hcl) C.2.2.2.2.2.2.1.2 C.2.2.2.2.2.1.1 hP (cws_D G w) hS (cx_hA C) nz.1 nz.2 (by omega) (by omega) (by omega) hd (fun q cA H1 hK1 hP1 hD1 hS1 => W_size (fun hs => ?_))
  have hq := cws_next hP1 hD1 hs (by omega)
  subst hq
  have eA : cA = gC G := by
    obtain ⟨_, _, _, _, _, a⟩ := (hK1.2 5 (cA, .object RX1) rfl).2
    obtain ⟨_, _, _, _, _, b⟩ := (C.2.2.2.2.2.1.1.2 4 (gC G, .object RX1) rfl).2
    exact Option.some.inj (a.symm.trans b)
  subst eA
  have K2 := K p e R s mm args below meth c0 (cells + 1) (slots + z.toNat) Z H1 locs L C (by omega) (by omega) (by rw [List.length_append]; show _ = _ + (w.length + 1); omega) (by
    rw [cws_app]
    have ef : (fun j : Nat => ceO (gN G) ((List.replicate z.toNat (0 : Int)).getD j 0)) = fun _ => none := funext fun j => by rw [List.getD_eq_getElem?_getD, List.getElem?_replicate]; split <;> rfl
    show va_P _ _ (cws G w ++ [(_, .inl (gC G, z.toNat, .inr (.inr (.inr (.inr fun j => ceO (gN G) ((List.replicate z.toNat (0 : Int)).getD j 0))))))]) _
    rw [ef]
    exact hP1) hS1 hn hv (fun H' locs' L' pc' a b e => by
    have := hret H' locs' L' pc' a b e
    rw [show cells + 1 + k = cells + (k + 1) by omega, show slots + z.toNat + sl = slots + (sl + z.toNat) by omega]
    exact this)
  rw [List.map_cons, cv10 G (by omega), show ((w.length : Int) + 1 - 1).toNat = w.length by omega] at K2
  exact K2
end
