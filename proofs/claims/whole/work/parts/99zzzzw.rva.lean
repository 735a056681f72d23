section
/-! the reference tells a value -/
theorem r_vpu {d : Nat} {h0 h1 h : HP} {n v v1 top0 v4 : Int} {s : List Int} {Q : PQ} (n1 : n ≤ 1000) (r : 0 ≤ v ∧ v < n) (w3 : h1 126 v ≤ 3) (ch : ∀ i : Nat, (i : Int) < h1 126 v → ∃ τ, vt h0 h1 n (h1 127 (3 * v + i)) τ) (rws : ∀ i : Nat, (i : Int) < h1 126 v → h (181 + i) v = h1 127 (3 * v + i)) (et : top0 = s.length) (tl : top0 ≤ 450) : ∀ (j m : Nat) (g : HP), (j : Int) + m = h1 126 v → StP (VaP h0 h1 n) (g 193) (vLs (fun i => h1 127 (3 * v + i)) j m ++ s) → (∀ a i, a ≠ 192 → a ≠ 193 → ¬ (a = 135 ∧ i = 87) → g a i = h a i) → (∀ g' : HP, StP (VaP h0 h1 n) (g' 193) (vLs (fun i => h1 127 (3 * v + i)) 0 (j + m) ++ s) → (∀ a i, a ≠ 193 → g' a i = g a i) → Go d M_Mo_tellsValue 14 [(22, 135), (0, v1), (0, top0 + h1 126 v), (0, v), (0, v4), (0, -1)] [] g' Q) → Go d M_Mo_tellsValue 185 [(22, 135), (0, v1), (0, top0 + m), (0, v), (0, v4), (0, (j : Int) - 1)] [] g Q := by
  intro j
  induction j with
  | zero =>
    intro m g jm st ag K
    refine N_Mo_tellsValue_185 ⟨fun _ => ?_, fun z => by omega⟩
    have := K g (by rw [Nat.zero_add]; exact st) (fun _ _ _ => rfl)
    rw [← jm] at this
    rw [show ((0 : Nat) : Int) + (m : Int) = m by omega] at this
    exact this
  | succ j ih =>
    intro m g jm st ag K
    have ej : ((j + 1 : Nat) : Int) - 1 = (j : Int) := by omega
    rw [ej]
    have go : ∀ g2 : HP, g2 = up2 g 193 (top0 + m) (h1 127 (3 * v + j)) → Go d M_Mo_tellsValue 185 [(22, 135), (0, v1), (0, top0 + m + 1), (0, v), (0, v4), (0, (j : Int) + (-1))] [] g2 Q := by
      intro g2 e2
      have o2 : ∀ a i, a ≠ 193 → g2 a i = g a i := fun a i p => by rw [e2, up2_nc (by omega)]
      have ll : ((vLs (fun i => h1 127 (3 * v + i)) ((j + 1 : Nat) : Int) m ++ s).length : Int) = top0 + m := by rw [List.length_append, vLs_len]; omega
      have := ih (m + 1) g2 (by omega) ?_ (fun a i p q r => (o2 a i q).trans (ag a i p q r)) (fun g' sg o' => K g' (by rw [show j + 1 + m = j + (m + 1) by omega]; exact sg) (fun a i p => (o' a i p).trans (o2 a i p)))
      · rw [show top0 + ((m + 1 : Nat) : Int) = top0 + (m : Int) + 1 by omega] at this
        exact this
      · refine ⟨?_, ?_⟩
        · rw [show (j : Int) + 1 = ((j + 1 : Nat) : Int) by omega]
          show VaP h0 h1 n (g2 193 ((vLs (fun i => h1 127 (3 * v + i)) ((j + 1 : Nat) : Int) m ++ s).length : Int)) (h1 127 (3 * v + j))
          rw [ll, e2, up2_eq]
          exact ⟨rfl, ch j (by omega)⟩
        · rw [show (j : Int) + 1 = ((j + 1 : Nat) : Int) by omega]
          exact StP_ag (fun i i0 i1 => by
            have i1' : (i : Int) < top0 + m := by rw [← ll]; exact Int.ofNat_lt.mpr i1
            rw [e2, up2_ext (by omega)]) st
    have rj := rws j (by omega)
    have gj : g (181 + (j : Int)) v = h1 127 (3 * v + j) := (ag _ _ (by omega) (by omega) (by omega)).trans rj
    refine N_Mo_tellsValue_185 ⟨fun z => by omega, fun _ => ⟨fun z0 => ⟨fun z1 => ⟨by omega, ⟨by omega, by omega⟩, fun g1 e1 => ⟨by unfold r32; omega, by unfold r32; omega, go g1 ?_⟩⟩, fun z1 => ⟨by omega, ⟨by omega, by omega⟩, fun g1 e1 => ⟨by unfold r32; omega, by unfold r32; omega, go g1 ?_⟩⟩⟩, fun z0 => ⟨by omega, ⟨by omega, by omega⟩, fun g1 e1 => ⟨by unfold r32; omega, by unfold r32; omega, go g1 ?_⟩⟩⟩⟩
    · rw [e1, ← gj, show (j : Int) = 2 by omega]; rfl
    · rw [e1, ← gj, z1]; rfl
    · rw [e1, ← gj, z0]; rfl
theorem r_vwr {d : Nat} {h0 h1 h : HP} {n v1 : Int} {Q : PQ} (hd : 10 < d) (rb : RB0 h0) (n1 : n ≤ 1000) (rv : ∀ v, 0 ≤ v → v < n → RvV h0 (h1 125) (h1 127) h v) (k5 : ∀ j, 0 ≤ j → j < h0 36 4 → h 153 j = ppr h0 67 j) : ∀ (k : Nat) (g : HP) (s : List Int) (p : List Int) (top : Int) (w3 w4 w5 : AV), 200 ≤ k + p.length → k ≤ 200 → top = s.length → top ≤ 2 * (200 - k) + 1 → StP (VaP h0 h1 n) (g 193) s → OuR g 135 87 192 p → (∀ a i, a ≠ 192 → a ≠ 193 → ¬ (a = 135 ∧ i = 87) → g a i = h a i) → (∀ g' : HP, OuR g' 135 87 192 (p ++ vWr h1 k s) → (∀ a i, a ≠ 192 → a ≠ 193 → ¬ (a = 135 ∧ i = 87) → g' a i = h a i) → Q 0 g') → Go d M_Mo_tellsValue 14 [(22, 135), (0, v1), (0, top), w3, w4, w5] [] g Q := by
  intro k
  induction k with
  | zero =>
    intro g s p top w3 w4 w5 lp _ et tl st ho fr HQ
    have o200 : 200 ≤ g 135 87 := by have := ho.1; omega
    have fin : Q 0 g := HQ g (OuR_pre ho o200 _) fr
    exact N_Mo_tellsValue_14 ⟨fun _ => fin, fun _ => ⟨fun _ => fin, fun z => by omega⟩⟩
  | succ k ih =>
    intro g s p top w3 w4 w5 lp kl et tl st ho fr HQ
    cases s with
    | nil =>
      have et : top = 0 := et
      refine N_Mo_tellsValue_14 ⟨fun _ => HQ g ?_ fr, fun z => by omega⟩
      rw [vWr_n, List.append_nil]
      exact ho
    | cons t s =>
      have et : top = s.length + 1 := by rw [et]; simp
      refine N_Mo_tellsValue_14 ⟨fun z => by omega, fun _ => ⟨fun z => HQ g (OuR_pre ho z _) fr, fun z200 => ⟨by unfold r32; omega, ⟨by omega, by omega⟩, ?_⟩⟩⟩
      have et1 : top + (-1) = s.length := by omega
      rw [et1]
      obtain ⟨⟨xe, tv⟩, st⟩ := st
      rw [xe]
      rw [vWr_c] at HQ
      obtain ⟨r, w03, ch, C⟩ := vt_un rb tv
      have c10 : h0 36 4 ≤ 10 := rb.1.1.2.1
      have R := rv t r.1 r.2
      unfold RvV at R
      have f9 : ∀ g2 : HP, (∀ a i, a ≠ 192 → a ≠ 193 → ¬ (a = 135 ∧ i = 87) → g2 a i = h a i) → g2 179 t = h 179 t ∧ g2 180 t = h 180 t := fun g2 f => ⟨f _ _ (by omega) (by omega) (by omega), f _ _ (by omega) (by omega) (by omega)⟩
      have lb := vBy_ne h1 t
      have rows : ∀ i : Nat, (i : Int) < h1 126 t → h (181 + i) t = h1 127 (3 * t + i) := by
        intro i hi
        rcases R with R | R | R | R
        · omega
        · omega
        · have R2 := R.2.2.1
          by_cases z : i = 0
          · subst z
            simpa using R2.1
          · have : i = 1 := by omega
            subst this
            exact R2.2
        · have wi : (i : Int) < ppr h0 67 (h1 125 t) := by omega
          exact (R.2.2.2 i (by omega) wi).1
      have last : ∀ (g2 : HP) (b : Int), OuR g2 135 87 192 (p ++ vBy h1 t) → (∀ a i, a ≠ 192 → ¬ (a = 135 ∧ i = 87) → g2 a i = g a i) → b = h1 126 t → Go d M_Mo_tellsValue 185 [(22, 135), (0, v1), (0, (s.length : Int)), (0, t), (0, b), (0, b - 1)] [] g2 Q := by
        intro g2 b o2 f2 eb
        have fr2 : ∀ a i, a ≠ 192 → a ≠ 193 → ¬ (a = 135 ∧ i = 87) → g2 a i = h a i := fun a i p q r => (f2 a i p r).trans (fr a i p q r)
        rw [eb]
        have := r_vpu (d := d) (v1 := v1) (top0 := s.length) (v4 := h1 126 t) (s := s) (Q := Q) n1 r w03.2 ch rows rfl (by omega) (h1 126 t).toNat 0 g2 (by omega) (StP_ag (fun i _ _ => f2 193 i (by omega) (by omega)) st) fr2 (fun g' sg o' => ?_)
        · rw [show ((s.length : Int) + ((0 : Nat) : Int)) = s.length by omega, show (((h1 126 t).toNat : Nat) : Int) = h1 126 t by omega] at this
          exact this
        · refine ih g' (vCh h1 t ++ s) (p ++ vBy h1 t) _ _ _ _ (by simp; omega) (by omega) ?_ (by omega) (by rw [Nat.add_zero] at sg; exact sg) (OuR_ag o2 (o' _ _ (by omega)) (fun i => o' _ _ (by omega))) (fun a i p q r => (o' a i q).trans (fr2 a i p q r)) (fun g3 o3 f3 => HQ g3 (by rw [List.append_assoc] at o3; exact o3) f3)
          unfold vCh
          rw [List.length_append, vLs_len]
          omega
      have pl : ∀ (g2 : HP) (b : Int) (w5 : AV), h 179 t ≠ 3 → OuR g2 135 87 192 (p ++ vBy h1 t) → (∀ a i, a ≠ 192 → ¬ (a = 135 ∧ i = 87) → g2 a i = g a i) → b = h1 126 t → Go d M_Mo_tellsValue 156 [(22, 135), (0, v1), (0, (s.length : Int)), (0, t), (0, b), w5] [] g2 Q := by
        intro g2 b w5 n3 o2 f2 eb
        have q := f9 g2 (fun a i p q r => (f2 a i p r).trans (fr a i p q r))
        exact N_Mo_tellsValue_156 ⟨by omega, fun _ => ⟨by unfold r32; omega, last g2 b o2 f2 eb⟩, fun z => by omega⟩
      have q := f9 g fr
      refine ⟨by omega, fun n2 => ⟨by omega, fun n3 => ?_, fun z3 => ⟨by omega, ?_, ?_⟩⟩, fun z2 => ?_⟩
      · refine N_Mo_tellsValue_77 ⟨by omega, fun m0 => ⟨by omega, fun m1 => by omega, fun m1 => ⟨by omega, fun m => ⟨by omega, r_byte ho (fun g2 o2 f2 => pl g2 0 _ (by omega) ?_ f2 (by omega))⟩, fun m => ⟨by omega, r_byte ho (fun g2 o2 f2 => pl g2 0 _ (by omega) ?_ f2 (by omega))⟩⟩⟩, fun m0 => ⟨by omega, by omega, ?_⟩⟩
        · unfold vBy
          rw [if_neg (by omega), if_pos (by omega), if_pos (by omega)]
          exact o2
        · unfold vBy
          rw [if_neg (by omega), if_pos (by omega), if_neg (by omega)]
          exact o2
        · have r3 : r32 (h1 127 (3 * t)) := by
            rcases C with C | C | C | C
            · exact C.2.2
            · omega
            · omega
            · omega
          have e80 : g 180 t = h1 127 (3 * t) := by
            rcases R with R | R | R | R
            · omega
            · omega
            · omega
            · omega
          rw [e80]
          unfold r32 at r3
          refine r_num (by omega) (by omega) ho (fun g2 o2 f2 => pl g2 0 _ (by omega) ?_ f2 (by omega))
          unfold vBy
          rw [if_pos (by omega)]
          exact o2
      · have : 0 ≤ g 180 t ∧ g 180 t < h0 36 4 := by
          rcases R with R | R | R | R
          · omega
          · omega
          · omega
          · have R1 := R.1
            have R2 := R.2.2.1
            omega
        omega
      · have R0 : (0 ≤ h1 125 t ∧ h1 125 t < h0 36 4) ∧ h 180 t = h1 125 t := by
          rcases R with R | R | R | R
          · omega
          · omega
          · omega
          · exact ⟨R.1, R.2.2.1⟩
        have ew : g 153 (g 180 t) = h1 126 t := by
          rw [q.2, R0.2, fr 153 _ (by omega) (by omega) (by omega), k5 _ R0.1.1 R0.1.2]
          rcases C with C | C | C | C
          · omega
          · omega
          · omega
          · exact C.2.symm
        rw [ew]
        refine N_Mo_tellsValue_77 ⟨by omega, fun m0 => ⟨by omega, fun m1 => ⟨by omega, fun m2 => ⟨by omega, r_byte ho (fun g2 o2 f2 => ?_)⟩, fun m2 => by omega⟩, fun m1 => by omega⟩, fun m0 => by omega⟩
        have q2 := f9 g2 (fun a i p q r => (f2 a i p r).trans (fr a i p q r))
        refine N_Mo_tellsValue_156 ⟨by omega, fun z => by omega, fun _ => ⟨by omega, by unfold r32; omega, by omega, r_byte o2 (fun g3 o3 f3 => ⟨by unfold r32; omega, last g3 _ ?_ (fun a i p q => (f3 a i p q).trans (f2 a i p q)) rfl⟩)⟩⟩
        rw [vBy_4 (by omega)]
        rw [List.append_assoc, q2.2, R0.2] at o3
        exact o3
      · refine N_Mo_tellsValue_77 ⟨by omega, fun m0 => ⟨by omega, fun m1 => ⟨by omega, fun m2 => by omega, fun m2 => ⟨by omega, r_byte ho (fun g2 o2 f2 => pl g2 2 _ (by omega) ?_ f2 (by omega))⟩⟩, fun m1 => by omega⟩, fun m0 => by omega⟩
        unfold vBy
        rw [if_neg (by omega), if_neg (by omega), if_pos (by omega)]
        exact o2
theorem r_vwrite {d : Nat} {h0 h1 h : HP} {n v : Int} {Q : PQ} (hd : 10 < d) (rb : RB0 h0) (n1 : n ≤ 1000) (rv : ∀ v, 0 ≤ v → v < n → RvV h0 (h1 125) (h1 127) h v) (k5 : ∀ j, 0 ≤ j → j < h0 36 4 → h 153 j = ppr h0 67 j) (tv : ∃ τ, vt h0 h1 n v τ) (HQ : ∀ g : HP, OuR g 135 87 192 (vWr h1 200 [v]) → (∀ a i, a ≠ 192 → a ≠ 193 → ¬ (a = 135 ∧ i = 87) → g a i = h a i) → Q 0 g) : Go d M_Mo_tellsValue 0 [(22, 135), (0, v), (2, 0), (2, 0), (2, 0), (2, 0)] [] h Q := by
  refine N_Mo_tellsValue_0 (fun g1 e1 => ⟨⟨by omega, by omega⟩, fun g2 e2 => ?_⟩)
  have o2 : ∀ a i, a ≠ 192 → a ≠ 193 → ¬ (a = 135 ∧ i = 87) → g2 a i = h a i := fun a i p q r => by rw [e2, up2_nc (by omega), e1, up2_ext (by omega)]
  refine r_vwr hd rb n1 rv k5 200 g2 [v] [] 1 _ _ _ (by omega) (by omega) rfl (by omega) ⟨?_, trivial⟩ (OuR_nil ?_) o2 (fun g' o' f' => HQ g' o' f')
  · show VaP h0 h1 n (g2 193 0) v
    rw [e2, up2_eq]
    exact ⟨rfl, tv⟩
  · rw [e2, up2_nc (by omega), e1, up2_eq]
/-- a run ends well -/
theorem OuR_cp {h g : HP} {c f row c' f' row' : Int} {p : List Int} (ho : OuR h c f row p) (e : g c' f' = h c f) (cp : ∀ i, 0 ≤ i → i < h c f → g row' i = h row i) : OuR g c' f' row' p := by
  refine ⟨e.trans ho.1, fun i i1 i2 => ?_⟩
  have := ho.1
  rw [cp i (by omega) (by omega)]
  exact ho.2 i i1 i2
theorem r_cp1 {d : Nat} {h : HP} {Q : PQ} {n : Int} (n0 : 0 ≤ n) (n1 : n ≤ 200) (e : h 135 87 = n) (HQ : ∀ g : HP, (∀ i, 0 ≤ i → i < n → g 190 i = h 192 i) → (∀ a i, a ≠ 190 → g a i = h a i) → Go d M_Mo_ends 32 [(22, 135), (0, n)] [] g Q) : ∀ (k : Nat) (j : Int) (g : HP), j = n - k → 0 ≤ j → (∀ i, 0 ≤ i → i < j → g 190 i = h 192 i) → (∀ a i, a ≠ 190 → g a i = h a i) → Go d M_Mo_ends 32 [(22, 135), (0, j)] [] g Q := by
  intro k
  induction k with
  | zero => intro j g ej j0 cp fr; have : j = n := by omega
            subst this; exact HQ g cp fr
  | succ k ih =>
    intro j g ej j0 cp fr
    have e87 : g 135 87 = n := (fr 135 87 (by omega)).trans e
    refine N_Mo_ends_32 ⟨fun z => by omega, fun _ => ⟨by omega, by omega, fun g3 e3 => ⟨by unfold r32; omega, ih (j + 1) g3 (by omega) (by omega) (fun i i0 i1 => ?_) (fun a i p => by rw [e3, up2_nc (by omega), fr a i p])⟩⟩⟩
    by_cases z : i = j
    · subst z
      rw [e3, up2_eq, fr 192 i (by omega)]
    · rw [e3, up2_ext (by omega)]
      exact cp i i0 (by omega)
theorem r_cp2 {d : Nat} {h : HP} {Q : PQ} {n : Int} (n0 : 0 ≤ n) (n1 : n ≤ 200) (e : h 135 87 = n) (HQ : ∀ g : HP, (∀ i, 0 ≤ i → i < n → g 191 i = h 192 i) → (∀ a i, a ≠ 191 → g a i = h a i) → Q (g 135 80) g) : ∀ (k : Nat) (j : Int) (g : HP), j = n - k → 0 ≤ j → (∀ i, 0 ≤ i → i < j → g 191 i = h 192 i) → (∀ a i, a ≠ 191 → g a i = h a i) → Go d M_Mo_ends 78 [(22, 135), (0, j)] [] g Q := by
  intro k
  induction k with
  | zero =>
    intro j g ej j0 cp fr
    have ej : j = n := by omega
    subst ej
    have e87 : g 135 87 = j := (fr 135 87 (by omega)).trans e
    exact N_Mo_ends_78 ⟨fun _ => HQ g cp fr, fun z => by omega⟩
  | succ k ih =>
    intro j g ej j0 cp fr
    have e87 : g 135 87 = n := (fr 135 87 (by omega)).trans e
    refine N_Mo_ends_78 ⟨fun z => by omega, fun _ => ⟨by omega, by omega, fun g3 e3 => ⟨by unfold r32; omega, ih (j + 1) g3 (by omega) (by omega) (fun i i0 i1 => ?_) (fun a i p => by rw [e3, up2_nc (by omega), fr a i p])⟩⟩⟩
    by_cases z : i = j
    · subst z
      rw [e3, up2_eq, fr 192 i (by omega)]
    · rw [e3, up2_ext (by omega)]
      exact cp i i0 (by omega)
theorem r_ends {d : Nat} {h0 h1 h : HP} {n v : Int} {pt : List Int} {Q : PQ} (hd : 11 < d) (rb : RB0 h0) (n1 : n ≤ 1000) (rv : ∀ v, 0 ≤ v → v < n → RvV h0 (h1 125) (h1 127) h v) (k5 : ∀ j, 0 ≤ j → j < h0 36 4 → h 153 j = ppr h0 67 j) (tv : ∃ τ, vt h0 h1 n v τ) (e79 : h 135 79 = v) (ho : OuR h 135 87 192 pt)
    (HQ : ∀ g : HP, OuR g 189 2 190 pt → OuR g 189 3 191 (vWr h1 200 [v]) → (g 189 0 = h 135 80 ∧ g 189 1 = h 135 81) → (∀ a i, a < 189 → ¬ (a = 135 ∧ i = 87) → g a i = h a i) → Q (h 135 80) g) : Go d M_Mo_ends 0 [(22, 135), (2, 0)] [] h Q := by
  have b := OuR_bd ho
  refine N_Mo_ends_0 ⟨by omega, fun g1 e1 => ⟨by omega, fun g2 e2 => ⟨by omega, fun g3 e3 => ?_⟩⟩⟩
  have o3 : ∀ a i, a ≠ 189 → g3 a i = h a i := fun a i p => by rw [e3, up2_nc (by omega), e2, up2_nc (by omega), e1, up2_nc (by omega)]
  have x0 : g3 189 0 = h 135 80 := by rw [e3, up2_ext (by omega), e2, up2_ext (by omega), e1, up2_eq]
  have x1 : g3 189 1 = h 135 81 := by rw [e3, up2_ext (by omega), e2, up2_eq, e1, up2_nc (by omega)]
  have x2 : g3 189 2 = h 135 87 := by rw [e3, up2_eq, e2, up2_nc (by omega), e1, up2_nc (by omega)]
  have e87 : g3 135 87 = h 135 87 := o3 _ _ (by omega)
  refine r_cp1 b.1 b.2 e87 (fun g4 cp4 o4 => ?_) (h 135 87).toNat 0 g3 (by omega) (by omega) (fun i a b => by omega) (fun _ _ _ => rfl)
  have e87' : g4 135 87 = h 135 87 := (o4 _ _ (by omega)).trans e87
  have o4' : ∀ a i, a ≠ 189 → a ≠ 190 → g4 a i = h a i := fun a i p q => (o4 a i q).trans (o3 a i p)
  refine N_Mo_ends_32 ⟨fun _ => ⟨by omega, ?_⟩, fun z => by omega⟩
  rw [show g4 135 79 = v from (o4' _ _ (by omega) (by omega)).trans e79]
  refine r_vwrite (h0 := h0) (h1 := h1) (n := n) (by omega) rb n1 (fun v v0 v1 => ?_) (fun j j0 j1 => (o4' _ _ (by omega) (by omega)).trans (k5 j j0 j1)) tv (fun g5 o5 f5 => ⟨by omega, fun g6 e6 => ?_⟩)
  · have := rv v v0 v1
    have q : ∀ a, 179 ≤ a → a ≤ 183 → g4 a v = h a v := fun a p q => o4' a v (by omega) (by omega)
    have c3 := rb_p3 rb
    rcases this with ⟨a, b, c⟩ | ⟨a, b, c⟩ | ⟨a, b, ⟨c, c'⟩, e⟩ | ⟨a, b, c, e⟩
    · exact Or.inl ⟨a, (q 179 (by omega) (by omega)).trans b, (q 180 (by omega) (by omega)).trans c⟩
    · exact Or.inr (Or.inl ⟨a, (q 179 (by omega) (by omega)).trans b, (q 180 (by omega) (by omega)).trans c⟩)
    · exact Or.inr (Or.inr (Or.inl ⟨a, (q 179 (by omega) (by omega)).trans b, ⟨(q 181 (by omega) (by omega)).trans c, (q 182 (by omega) (by omega)).trans c'⟩, e⟩))
    · exact Or.inr (Or.inr (Or.inr ⟨a, (q 179 (by omega) (by omega)).trans b, (q 180 (by omega) (by omega)).trans c, fun i i0 i1 => ⟨(q (181 + i) (by omega) (by have := c3 _ a.1 a.2; omega)).trans (e i i0 i1).1, (e i i0 i1).2⟩⟩))
  · have b5 := OuR_bd o5
    have e6' : g6 135 87 = g5 135 87 := by rw [e6, up2_nc (by omega)]
    refine r_cp2 b5.1 b5.2 e6' (fun g7 cp7 o7 => ?_) (g5 135 87).toNat 0 g6 (by omega) (by omega) (fun i a b => by omega) (fun _ _ _ => rfl)
    have o6 : ∀ a i, ¬ (a = 189 ∧ i = 3) → g6 a i = g5 a i := fun a i p => by rw [e6, up2_ext (by omega)]
    have o7' : ∀ a i, a ≠ 191 → a ≠ 192 → a ≠ 193 → ¬ (a = 135 ∧ i = 87) → ¬ (a = 189 ∧ i = 3) → g7 a i = g4 a i := fun a i p q r s t => (o7 a i p).trans ((o6 a i t).trans (f5 a i q r s))
    have e80 : g7 135 80 = h 135 80 := (o7' _ _ (by omega) (by omega) (by omega) (by omega) (by omega)).trans (o4' _ _ (by omega) (by omega))
    rw [e80]
    refine HQ g7 (OuR_cp ho ?_ (fun i i0 i1 => ?_)) (OuR_cp o5 ?_ (fun i i0 i1 => ?_)) ⟨?_, ?_⟩ (fun a i p q => ?_)
    · rw [o7' _ _ (by omega) (by omega) (by omega) (by omega) (by omega), o4 _ _ (by omega), x2]
    · rw [o7' _ _ (by omega) (by omega) (by omega) (by omega) (by omega), cp4 i i0 i1, o3 _ _ (by omega)]
    · rw [o7 _ _ (by omega), e6, up2_eq]
    · rw [cp7 i i0 i1, o6 _ _ (by omega)]
    · rw [o7' _ _ (by omega) (by omega) (by omega) (by omega) (by omega), o4 _ _ (by omega), x0]
    · rw [o7' _ _ (by omega) (by omega) (by omega) (by omega) (by omega), o4 _ _ (by omega), x1]
    · rw [o7' a i (by omega) (by omega) (by omega) q (by omega), o4' a i (by omega) (by omega)]
end
