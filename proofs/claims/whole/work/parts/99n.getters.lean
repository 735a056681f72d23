section
/-! texts, declarations and what was run: both sides the same -/
def SgR (h : HP) (a j : Int) : Prop := h 152 j = h a 1 ∧ h 153 j = h a 2 ∧ h 154 j = h a 3 ∧ (0 ≤ h a 1 ∧ h a 1 ≤ 24) ∧ (0 ≤ h a 2 ∧ h a 2 ≤ 3) ∧ ∀ i, 0 ≤ i → i < h a 1 → h 151 (24 * j + i) = h (a + 1) i
def TxR (h : HP) : Prop := (0 ≤ h 30 2 ∧ h 30 2 ≤ 100 ∧ h 135 33 = h 30 2) ∧ ∀ i, 0 ≤ i → i < h 30 2 → h 156 i = h 31 i ∧ 0 ≤ h 31 i ∧ h 31 i ≤ 127
def DcR (h : HP) : Prop := (0 ≤ h 36 4 ∧ h 36 4 ≤ 10 ∧ h 135 30 = h 36 4 ∧ 0 ≤ h 36 5 ∧ h 36 5 ≤ 6 ∧ h 135 31 = h 36 5) ∧ (∀ k, 0 ≤ k → k < h 36 4 → SgR h (41 + 2 * k) k ∧ h 155 k = h (41 + 2 * k) 4 ∧ 0 ≤ h 155 k ∧ h 155 k ≤ 3) ∧ (∀ f, 0 ≤ f → f < h 36 5 → SgR h (61 + 5 * f) (10 + f) ∧ ((h 40 f = 0 ∧ h 167 f = 0) ∨ (h 40 f = 1 ∧ h 167 f = h (63 + 5 * f) 3 ∧ 0 < h 167 f)))
def RnR (h : HP) : Prop := (h 189 0 = h 1 9 ∧ h 189 1 = h 1 10 ∧ h 189 2 = h 131 1 ∧ h 189 3 = h 133 1 ∧ h 135 24 = h 1 11) ∧ (0 ≤ h 131 1 ∧ h 131 1 ≤ 200 ∧ 0 ≤ h 133 1 ∧ h 133 1 ≤ 200) ∧ (∀ i, 0 ≤ i → i < h 131 1 → h 190 i = h 132 i) ∧ (∀ i, 0 ≤ i → i < h 133 1 → h 191 i = h 134 i)
theorem TxR_fr {h h' : HP} (f : FrB h h') (T : TxR h) : TxR h' := by
  unfold TxR at *
  rw [f.1 30 2 (by omega), f.2.2 33 (by omega), show h' 31 = h 31 from funext fun i => f.1 31 i (by omega), show h' 156 = h 156 from funext fun i => f.1 156 i (by omega)]
  exact T
theorem RnR_fr {h h' : HP} (f : FrB h h') (T : RnR h) : RnR h' := by
  unfold RnR at *
  rw [show h' 189 = h 189 from funext fun i => f.1 189 i (by omega), f.2.1 9 (by omega), f.2.1 10 (by omega), f.2.1 11 (by omega), f.1 131 1 (by omega), f.1 133 1 (by omega), f.2.2 24 (by omega), show h' 190 = h 190 from funext fun i => f.1 190 i (by omega), show h' 132 = h 132 from funext fun i => f.1 132 i (by omega), show h' 191 = h 191 from funext fun i => f.1 191 i (by omega), show h' 134 = h 134 from funext fun i => f.1 134 i (by omega)]
  exact T
theorem DcR_fr {h h' : HP} (f : FrB h h') (T : DcR h) : DcR h' := by
  obtain ⟨a, b, c⟩ := T
  have sg : ∀ x j, 29 < x → x < 134 → SgR h x j → SgR h' x j := by
    intro x j p q s
    unfold SgR at *
    rw [f.1 152 j (by omega), f.1 153 j (by omega), f.1 154 j (by omega), f.1 x 1 (by omega), f.1 x 2 (by omega), f.1 x 3 (by omega), show h' 151 = h 151 from funext fun i => f.1 151 i (by omega), show h' (x + 1) = h (x + 1) from funext fun i => f.1 (x + 1) i (by omega)]
    exact s
  refine ⟨?_, fun k k0 k1 => ?_, fun k k0 k1 => ?_⟩
  · rw [f.1 36 4 (by omega), f.1 36 5 (by omega), f.2.2 30 (by omega), f.2.2 31 (by omega)]; exact a
  · rw [f.1 36 4 (by omega)] at k1
    obtain ⟨s, t⟩ := b k k0 k1
    refine ⟨sg _ _ (by omega) (by omega) s, ?_⟩
    rw [f.1 155 k (by omega), f.1 (41 + 2 * k) 4 (by omega)]
    exact t
  · rw [f.1 36 5 (by omega)] at k1
    obtain ⟨s, t⟩ := c k k0 k1
    refine ⟨sg _ _ (by omega) (by omega) s, ?_⟩
    rw [f.1 40 k (by omega), f.1 167 k (by omega), f.1 (63 + 5 * k) 3 (by omega)]
    exact t
theorem b_why {d : Nat} {h : HP} {R : HP → Prop} (B : BIx h) (N : RnR h) (H : ∀ h2, BIx h2 → FrB h h2 → R h2) :
    Go d M_BT_why 0 [(21, 1)] [] h (fun r1 h1 => Go d M_Mo_why 0 [(22, 135)] [] h1 (fun r2 h2 => r1 = r2 ∧ R h2)) :=
  N_BT_why_0 (N_Mo_why_0 ⟨N.1.2.2.2.2.symm, H h B (FrB_refl h)⟩)
theorem b_told {d : Nat} {h : HP} {w : Int} {R : HP → Prop} (hd : 20 < d) (B : BIx h) (T : TxR h) (D : DcR h) (H : ∀ h2, BIx h2 → FrB h h2 → R h2) :
    Go d M_BT_told 0 [(21, 1), (0, w)] [] h (fun r1 h1 => Go d M_Mo_told 0 [(22, 135), (0, w)] [] h1 (fun r2 h2 => r1 = r2 ∧ R h2)) := by
  have done := H h B (FrB_refl h)
  obtain ⟨_, _, c0, c1, c2⟩ := B
  have ref : ∀ r : Int, 0 ≤ w → w ≤ 5 → (w = 0 → r = h 1 12) → (w = 1 → r = h 1 13) → (w = 2 → r = h 1 14) → (w = 3 → r = h 36 4) → (w = 4 → r = h 36 5) → (w = 5 → r = h 30 2) → Go d M_Mo_told 0 [(22, 135), (0, w)] [] h (fun r2 h2 => r = r2 ∧ R h2) := by
    intro r w0 w5 q0 q1 q2 q3 q4 q5
    refine N_Mo_told_0 ⟨by omega, c_in (fun _ _ => ⟨fun z => absurd z (by decide), fun _ => ⟨by omega, N_Mo_toldOf_0 ⟨fun z => ⟨fun u => ⟨fun v => ⟨by rw [q5 (by omega), T.1.2.2], done⟩, fun v => ⟨by rw [q4 v, D.1.2.2.2.2.2], done⟩⟩, fun u => ⟨by rw [q3 u, D.1.2.2.1], done⟩⟩, fun z => ⟨⟨w0, z⟩, ?_, done⟩⟩⟩⟩) (fun z => by omega)⟩
    have : w = 0 ∨ w = 1 ∨ w = 2 := by omega
    rcases this with y | y | y
    · rw [q0 y, y, c0]
    · rw [q1 y, y, c1]
    · rw [q2 y, y, c2]
  refine N_BT_told_0 ⟨fun z => ref _ (by omega) (by omega) (fun _ => rfl) (fun q => by omega) (fun q => by omega) (fun q => by omega) (fun q => by omega) (fun q => by omega), fun _ => ⟨fun z => ref _ (by omega) (by omega) (fun q => by omega) (fun _ => rfl) (fun q => by omega) (fun q => by omega) (fun q => by omega) (fun q => by omega), fun _ => ⟨fun z => ref _ (by omega) (by omega) (fun q => by omega) (fun q => by omega) (fun _ => rfl) (fun q => by omega) (fun q => by omega) (fun q => by omega), fun _ => ⟨fun z => ref _ (by omega) (by omega) (fun q => by omega) (fun q => by omega) (fun q => by omega) (fun _ => rfl) (fun q => by omega) (fun q => by omega), fun _ => ⟨fun z => ref _ (by omega) (by omega) (fun q => by omega) (fun q => by omega) (fun q => by omega) (fun q => by omega) (fun _ => rfl) (fun q => by omega), fun _ => ⟨fun z => ref _ (by omega) (by omega) (fun q => by omega) (fun q => by omega) (fun q => by omega) (fun q => by omega) (fun q => by omega) (fun _ => rfl), fun z => ⟨by omega, fun g1 hg1 => ?_⟩⟩⟩⟩⟩⟩⟩
  have rb := fun {d : Nat} (q : 0 < d) => ref_bad (d := d) (⟨by assumption, by assumption, c0, c1, c2⟩ : BIx h) H hg1 q
  exact N_Mo_told_0 ⟨by omega, c_in (fun _ _ => by omega) (fun _ => ⟨fun _ => rb (by omega), fun z => absurd rfl z⟩)⟩
theorem b_ran {d : Nat} {h : HP} {w : Int} {R : HP → Prop} (hd : 20 < d) (B : BIx h) (N : RnR h) (H : ∀ h2, BIx h2 → FrB h h2 → R h2) :
    Go d M_BT_ran 0 [(21, 1), (0, w)] [] h (fun r1 h1 => Go d M_Mo_ran 0 [(22, 135), (0, w)] [] h1 (fun r2 h2 => r1 = r2 ∧ R h2)) := by
  have done := H h B (FrB_refl h)
  have ref : ∀ r : Int, 0 ≤ w → w ≤ 3 → r = h 189 w → Go d M_Mo_ran 0 [(22, 135), (0, w)] [] h (fun r2 h2 => r = r2 ∧ R h2) := by
    intro r w0 w3 q
    exact N_Mo_ran_0 ⟨by omega, c_in (fun _ _ => ⟨fun z => absurd z (by decide), fun _ => ⟨⟨w0, by omega⟩, q, done⟩⟩) (fun z => by omega)⟩
  refine N_BT_ran_0 ⟨fun z => ref _ (by omega) (by omega) (by rw [z, N.1.1]), fun _ => ⟨fun z => ref _ (by omega) (by omega) (by rw [z, N.1.2.1]), fun _ => ⟨fun z => ref _ (by omega) (by omega) (by rw [z, N.1.2.2.1]), fun _ => ⟨fun z => ref _ (by omega) (by omega) (by rw [z, N.1.2.2.2.1]), fun z => ⟨by omega, fun g1 hg1 => ?_⟩⟩⟩⟩⟩
  have rb := fun {d : Nat} (q : 0 < d) => ref_bad (d := d) B H hg1 q
  exact N_Mo_ran_0 ⟨by omega, c_in (fun _ _ => by omega) (fun _ => ⟨fun _ => rb (by omega), fun z => absurd rfl z⟩)⟩
theorem b_typeAt {d : Nat} {h : HP} {i : Int} {R : HP → Prop} (hd : 20 < d) (B : BIx h) (N : RnR h) (H : ∀ h2, BIx h2 → FrB h h2 → R h2) :
    Go d M_BT_typeAt 0 [(21, 1), (0, i)] [] h (fun r1 h1 => Go d M_Mo_typeAt 0 [(22, 135), (0, i)] [] h1 (fun r2 h2 => r1 = r2 ∧ R h2)) := by
  have done := H h B (FrB_refl h)
  obtain ⟨⟨_, _, n2, _, _⟩, ⟨k0, k1, _, _⟩, r1, _⟩ := N
  have sz : aSZ (131 + 1) = 200 := rfl
  refine N_BT_typeAt_0 ⟨fun w => ⟨by omega, V_Kept_byteAt_0 ⟨fun z => by omega, fun _ => ⟨fun z => N_Mo_typeAt_0 ⟨fun _ => ⟨⟨by decide, by decide⟩, fun _ => ⟨rfl, done⟩, fun u => by omega⟩, fun u => by omega⟩, fun z => ⟨⟨w, by rw [sz]; omega⟩, N_Mo_typeAt_0 ⟨fun _ => ⟨⟨by decide, by decide⟩, fun u => by omega, fun u => ⟨⟨w, by omega⟩, (r1 i w z).symm, done⟩⟩, fun u => by omega⟩⟩⟩⟩⟩, fun w => ⟨by omega, fun g1 hg1 => ?_⟩⟩
  have rb := fun {d : Nat} (q : 0 < d) => ref_bad (d := d) B H hg1 q
  exact N_Mo_typeAt_0 ⟨fun u => by omega, fun _ => rb (by omega)⟩
theorem b_valueAt {d : Nat} {h : HP} {i : Int} {R : HP → Prop} (hd : 20 < d) (B : BIx h) (N : RnR h) (H : ∀ h2, BIx h2 → FrB h h2 → R h2) :
    Go d M_BT_valueAt 0 [(21, 1), (0, i)] [] h (fun r1 h1 => Go d M_Mo_valueAt 0 [(22, 135), (0, i)] [] h1 (fun r2 h2 => r1 = r2 ∧ R h2)) := by
  have done := H h B (FrB_refl h)
  obtain ⟨⟨_, _, _, n3, _⟩, ⟨_, _, k0, k1⟩, _, r1⟩ := N
  have sz : aSZ (133 + 1) = 200 := rfl
  refine N_BT_valueAt_0 ⟨fun w => ⟨by omega, V_Kept_byteAt_0 ⟨fun z => by omega, fun _ => ⟨fun z => N_Mo_valueAt_0 ⟨fun _ => ⟨⟨by decide, by decide⟩, fun _ => ⟨rfl, done⟩, fun u => by omega⟩, fun u => by omega⟩, fun z => ⟨⟨w, by rw [sz]; omega⟩, N_Mo_valueAt_0 ⟨fun _ => ⟨⟨by decide, by decide⟩, fun u => by omega, fun u => ⟨⟨w, by omega⟩, (r1 i w z).symm, done⟩⟩, fun u => by omega⟩⟩⟩⟩⟩, fun w => ⟨by omega, fun g1 hg1 => ?_⟩⟩
  have rb := fun {d : Nat} (q : 0 < d) => ref_bad (d := d) B H hg1 q
  exact N_Mo_valueAt_0 ⟨fun u => by omega, fun _ => rb (by omega)⟩
theorem c_consOf {d : Nat} {h : HP} {k : Int} {Q : PQ} (n1 : h 36 4 ≤ 10) (H1 : 0 ≤ k → k < h 36 4 → Q (41 + 2 * k) h) (H0 : (k < 0 ∨ h 36 4 ≤ k) → Q 0 h) : Go d M_Program_constructorOf 0 [(14, 36), (0, k)] [] h Q := by
  have sz : aSZ (36 + 1) = 10 := rfl
  refine V_Program_constructorOf_0 ⟨fun w => H0 (Or.inl w), fun w => ⟨fun v => H0 (Or.inr v), fun v => ⟨⟨w, by rw [sz]; omega⟩, ?_⟩⟩⟩
  have e : (36 : Int) + 1 + 4 + 2 * k = 41 + 2 * k := by omega
  rw [e]
  exact H1 w v
theorem c_funcOf {d : Nat} {h : HP} {k : Int} {Q : PQ} (n1 : h 36 5 ≤ 6) (H1 : 0 ≤ k → k < h 36 5 → Q (61 + 5 * k) h) (H0 : (k < 0 ∨ h 36 5 ≤ k) → Q 0 h) : Go d M_Program_functionOf 0 [(14, 36), (0, k)] [] h Q := by
  have sz : aSZ (36 + 2) = 6 := rfl
  refine V_Program_functionOf_0 ⟨fun w => H0 (Or.inl w), fun w => ⟨fun v => H0 (Or.inr v), fun v => ⟨⟨w, by rw [sz]; omega⟩, ?_⟩⟩⟩
  have e : (36 : Int) + 2 + 23 + 5 * k = 61 + 5 * k := by omega
  rw [e]
  exact H1 w v
theorem c_isCons {d : Nat} {h : HP} {k : Int} {Q : PQ} (hd : 0 < d) (n0 : 0 ≤ h 135 30) (n1 : h 135 30 ≤ 10) (H1 : 0 ≤ k → k < h 135 30 → Q 1 h) (H0 : (k < 0 ∨ h 135 30 ≤ k) → Q 0 h) : Go d M_Mo_isConstructor 0 [(22, 135), (0, k)] [] h Q :=
  N_Mo_isConstructor_0 ⟨by unfold r32; omega, hd, c_in (fun a b => ⟨Or.inr rfl, H1 a (by omega)⟩) (fun a => ⟨Or.inl rfl, H0 (by omega)⟩)⟩
theorem c_isFunc {d : Nat} {h : HP} {k : Int} {Q : PQ} (hd : 0 < d) (n0 : 0 ≤ h 135 31) (n1 : h 135 31 ≤ 6) (H1 : 0 ≤ k → k < h 135 31 → Q 1 h) (H0 : (k < 0 ∨ h 135 31 ≤ k) → Q 0 h) : Go d M_Mo_isFunction 0 [(22, 135), (0, k)] [] h Q :=
  N_Mo_isFunction_0 ⟨by unfold r32; omega, hd, c_in (fun a b => ⟨Or.inr rfl, H1 a (by omega)⟩) (fun a => ⟨Or.inl rfl, H0 (by omega)⟩)⟩
theorem b_constructor {d : Nat} {h : HP} {k w : Int} {R : HP → Prop} (hd : 20 < d) (B : BIx h) (D : DcR h) (H : ∀ h2, BIx h2 → FrB h h2 → R h2) :
    Go d M_BT_constructor 0 [(21, 1), (0, k), (0, w), (2, 0)] [] h (fun r1 h1 => Go d M_Mo_constructor 0 [(22, 135), (0, k), (0, w)] [] h1 (fun r2 h2 => r1 = r2 ∧ R h2)) := by
  have done := H h B (FrB_refl h)
  obtain ⟨⟨a0, a1, a2, a3, a4, a5⟩, cs, _⟩ := D
  have bad : ¬ (0 ≤ k ∧ k < h 36 4 ∧ 0 ≤ w ∧ w ≤ 2) → ∀ g1 : HP, g1 = up2 h 1 12 (w32 (h 1 12 + 1)) → Go d M_Mo_constructor 0 [(22, 135), (0, k), (0, w)] [] g1 (fun r2 h2 => -2 = r2 ∧ R h2) := by
    intro nb g1 hg1
    have f1 : g1 135 30 = h 135 30 := by rw [hg1, up2_nc (by decide)]
    have rb := fun {d : Nat} (q : 0 < d) => ref_bad (d := d) B H hg1 q
    exact N_Mo_constructor_0 ⟨by omega, c_isCons (by omega) (by omega) (by omega) (fun x0 x1 => ⟨fun z => absurd z (by decide), fun _ => ⟨by omega, c_in (fun a b => absurd ⟨x0, by omega, a, b⟩ nb) (fun _ => ⟨fun z => absurd rfl z, fun _ => rb (by omega)⟩)⟩⟩) (fun _ => ⟨fun _ => rb (by omega), fun z => absurd rfl z⟩)⟩
  refine N_BT_constructor_0 ⟨by omega, c_consOf a1 (fun k0 k1 => ⟨fun _ => ?_, fun z => by omega⟩) (fun z => ⟨fun z => absurd rfl z, fun _ => ⟨by omega, bad (by omega)⟩⟩)⟩
  obtain ⟨s, e4, _⟩ := cs k k0 k1
  have ref : ∀ r : Int, 0 ≤ w → w ≤ 2 → (w = 0 → r = h 155 k) → (w = 1 → r = h 153 k) → (w = 2 → r = h 154 k) → Go d M_Mo_constructor 0 [(22, 135), (0, k), (0, w)] [] h (fun r2 h2 => r = r2 ∧ R h2) := by
    intro r w0 w2 q0 q1 q2
    exact N_Mo_constructor_0 ⟨by omega, c_isCons (by omega) (by omega) (by omega) (fun _ _ => ⟨fun z => absurd z (by decide), fun _ => ⟨by omega, c_in (fun _ _ => ⟨fun _ => ⟨fun z => ⟨fun u => ⟨⟨k0, by omega⟩, q2 (by omega), done⟩, fun u => ⟨⟨k0, by omega⟩, q1 u, done⟩⟩, fun z => ⟨⟨k0, by omega⟩, q0 z, done⟩⟩, fun z => absurd z (by decide)⟩) (fun z => by omega)⟩⟩) (fun z => by omega)⟩
  exact ⟨fun z => ⟨by omega, ref _ (by omega) (by omega) (fun _ => e4.symm) (fun q => by omega) (fun q => by omega)⟩, fun _ => ⟨fun z => ⟨by omega, ref _ (by omega) (by omega) (fun q => by omega) (fun _ => s.2.1.symm) (fun q => by omega)⟩, fun _ => ⟨fun z => ⟨by omega, ref _ (by omega) (by omega) (fun q => by omega) (fun q => by omega) (fun _ => s.2.2.1.symm)⟩, fun _ => ⟨by omega, bad (by omega)⟩⟩⟩⟩
theorem b_function {d : Nat} {h : HP} {k w : Int} {R : HP → Prop} (hd : 20 < d) (B : BIx h) (D : DcR h) (H : ∀ h2, BIx h2 → FrB h h2 → R h2) :
    Go d M_BT_function 0 [(21, 1), (0, k), (0, w), (2, 0)] [] h (fun r1 h1 => Go d M_Mo_function 0 [(22, 135), (0, k), (0, w)] [] h1 (fun r2 h2 => r1 = r2 ∧ R h2)) := by
  have done := H h B (FrB_refl h)
  obtain ⟨⟨a0, a1, a2, a3, a4, a5⟩, _, fs⟩ := D
  have bad : ¬ (0 ≤ k ∧ k < h 36 5 ∧ 0 ≤ w ∧ w ≤ 2) → ∀ g1 : HP, g1 = up2 h 1 12 (w32 (h 1 12 + 1)) → Go d M_Mo_function 0 [(22, 135), (0, k), (0, w)] [] g1 (fun r2 h2 => -2 = r2 ∧ R h2) := by
    intro nb g1 hg1
    have f1 : g1 135 31 = h 135 31 := by rw [hg1, up2_nc (by decide)]
    have rb := fun {d : Nat} (q : 0 < d) => ref_bad (d := d) B H hg1 q
    exact N_Mo_function_0 ⟨by omega, c_isFunc (by omega) (by omega) (by omega) (fun x0 x1 => ⟨fun z => absurd z (by decide), fun _ => ⟨by omega, c_in (fun a b => absurd ⟨x0, by omega, a, b⟩ nb) (fun _ => ⟨fun z => absurd rfl z, fun _ => rb (by omega)⟩)⟩⟩) (fun _ => ⟨fun _ => rb (by omega), fun z => absurd rfl z⟩)⟩
  refine N_BT_function_0 ⟨by omega, c_funcOf a4 (fun k0 k1 => ⟨fun _ => ?_, fun z => by omega⟩) (fun z => ⟨fun z => absurd rfl z, fun _ => ⟨by omega, bad (by omega)⟩⟩)⟩
  obtain ⟨s, bd⟩ := fs k k0 k1
  have ref : ∀ r : Int, 0 ≤ w → w ≤ 2 → (w = 0 → r = h 153 (10 + k)) → (w = 1 → r = h 154 (10 + k)) → (w = 2 → r = h 167 k) → Go d M_Mo_function 0 [(22, 135), (0, k), (0, w)] [] h (fun r2 h2 => r = r2 ∧ R h2) := by
    intro r w0 w2 q0 q1 q2
    exact N_Mo_function_0 ⟨by omega, c_isFunc (by omega) (by omega) (by omega) (fun _ _ => ⟨fun z => absurd z (by decide), fun _ => ⟨by omega, c_in (fun _ _ => ⟨fun _ => ⟨fun z => ⟨fun u => ⟨⟨k0, by omega⟩, q2 (by omega), done⟩, fun u => ⟨by unfold r32; omega, ⟨by omega, by omega⟩, q1 u, done⟩⟩, fun z => ⟨by unfold r32; omega, ⟨by omega, by omega⟩, q0 z, done⟩⟩, fun z => absurd z (by decide)⟩) (fun z => by omega)⟩⟩) (fun z => by omega)⟩
  have sz4 : aSZ (36 + 4) = 6 := rfl
  have sz3 : aSZ (36 + 3) = 6 := rfl
  refine ⟨fun z => ⟨by omega, ref _ (by omega) (by omega) (fun _ => s.2.1.symm) (fun q => by omega) (fun q => by omega)⟩, fun _ => ⟨fun z => ⟨by omega, ref _ (by omega) (by omega) (fun q => by omega) (fun _ => s.2.2.1.symm) (fun q => by omega)⟩, fun _ => ⟨fun z => ⟨by omega, V_Program_bodySizeOf_0 ⟨by omega, V_Program_bodyOf_0 ⟨fun q => by omega, fun _ => ⟨fun q => by omega, fun _ => ⟨⟨k0, by rw [sz4]; omega⟩, fun q => ⟨fun q => absurd rfl q, fun _ => ref _ (by omega) (by omega) (fun q => by omega) (fun q => by omega) (fun _ => ?_)⟩, fun q => ⟨⟨k0, by rw [sz3]; omega⟩, fun _ => ⟨by omega, ref _ (by omega) (by omega) (fun q => by omega) (fun q => by omega) (fun _ => ?_)⟩, fun q => by omega⟩⟩⟩⟩⟩⟩, fun _ => ⟨by omega, bad (by omega)⟩⟩⟩⟩
  · have q : h 40 k = 0 := q
    rcases bd with ⟨_, b⟩ | ⟨b, _⟩
    · exact b.symm
    · omega
  · have q : h 40 k ≠ 0 := q
    rcases bd with ⟨b, _⟩ | ⟨_, b, _⟩
    · exact absurd b q
    · rw [b]
      have e : (36 : Int) + 3 + 24 + 5 * k = 63 + 5 * k := by omega
      rw [e]
end
