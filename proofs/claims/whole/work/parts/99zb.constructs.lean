section
/-! constructs, signs -/
def SgO (h : HP) (a : Int) : Prop := rdS (h (a + 1)) (h a 1) (h a 1) 3 0 = h a 2
/-- the signatures that are declared are signatures -/
def DcO (h : HP) : Prop := (∀ k, 0 ≤ k → k < h 36 4 → SgO h (41 + 2 * k)) ∧ ∀ f, 0 ≤ f → f < h 36 5 → SgO h (61 + 5 * f)
/-- what a declaring call leaves -/
def FrS (h h' : HP) : Prop := ∀ a i, ¬ (a = 1 ∧ 11 ≤ i ∧ i ≤ 14) → ¬ (4 < a ∧ a < 30) → ¬ (a = 30 ∧ (i = 2 ∨ i = 4 ∨ i = 5)) → ¬ (a = 36 ∧ (i = 4 ∨ i = 5)) → ¬ (a = 40 ∧ h 36 5 ≤ i) → a ≠ 41 + 2 * h 36 4 → a ≠ 42 + 2 * h 36 4 → a ≠ 61 + 5 * h 36 5 → a ≠ 62 + 5 * h 36 5 → ¬ (a = 135 ∧ 14 ≤ i) → ¬ (136 < a ∧ a < 156) → a ≠ 157 → ¬ (a = 167 ∧ h 36 5 ≤ i) → h' a i = h a i
theorem FrS_of {h h' : HP} (f : FrB h h') : FrS h h' := by
  intro a i p1 p2 p3 p4 p5 p6 p7 p8 p9 p10 p11 p12 p13
  by_cases e1 : a = 1
  · subst e1; exact f.2.1 i (by omega)
  · by_cases e2 : a = 135
    · subst e2; exact f.2.2 i (by omega)
    · exact f.1 a i (by omega)
theorem DcO_ag {h h' : HP} (e4 : h' 36 4 = h 36 4) (e5 : h' 36 5 = h 36 5) (o : ∀ x i, 41 ≤ x → x < 93 → h' x i = h x i) (D : DcR h) (O : DcO h) : DcO h' := by
  have sg : ∀ x, 41 ≤ x → x < 92 → SgO h x → SgO h' x := by
    intro x p q s
    unfold SgO at *
    rw [o x 1 p (by omega), o x 2 p (by omega), show h' (x + 1) = h (x + 1) from funext fun i => o (x + 1) i (by omega) (by omega)]
    exact s
  have := D.1
  refine ⟨fun k k0 k1 => sg _ (by omega) (by omega) (O.1 k k0 (by omega)), fun k k0 k1 => sg _ (by omega) (by omega) (O.2 k k0 (by omega))⟩
theorem DcO_fr {h h' : HP} (f : FrB h h') (D : DcR h) (O : DcO h) : DcO h' := DcO_ag (f.1 36 4 (by omega)) (f.1 36 5 (by omega)) (fun x i p q => f.1 x i (by omega)) D O
theorem DcO_fx {h h' : HP} (f : FrX h h') (D : DcR h) (O : DcO h) : DcO h' := DcO_ag (f.1 36 4 (by omega) (by omega) (by omega) (by omega)) (f.1 36 5 (by omega) (by omega) (by omega) (by omega)) (fun x i p q => f.1 x i (by omega) (by omega) (by omega) (by omega)) D O
theorem SgR_keep {h h' : HP} {a j : Int} (s : SgR h a j) (o : ∀ i, h' a i = h a i) (o1 : ∀ i, h' (a + 1) i = h (a + 1) i) (r2 : h' 152 j = h 152 j) (r3 : h' 153 j = h 153 j) (r4 : h' 154 j = h 154 j) (r1 : ∀ i, 24 * j ≤ i → i < 24 * j + 24 → h' 151 i = h 151 i) : SgR h' a j := by
  obtain ⟨s1, s2, s3, s4, s5, s6⟩ := s
  refine ⟨by rw [r2, o]; exact s1, by rw [r3, o]; exact s2, by rw [r4, o]; exact s3, by rw [o]; exact s4, by rw [o]; exact s5, fun i i0 i1 => ?_⟩
  rw [o] at i1
  rw [r1 _ (by omega) (by omega), o1]
  exact s6 i i0 i1
theorem occ_congr {b b' : Int → Int} {c : Int} : ∀ n : Nat, (∀ i : Int, 0 ≤ i → i < n → b' i = b i) → occ b' c n = occ b c n := by
  intro n
  induction n with
  | zero => intro _; rfl
  | succ n ih =>
    intro e
    rw [occ, occ, e n (by omega) (by omega), ih (fun i a d => e i a (by omega))]
theorem SgR_new {b b' : Int → Int} {h' : HP} {a j n c : Int} (n0 : 0 ≤ n) (n1 : n ≤ 24) (c0 : 0 ≤ c) (c3 : c ≤ 3) (S : SgN b h' a n c) (e2 : h' 152 j = n) (e3 : h' 153 j = c) (e4 : h' 154 j = occ b' 117 n.toNat + occ b' 118 n.toNat + occ b' 119 n.toNat) (e1 : ∀ i, 0 ≤ i → i < n → h' 151 (24 * j + i) = b' i) (eb : ∀ i, 0 ≤ i → i < n → b' i = b i) : SgR h' a j := by
  obtain ⟨s1, s2, s3, s4⟩ := S
  have oc : ∀ c : Int, occ b' c n.toNat = occ b c n.toNat := fun c => occ_congr _ (fun i a d => eb i a (by omega))
  refine ⟨by rw [e2, s1], by rw [e3, s2], by rw [e4, s3, oc, oc, oc], by rw [s1]; exact ⟨n0, n1⟩, by rw [s2]; exact ⟨c0, c3⟩, fun i i0 i1 => ?_⟩
  rw [s1] at i1
  rw [e1 i i0 i1, s4 i i0 i1, eb i i0 i1]
theorem SgO_new {b : Int → Int} {h' : HP} {a n c : Int} (S : SgN b h' a n c) (e : rdS b n n 3 0 = c) : SgO h' a := by
  obtain ⟨s1, s2, s3, s4⟩ := S
  unfold SgO
  rw [s1, s2, rdS_congr (b := b) (b' := h' (a + 1)) 3 0 (by omega) (fun i i0 i1 => s4 i i0 i1)]
  exact e
theorem rdS_bd {b : Int → Int} {n m : Int} : ∀ (j : Nat) (p : Int), j ≤ 3 → 0 ≤ p → p ≤ m → -1 - m ≤ rdS b n m j p := by
  have E : ∀ (c p : Int), 0 ≤ c → 0 ≤ p → p < m → -1 - m ≤ rdE b n m c p := by
    intro c p c0 p0 p1
    have l := rdT_le (b := b) _ (m - (p + 1)).toNat 1 (p + 1) (Nat.le_refl _) (by omega)
    unfold rdE
    generalize rdT b (m - (p + 1)).toNat 1 (p + 1) = t at l
    by_cases c0 : t < 0
    · rw [if_pos c0]; omega
    · rw [if_neg c0]
      by_cases c1 : t = n
      · rw [if_pos c1]; omega
      · rw [if_neg c1]; omega
  intro j
  induction j with
  | zero =>
    intro p hj p0 p1
    by_cases q : p < m ∧ b p = 58
    · rw [rdS_c q.1 q.2]; exact E _ p (by omega) p0 q.1
    · rw [rdS_z q]; omega
  | succ j ih =>
    intro p hj p0 p1
    by_cases q : p < m ∧ b p = 58
    · rw [rdS_c q.1 q.2]; exact E _ p (by omega) p0 q.1
    · rw [rdS_s q]
      have l := rdT_le (b := b) _ (m - p).toNat 1 p (Nat.le_refl _) p0
      generalize rdT b (m - p).toNat 1 p = t at l
      by_cases c0 : t < 0
      · rw [if_pos c0]; omega
      · rw [if_neg c0]
        by_cases y : t < m ∧ b t = 44
        · rw [if_pos y]; exact ih (t + 1) (by omega) (by omega) (by omega)
        · rw [if_neg y]; omega
theorem rdH_lb {h : HP} {a : Int} (n0 : 0 ≤ h a 2) : -25 ≤ rdH h a := by
  have := rdS_bd (b := h (a + 1)) (n := h a 2) (m := min (h a 2) 24) 3 0 (by omega) (by omega) (by omega)
  show -25 ≤ rdS (h (a + 1)) (h a 2) (min (h a 2) 24) 3 0
  omega
theorem RnR_ag {h h' : HP} (o : ∀ x i, 130 < x → x < 135 ∨ (188 < x ∧ x < 192) → h' x i = h x i) (e9 : h' 1 9 = h 1 9) (e10 : h' 1 10 = h 1 10) (e24 : h' 135 24 = h' 1 11) (N : RnR h) : RnR h' := by
  obtain ⟨⟨n1, n2, n3, n4, n5⟩, n6, n7, n8⟩ := N
  refine ⟨⟨?_, ?_, ?_, ?_, e24⟩, ?_, fun i i0 i1 => ?_, fun i i0 i1 => ?_⟩
  · rw [o 189 0 (by omega) (by omega), e9]; exact n1
  · rw [o 189 1 (by omega) (by omega), e10]; exact n2
  · rw [o 189 2 (by omega) (by omega), o 131 1 (by omega) (by omega)]; exact n3
  · rw [o 189 3 (by omega) (by omega), o 133 1 (by omega) (by omega)]; exact n4
  · rw [o 131 1 (by omega) (by omega), o 133 1 (by omega) (by omega)]; exact n6
  · rw [o 131 1 (by omega) (by omega)] at i1
    rw [o 190 i (by omega) (by omega), o 132 i (by omega) (by omega)]; exact n7 i i0 i1
  · rw [o 133 1 (by omega) (by omega)] at i1
    rw [o 191 i (by omega) (by omega), o 134 i (by omega) (by omega)]; exact n8 i i0 i1
theorem DcR_ag {h h' : HP} (o : ∀ x i, 35 < x → x < 93 ∨ (150 < x ∧ x < 156) ∨ x = 167 → h' x i = h x i) (e30 : h' 135 30 = h 135 30) (e31 : h' 135 31 = h 135 31) (D : DcR h) : DcR h' := by
  obtain ⟨a, b, c⟩ := D
  refine ⟨?_, fun k k0 k1 => ?_, fun k k0 k1 => ?_⟩
  · rw [o 36 4 (by omega) (by omega), o 36 5 (by omega) (by omega), e30, e31]; exact a
  · rw [o 36 4 (by omega) (by omega)] at k1
    obtain ⟨s, t⟩ := b k k0 k1
    refine ⟨SgR_keep s (fun i => o _ _ (by omega) (by omega)) (fun i => o _ _ (by omega) (by omega)) (o _ _ (by omega) (by omega)) (o _ _ (by omega) (by omega)) (o _ _ (by omega) (by omega)) (fun i _ _ => o _ _ (by omega) (by omega)), ?_⟩
    rw [o 155 k (by omega) (by omega), o (41 + 2 * k) 4 (by omega) (by omega)]
    exact t
  · rw [o 36 5 (by omega) (by omega)] at k1
    obtain ⟨s, t⟩ := c k k0 k1
    refine ⟨SgR_keep s (fun i => o _ _ (by omega) (by omega)) (fun i => o _ _ (by omega) (by omega)) (o _ _ (by omega) (by omega)) (o _ _ (by omega) (by omega)) (o _ _ (by omega) (by omega)) (fun i _ _ => o _ _ (by omega) (by omega)), ?_⟩
    rw [o 40 k (by omega) (by omega), o 167 k (by omega) (by omega), o (63 + 5 * k) 3 (by omega) (by omega)]
    exact t
/-- the reference reads the text as a heading -/
theorem c_headR {d : Nat} {h g5 : HP} {X : PQ} (hd : 20 < d) (T : TxR h) (o : ∀ x i, 134 < x → g5 x i = h x i)
    (H1 : 0 ≤ rdH h 30 → h 30 2 ≤ 24 → ∀ g8 : HP, (∀ x i, x ≠ 157 → ¬ (x = 135 ∧ i = 33) → ¬ (x = 135 ∧ i = 35) → ¬ (x = 135 ∧ i = 36) → g8 x i = g5 x i) → g8 135 33 = 0 → g8 135 35 = h 30 2 → (∀ i, 0 ≤ i → i < h 30 2 → g8 157 i = h 31 i) → X 1 g8)
    (H0 : rdH h 30 < 0 → ∀ g8 : HP, (∀ x i, x ≠ 157 → ¬ (x = 135 ∧ i = 33) → ¬ (x = 135 ∧ i = 35) → ¬ (x = 135 ∧ i = 36) → g8 x i = g5 x i) → g8 135 33 = 0 → g8 135 36 = -1 - rdH h 30 → X 0 g8) :
    Go (d - 1) M_Mo_takesText 0 [(22, 135), (2, 0)] [] g5 (fun _ k2 => 0 < d ∧ Go (d - 1) M_Mo_isHeading 0 [(22, 135), (2, 0)] [] k2 X) := by
  obtain ⟨⟨t0, t1, t2⟩, t3⟩ := T
  have f33 : g5 135 33 = h 30 2 := by rw [o 135 33 (by decide)]; exact t2
  refine c_takes f33 t0 t1 (fun g6 o6 l6 z6 r6 => ⟨by omega, N_Mo_isHeading_0 (fun g7 h7 => ?_)⟩)
  have o7 : ∀ x i, ¬ (x = 135 ∧ i = 36) → g7 x i = g6 x i := fun x i p => by rw [h7, up2_ext p]
  have r7 : ∀ i, 0 ≤ i → i < h 30 2 → g7 157 i = h 31 i := fun i i0 i1 => by rw [o7 157 i (by omega), r6 i i0 i1, o 156 i (by decide)]; exact (t3 i i0 i1).1
  have eS : rdS (g7 157) (h 30 2) (min (h 30 2) 24) 3 0 = rdH h 30 := rdS_congr (b := h 31) (b' := g7 157) 3 0 (by omega) (fun i i0 i1 => r7 i i0 (by omega))
  refine c_isHead0 (n := h 30 2) (m := min (h 30 2) 24) (by omega) (by rw [o7 135 35 (by omega)]; exact l6) t0 t1 (by omega) (by omega) (by omega) (by rw [h7, up2_eq]) ?_ ?_
  · rw [eS]
    intro e g8 f8
    have ln := rdS_len (b := h 31) (n := h 30 2) (m := min (h 30 2) 24) (by omega) 3 0 (by omega) e
    refine H1 e (by omega) g8 (fun x i p q r t => ?_) ?_ ?_ (fun i i0 i1 => ?_)
    · rw [f8 x i t, o7 x i t]; exact o6 x i p q r
    · rw [f8 135 33 (by omega), o7 135 33 (by omega)]; exact z6
    · rw [f8 135 35 (by omega), o7 135 35 (by omega)]; exact l6
    · rw [f8 157 i (by omega)]; exact r7 i i0 i1
  · rw [eS]
    intro e g8 f8 e8
    refine H0 e g8 (fun x i p q r t => ?_) ?_ e8
    · rw [f8 x i t, o7 x i t]; exact o6 x i p q r
    · rw [f8 135 33 (by omega), o7 135 33 (by omega)]; exact z6
theorem b_constructs {d : Nat} {h : HP} {fam : Int} {R : HP → Prop} (hd : 40 < d) (B : BIx h) (T : TxR h) (D : DcR h) (O : DcO h) (N : RnR h) (H : ∀ h2, BIx h2 → TxR h2 → DcR h2 → DcO h2 → RnR h2 → FrS h h2 → R h2) :
    Go d M_BT_constructs 0 [(21, 1), (0, fam)] [] h (fun r1 h1 => Go d M_Mo_constructs 0 [(22, 135), (0, fam)] [] h1 (fun r2 h2 => r1 = r2 ∧ R h2)) := by
  have H' : ∀ h2, BIx h2 → FrB h h2 → R h2 := fun h2 b f => H h2 b (TxR_fr f T) (DcR_fr f D) (DcO_fr f D O) (RnR_fr f N) (FrS_of f)
  obtain ⟨⟨a0, a1, a2, a3, a4, a5⟩, cs, fs⟩ := D
  obtain ⟨⟨t0, t1, t2⟩, t3⟩ := T
  have bad : ¬ (0 ≤ fam ∧ fam ≤ 3) → ∀ g1 : HP, g1 = up2 h 1 12 (w32 (h 1 12 + 1)) → Go d M_Mo_constructs 0 [(22, 135), (0, fam)] [] g1 (fun r2 h2 => -2 = r2 ∧ R h2) := by
    intro nb g1 hg1
    have rb := fun {d : Nat} (q : 0 < d) => ref_bad (d := d) B H' hg1 q
    exact N_Mo_constructs_0 ⟨by omega, c_in (fun a b => absurd ⟨a, b⟩ nb) (fun _ => ⟨fun z => absurd rfl z, fun _ => rb (by omega)⟩)⟩
  refine N_BT_constructs_0 ⟨fun z => ⟨by omega, bad (by omega)⟩, fun f0 => ⟨fun f1 => ⟨fun w5 => ⟨fun w4 => ⟨by omega, ?_⟩, fun w4 => ⟨by omega, fun g1 hg1 => ?_⟩⟩, fun w5 => ⟨by omega, fun g1 hg1 => ?_⟩⟩, fun z => ⟨by omega, bad (by omega)⟩⟩⟩
  · -- how the reference goes on from a heap that differs from h in the class's cells alone
    have ref : ∀ (g5 : HP) (P : PQ), (∀ x i, 134 < x → g5 x i = h x i) → (0 ≤ rdH h 30 → h 30 2 ≤ 24 → ∀ g8 : HP, (∀ x i, x ≠ 157 → ¬ (x = 135 ∧ i = 33) → ¬ (x = 135 ∧ i = 35) → ¬ (x = 135 ∧ i = 36) → g8 x i = g5 x i) → g8 135 33 = 0 → g8 135 35 = h 30 2 → (∀ i, 0 ≤ i → i < h 30 2 → g8 157 i = h 31 i) → Go (d - 1) M_Mo_declares 0 [(22, 135), (0, fam)] [] g8 (fun y4 k4 => r32 ((k4 135 30) - 1) ∧ P ((k4 135 30) - 1) k4)) → (rdH h 30 < 0 → ∀ g8 : HP, (∀ x i, x ≠ 157 → ¬ (x = 135 ∧ i = 33) → ¬ (x = 135 ∧ i = 35) → ¬ (x = 135 ∧ i = 36) → ¬ (x = 135 ∧ i = 24) → g8 x i = g5 x i) → g8 135 33 = 0 → g8 135 24 = 1 → P (-10 - (-1 - rdH h 30)) g8) → Go d M_Mo_constructs 0 [(22, 135), (0, fam)] [] g5 P := by
      intro g5 P o H1 H0
      have f30 : g5 135 30 = h 36 4 := by rw [o 135 30 (by decide)]; exact a2
      have f31 : g5 135 31 = h 36 5 := by rw [o 135 31 (by decide)]; exact a5
      refine N_Mo_constructs_0 ⟨by omega, c_in (fun _ _ => ⟨fun _ => ⟨fun _ => ⟨fun _ => ⟨by omega, c_headR (by omega) ⟨⟨t0, t1, t2⟩, t3⟩ o (fun e ln g8 o8 z8 l8 r8 => ⟨fun _ => ⟨by omega, H1 e ln g8 o8 z8 l8 r8⟩, fun z => absurd z (by decide)⟩) (fun e g8 o8 z8 e8 => ⟨fun z => absurd rfl z, fun _ => ⟨by omega, fun g9 h9 => ?_⟩⟩)⟩, fun u => by omega⟩, fun u => by omega⟩, fun u => absurd u (by decide)⟩) (fun u => by omega)⟩
      have lb := rdH_lb (h := h) (a := 30) t0
      rw [e8]
      refine ⟨by unfold r32; omega, H0 e g9 (fun x i p q r t u => ?_) ?_ (by rw [h9, up2_eq])⟩
      · rw [h9, up2_ext u]; exact o8 x i p q r t
      · rw [h9, up2_ni (by decide)]; exact z8
    refine c_declC (by omega) (Or.inl rfl) t0 t1 a0 w4 (fun e ln g o S fm q4 => ⟨fun z => absurd z (by decide), fun _ => ?_⟩) (fun e g o e4 e5 => ⟨fun _ => ⟨by omega, fun g3 h3 => ?_⟩, fun z => absurd rfl z⟩)
    · rw [q4]
      refine ⟨by unfold r32; omega, by omega, by omega, fun g5 h5 => ref g5 _ (fun x i p => by rw [h5, up2_nc (by omega)]; exact o x i (by omega) (by omega) (by omega)) (fun _ _ g8 o8 z8 l8 r8 => ?_) (fun z => by omega)⟩
      have q8 : ∀ x i, x ≠ 41 + 2 * h 36 4 → x ≠ 41 + 2 * h 36 4 + 1 → ¬ (x = 36 ∧ i = 4) → ¬ (x = 30 ∧ i = 2) → x ≠ 157 → ¬ (x = 135 ∧ i = 33) → ¬ (x = 135 ∧ i = 35) → ¬ (x = 135 ∧ i = 36) → g8 x i = h x i := fun x i p1 p2 p3 p4 p5 p6 p7 p8 => by rw [o8 x i p5 p6 p7 p8, h5, up2_ext p4]; exact o x i p1 p2 p3
      have e30 : g8 135 30 = h 36 4 := by rw [q8 135 30 (by omega) (by omega) (by omega) (by omega) (by omega) (by omega) (by omega) (by omega)]; exact a2
      have c3 := rdS_3 (b := h 31) (n := h 30 2) (m := min (h 30 2) 24) 3 0 (by omega) (by omega)
      have eC : rdS (g8 157) (h 30 2) (h 30 2) 3 0 = rdH h 30 := by
        rw [rdS_congr (b := h 31) (b' := g8 157) 3 0 (by omega) (fun i i0 i1 => r8 i i0 i1)]
        show _ = rdS (h 31) (h 30 2) (min (h 30 2) 24) 3 0
        rw [show min (h 30 2) 24 = h 30 2 by omega]
      refine N_Mo_declares_0 ⟨by omega, ?_⟩
      rw [e30]
      refine c_keepsN a0 (by omega) l8 t0 ln e eC (fun g9 K => ?_)
      obtain ⟨k1, k2, k3, k4, k5, k6, k7⟩ := K
      have e30' : g9 135 30 = h 36 4 := by rw [k1 135 30 (by omega) (by omega) (by omega) (by omega)]; exact e30
      rw [e30']
      refine ⟨⟨a0, w4⟩, fun g10 h10 => ?_⟩
      have e30'' : g10 135 30 = h 36 4 := by rw [h10, up2_nc (by decide)]; exact e30'
      rw [e30'']
      refine ⟨by unfold r32; omega, fun g11 h11 => ?_⟩
      rw [show g11 135 30 = h 36 4 + 1 by rw [h11, up2_eq]]
      refine ⟨by unfold r32; omega, rfl, ?_⟩
      -- the heap behind both
      have w1 : ∀ x i, ¬ (x = 135 ∧ i = 30) → ¬ (x = 155 ∧ i = h 36 4) → g11 x i = g9 x i := fun x i p q => by rw [h11, up2_ext p, h10, up2_ext q]
      have w2 : ∀ x i, ¬ (x = 135 ∧ i = 30) → ¬ (x = 155 ∧ i = h 36 4) → x ≠ 151 → x ≠ 152 → x ≠ 153 → x ≠ 154 → g11 x i = g8 x i := fun x i p q r1 r2 r3 r4 => by rw [w1 x i p q]; exact k1 x i r1 r2 r3 r4
      have w : ∀ x i, x ≠ 41 + 2 * h 36 4 → x ≠ 41 + 2 * h 36 4 + 1 → ¬ (x = 36 ∧ i = 4) → ¬ (x = 30 ∧ i = 2) → x ≠ 157 → ¬ (x = 135 ∧ 29 < i) → ¬ (x = 155 ∧ i = h 36 4) → ¬ (150 < x ∧ x < 155) → g11 x i = h x i := fun x i p1 p2 p3 p4 p5 p6 p7 p8 => by rw [w2 x i (by omega) p7 (by omega) (by omega) (by omega) (by omega)]; exact q8 x i p1 p2 p3 p4 p5 (by omega) (by omega) (by omega)
      have wc : ∀ x i, 35 < x → x < 100 → g11 x i = g x i := fun x i p q => by rw [w2 x i (by omega) (by omega) (by omega) (by omega) (by omega) (by omega), o8 x i (by omega) (by omega) (by omega) (by omega), h5, up2_nc (by omega)]
      have S' : SgN (h 31) g11 (41 + 2 * h 36 4) (h 30 2) (rdH h 30) := by
        obtain ⟨s1, s2, s3, s4⟩ := S
        exact ⟨by rw [wc _ _ (by omega) (by omega)]; exact s1, by rw [wc _ _ (by omega) (by omega)]; exact s2, by rw [wc _ _ (by omega) (by omega)]; exact s3, fun i p q => by rw [wc _ _ (by omega) (by omega)]; exact s4 i p q⟩
      have e364 : g11 36 4 = h 36 4 + 1 := by rw [wc 36 4 (by omega) (by omega)]; exact q4
      have e365 : g11 36 5 = h 36 5 := w 36 5 (by omega) (by omega) (by omega) (by omega) (by omega) (by omega) (by omega) (by omega)
      refine H g11 (BIx_out B (fun a i p => w a i (by omega) (by omega) (by omega) (by omega) (by omega) (by omega) (by omega) (by omega)) (fun a i p q => w a i (by omega) (by omega) (by omega) (by omega) (by omega) (by omega) (by omega) (by omega)) ⟨fun i p q => w _ _ (by omega) (by omega) (by omega) (by omega) (by omega) (by omega) (by omega) (by omega), fun a i p q r => w _ _ (by omega) (by omega) (by omega) (by omega) (by omega) (by omega) (by omega) (by omega)⟩) ?_ ⟨?_, ?_, ?_⟩ ⟨?_, ?_⟩ ?_ ?_
      · -- the text
        have e2 : g11 30 2 = 0 := by rw [w2 30 2 (by omega) (by omega) (by omega) (by omega) (by omega) (by omega), o8 30 2 (by omega) (by omega) (by omega) (by omega), h5, up2_eq]
        have e33 : g11 135 33 = 0 := by rw [w2 135 33 (by omega) (by omega) (by omega) (by omega) (by omega) (by omega)]; exact z8
        exact ⟨⟨by omega, by omega, by omega⟩, fun i i0 i1 => by omega⟩
      · rw [e364, e365, show g11 135 30 = h 36 4 + 1 by rw [h11, up2_eq], w2 135 31 (by omega) (by omega) (by omega) (by omega) (by omega) (by omega), q8 135 31 (by omega) (by omega) (by omega) (by omega) (by omega) (by omega) (by omega) (by omega)]
        exact ⟨by omega, by omega, rfl, a3, a4, a5⟩
      · intro k k0 k1'
        by_cases z : k = h 36 4
        · subst z
          refine ⟨SgR_new (b := h 31) (b' := g8 157) t0 ln e c3 S' (by rw [w1 152 _ (by omega) (by omega)]; exact k4) (by rw [w1 153 _ (by omega) (by omega)]; exact k5) (by rw [w1 154 _ (by omega) (by omega)]; exact k6) (fun i i0 i1 => by rw [w1 151 _ (by omega) (by omega)]; exact k7 i i0 i1) r8, ?_⟩
          have e155 : g11 155 (h 36 4) = fam := by rw [h11, up2_nc (by decide), h10, up2_eq]
          rw [e155, wc (41 + 2 * h 36 4) 4 (by omega) (by omega), fm]
          exact ⟨rfl, f0, by omega⟩
        · obtain ⟨s, f⟩ := cs k k0 (by omega)
          refine ⟨SgR_keep s (fun i => w _ _ (by omega) (by omega) (by omega) (by omega) (by omega) (by omega) (by omega) (by omega)) (fun i => w _ _ (by omega) (by omega) (by omega) (by omega) (by omega) (by omega) (by omega) (by omega)) ?_ ?_ ?_ (fun i i0 i1 => ?_), ?_⟩
          · rw [w1 152 _ (by omega) (by omega), (k2 k z).1]; exact q8 152 k (by omega) (by omega) (by omega) (by omega) (by omega) (by omega) (by omega) (by omega)
          · rw [w1 153 _ (by omega) (by omega), (k2 k z).2.1]; exact q8 153 k (by omega) (by omega) (by omega) (by omega) (by omega) (by omega) (by omega) (by omega)
          · rw [w1 154 _ (by omega) (by omega), (k2 k z).2.2]; exact q8 154 k (by omega) (by omega) (by omega) (by omega) (by omega) (by omega) (by omega) (by omega)
          · rw [w1 151 _ (by omega) (by omega), k3 i (by omega)]; exact q8 151 i (by omega) (by omega) (by omega) (by omega) (by omega) (by omega) (by omega) (by omega)
          · rw [w 155 k (by omega) (by omega) (by omega) (by omega) (by omega) (by omega) (by omega) (by omega), w (41 + 2 * k) 4 (by omega) (by omega) (by omega) (by omega) (by omega) (by omega) (by omega) (by omega)]
            exact f
      · intro f p q; omega
      · intro k k0 k1'
        by_cases z : k = h 36 4
        · subst z
          refine SgO_new S' ?_
          show _ = rdS (h 31) (h 30 2) (min (h 30 2) 24) 3 0
          rw [show min (h 30 2) 24 = h 30 2 by omega]
        · have s := O.1 k k0 (by omega)
          unfold SgO at *
          rw [w (41 + 2 * k) 1 (by omega) (by omega) (by omega) (by omega) (by omega) (by omega) (by omega) (by omega), w (41 + 2 * k) 2 (by omega) (by omega) (by omega) (by omega) (by omega) (by omega) (by omega) (by omega), show g11 (41 + 2 * k + 1) = h (41 + 2 * k + 1) from funext fun i => w _ _ (by omega) (by omega) (by omega) (by omega) (by omega) (by omega) (by omega) (by omega)]
          exact s
      · intro f p q; omega
      · exact RnR_ag (fun x i p q => w x i (by omega) (by omega) (by omega) (by omega) (by omega) (by omega) (by omega) (by omega)) (w 1 9 (by omega) (by omega) (by omega) (by omega) (by omega) (by omega) (by omega) (by omega)) (w 1 10 (by omega) (by omega) (by omega) (by omega) (by omega) (by omega) (by omega) (by omega)) (by rw [w 135 24 (by omega) (by omega) (by omega) (by omega) (by omega) (by omega) (by omega) (by omega), w 1 11 (by omega) (by omega) (by omega) (by omega) (by omega) (by omega) (by omega) (by omega)]; exact N.1.2.2.2.2) N
      · intro a i p1 p2 p3 p4 p5 p6 p7 p8 p9 p10 p11 p12 p13
        exact w a i p6 (by omega) (by omega) (by omega) p12 (by omega) (by omega) (by omega)
    · -- a fault
      have g4 : g3 30 4 = -1 - rdH h 30 := by rw [h3, up2_nc (by decide)]; exact e4
      have lb := rdH_lb (h := h) (a := 30) t0
      rw [g4]
      refine ⟨by unfold r32; omega, by omega, by omega, fun g5 h5 => ref g5 _ (fun x i p => by rw [h5, up2_nc (by omega), h3, up2_nc (by omega)]; exact o x i (by omega) (by omega)) (fun z => by omega) (fun _ g8 o8 z8 y8 => ⟨rfl, ?_⟩)⟩
      have w : ∀ x i, ¬ (x = 1 ∧ i = 11) → ¬ (x = 30 ∧ (i = 2 ∨ i = 4 ∨ i = 5)) → x ≠ 157 → ¬ (x = 135 ∧ 32 < i) → ¬ (x = 135 ∧ i = 24) → g8 x i = h x i := fun x i p1 p2 p3 p4 p5 => by rw [o8 x i p3 (by omega) (by omega) (by omega) p5, h5, up2_ext (by omega), h3, up2_ext p1]; exact o x i (by omega) (by omega)
      have e111 : g8 1 11 = 1 := by rw [o8 1 11 (by omega) (by omega) (by omega) (by omega) (by omega), h5, up2_nc (by decide), h3, up2_eq]; exact e5
      exact H g8 (BIx_out B (fun a i p => w a i (by omega) (by omega) (by omega) (by omega) (by omega)) (fun a i p q => w a i (by omega) (by omega) (by omega) (by omega) (by omega)) ⟨fun i p q => w _ _ (by omega) (by omega) (by omega) (by omega) (by omega), fun a i p q r => w _ _ (by omega) (by omega) (by omega) (by omega) (by omega)⟩)
        ⟨by rw [z8, show g8 30 2 = 0 by rw [o8 30 2 (by omega) (by omega) (by omega) (by omega) (by omega), h5, up2_eq]]; omega, fun i i0 i1 => by rw [show g8 30 2 = 0 by rw [o8 30 2 (by omega) (by omega) (by omega) (by omega) (by omega), h5, up2_eq]] at i1; omega⟩
        (DcR_ag (fun x i p q => w x i (by omega) (by omega) (by omega) (by omega) (by omega)) (w 135 30 (by omega) (by omega) (by omega) (by omega) (by omega)) (w 135 31 (by omega) (by omega) (by omega) (by omega) (by omega)) ⟨⟨a0, a1, a2, a3, a4, a5⟩, cs, fs⟩)
        (DcO_ag (w 36 4 (by omega) (by omega) (by omega) (by omega) (by omega)) (w 36 5 (by omega) (by omega) (by omega) (by omega) (by omega)) (fun x i p q => w x i (by omega) (by omega) (by omega) (by omega) (by omega)) ⟨⟨a0, a1, a2, a3, a4, a5⟩, cs, fs⟩ O)
        (RnR_ag (fun x i p q => w x i (by omega) (by omega) (by omega) (by omega) (by omega)) (w 1 9 (by omega) (by omega) (by omega) (by omega) (by omega)) (w 1 10 (by omega) (by omega) (by omega) (by omega) (by omega)) (by rw [y8, e111]) N)
        (fun a i p1 p2 p3 p4 p5 p6 p7 p8 p9 p10 p11 p12 p13 => w a i (by omega) (by omega) p12 (by omega) (by omega))
  · have rb := fun {d : Nat} (q : 0 < d) => ref_full (d := d) B H' hg1 q
    have f30 : g1 135 30 = h 36 4 := by rw [hg1, up2_nc (by decide)]; exact a2
    have f31 : g1 135 31 = h 36 5 := by rw [hg1, up2_nc (by decide)]; exact a5
    exact N_Mo_constructs_0 ⟨by omega, c_in (fun _ _ => ⟨fun _ => ⟨fun _ => ⟨fun u => by omega, fun _ => rb (by omega)⟩, fun u => by omega⟩, fun u => absurd u (by decide)⟩) (fun u => by omega)⟩
  · have rb := fun {d : Nat} (q : 0 < d) => ref_no (d := d) B H' hg1 q
    have f31 : g1 135 31 = h 36 5 := by rw [hg1, up2_nc (by decide)]; exact a5
    exact N_Mo_constructs_0 ⟨by omega, c_in (fun _ _ => ⟨fun _ => ⟨fun u => by omega, fun _ => rb (by omega)⟩, fun u => absurd u (by decide)⟩) (fun u => by omega)⟩
end
