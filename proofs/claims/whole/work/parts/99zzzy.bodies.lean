section
theorem BIx_3 {h : HP} (B : BIx h) : h 135 14 = 0 ∧ h 135 16 = 0 ∧ h 135 19 = 0 := by
  obtain ⟨_, ⟨tm, S, V, c, W, Rw, hV, ⟨f15, f14, f19, _⟩, _⟩, _⟩ := B
  have := Rw.2.2.1
  omega
/-- behind a fault of a text: both sides -/
theorem fin_flt {h h1 k g : HP} {rs : Int} {R : HP → Prop} (B : BIx h) (D : DcR h) (O : DcO h) (N : RnR h) (Bd : BdR h) (hs : HsR h) (Bw : BdW h) (H : ∀ h2, BIx h2 → TxR h2 → DcR h2 → DcO h2 → RnR h2 → BdR h2 → HsR h2 → BdW h2 → R h2) (o1 : ∀ a i, a < 92 ∨ 122 < a → a ≠ 30 → a ≠ 32 → a ≠ 91 → ¬ (a = 1 ∧ i = 11) → h1 a i = h a i) (e11 : h1 1 11 = rs) (e2 : h1 30 2 = 0) (F : BfR h1 k) (eg : g = up2 k 135 24 rs) : R g := by
  obtain ⟨F1, F2, F3, F4, F5⟩ := F
  have og : ∀ a i, ¬ (a = 135 ∧ i = 24) → g a i = k a i := fun a i p => by rw [eg, up2_ext p]
  have c1 : ∀ a i, (a < 92 ∨ (122 < a ∧ a < 135)) ∨ a = 136 ∨ (149 < a ∧ a < 157) ∨ a = 167 ∨ 178 < a → a ≠ 30 → a ≠ 32 → a ≠ 91 → ¬ (a = 1 ∧ i = 11) → g a i = h a i := fun a i p q r s t => by rw [og a i (by omega), F1 a i (by omega), o1 a i (by omega) q r s t]
  have c6 : ∀ a i, 161 ≤ a → a ≤ 166 → i < 600 → g a i = h a i := fun a i p q r => by rw [og a i (by omega), F2 a i p q r, o1 a i (by omega) (by omega) (by omega) (by omega) (by omega)]
  have cf : ∀ i, i < 20 ∨ (24 < i ∧ i < 33) → g 135 i = h 135 i := fun i p => by rw [og 135 i (by omega), F3 i (by omega), o1 135 i (by omega) (by omega) (by omega) (by omega) (by omega)]
  have lo : LO h g := ⟨fun a i p q => by rw [og a i (by omega), F4.1 a i p q, o1 a i (by omega) (by omega) (by omega) (by omega) (by omega)], fun a i p q => by rw [og a i (by omega), F4.2 a i p q, o1 a i (by omega) (by omega) (by omega) (by omega) (by omega)]⟩
  have g2 : g 30 2 = 0 := by rw [og 30 2 (by omega), F1 30 2 (by omega)]; exact e2
  have g33 : g 135 33 = 0 := by rw [og 135 33 (by omega)]; exact F5
  have g11 : g 1 11 = rs := by rw [og 1 11 (by omega), F1 1 11 (by omega)]; exact e11
  refine H g (BIx_lo B (fun a i p q => c1 a i (by omega) (by omega) (by omega) (by omega) (by omega)) (fun i p q => cf i (by omega)) lo (fun i p q => c1 1 i (by omega) (by omega) (by omega) (by omega) (by omega)) (fun i => c1 150 i (by omega) (by omega) (by omega) (by omega) (by omega))) ⟨⟨by omega, by omega, by omega⟩, fun i i0 i1 => by omega⟩ (DcR_o (fun x i p => c1 x i (by omega) (by omega) (by omega) (by omega) (by omega)) (cf 30 (by omega)) (cf 31 (by omega)) D) (DcO_o (fun x i p => c1 x i (by omega) (by omega) (by omega) (by omega) (by omega)) D O) (RnR_ag (fun x i p q => c1 x i (by omega) (by omega) (by omega) (by omega) (by omega)) (c1 1 9 (by omega) (by omega) (by omega) (by omega) (by omega)) (c1 1 10 (by omega) (by omega) (by omega) (by omega) (by omega)) ?_ N) (BdR_ag (DcR_C D) (fun x i p q => c1 x i (by omega) (by omega) (by omega) (by omega) (by omega)) (fun x i p q _ r => c6 x i p q r) Bd) (fun j j0 j1 => by rw [c1 136 j (by omega) (by omega) (by omega) (by omega) (by omega)]; exact hs j j0 j1) (BdW_ag D O (fun x i p q => c1 x i (by omega) (by omega) (by omega) (by omega) (by omega)) Bd Bw)
  rw [g11, eg, up2_eq]
theorem b_bodies {d : Nat} {h : HP} {f : Int} {R : HP → Prop} (hd : 620 < d) (B : BIx h) (T : TxR h) (D : DcR h) (O : DcO h) (N : RnR h) (Bd : BdR h) (hs : HsR h) (Bw : BdW h) (H : ∀ h2, BIx h2 → TxR h2 → DcR h2 → DcO h2 → RnR h2 → BdR h2 → HsR h2 → BdW h2 → R h2) :
    Go d M_BT_bodies 0 [(21, 1), (0, f), (2, 0)] [] h (fun r1 h1 => Go d M_Mo_bodies 0 [(22, 135), (0, f), (2, 0)] [] h1 (fun r2 h2 => r1 = r2 ∧ R h2)) := by
  have H' : ∀ h2, BIx h2 → FrB h h2 → R h2 := fun h2 b f => H h2 b (TxR_fr f T) (DcR_fr f D) (DcO_fr f D O) (RnR_fr f N) (BdR_ag (DcR_C D) (fun x i p q => f.1 x i (by omega)) (fun x i p q _ _ => f.1 x i (by omega)) Bd) (fun j j0 j1 => by rw [f.1 136 j (by omega)]; exact hs j j0 j1) (BdW_ag D O (fun x i p q => f.1 x i (by omega)) Bd Bw)
  have dd := D.1
  have b3 := BIx_3 B
  refine N_BT_bodies_0 ⟨by omega, c_funcOf (by omega) (fun f0 f1 => ⟨fun _ => ⟨by omega, by omega, ?_⟩, fun z => by omega⟩) (fun nf => ⟨fun z => absurd rfl z, fun _ => ⟨by omega, fun g1 hg1 => ?_⟩⟩)⟩
  · have s := (D.2.2 f f0 f1).1
    have s3 : 0 ≤ h (61 + 5 * f) 2 ∧ h (61 + 5 * f) 2 ≤ 3 := s.2.2.2.2.1
    -- what holds of the class's heap behind the reading
    have aft : ∀ g : HP, (∀ x i, x ≠ 30 + 2 → ¬ (x = 30 ∧ 3 ≤ i ∧ i ≤ 5) → ¬ (x = 91 ∧ (i = 1 ∨ i = 2)) → g x i = h x i) → TxR g ∧ DcR g ∧ DcO g ∧ g 30 2 = h 30 2 ∧ g 31 = h 31 ∧ nPr g = nPr h ∧ ppr g 71 f = h (61 + 5 * f) 2 ∧ (∀ (e : Int → Int) (r w' m : Int), RDh h 30 e 0 (h (61 + 5 * f) 2) (h 30 2) r w' m → RD (bA (g 31) (g 30 2)) e (nPr g) (ppr g) (llr g) 0 (ppr g 71 f) (g 30 2) r w' m) := by
      intro g o
      have e2 : g 30 2 = h 30 2 := o 30 2 (by omega) (by omega) (by omega)
      have e31 : g 31 = h 31 := funext fun i => o 31 i (by omega) (by omega) (by omega)
      have e4 : g 36 4 = h 36 4 := o 36 4 (by omega) (by omega) (by omega)
      have e5 : g 36 5 = h 36 5 := o 36 5 (by omega) (by omega) (by omega)
      have eP : nPr g = nPr h := funext fun k => by unfold nPr; rw [e4, e5]
      have ep : ppr g 71 f = h (61 + 5 * f) 2 := o (61 + 5 * f) 2 (by omega) (by omega) (by omega)
      refine ⟨?_, DcR_o (fun x i p => o x i (by omega) (by omega) (by omega)) (o 135 30 (by omega) (by omega) (by omega)) (o 135 31 (by omega) (by omega) (by omega)) D, DcO_o (fun x i p => o x i (by omega) (by omega) (by omega)) D O, e2, e31, eP, ep, fun e r w' m rd => ?_⟩
      · unfold TxR at *
        rw [e2, e31, o 135 33 (by omega) (by omega) (by omega), show g 156 = h 156 from funext fun i => o 156 i (by omega) (by omega) (by omega)]
        exact T
      · rw [e2, e31, eP, ep]
        refine RD_congr (fun k j hk j0 j1 => ?_) rd
        rcases hk with e | e <;> subst e
        · have j1 : j < h 36 4 := j1
          exact ⟨(o (41 + 2 * j) 2 (by omega) (by omega) (by omega)).symm, (o (41 + 2 * j) 1 (by omega) (by omega) (by omega)).symm⟩
        · have j1 : j < h 36 5 := j1
          exact ⟨(o (61 + 5 * j) 2 (by omega) (by omega) (by omega)).symm, (o (61 + 5 * j) 1 (by omega) (by omega) (by omega)).symm⟩
    refine c_readX (a := 30) (sc := h (61 + 5 * f) 2) (by omega) (Or.inl rfl) T.1.1 T.1.2.1 (DcR_C D) s3.1 s3.2 (fun g w' m o n0 e3 m1 m100 rdE => ⟨fun z => absurd z (by decide), fun _ => ⟨by omega, ?_⟩⟩) (fun g r w' m o nr rr ra rb rd => ⟨fun _ => ⟨by omega, fun g3 e3 => ?_⟩, fun z => absurd rfl z⟩)
    · obtain ⟨T', D', O', e2, e31, eP, ep, cv⟩ := aft g o
      have e5 : g 36 5 = h 36 5 := o 36 5 (by omega) (by omega) (by omega)
      have bc : BC g 30 := ⟨Or.inl rfl, ⟨T'.1.1, T'.1.2.1⟩, D', O'⟩
      have rd := cv (g 32) _ _ _ (rdE (g 32) (fun _ _ _ => rfl))
      rw [← e2] at rd
      have G : gd g 30 0 (ppr g 71 f) (g 30 2) (g 30 2) w' := ⟨m, rd, T'.1.1⟩
      refine k_body bc (by omega) f0 (by omega) G (fun k5 S' V' t J o5 => ⟨fun _ => ⟨by omega, ?_⟩, fun z => absurd z (by decide)⟩) (fun k5 z S' V' t J ez br o5 => ⟨fun z => absurd rfl z, fun _ => ⟨by omega, fun g8 e8 => ?_⟩⟩)
      · -- it is well
        have k2 : k5 30 2 = g 30 2 := o5 30 2 (by omega)
        have k3 : k5 30 3 = m := (o5 30 3 (by omega)).trans e3
        have k365 : k5 36 5 = h 36 5 := (o5 36 5 (by omega)).trans e5
        have tt := T'.1
        refine c_giveBody (s := 30) (by omega) (Or.inl rfl) f0 (by omega) (by omega) (by omega) (by omega) (fun k6 o6 b2 b33 br e40 => ⟨by omega, by omega, fun g7 e7 => ?_⟩)
        have k63 : k6 30 3 = m := (o6 30 3 (by omega) (by omega) (by omega) (by omega)).trans k3
        rw [k63]
        have o7 : ∀ a i, ¬ (a = 30 ∧ i = 2) → g7 a i = k6 a i := fun a i p => by rw [e7, up2_ext p]
        have rf : ∀ a i, 134 < a → g7 a i = g a i := fun a i p => by rw [o7 a i (by omega), o6 a i (by omega) (by omega) (by omega) (by omega), o5 a i (by omega)]
        have gh : ∀ i, g 135 i = h 135 i := fun i => o 135 i (by omega) (by omega) (by omega)
        refine r_bodies (z := 0) (by omega) rf T' D' O' ⟨by rw [rf 135 14 (by omega), gh]; exact b3.1, by rw [rf 135 16 (by omega), gh]; exact b3.2.1, by rw [rf 135 19 (by omega), gh]; exact b3.2.2⟩ f0 (by omega) rd (by have := T'.1.1; omega) T'.1.2.1 (by omega) (fun z => absurd rfl z) (fun _ => J) (fun _ z => absurd rfl z) (fun _ _ k g8 Nn F nr og nx e167 => ⟨rfl, ?_⟩)
        obtain ⟨F1, F2, F3, F4, F5⟩ := F
        -- the cells
        have cc : ∀ a i, (a < 92 ∨ (122 < a ∧ a < 135)) ∨ a = 136 ∨ (149 < a ∧ a < 157) ∨ a = 167 ∨ 178 < a → a ≠ 30 → a ≠ 32 → a ≠ 91 → ¬ (a = 63 + 5 * f ∧ (i = 2 ∨ i = 3)) → a ≠ 63 + 5 * f + 1 → a ≠ 63 + 5 * f + 2 → ¬ (a = 40 ∧ i = f) → ¬ (a = 167 ∧ i = f) → g8 a i = h a i := fun a i p q r s t u v w x => by rw [og a i (by omega) x, F1 a i (by omega), o7 a i (by omega), o6 a i t u v w, o5 a i (by omega), o a i (by omega) (by omega) (by omega)]
        have c6 : ∀ a i, 161 ≤ a → a ≤ 166 → i < 600 → ¬ (100 * f ≤ i ∧ i < 100 * f + 100) → g8 a i = h a i := fun a i p q r s => by rw [og a i (by omega) (by omega), F2 a i p q r, rf a i (by omega), o a i (by omega) (by omega) (by omega)]
        have cf : ∀ i, i < 20 ∨ (22 < i ∧ i < 33) → g8 135 i = h 135 i := fun i p => by rw [og 135 i (by omega) (by omega), F3 i (by omega), rf 135 i (by omega), gh]
        have lo : LO h g8 := ⟨fun a i p q => by rw [og a i (by omega) (by omega), F4.1 a i p q, rf a i (by omega), o a i (by omega) (by omega) (by omega)], fun a i p q => by rw [og a i (by omega) (by omega), F4.2 a i p q, rf a i (by omega), o a i (by omega) (by omega) (by omega)]⟩
        have cl : ∀ a i, a < 91 → a ≠ 30 → g8 a i = k6 a i := fun a i p q => by rw [og a i (by omega) (by omega), F1 a i (by omega), o7 a i (by omega)]
        have g2 : g8 30 2 = 0 := by rw [og 30 2 (by omega) (by omega), F1 30 2 (by omega), e7, up2_eq]
        have g33 : g8 135 33 = 0 := by rw [og 135 33 (by omega) (by omega)]; exact F5
        have q4 : g8 36 4 = h 36 4 := cc 36 4 (by omega) (by omega) (by omega) (by omega) (by omega) (by omega) (by omega) (by omega) (by omega)
        have q5 : g8 36 5 = h 36 5 := cc 36 5 (by omega) (by omega) (by omega) (by omega) (by omega) (by omega) (by omega) (by omega) (by omega)
        have B2 : g8 (63 + 5 * f) 2 = h 30 2 := by rw [cl _ _ (by omega) (by omega), b2, k2]; exact e2
        have B3 : g8 (63 + 5 * f) 3 = m := by rw [cl _ _ (by omega) (by omega), b33]; exact k3
        have B4 : ∀ i, 0 ≤ i → i < h 30 2 → g8 (63 + 5 * f + 1) i = h 31 i ∧ g8 (63 + 5 * f + 2) i = g 32 i := by
          intro i i0 i1
          have q := br i i0 (by rw [k2, e2]; exact i1)
          rw [cl _ _ (by omega) (by omega), cl _ _ (by omega) (by omega), q.1, q.2]
          refine ⟨?_, ?_⟩
          · show k5 31 i = h 31 i
            rw [o5 31 i (by omega), e31]
          · show k5 32 i = g 32 i
            exact o5 32 i (by omega)
        have G40 : g8 40 f = 1 := by rw [cl _ _ (by omega) (by omega)]; exact e40
        have sgc : ∀ j i, 0 ≤ j → j < h 36 4 → g8 (41 + 2 * j) i = h (41 + 2 * j) i ∧ g8 (42 + 2 * j) i = h (42 + 2 * j) i := fun j i j0 j1 => ⟨cc _ _ (by omega) (by omega) (by omega) (by omega) (by omega) (by omega) (by omega) (by omega) (by omega), cc _ _ (by omega) (by omega) (by omega) (by omega) (by omega) (by omega) (by omega) (by omega) (by omega)⟩
        have sgf : ∀ j i, 0 ≤ j → j < h 36 5 → g8 (61 + 5 * j) i = h (61 + 5 * j) i ∧ g8 (62 + 5 * j) i = h (62 + 5 * j) i := fun j i j0 j1 => ⟨cc _ _ (by omega) (by omega) (by omega) (by omega) (by omega) (by omega) (by omega) (by omega) (by omega), cc _ _ (by omega) (by omega) (by omega) (by omega) (by omega) (by omega) (by omega) (by omega) (by omega)⟩
        have D8 : DcR g8 := by
          refine ⟨by rw [q4, q5, cf 30 (by omega), cf 31 (by omega)]; exact dd, fun j j0 j1 => ?_, fun j j0 j1 => ?_⟩
          · rw [q4] at j1
            obtain ⟨sj, tj⟩ := D.2.1 j j0 j1
            refine ⟨SgR_keep sj (fun i => (sgc j i j0 j1).1) (fun i => by rw [show 41 + 2 * j + 1 = 42 + 2 * j by omega]; exact (sgc j i j0 j1).2) (cc _ _ (by omega) (by omega) (by omega) (by omega) (by omega) (by omega) (by omega) (by omega) (by omega)) (cc _ _ (by omega) (by omega) (by omega) (by omega) (by omega) (by omega) (by omega) (by omega) (by omega)) (cc _ _ (by omega) (by omega) (by omega) (by omega) (by omega) (by omega) (by omega) (by omega) (by omega)) (fun i _ _ => cc _ _ (by omega) (by omega) (by omega) (by omega) (by omega) (by omega) (by omega) (by omega) (by omega)), ?_⟩
            rw [cc 155 j (by omega) (by omega) (by omega) (by omega) (by omega) (by omega) (by omega) (by omega) (by omega), (sgc j 4 j0 j1).1]
            exact tj
          · rw [q5] at j1
            obtain ⟨sj, tj⟩ := D.2.2 j j0 j1
            refine ⟨SgR_keep sj (fun i => (sgf j i j0 j1).1) (fun i => by rw [show 61 + 5 * j + 1 = 62 + 5 * j by omega]; exact (sgf j i j0 j1).2) (cc _ _ (by omega) (by omega) (by omega) (by omega) (by omega) (by omega) (by omega) (by omega) (by omega)) (cc _ _ (by omega) (by omega) (by omega) (by omega) (by omega) (by omega) (by omega) (by omega) (by omega)) (cc _ _ (by omega) (by omega) (by omega) (by omega) (by omega) (by omega) (by omega) (by omega) (by omega)) (fun i _ _ => cc _ _ (by omega) (by omega) (by omega) (by omega) (by omega) (by omega) (by omega) (by omega) (by omega)), ?_⟩
            by_cases c : j = f
            · subst c
              exact Or.inr ⟨G40, by rw [e167, B3], by omega⟩
            · rw [cc 40 j (by omega) (by omega) (by omega) (by omega) (by omega) (by omega) (by omega) (by omega) (by omega), cc 167 j (by omega) (by omega) (by omega) (by omega) (by omega) (by omega) (by omega) (by omega) (by omega), cc (63 + 5 * j) 3 (by omega) (by omega) (by omega) (by omega) (by omega) (by omega) (by omega) (by omega) (by omega)]
              exact tj
        have O8 : DcO g8 := DcO_o (fun x i p => cc x i (by omega) (by omega) (by omega) (by omega) (by omega) (by omega) (by omega) (by omega) (by omega)) D O
        have eB : bA (g8 (63 + 5 * f + 1)) (g8 (63 + 5 * f) 2) = bA (h 31) (h 30 2) := by rw [B2]; exact bA_congr (fun i i0 i1 => (B4 i i0 i1).1)
        have sgn : ∀ k j, (k = 67 ∨ k = 71) → 0 ≤ j → j < nPr h k → ppr g8 k j = ppr h k j ∧ llr g8 k j = llr h k j := by
          intro k j hk j0 j1
          rcases hk with e | e <;> subst e
          · have j1 : j < h 36 4 := j1
            exact ⟨(sgc j 2 j0 j1).1, (sgc j 1 j0 j1).1⟩
          · have j1 : j < h 36 5 := j1
            exact ⟨(sgf j 2 j0 j1).1, (sgf j 1 j0 j1).1⟩
        refine H g8 (BIx_lo B (fun a i p q => cc a i (by omega) (by omega) (by omega) (by omega) (by omega) (by omega) (by omega) (by omega) (by omega)) (fun i p q => cf i (by omega)) lo (fun i p q => cc 1 i (by omega) (by omega) (by omega) (by omega) (by omega) (by omega) (by omega) (by omega) (by omega)) (fun i => cc 150 i (by omega) (by omega) (by omega) (by omega) (by omega) (by omega) (by omega) (by omega) (by omega))) ⟨⟨by omega, by omega, by omega⟩, fun i i0 i1 => by omega⟩ D8 O8 (RnR_ag (fun x i p q => cc x i (by omega) (by omega) (by omega) (by omega) (by omega) (by omega) (by omega) (by omega) (by omega)) (cc 1 9 (by omega) (by omega) (by omega) (by omega) (by omega) (by omega) (by omega) (by omega) (by omega)) (cc 1 10 (by omega) (by omega) (by omega) (by omega) (by omega) (by omega) (by omega) (by omega) (by omega)) ?_ N) (fun j j0 j1 e40 => ?_) (fun j j0 j1 => by rw [cc 136 j (by omega) (by omega) (by omega) (by omega) (by omega) (by omega) (by omega) (by omega) (by omega)]; exact hs j j0 j1) (fun j j0 j1 e40 α => ?_)
        · rw [cf 24 (by omega), cc 1 11 (by omega) (by omega) (by omega) (by omega) (by omega) (by omega) (by omega) (by omega) (by omega)]
          exact N.1.2.2.2.2
        · rw [q5] at j1
          by_cases c : j = f
          · subst c
            refine ⟨h 36 5, w', m, ⟨by omega, by omega⟩, ?_⟩
            have rd8 := rdE (g8 (63 + 5 * j + 2)) (fun q q0 q1 => (B4 q q0 q1).2)
            have es : g8 (61 + 5 * j) 2 = h (61 + 5 * j) 2 := (sgf j 2 j0 j1).1
            rw [eB, es, B2, q4]
            refine ⟨⟨n0, T.1.2.1⟩, fun i i0 i1 => by rw [(B4 i i0 i1).1]; exact (T.2 i i0 i1).2, RD_congr (fun k i hk i0 i1 => ⟨(sgn k i hk i0 i1).1.symm, (sgn k i hk i0 i1).2.symm⟩) rd8, ?_⟩
            rw [e2, e31, eP, ep] at nx
            have Gh : GD (bA (h 31) (h 30 2)) (g 32) (nPr h) (ppr h) (llr h) 0 (h (61 + 5 * j) 2) (h 30 2) (h 30 2) w' := ⟨m, rdE (g 32) (fun _ _ _ => rfl), T.1.1⟩
            have nx2 : NX (fun x i => g8 x (100 * j + i)) (bA (h 31) (h 30 2)) (g 32) (nPr h) (ppr h) 0 0 (h (61 + 5 * j) 2) := NX_cg (fun _ _ _ _ _ _ => rfl) (fun k i hk i0 i1 => ?_) nx
            · exact NX_cg (fun _ _ _ _ _ _ => rfl) (fun k i hk i0 i1 => (sgn k i hk i0 i1).1) (NX_e (fun q q0 nb => (B4 q q0 (bA_lt nb).2).2) (Int.le_refl 0) Gh nx2)
            · rcases hk with e | e <;> subst e
              · have i1 : i < h 36 4 := i1
                exact (o (41 + 2 * i) 2 (by omega) (by omega) (by omega)).symm
              · have i1 : i < h 36 5 := i1
                exact (o (61 + 5 * i) 2 (by omega) (by omega) (by omega)).symm
          · rw [cc 40 j (by omega) (by omega) (by omega) (by omega) (by omega) (by omega) (by omega) (by omega) (by omega)] at e40
            exact BdR_one D Bd j0 j1 e40 (by omega) q4 (fun i u i0 i1 => (sgc i u i0 i1).1) (fun i u i0 i1 => (sgf i u i0 i1).1) (cc _ _ (by omega) (by omega) (by omega) (by omega) (by omega) (by omega) (by omega) (by omega) (by omega)) (fun i => ⟨cc _ _ (by omega) (by omega) (by omega) (by omega) (by omega) (by omega) (by omega) (by omega) (by omega), cc _ _ (by omega) (by omega) (by omega) (by omega) (by omega) (by omega) (by omega) (by omega) (by omega)⟩) (fun x i x0 x1 i0 i1 => c6 x i x0 x1 (by omega) (by omega))
        · rw [q5] at j1
          by_cases c : j = f
          · subst c
            have q := b_WT bc G J α
            have q4g : g 36 4 = h 36 4 := o 36 4 (by omega) (by omega) (by omega)
            have hg : ∀ a i, 40 < a → a < 91 → g a i = h a i := fun a i p q => o a i (by omega) (by omega) (by omega)
            have es : sbr g8 71 j = sbr g 71 j := funext fun i => ((sgf j i j0 j1).2).trans (hg _ _ (by omega) (by omega)).symm
            have el : llr g8 71 j = llr g 71 j := ((sgf j 1 j0 j1).1).trans (hg _ _ (by omega) (by omega)).symm
            have ep8 : ppr g8 71 j = ppr g 71 j := ((sgf j 2 j0 j1).1).trans (hg _ _ (by omega) (by omega)).symm
            rw [es, el, ep8, eB, ← e31, ← e2]
            exact WT_hh (h := g) (N := g 36 5) D' O' (Int.le_refl _) (Int.le_refl 0) G (fun i i0 nb => (B4 i i0 (by have := (bA_lt nb).2; omega)).2) (by omega) (fun i u i0 i1 => ⟨((sgc i u i0 (by omega)).1).trans (hg _ _ (by omega) (by omega)).symm, ((sgc i u i0 (by omega)).2).trans (hg _ _ (by omega) (by omega)).symm⟩) (fun i u i0 i1 => ⟨((sgf i u i0 (by omega)).1).trans (hg _ _ (by omega) (by omega)).symm, ((sgf i u i0 (by omega)).2).trans (hg _ _ (by omega) (by omega)).symm⟩) q
          · rw [cc 40 j (by omega) (by omega) (by omega) (by omega) (by omega) (by omega) (by omega) (by omega) (by omega)] at e40
            exact BdW_one D O Bd Bw j0 j1 e40 q4 sgc sgf (cc _ _ (by omega) (by omega) (by omega) (by omega) (by omega) (by omega) (by omega) (by omega) (by omega)) (fun i => ⟨cc _ _ (by omega) (by omega) (by omega) (by omega) (by omega) (by omega) (by omega) (by omega) (by omega), cc _ _ (by omega) (by omega) (by omega) (by omega) (by omega) (by omega) (by omega) (by omega) (by omega)⟩) α
      · -- a fault of the check
        have e84 : g8 30 4 = k5 30 4 := by rw [e8, up2_ext (by omega)]
        rw [e84]
        refine ⟨by unfold r32; omega, by omega, by omega, fun g9 e9 => ?_⟩
        have o9 : ∀ a i, ¬ (a = 30 ∧ i = 2) → ¬ (a = 1 ∧ i = 11) → g9 a i = k5 a i := fun a i p q => by rw [e9, up2_ext p, e8, up2_ext q]
        have rf : ∀ a i, 134 < a → g9 a i = g a i := fun a i p => by rw [o9 a i (by omega) (by omega), o5 a i (by omega) (by omega)]
        have gh : ∀ i, g 135 i = h 135 i := fun i => o 135 i (by omega) (by omega) (by omega)
        refine r_bodies (z := z) (by omega) rf T' D' O' ⟨by rw [rf 135 14 (by omega), gh]; exact b3.1, by rw [rf 135 16 (by omega), gh]; exact b3.2.1, by rw [rf 135 19 (by omega), gh]; exact b3.2.2⟩ f0 (by omega) rd (by have := T'.1.1; omega) T'.1.2.1 (by omega) (fun z => absurd rfl z) (fun _ => J) (fun _ _ k gg F ez2 br2 eg => ⟨by omega, ?_⟩) (fun _ z0 => by omega)
        exact fin_flt B D O N Bd hs Bw H (fun a i p q r s t => by rw [o9 a i (by omega) t, o5 a i (by omega) (by omega), o a i (by omega) (by omega) (by omega)]) (show g9 1 11 = k 135 66 by rw [e9, up2_ext (by omega), e8, up2_eq]; omega) (by rw [e9, up2_eq]) F eg
    · -- a fault of the reading
      obtain ⟨T', D', O', e2, e31, eP, ep, cv⟩ := aft g o
      have e5 : g 36 5 = h 36 5 := o 36 5 (by omega) (by omega) (by omega)
      have rd' := cv (g 32) _ _ _ rd
      have t1 := T.1
      have e34 : g3 30 4 = g 30 4 := by rw [e3, up2_ext (by omega)]
      rw [e34]
      refine ⟨by unfold r32; omega, by omega, by omega, fun g4 e4 => ?_⟩
      have rn : -300 ≤ r ∧ r ≤ 100 := by
        by_cases c : r < 0
        · have := ra c; omega
        · have := rb (by omega); omega
      have o4 : ∀ a i, ¬ (a = 30 ∧ i = 2) → ¬ (a = 1 ∧ i = 11) → g4 a i = g a i := fun a i p q => by rw [e4, up2_ext p, e3, up2_ext q]
      have rf : ∀ a i, 134 < a → g4 a i = g a i := fun a i p => o4 a i (by omega) (by omega)
      have gh : ∀ i, g 135 i = h 135 i := fun i => o 135 i (by omega) (by omega) (by omega)
      refine r_bodies (z := 0) (S' := S0x) (V' := V0x) (t := tI) (by omega) rf T' D' O' ⟨by rw [rf 135 14 (by omega), gh]; exact b3.1, by rw [rf 135 16 (by omega), gh]; exact b3.2.1, by rw [rf 135 19 (by omega), gh]; exact b3.2.2⟩ f0 (by omega) rd' rn.1 rn.2 (by omega) (fun _ k3 R3 ka kb gg eg => ⟨?_, ?_⟩) (fun z => absurd (z.trans e2) nr) (fun z => absurd (z.trans e2) nr) (fun z => absurd (z.trans e2) nr)
      · by_cases c : r < 0
        · have := ra c
          have := ka c
          omega
        · have := rb (by omega)
          have := kb (by omega)
          omega
      · refine fin_flt B D O N Bd hs Bw H (fun a i p q r s t => by rw [o4 a i (by omega) t, o a i (by omega) (by omega) (by omega)]) (show g4 1 11 = k3 135 37 from ?_) (by rw [e4, up2_eq]) (RdF_BfR R3) eg
        rw [e4, up2_ext (by omega), e3, up2_eq]
        by_cases c : r < 0
        · have := ra c
          have := ka c
          omega
        · have := rb (by omega)
          have := kb (by omega)
          omega
  · have rb := fun {d : Nat} (q : 0 < d) => ref_bad (d := d) B H' hg1 q
    have e31 : g1 135 31 = h 36 5 := by rw [hg1, up2_nc (by decide)]; exact dd.2.2.2.2.2
    exact N_Mo_bodies_0 ⟨by omega, c_isFunc (by omega) (by omega) (by omega) (fun a b => by omega) (fun _ => ⟨fun z => absurd rfl z, fun _ => rb (by omega)⟩)⟩
end
