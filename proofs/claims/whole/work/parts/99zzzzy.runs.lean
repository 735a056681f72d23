section
/-! the call runs -/
theorem txt_aft {h g : HP} (T : TxR h) (D : DcR h) (O : DcO h) (o : ∀ x i, x < 92 ∨ 122 < x → x ≠ 32 → ¬ (x = 30 ∧ 3 ≤ i ∧ i ≤ 5) → x ≠ 91 → g x i = h x i) : (TxR g ∧ DcR g ∧ DcO g) ∧ g 30 2 = h 30 2 ∧ g 31 = h 31 ∧ nPr g = nPr h ∧ (∀ k j, (k = 67 ∨ k = 71) → 0 ≤ j → j < nPr h k → ppr g k j = ppr h k j ∧ llr g k j = llr h k j) ∧ (∀ (e : Int → Int) (r w' m : Int), RDh h 30 e 0 0 (h 30 2) r w' m → RD (bA (g 31) (g 30 2)) e (nPr g) (ppr g) (llr g) 0 0 (g 30 2) r w' m) := by
  have dd := D.1
  have e2 : g 30 2 = h 30 2 := o 30 2 (by omega) (by omega) (by omega) (by omega)
  have e31 : g 31 = h 31 := funext fun i => o 31 i (by omega) (by omega) (by omega) (by omega)
  have e4 : g 36 4 = h 36 4 := o 36 4 (by omega) (by omega) (by omega) (by omega)
  have e5 : g 36 5 = h 36 5 := o 36 5 (by omega) (by omega) (by omega) (by omega)
  have eP : nPr g = nPr h := funext fun k => by unfold nPr; rw [e4, e5]
  have sg : ∀ k j, (k = 67 ∨ k = 71) → 0 ≤ j → j < nPr h k → ppr g k j = ppr h k j ∧ llr g k j = llr h k j := by
    intro k j hk j0 j1
    rcases hk with e | e <;> subst e
    · have j1 : j < h 36 4 := j1
      exact ⟨o (41 + 2 * j) 2 (by omega) (by omega) (by omega) (by omega), o (41 + 2 * j) 1 (by omega) (by omega) (by omega) (by omega)⟩
    · have j1 : j < h 36 5 := j1
      exact ⟨o (61 + 5 * j) 2 (by omega) (by omega) (by omega) (by omega), o (61 + 5 * j) 1 (by omega) (by omega) (by omega) (by omega)⟩
  refine ⟨⟨?_, DcR_o (fun x i p => o x i (by omega) (by omega) (by omega) (by omega)) (o 135 30 (by omega) (by omega) (by omega) (by omega)) (o 135 31 (by omega) (by omega) (by omega) (by omega)) D, DcO_o (fun x i p => o x i (by omega) (by omega) (by omega) (by omega)) D O⟩, e2, e31, eP, sg, fun e r w' m rd => ?_⟩
  · unfold TxR at *
    rw [e2, e31, o 135 33 (by omega) (by omega) (by omega) (by omega), show g 156 = h 156 from funext fun i => o 156 i (by omega) (by omega) (by omega) (by omega)]
    exact T
  · rw [e2, e31, eP]
    exact RD_congr (fun k j hk j0 j1 => ⟨(sg k j hk j0 j1).1.symm, (sg k j hk j0 j1).2.symm⟩) rd
theorem fin_gen {h g : HP} {R : HP → Prop} (B : BIx h) (D : DcR h) (O : DcO h) (Bd : BdR h) (hs : HsR h) (Bw : BdW h) (H : ∀ h2, BIx h2 → TxR h2 → DcR h2 → DcO h2 → RnR h2 → BdR h2 → HsR h2 → BdW h2 → R h2) (c1 : ∀ a i, a < 91 ∨ a = 136 ∨ (149 < a ∧ a < 157) ∨ a = 167 → a ≠ 30 → a ≠ 32 → ¬ (a = 1 ∧ (i = 9 ∨ i = 10 ∨ i = 11)) → g a i = h a i) (c6 : ∀ a i, 161 ≤ a → a ≤ 166 → i < 600 → g a i = h a i) (cf : ∀ i, (14 ≤ i ∧ i ≤ 19) ∨ i = 30 ∨ i = 31 → g 135 i = h 135 i) (lo : LO h g) (g2 : g 30 2 = 0) (g33 : g 135 33 = 0) (N : RnR g) : R g := by
  refine H g (BIx_lo B (fun a i p q => c1 a i (by omega) (by omega) (by omega) (by omega)) (fun i p q => cf i (by omega)) lo (fun i p q => c1 1 i (by omega) (by omega) (by omega) (by omega)) (fun i => c1 150 i (by omega) (by omega) (by omega) (by omega))) ⟨⟨by omega, by omega, by omega⟩, fun i i0 i1 => by omega⟩ (DcR_o (fun x i p => c1 x i (by omega) (by omega) (by omega) (by omega)) (cf 30 (by omega)) (cf 31 (by omega)) D) (DcO_o (fun x i p => c1 x i (by omega) (by omega) (by omega) (by omega)) D O) N (BdR_ag (DcR_C D) (fun x i p q => c1 x i (by omega) (by omega) (by omega) (by omega)) (fun x i p q _ r => c6 x i p q r) Bd) (fun j j0 j1 => by rw [c1 136 j (by omega) (by omega) (by omega) (by omega)]; exact hs j j0 j1) (BdW_ag D O (fun x i p q => c1 x i (by omega) (by omega) (by omega) (by omega)) Bd Bw)
theorem OuR_two {h : HP} {c f row c' f' row' : Int} {p : List Int} (a : OuR h c f row p) (b : OuR h c' f' row' p) : h c f = h c' f' ∧ ∀ i, 0 ≤ i → i < h c' f' → h row i = h row' i := by
  refine ⟨a.1.trans b.1.symm, fun i i0 i1 => ?_⟩
  have := b.1
  have x := a.2 i.toNat (by omega) (by omega)
  have y := b.2 i.toNat (by omega) (by omega)
  rw [show ((i.toNat : Nat) : Int) = i by omega] at x y
  rw [x, y]
theorem b_runs {d : Nat} {h : HP} {R : HP → Prop} (hd : 620 < d) (B : BIx h) (T : TxR h) (D : DcR h) (O : DcO h) (N : RnR h) (Bd : BdR h) (hs : HsR h) (Bw : BdW h) (H : ∀ h2, BIx h2 → TxR h2 → DcR h2 → DcO h2 → RnR h2 → BdR h2 → HsR h2 → BdW h2 → R h2) :
    Go d M_BT_runs 0 [(21, 1), (2, 0), (2, 0)] [] h (fun r1 h1 => Go d M_Mo_runs 0 [(22, 135)] [] h1 (fun r2 h2 => r1 = r2 ∧ R h2)) := by
  have b3 := BIx_3 B
  have t1 := T.1
  refine N_BT_runs_0 ⟨by omega, c_readX (a := 30) (sc := 0) (by omega) (Or.inl rfl) T.1.1 T.1.2.1 (DcR_C D) (by omega) (by omega) (fun g w' m o n0 e3 m1 m100 rdE => ⟨fun z => absurd z (by decide), fun _ => ⟨by omega, ?_⟩⟩) (fun g r w' m o nr rr ra rb rd => ⟨fun _ => ⟨by omega, fun g3 e3 => ?_⟩, fun z => absurd rfl z⟩)⟩
  · have o' : ∀ x i, x ≠ 32 → ¬ (x = 30 ∧ 3 ≤ i ∧ i ≤ 5) → x ≠ 91 → g x i = h x i := fun x i p q r => o x i (by omega) q (by omega)
    obtain ⟨⟨T', D', O'⟩, e2, e31, eP, sgn, cv⟩ := txt_aft (g := g) T D O (fun x i _ q r s => o' x i q r s)
    have bc : BC g 30 := ⟨Or.inl rfl, ⟨T'.1.1, T'.1.2.1⟩, D', O'⟩
    have rdh := rdE (g 32) (fun _ _ _ => rfl)
    have rd := cv (g 32) _ _ _ rdh
    rw [← e2] at rd
    have G : gd g 30 0 0 (g 30 2) (g 30 2) w' := ⟨m, rd, T'.1.1⟩
    have ghh : ∀ i, g 135 i = h 135 i := fun i => o' 135 i (by omega) (by omega) (by omega)
    refine k_alone bc (by omega) G (fun k4 tm S' V' x J Cv x0 x1 o4 => ⟨fun _ => ⟨by omega, ?_⟩, fun z => by omega⟩) (fun k5 z S' V' t J ez br o5 => ⟨fun z => absurd rfl z, fun _ => ⟨by omega, fun g8 e8 => ?_⟩⟩)
    · -- the run
      have oh : ∀ x i, x < 92 ∨ 122 < x → x ≠ 32 → ¬ (x = 30 ∧ 3 ≤ i ∧ i ≤ 5) → x ≠ 91 → k4 x i = h x i := fun x i p q r s => (o4 x i p).trans (o' x i q r s)
      obtain ⟨⟨T4, D4, O4⟩, e24, e314, eP4, sgn4, cv4⟩ := txt_aft (g := k4) T D O oh
      have e32 : k4 32 = g 32 := funext fun i => o4 32 i (by omega)
      have Bd4 : BdR k4 := BdR_ag (DcR_C D) (fun x i p q => oh x i (by omega) (by omega) (by omega) (by omega)) (fun x i p q _ _ => oh x i (by omega) (by omega) (by omega) (by omega)) Bd
      have Bw4 : BdW k4 := BdW_ag D O (fun x i p q => oh x i (by omega) (by omega) (by omega) (by omega)) Bd Bw
      have rb : RB0 k4 := ⟨D4, O4, Bd4, Bw4⟩
      have q44 : k4 36 4 = g 36 4 := o4 36 4 (by omega)
      obtain ⟨τ, W⟩ := a_WT bc G J
      have W4 : wh k4 30 0 (fun _ => tI) 0 τ := by
        show WT (bA (k4 31) (k4 30 2)) (k4 32) (k4 36 4) (sbr k4) (llr k4) (ppr k4) (fun j => k4 (41 + 2 * j) 4) 0 (fun _ => tI) 0 τ
        rw [e314, e24, ← e31, ← e2]
        have d1 := D'.1
        exact WT_hh (h := g) (N := g 36 5) D' O' (Int.le_refl _) (Int.le_refl 0) G (fun i i0 nb => by rw [e32]; rfl) q44 (fun i u i0 i1 => ⟨o4 _ _ (by omega), o4 _ _ (by omega)⟩) (fun i u i0 i1 => ⟨o4 _ _ (by omega), o4 _ _ (by omega)⟩) W
      have rd4 := cv4 (k4 32) _ _ _ (rdE (k4 32) (fun q _ _ => by rw [e32]; rfl))
      rw [← e24] at rd4
      have G4 : gh k4 30 (k4 36 5) 0 0 (k4 30 2) (k4 30 2) w' := ⟨m, rd4, T4.1.1⟩
      have nxk : ∀ Rw : HP, NX Rw (bA (g 31) (g 30 2)) (g 32) (nPr g) (ppr g) 0 0 0 → NX Rw (bA (k4 31) (k4 30 2)) (k4 32) (nPr k4) (ppr k4) 0 0 0 := by
        intro Rw nx
        rw [e31, e2, eP] at nx
        rw [e314, e24, eP4, e32]
        exact NX_cg (fun _ _ _ _ _ _ => rfl) (fun k j hk j0 j1 => ((sgn4 k j hk j0 j1).1).trans ((sgn k j hk j0 j1).1).symm) nx
      -- the reference
      have ref : ∀ (h1 hv : HP) (out s' dp' nv' : Int) (Q : PQ), (∀ a i, 134 < a → h1 a i = g a i) → er k4 (hv 125) (hv 127) 30 0 0 (fun _ => 0) 1 0 0 0 out s' dp' nv' → (0 ≤ out → (nv' ≤ 1000 ∧ ∃ τ, vt k4 hv nv' out τ) ∧ ∀ kz k : HP, BfR h1 kz → OuR k 189 2 190 (tWr S' 200 [tm x]) → OuR k 189 3 191 (vWr hv 200 [out]) → (k 189 0 = s' ∧ k 189 1 = dp') → (∀ a i, a < 179 → ¬ (a = 135 ∧ (i = 87 ∨ i = 72 ∨ (78 ≤ i ∧ i ≤ 82))) → k a i = kz a i) → Q s' k) → (out < 0 → ∀ kz k : HP, BfR h1 kz → (∀ a i, a < 179 ∨ (188 < a ∧ a < 192) → ¬ (a = 135 ∧ (i = 87 ∨ i = 72 ∨ (78 ≤ i ∧ i ≤ 82))) → k a i = kz a i) → Q out k) → Go d M_Mo_runs 0 [(22, 135)] [] h1 Q := by
        intro h1 hv out s' dp' nv' Q rf E HG HB
        refine r_runs (z := 0) (by omega) rf T' D' O' ⟨by rw [rf 135 14 (by omega), ghh]; exact b3.1, by rw [rf 135 16 (by omega), ghh]; exact b3.2.1, by rw [rf 135 19 (by omega), ghh]; exact b3.2.2⟩ rd (by have := T'.1.1; omega) T'.1.2.1 (by omega) (fun z => absurd rfl z) (fun _ => J) (fun _ z => absurd rfl z) (fun _ _ kz g0 F f0 og nx zs => ?_)
        obtain ⟨F1, F2, F3, F4, F5⟩ := F
        have k4g : ∀ a i, 134 < a → k4 a i = g a i := fun a i p => o4 a i (by omega)
        have rk : RvK k4 g0 := rvk_of D4 Bd4 (fun a i p => by rw [f0 a i (by omega) (by omega) (by omega), F1 a i (by omega), rf a i (by omega), k4g a i (by omega)]) (fun a i p q r => by rw [f0 a i (by omega) (by omega) (by omega), F2 a i p q r, rf a i (by omega), k4g a i (by omega)])
        have nn : RN k4 g0 30 600 (k4 36 5) 0 0 0 := ⟨nxk _ nx, ⟨by omega, T4.1.2.1⟩, _, _, _, G4⟩
        refine r_run2 (h1 := hv) (by omega) rb rk nn zs og E (fun o0 => ?_) (fun o0 k Bk => HB o0 kz k ⟨F1, F2, F3, F4, F5⟩ (fun a i p q => (Bk a i (by omega) (by omega)).trans (f0 a i (by omega) (by omega) (by omega))))
        obtain ⟨tv, HG⟩ := HG o0
        exact ⟨tv, fun k a1 a2 a3 fr => HG kz k ⟨F1, F2, F3, F4, F5⟩ a1 a2 a3 (fun a i p q => (fr a i p q).trans (f0 a i (by omega) (by omega) (by omega)))⟩
      refine m_run rb (by omega) ⟨Or.inl rfl, ⟨T4.1.1, T4.1.2.1⟩⟩ (Int.le_refl _) G4 W4 (fun v k5 km nb tv erv => ⟨fun _ g6 e6 g7 e7 => ⟨by omega, ?_⟩, fun z => by have := vt_r tv; omega⟩) (fun o5 k5 ho5 km erv => ⟨fun z => by omega, fun _ => ⟨by omega, by omega, fun g11 e11 => ?_⟩⟩)
      · have vr := vt_r tv
        have o7 : ∀ a i, ¬ (a = 1 ∧ (i = 9 ∨ i = 10)) → g7 a i = k5 a i := fun a i p => by rw [e7, up2_ext (by omega), e6, up2_ext (by omega)]
        have s9 : g7 1 9 = k5 124 10 := by rw [e7, up2_ext (by omega), e6, up2_eq]
        have s10 : g7 1 10 = k5 124 11 := by rw [e7, up2_eq, e6, up2_ext (by omega)]
        have Cv7 : CV g7 96 512 tm S' V' := CV_loc (fun a i p q => by rw [o7 a i (by omega), km a i (by omega)]) Cv
        have e13 : g7 96 13 = k4 96 13 := by rw [o7 96 13 (by omega), km 96 13 (by omega)]
        refine k_write (by omega) Cv7 x0 (by omega) EqS_rfl (fun k8 o8 f8 => ⟨by omega, ?_⟩)
        refine k_vwrite (h0 := k4) (h1 := k5) (n := k5 124 7) (by omega) rb (by omega) (by rw [f8 124 7 (by omega) (by omega) (by omega), o7 124 7 (by omega)]; exact Int.le_refl _) (fun a i p q => by rw [f8 a i (by omega) (by omega) (by omega), o7 a i (by omega)]) ⟨τ, tv⟩ (fun k9 o9 f9 => ⟨by omega, by omega, fun g10 e10 => ?_⟩)
        have o10 : ∀ a i, ¬ (a = 30 ∧ i = 2) → g10 a i = k9 a i := fun a i p => by rw [e10, up2_ext p]
        have oc : ∀ a i, a < 91 ∨ 134 < a → a ≠ 32 → a ≠ 30 → ¬ (a = 1 ∧ (i = 9 ∨ i = 10)) → g10 a i = h a i := fun a i p q r s => by rw [o10 a i (by omega), f9 a i (by omega) (by omega) (by omega), f8 a i (by omega) (by omega) (by omega), o7 a i s, km a i (by omega), oh a i (by omega) q (by omega) (by omega)]
        have rf : ∀ a i, 134 < a → g10 a i = g a i := fun a i p => by rw [oc a i (by omega) (by omega) (by omega) (by omega), o' a i (by omega) (by omega) (by omega)]
        have a9 : g10 1 9 = k5 124 10 := by rw [o10 1 9 (by omega), f9 1 9 (by omega) (by omega) (by omega), f8 1 9 (by omega) (by omega) (by omega), s9]
        have a10 : g10 1 10 = k5 124 11 := by rw [o10 1 10 (by omega), f9 1 10 (by omega) (by omega) (by omega), f8 1 10 (by omega) (by omega) (by omega), s10]
        have e9 : k9 1 9 = k5 124 10 := by rw [← a9, o10 1 9 (by omega)]
        rw [e9]
        have oT : OuR g10 131 1 132 (tWr S' 200 [tm x]) := OuR_ag o8 (by rw [o10 _ _ (by omega), f9 _ _ (by omega) (by omega) (by omega)]) (fun i => by rw [o10 _ _ (by omega), f9 _ _ (by omega) (by omega) (by omega)])
        have oV : OuR g10 133 1 134 (vWr k5 200 [v]) := OuR_ag o9 (o10 _ _ (by omega)) (fun i => o10 _ _ (by omega))
        refine ref g10 k5 v _ _ _ _ rf (erv (k5 125) (k5 127) (fun v _ _ => ⟨rfl, fun _ _ _ => rfl⟩)) (fun _ => ⟨⟨by omega, τ, tv⟩, fun kz k F a1 a2 a3 fr => ⟨rfl, ?_⟩⟩) (fun z => by omega)
        obtain ⟨F1, F2, F3, F4, F5⟩ := F
        have ck : ∀ a i, a < 135 → k a i = g10 a i := fun a i p => by rw [fr a i (by omega) (by omega), F1 a i (by omega)]
        have bT := OuR_two a1 (OuR_ag oT (ck 131 1 (by omega)) (fun i => ck 132 i (by omega)))
        have bV := OuR_two a2 (OuR_ag oV (ck 133 1 (by omega)) (fun i => ck 134 i (by omega)))
        have rT := OuR_bd oT
        have rV := OuR_bd oV
        have k131 := ck 131 1 (by omega)
        have k133 := ck 133 1 (by omega)
        refine fin_gen B D O Bd hs Bw H (fun a i p q r s => ?_) (fun a i p q r => ?_) (fun i p => ?_) ⟨fun a i p q => ?_, fun a i p q => ?_⟩ ?_ ?_ ⟨⟨?_, ?_, bT.1, bV.1, ?_⟩, ⟨by omega, by omega, by omega, by omega⟩, bT.2, bV.2⟩
        · rw [fr a i (by omega) (by omega), F1 a i (by omega), oc a i (by omega) r q (by omega)]
        · rw [fr a i (by omega) (by omega), F2 a i p q r, oc a i (by omega) (by omega) (by omega) (by omega)]
        · rw [fr 135 i (by omega) (by omega), F3 i (by omega), oc 135 i (by omega) (by omega) (by omega) (by omega)]
        · rw [fr a i (by omega) (by omega), F4.1 a i p q, oc a i (by omega) (by omega) (by omega) (by omega)]
        · rw [fr a i (by omega) (by omega), F4.2 a i p q, oc a i (by omega) (by omega) (by omega) (by omega)]
        · rw [ck 30 2 (by omega), e10, up2_eq]
        · rw [fr 135 33 (by omega) (by omega)]; exact F5
        · rw [a3.1, ck 1 9 (by omega), a9]
        · rw [a3.2, ck 1 10 (by omega), a10]
        · rw [fr 135 24 (by omega) (by omega), F3 24 (by omega), ck 1 11 (by omega), oc 135 24 (by omega) (by omega) (by omega) (by omega), oc 1 11 (by omega) (by omega) (by omega) (by omega)]
          exact N.1.2.2.2.2
      · obtain ⟨s', dp', nv', E⟩ := erv (k5 125) (k5 127) (fun v _ _ => ⟨rfl, fun _ _ _ => rfl⟩)
        have o11 : ∀ a i, ¬ (a = 30 ∧ i = 2) → g11 a i = k5 a i := fun a i p => by rw [e11, up2_ext p]
        have oc : ∀ a i, a < 91 ∨ 130 < a → a ≠ 32 → a ≠ 30 → g11 a i = h a i := fun a i p q r => by rw [o11 a i (by omega), km a i (by omega), oh a i (by omega) q (by omega) (by omega)]
        have rf : ∀ a i, 134 < a → g11 a i = g a i := fun a i p => by rw [oc a i (by omega) (by omega) (by omega), o' a i (by omega) (by omega) (by omega)]
        refine ref g11 k5 o5 _ _ _ _ rf E (fun z => by omega) (fun _ kz k F fr => ⟨rfl, ?_⟩)
        obtain ⟨F1, F2, F3, F4, F5⟩ := F
        have cl : ∀ a i, (a < 91 ∨ (130 < a ∧ a < 135)) ∨ a = 136 ∨ (149 < a ∧ a < 157) ∨ a = 167 ∨ (188 < a ∧ a < 192) → a ≠ 32 → a ≠ 30 → k a i = h a i := fun a i p q r => by rw [fr a i (by omega) (by omega), F1 a i (by omega), oc a i (by omega) q r]
        refine fin_gen B D O Bd hs Bw H (fun a i p q r s => cl a i (by omega) r q) (fun a i p q r => ?_) (fun i p => ?_) ⟨fun a i p q => ?_, fun a i p q => ?_⟩ ?_ ?_ (RnR_ag (fun a i p q => cl a i (by omega) (by omega) (by omega)) (cl 1 9 (by omega) (by omega) (by omega)) (cl 1 10 (by omega) (by omega) (by omega)) ?_ N)
        · rw [fr a i (by omega) (by omega), F2 a i p q r, oc a i (by omega) (by omega) (by omega)]
        · rw [fr 135 i (by omega) (by omega), F3 i (by omega), oc 135 i (by omega) (by omega) (by omega)]
        · rw [fr a i (by omega) (by omega), F4.1 a i p q, oc a i (by omega) (by omega) (by omega)]
        · rw [fr a i (by omega) (by omega), F4.2 a i p q, oc a i (by omega) (by omega) (by omega)]
        · rw [fr 30 2 (by omega) (by omega), F1 30 2 (by omega), e11, up2_eq]
        · rw [fr 135 33 (by omega) (by omega)]; exact F5
        · rw [fr 135 24 (by omega) (by omega), F3 24 (by omega), oc 135 24 (by omega) (by omega) (by omega), cl 1 11 (by omega) (by omega) (by omega)]
          exact N.1.2.2.2.2
    · -- a fault of the check
      have e84 : g8 30 4 = k5 30 4 := by rw [e8, up2_ext (by omega)]
      rw [e84]
      refine ⟨by unfold r32; omega, by omega, by omega, fun g9 e9 => ?_⟩
      have o9 : ∀ a i, ¬ (a = 30 ∧ i = 2) → ¬ (a = 1 ∧ i = 11) → g9 a i = k5 a i := fun a i p q => by rw [e9, up2_ext p, e8, up2_ext q]
      have rf : ∀ a i, 134 < a → g9 a i = g a i := fun a i p => by rw [o9 a i (by omega) (by omega), o5 a i (by omega) (by omega)]
      refine r_runs (z := z) (by omega) rf T' D' O' ⟨by rw [rf 135 14 (by omega), ghh]; exact b3.1, by rw [rf 135 16 (by omega), ghh]; exact b3.2.1, by rw [rf 135 19 (by omega), ghh]; exact b3.2.2⟩ rd (by have := T'.1.1; omega) T'.1.2.1 (by omega) (fun z => absurd rfl z) (fun _ => J) (fun _ _ k gg F ez2 br2 eg => ⟨by omega, ?_⟩) (fun _ z0 => by omega)
      exact fin_flt B D O N Bd hs Bw H (fun a i p q r s t => by rw [o9 a i (by omega) t, o5 a i (by omega) (by omega), o a i (by omega) (by omega) (by omega)]) (show g9 1 11 = k 135 66 by rw [e9, up2_ext (by omega), e8, up2_eq]; omega) (by rw [e9, up2_eq]) F eg
  · -- a fault of the reading
    have o' : ∀ x i, x ≠ 32 → ¬ (x = 30 ∧ 3 ≤ i ∧ i ≤ 5) → x ≠ 91 → g x i = h x i := fun x i p q r => o x i (by omega) q (by omega)
    obtain ⟨⟨T', D', O'⟩, e2, e31, eP, sgn, cv⟩ := txt_aft (g := g) T D O (fun x i _ q r s => o' x i q r s)
    have rd' := cv (g 32) _ _ _ rd
    have e34 : g3 30 4 = g 30 4 := by rw [e3, up2_ext (by omega)]
    rw [e34]
    refine ⟨by unfold r32; omega, by omega, by omega, fun g4 e4 => ?_⟩
    have rn : -300 ≤ r ∧ r ≤ 100 := by
      by_cases c : r < 0
      · have := ra c; omega
      · have := rb (by omega); omega
    have o4 : ∀ a i, ¬ (a = 30 ∧ i = 2) → ¬ (a = 1 ∧ i = 11) → g4 a i = g a i := fun a i p q => by rw [e4, up2_ext p, e3, up2_ext q]
    have rf : ∀ a i, 134 < a → g4 a i = g a i := fun a i p => o4 a i (by omega) (by omega)
    have ghh : ∀ i, g 135 i = h 135 i := fun i => o 135 i (by omega) (by omega) (by omega)
    refine r_runs (z := 0) (S' := S0x) (V' := V0x) (t := tI) (by omega) rf T' D' O' ⟨by rw [rf 135 14 (by omega), ghh]; exact b3.1, by rw [rf 135 16 (by omega), ghh]; exact b3.2.1, by rw [rf 135 19 (by omega), ghh]; exact b3.2.2⟩ rd' rn.1 rn.2 (by omega) (fun _ k3 R3 ka kb gg eg => ⟨?_, ?_⟩) (fun z => absurd (z.trans e2) nr) (fun z => absurd (z.trans e2) nr) (fun z => absurd (z.trans e2) nr)
    · by_cases c : r < 0
      · have := ra c
        have := ka c
        omega
      · have := rb (by omega)
        have := kb (by omega)
        omega
    · refine fin_flt B D O N Bd hs Bw H (fun a i p q r s t => by rw [o4 a i (by omega) t, o a i (by omega) (by omega) (by omega)]) (show g4 1 11 = k3 135 37 from ?_) (by rw [e4, up2_eq]) (RdF_BfR R3) eg
      rw [e4, up2_ext (by omega), e3, up2_eq]
      by_cases c : r < 0
      · have := ra c
        have := ka c
        omega
      · have := rb (by omega)
        have := kb (by omega)
        omega
end
