section
/-! constructs and signs, with what they leave of the functions -/
theorem b_constructs2 {d : Nat} {h : HP} {fam : Int} {R : HP → Prop} (hd : 40 < d) (B : BIx h) (T : TxR h) (D : DcR h) (O : DcO h) (N : RnR h) (H : ∀ h2, BIx h2 → TxR h2 → DcR h2 → DcO h2 → RnR h2 → FrS h h2 → (h2 36 5 = h 36 5 ∧ (0 < h 36 5 → FrB h h2)) → R h2) :
    Go d M_BT_constructs 0 [(21, 1), (0, fam)] [] h (fun r1 h1 => Go d M_Mo_constructs 0 [(22, 135), (0, fam)] [] h1 (fun r2 h2 => r1 = r2 ∧ R h2)) := by
  have H' : ∀ h2, BIx h2 → FrB h h2 → R h2 := fun h2 b f => H h2 b (TxR_fr f T) (DcR_fr f D) (DcO_fr f D O) (RnR_fr f N) (FrS_of f) ⟨f.1 36 5 (by omega), fun _ => f⟩
  obtain ⟨⟨a0, a1, a2, a3, a4, a5⟩, cs, fs⟩ := D
  obtain ⟨⟨t0, t1, t2⟩, t3⟩ := T
  have bad : ¬ (0 ≤ fam ∧ fam ≤ 3) → ∀ g1 : HP, g1 = up2 h 1 12 (w32 (h 1 12 + 1)) → Go d M_Mo_constructs 0 [(22, 135), (0, fam)] [] g1 (fun r2 h2 => -2 = r2 ∧ R h2) := by
    intro nb g1 hg1
    have rb := fun {d : Nat} (q : 0 < d) => ref_bad (d := d) B H' hg1 q
    exact N_Mo_constructs_0 ⟨by omega, c_in (fun a b => absurd ⟨a, b⟩ nb) (fun _ => ⟨fun z => absurd rfl z, fun _ => rb (by omega)⟩)⟩
  refine N_BT_constructs_0 ⟨fun z => ⟨by omega, bad (by omega)⟩, fun f0 => ⟨fun f1 => ⟨fun w5 => ⟨fun w4 => ⟨by omega, ?_⟩, fun w4 => ⟨by omega, fun g1 hg1 => ?_⟩⟩, fun w5 => ⟨by omega, fun g1 hg1 => ?_⟩⟩, fun z => ⟨by omega, bad (by omega)⟩⟩⟩
  · -- how the reference goes on from a heap that differs from h in the class's cells alone
    have ref : ∀ (g5 : HP) (P : PQ), (∀ x i, 134 < x → g5 x i = h x i) → (0 ≤ rdH h 30 → h 30 2 ≤ 24 → ∀ g8 : HP, (∀ x i, x ≠ 157 → ¬ (x = 135 ∧ i = 33) → ¬ (x = 135 ∧ i = 35) → ¬ (x = 135 ∧ i = 36) → g8 x i = g5 x i) → g8 135 33 = 0 → g8 135 35 = h 30 2 → (∀ i, 0 ≤ i → i < h 30 2 → g8 157 i = h 31 i) → Go (d - 1) M_Mo_declares 0 [(22, 135), (0, fam)] [] g8 (fun y4 k4 => r32 ((k4 135 30) - 1) ∧ P ((k4 135 30) - 1) k4)) → (rdH h 30 < 0 → ∀ g8 : HP, (∀ x i, x ≠ 157 → ¬ (x = 135 ∧ i = 33) → ¬ (x = 135 ∧ i = 35) → ¬ (x = 135 ∧ i = 36) → ¬ (x = 135 ∧ i = 24) → g8 x i = g5 x i) → g8 135 33 = 0 → g8 135 24 = 1 → P (-10 - (-1 - rdH h 30)) g8) → Go d M_Mo_constructs 0 [(22, 135), (0, fam)] [] g5 P := by
      intro g5 P o H1 H0
      have f30 : g5 135 30 = h 36 4 := by rw [o 135 30 (by decide)]; exact a2
      have f31 : g5 135 31 = h 36 5 := by rw [o 135 31 (by decide)]; exact a5
      refine N_Mo_constructs_0 ⟨by omega, c_in (fun _ _ => ⟨fun _ => ⟨fun _ => ⟨fun _ => ⟨by omega, c_headR (by omega) ⟨⟨t0, t1, t2⟩, t3⟩ o (fun e ln g8 o8 z8 l8 r8 => ⟨fun _ => ⟨by omega, H1 e ln g8 o8 z8 l8 r8⟩, fun z => absurd z (by decide)⟩) (fun e g8 o8 z8 e8 => ⟨fun z => absurd rfl z, fun _ => ⟨by omega, fun g9 h9 => ?_⟩⟩)⟩, fun u => by omega⟩, fun u => by omega⟩, fun u => absurd u (by decide)⟩) (fun u => by omega)⟩
      have lb := rdH_lb (h := h) (a := 30) t0
      rw [e8]
      refine ⟨by unfold r32; omega, H0 e g9 (fun x i p q r t u => ?_) ?_ (by rw [h9, up2_eq])⟩
      · rw [h9, up2_ext u]; exact o8 x i p q r t
      · rw [h9, up2_ni (by decide)]; exact z8
    refine c_declC (by omega) (Or.inl rfl) t0 t1 a0 w4 (fun e ln g o S fm q4 => ⟨fun z => absurd z (by decide), fun _ => ?_⟩) (fun e g o e4 e5 => ⟨fun _ => ⟨by omega, fun g3 h3 => ?_⟩, fun z => absurd rfl z⟩)
    · rw [q4]
      refine ⟨by unfold r32; omega, by omega, by omega, fun g5 h5 => ref g5 _ (fun x i p => by rw [h5, up2_nc (by omega)]; exact o x i (by omega) (by omega) (by omega)) (fun _ _ g8 o8 z8 l8 r8 => ?_) (fun z => by omega)⟩
      have q8 : ∀ x i, x ≠ 41 + 2 * h 36 4 → x ≠ 41 + 2 * h 36 4 + 1 → ¬ (x = 36 ∧ i = 4) → ¬ (x = 30 ∧ i = 2) → x ≠ 157 → ¬ (x = 135 ∧ i = 33) → ¬ (x = 135 ∧ i = 35) → ¬ (x = 135 ∧ i = 36) → g8 x i = h x i := fun x i p1 p2 p3 p4 p5 p6 p7 p8 => by rw [o8 x i p5 p6 p7 p8, h5, up2_ext p4]; exact o x i p1 p2 p3
      have e30 : g8 135 30 = h 36 4 := by rw [q8 135 30 (by omega) (by omega) (by omega) (by omega) (by omega) (by omega) (by omega) (by omega)]; exact a2
      have c3 := rdS_3 (b := h 31) (n := h 30 2) (m := min (h 30 2) 24) 3 0 (by omega) (by omega)
      have eC : rdS (g8 157) (h 30 2) (h 30 2) 3 0 = rdH h 30 := by
        rw [rdS_congr (b := h 31) (b' := g8 157) 3 0 (by omega) (fun i i0 i1 => r8 i i0 i1)]
        show _ = rdS (h 31) (h 30 2) (min (h 30 2) 24) 3 0
        rw [show min (h 30 2) 24 = h 30 2 by omega]
      refine N_Mo_declares_0 ⟨by omega, ?_⟩
      rw [e30]
      refine c_keepsN a0 (by omega) l8 t0 ln e eC (fun g9 K => ?_)
      obtain ⟨k1, k2, k3, k4, k5, k6, k7⟩ := K
      have e30' : g9 135 30 = h 36 4 := by rw [k1 135 30 (by omega) (by omega) (by omega) (by omega)]; exact e30
      rw [e30']
      refine ⟨⟨a0, w4⟩, fun g10 h10 => ?_⟩
      have e30'' : g10 135 30 = h 36 4 := by rw [h10, up2_nc (by decide)]; exact e30'
      rw [e30'']
      refine ⟨by unfold r32; omega, fun g11 h11 => ?_⟩
      rw [show g11 135 30 = h 36 4 + 1 by rw [h11, up2_eq]]
      refine ⟨by unfold r32; omega, rfl, ?_⟩
      -- the heap behind both
      have w1 : ∀ x i, ¬ (x = 135 ∧ i = 30) → ¬ (x = 155 ∧ i = h 36 4) → g11 x i = g9 x i := fun x i p q => by rw [h11, up2_ext p, h10, up2_ext q]
      have w2 : ∀ x i, ¬ (x = 135 ∧ i = 30) → ¬ (x = 155 ∧ i = h 36 4) → x ≠ 151 → x ≠ 152 → x ≠ 153 → x ≠ 154 → g11 x i = g8 x i := fun x i p q r1 r2 r3 r4 => by rw [w1 x i p q]; exact k1 x i r1 r2 r3 r4
      have w : ∀ x i, x ≠ 41 + 2 * h 36 4 → x ≠ 41 + 2 * h 36 4 + 1 → ¬ (x = 36 ∧ i = 4) → ¬ (x = 30 ∧ i = 2) → x ≠ 157 → ¬ (x = 135 ∧ 29 < i) → ¬ (x = 155 ∧ i = h 36 4) → ¬ (150 < x ∧ x < 155) → g11 x i = h x i := fun x i p1 p2 p3 p4 p5 p6 p7 p8 => by rw [w2 x i (by omega) p7 (by omega) (by omega) (by omega) (by omega)]; exact q8 x i p1 p2 p3 p4 p5 (by omega) (by omega) (by omega)
      have wc : ∀ x i, 35 < x → x < 100 → g11 x i = g x i := fun x i p q => by rw [w2 x i (by omega) (by omega) (by omega) (by omega) (by omega) (by omega), o8 x i (by omega) (by omega) (by omega) (by omega), h5, up2_nc (by omega)]
      have S' : SgN (h 31) g11 (41 + 2 * h 36 4) (h 30 2) (rdH h 30) := by
        obtain ⟨s1, s2, s3, s4⟩ := S
        exact ⟨by rw [wc _ _ (by omega) (by omega)]; exact s1, by rw [wc _ _ (by omega) (by omega)]; exact s2, by rw [wc _ _ (by omega) (by omega)]; exact s3, fun i p q => by rw [wc _ _ (by omega) (by omega)]; exact s4 i p q⟩
      have e364 : g11 36 4 = h 36 4 + 1 := by rw [wc 36 4 (by omega) (by omega)]; exact q4
      have e365 : g11 36 5 = h 36 5 := w 36 5 (by omega) (by omega) (by omega) (by omega) (by omega) (by omega) (by omega) (by omega)
      refine H g11 (BIx_out B (fun a i p => w a i (by omega) (by omega) (by omega) (by omega) (by omega) (by omega) (by omega) (by omega)) (fun a i p q => w a i (by omega) (by omega) (by omega) (by omega) (by omega) (by omega) (by omega) (by omega)) ⟨fun i p q => w _ _ (by omega) (by omega) (by omega) (by omega) (by omega) (by omega) (by omega) (by omega), fun a i p q r => w _ _ (by omega) (by omega) (by omega) (by omega) (by omega) (by omega) (by omega) (by omega)⟩) ?_ ⟨?_, ?_, ?_⟩ ⟨?_, ?_⟩ ?_ ?_ ⟨e365, fun z => by omega⟩
      · -- the text
        have e2 : g11 30 2 = 0 := by rw [w2 30 2 (by omega) (by omega) (by omega) (by omega) (by omega) (by omega), o8 30 2 (by omega) (by omega) (by omega) (by omega), h5, up2_eq]
        have e33 : g11 135 33 = 0 := by rw [w2 135 33 (by omega) (by omega) (by omega) (by omega) (by omega) (by omega)]; exact z8
        exact ⟨⟨by omega, by omega, by omega⟩, fun i i0 i1 => by omega⟩
      · rw [e364, e365, show g11 135 30 = h 36 4 + 1 by rw [h11, up2_eq], w2 135 31 (by omega) (by omega) (by omega) (by omega) (by omega) (by omega), q8 135 31 (by omega) (by omega) (by omega) (by omega) (by omega) (by omega) (by omega) (by omega)]
        exact ⟨by omega, by omega, rfl, a3, a4, a5⟩
      · intro k k0 k1'
        by_cases z : k = h 36 4
        · subst z
          refine ⟨SgR_new (b := h 31) (b' := g8 157) t0 ln e c3 S' (by rw [w1 152 _ (by omega) (by omega)]; exact k4) (by rw [w1 153 _ (by omega) (by omega)]; exact k5) (by rw [w1 154 _ (by omega) (by omega)]; exact k6) (fun i i0 i1 => by rw [w1 151 _ (by omega) (by omega)]; exact k7 i i0 i1) r8, ?_⟩
          have e155 : g11 155 (h 36 4) = fam := by rw [h11, up2_nc (by decide), h10, up2_eq]
          rw [e155, wc (41 + 2 * h 36 4) 4 (by omega) (by omega), fm]
          exact ⟨rfl, f0, by omega⟩
        · obtain ⟨s, f⟩ := cs k k0 (by omega)
          refine ⟨SgR_keep s (fun i => w _ _ (by omega) (by omega) (by omega) (by omega) (by omega) (by omega) (by omega) (by omega)) (fun i => w _ _ (by omega) (by omega) (by omega) (by omega) (by omega) (by omega) (by omega) (by omega)) ?_ ?_ ?_ (fun i i0 i1 => ?_), ?_⟩
          · rw [w1 152 _ (by omega) (by omega), (k2 k z).1]; exact q8 152 k (by omega) (by omega) (by omega) (by omega) (by omega) (by omega) (by omega) (by omega)
          · rw [w1 153 _ (by omega) (by omega), (k2 k z).2.1]; exact q8 153 k (by omega) (by omega) (by omega) (by omega) (by omega) (by omega) (by omega) (by omega)
          · rw [w1 154 _ (by omega) (by omega), (k2 k z).2.2]; exact q8 154 k (by omega) (by omega) (by omega) (by omega) (by omega) (by omega) (by omega) (by omega)
          · rw [w1 151 _ (by omega) (by omega), k3 i (by omega)]; exact q8 151 i (by omega) (by omega) (by omega) (by omega) (by omega) (by omega) (by omega) (by omega)
          · rw [w 155 k (by omega) (by omega) (by omega) (by omega) (by omega) (by omega) (by omega) (by omega), w (41 + 2 * k) 4 (by omega) (by omega) (by omega) (by omega) (by omega) (by omega) (by omega) (by omega)]
            exact f
      · intro f p q; omega
      · intro k k0 k1'
        by_cases z : k = h 36 4
        · subst z
          refine SgO_new S' ?_
          show _ = rdS (h 31) (h 30 2) (min (h 30 2) 24) 3 0
          rw [show min (h 30 2) 24 = h 30 2 by omega]
        · have s := O.1 k k0 (by omega)
          unfold SgO at *
          rw [w (41 + 2 * k) 1 (by omega) (by omega) (by omega) (by omega) (by omega) (by omega) (by omega) (by omega), w (41 + 2 * k) 2 (by omega) (by omega) (by omega) (by omega) (by omega) (by omega) (by omega) (by omega), show g11 (41 + 2 * k + 1) = h (41 + 2 * k + 1) from funext fun i => w _ _ (by omega) (by omega) (by omega) (by omega) (by omega) (by omega) (by omega) (by omega)]
          exact s
      · intro f p q; omega
      · exact RnR_ag (fun x i p q => w x i (by omega) (by omega) (by omega) (by omega) (by omega) (by omega) (by omega) (by omega)) (w 1 9 (by omega) (by omega) (by omega) (by omega) (by omega) (by omega) (by omega) (by omega)) (w 1 10 (by omega) (by omega) (by omega) (by omega) (by omega) (by omega) (by omega) (by omega)) (by rw [w 135 24 (by omega) (by omega) (by omega) (by omega) (by omega) (by omega) (by omega) (by omega), w 1 11 (by omega) (by omega) (by omega) (by omega) (by omega) (by omega) (by omega) (by omega)]; exact N.1.2.2.2.2) N
      · intro a i p1 p2 p3 p4 p5 p6 p7 p8 p9 p10 p11 p12 p13
        exact w a i p6 (by omega) (by omega) (by omega) p12 (by omega) (by omega) (by omega)
    · -- a fault
      have g4 : g3 30 4 = -1 - rdH h 30 := by rw [h3, up2_nc (by decide)]; exact e4
      have lb := rdH_lb (h := h) (a := 30) t0
      rw [g4]
      refine ⟨by unfold r32; omega, by omega, by omega, fun g5 h5 => ref g5 _ (fun x i p => by rw [h5, up2_nc (by omega), h3, up2_nc (by omega)]; exact o x i (by omega) (by omega)) (fun z => by omega) (fun _ g8 o8 z8 y8 => ⟨rfl, ?_⟩)⟩
      have w : ∀ x i, ¬ (x = 1 ∧ i = 11) → ¬ (x = 30 ∧ (i = 2 ∨ i = 4 ∨ i = 5)) → x ≠ 157 → ¬ (x = 135 ∧ 32 < i) → ¬ (x = 135 ∧ i = 24) → g8 x i = h x i := fun x i p1 p2 p3 p4 p5 => by rw [o8 x i p3 (by omega) (by omega) (by omega) p5, h5, up2_ext (by omega), h3, up2_ext p1]; exact o x i (by omega) (by omega)
      have e111 : g8 1 11 = 1 := by rw [o8 1 11 (by omega) (by omega) (by omega) (by omega) (by omega), h5, up2_nc (by decide), h3, up2_eq]; exact e5
      exact H g8 (BIx_out B (fun a i p => w a i (by omega) (by omega) (by omega) (by omega) (by omega)) (fun a i p q => w a i (by omega) (by omega) (by omega) (by omega) (by omega)) ⟨fun i p q => w _ _ (by omega) (by omega) (by omega) (by omega) (by omega), fun a i p q r => w _ _ (by omega) (by omega) (by omega) (by omega) (by omega)⟩)
        ⟨by rw [z8, show g8 30 2 = 0 by rw [o8 30 2 (by omega) (by omega) (by omega) (by omega) (by omega), h5, up2_eq]]; omega, fun i i0 i1 => by rw [show g8 30 2 = 0 by rw [o8 30 2 (by omega) (by omega) (by omega) (by omega) (by omega), h5, up2_eq]] at i1; omega⟩
        (DcR_ag (fun x i p q => w x i (by omega) (by omega) (by omega) (by omega) (by omega)) (w 135 30 (by omega) (by omega) (by omega) (by omega) (by omega)) (w 135 31 (by omega) (by omega) (by omega) (by omega) (by omega)) ⟨⟨a0, a1, a2, a3, a4, a5⟩, cs, fs⟩)
        (DcO_ag (w 36 4 (by omega) (by omega) (by omega) (by omega) (by omega)) (w 36 5 (by omega) (by omega) (by omega) (by omega) (by omega)) (fun x i p q => w x i (by omega) (by omega) (by omega) (by omega) (by omega)) ⟨⟨a0, a1, a2, a3, a4, a5⟩, cs, fs⟩ O)
        (RnR_ag (fun x i p q => w x i (by omega) (by omega) (by omega) (by omega) (by omega)) (w 1 9 (by omega) (by omega) (by omega) (by omega) (by omega)) (w 1 10 (by omega) (by omega) (by omega) (by omega) (by omega)) (by rw [y8, e111]) N)
        (fun a i p1 p2 p3 p4 p5 p6 p7 p8 p9 p10 p11 p12 p13 => w a i (by omega) (by omega) p12 (by omega) (by omega))
        ⟨w 36 5 (by omega) (by omega) (by omega) (by omega) (by omega), fun z => by omega⟩
  · have rb := fun {d : Nat} (q : 0 < d) => ref_full (d := d) B H' hg1 q
    have f30 : g1 135 30 = h 36 4 := by rw [hg1, up2_nc (by decide)]; exact a2
    have f31 : g1 135 31 = h 36 5 := by rw [hg1, up2_nc (by decide)]; exact a5
    exact N_Mo_constructs_0 ⟨by omega, c_in (fun _ _ => ⟨fun _ => ⟨fun _ => ⟨fun u => by omega, fun _ => rb (by omega)⟩, fun u => by omega⟩, fun u => absurd u (by decide)⟩) (fun u => by omega)⟩
  · have rb := fun {d : Nat} (q : 0 < d) => ref_no (d := d) B H' hg1 q
    have f31 : g1 135 31 = h 36 5 := by rw [hg1, up2_nc (by decide)]; exact a5
    exact N_Mo_constructs_0 ⟨by omega, c_in (fun _ _ => ⟨fun _ => ⟨fun u => by omega, fun _ => rb (by omega)⟩, fun u => absurd u (by decide)⟩) (fun u => by omega)⟩
theorem b_signs2 {d : Nat} {h : HP} {R : HP → Prop} (hd : 40 < d) (B : BIx h) (T : TxR h) (D : DcR h) (O : DcO h) (N : RnR h) (H : ∀ h2, BIx h2 → TxR h2 → DcR h2 → DcO h2 → RnR h2 → FrS h h2 → ((∀ x i, 60 < x → x < 91 → x ≠ 61 + 5 * h 36 5 → x ≠ 62 + 5 * h 36 5 → h2 x i = h x i) ∧ h2 36 4 = h 36 4 ∧ (h2 36 5 = h 36 5 ∨ (h2 36 5 = h 36 5 + 1 ∧ h2 40 (h 36 5) = 0))) → R h2) :
    Go d M_BT_signs 0 [(21, 1)] [] h (fun r1 h1 => Go d M_Mo_signs 0 [(22, 135)] [] h1 (fun r2 h2 => r1 = r2 ∧ R h2)) := by
  have H' : ∀ h2, BIx h2 → FrB h h2 → R h2 := fun h2 b f => H h2 b (TxR_fr f T) (DcR_fr f D) (DcO_fr f D O) (RnR_fr f N) (FrS_of f) ⟨fun x i p q _ _ => f.1 x i (by omega), f.1 36 4 (by omega), Or.inl (f.1 36 5 (by omega))⟩
  obtain ⟨⟨a0, a1, a2, a3, a4, a5⟩, cs, fs⟩ := D
  obtain ⟨⟨t0, t1, t2⟩, t3⟩ := T
  refine N_BT_signs_0 ⟨fun w5 => ⟨by omega, ?_⟩, fun w5 => ⟨by omega, fun g1 hg1 => ?_⟩⟩
  · have ref : ∀ (g5 : HP) (P : PQ), (∀ x i, 134 < x → g5 x i = h x i) → (0 ≤ rdH h 30 → h 30 2 ≤ 24 → ∀ g8 : HP, (∀ x i, x ≠ 157 → ¬ (x = 135 ∧ i = 33) → ¬ (x = 135 ∧ i = 35) → ¬ (x = 135 ∧ i = 36) → g8 x i = g5 x i) → g8 135 33 = 0 → g8 135 35 = h 30 2 → (∀ i, 0 ≤ i → i < h 30 2 → g8 157 i = h 31 i) → Go (d - 1) M_Mo_signsOne 0 [(22, 135)] [] g8 (fun y4 k4 => r32 ((k4 135 31) - 1) ∧ P ((k4 135 31) - 1) k4)) → (rdH h 30 < 0 → ∀ g8 : HP, (∀ x i, x ≠ 157 → ¬ (x = 135 ∧ i = 33) → ¬ (x = 135 ∧ i = 35) → ¬ (x = 135 ∧ i = 36) → ¬ (x = 135 ∧ i = 24) → g8 x i = g5 x i) → g8 135 33 = 0 → g8 135 24 = 1 → P (-10 - (-1 - rdH h 30)) g8) → Go d M_Mo_signs 0 [(22, 135)] [] g5 P := by
      intro g5 P o H1 H0
      have f31 : g5 135 31 = h 36 5 := by rw [o 135 31 (by decide)]; exact a5
      refine N_Mo_signs_0 ⟨fun _ => ⟨by omega, c_headR (by omega) ⟨⟨t0, t1, t2⟩, t3⟩ o (fun e ln g8 o8 z8 l8 r8 => ⟨fun _ => ⟨by omega, H1 e ln g8 o8 z8 l8 r8⟩, fun z => absurd z (by decide)⟩) (fun e g8 o8 z8 e8 => ⟨fun z => absurd rfl z, fun _ => ⟨by omega, fun g9 h9 => ?_⟩⟩)⟩, fun u => by omega⟩
      have lb := rdH_lb (h := h) (a := 30) t0
      rw [e8]
      refine ⟨by unfold r32; omega, H0 e g9 (fun x i p q r t u => ?_) ?_ (by rw [h9, up2_eq])⟩
      · rw [h9, up2_ext u]; exact o8 x i p q r t
      · rw [h9, up2_ni (by decide)]; exact z8
    refine c_declF (by omega) (Or.inl rfl) t0 t1 a3 w5 (fun e ln g o S q40 q5 => ⟨fun z => absurd z (by decide), fun _ => ?_⟩) (fun e g o e4 e5 => ⟨fun _ => ⟨by omega, fun g3 h3 => ?_⟩, fun z => absurd rfl z⟩)
    · rw [q5]
      refine ⟨by unfold r32; omega, by omega, by omega, fun g5 h5 => ref g5 _ (fun x i p => by rw [h5, up2_nc (by omega)]; exact o x i (by omega) (by omega) (by omega) (by omega)) (fun _ _ g8 o8 z8 l8 r8 => ?_) (fun z => by omega)⟩
      have q8 : ∀ x i, x ≠ 61 + 5 * h 36 5 → x ≠ 61 + 5 * h 36 5 + 1 → ¬ (x = 36 ∧ i = 5) → ¬ (x = 40 ∧ i = h 36 5) → ¬ (x = 30 ∧ i = 2) → x ≠ 157 → ¬ (x = 135 ∧ i = 33) → ¬ (x = 135 ∧ i = 35) → ¬ (x = 135 ∧ i = 36) → g8 x i = h x i := fun x i p1 p2 p3 p9 p4 p5 p6 p7 p8 => by rw [o8 x i p5 p6 p7 p8, h5, up2_ext p4]; exact o x i p1 p2 p3 p9
      have e31 : g8 135 31 = h 36 5 := by rw [q8 135 31 (by omega) (by omega) (by omega) (by omega) (by omega) (by omega) (by omega) (by omega) (by omega)]; exact a5
      have c3 := rdS_3 (b := h 31) (n := h 30 2) (m := min (h 30 2) 24) 3 0 (by omega) (by omega)
      have eC : rdS (g8 157) (h 30 2) (h 30 2) 3 0 = rdH h 30 := by
        rw [rdS_congr (b := h 31) (b' := g8 157) 3 0 (by omega) (fun i i0 i1 => r8 i i0 i1)]
        show _ = rdS (h 31) (h 30 2) (min (h 30 2) 24) 3 0
        rw [show min (h 30 2) 24 = h 30 2 by omega]
      refine N_Mo_signsOne_0 ?_
      rw [e31]
      refine ⟨by unfold r32; omega, by omega, c_keepsN (by omega) (by omega) l8 t0 ln e eC (fun g9 K => ?_)⟩
      obtain ⟨k1, k2, k3, k4, k5, k6, k7⟩ := K
      have e31' : g9 135 31 = h 36 5 := by rw [k1 135 31 (by omega) (by omega) (by omega) (by omega)]; exact e31
      rw [e31']
      refine ⟨⟨a3, w5⟩, fun g10 h10 => ?_⟩
      have e31'' : g10 135 31 = h 36 5 := by rw [h10, up2_nc (by decide)]; exact e31'
      rw [e31'']
      refine ⟨by unfold r32; omega, fun g11 h11 => ?_⟩
      rw [show g11 135 31 = h 36 5 + 1 by rw [h11, up2_eq]]
      refine ⟨by unfold r32; omega, rfl, ?_⟩
      have w1 : ∀ x i, ¬ (x = 135 ∧ i = 31) → ¬ (x = 167 ∧ i = h 36 5) → g11 x i = g9 x i := fun x i p q => by rw [h11, up2_ext p, h10, up2_ext q]
      have w2 : ∀ x i, ¬ (x = 135 ∧ i = 31) → ¬ (x = 167 ∧ i = h 36 5) → x ≠ 151 → x ≠ 152 → x ≠ 153 → x ≠ 154 → g11 x i = g8 x i := fun x i p q r1 r2 r3 r4 => by rw [w1 x i p q]; exact k1 x i r1 r2 r3 r4
      have w : ∀ x i, x ≠ 61 + 5 * h 36 5 → x ≠ 61 + 5 * h 36 5 + 1 → ¬ (x = 36 ∧ i = 5) → ¬ (x = 40 ∧ i = h 36 5) → ¬ (x = 30 ∧ i = 2) → x ≠ 157 → ¬ (x = 135 ∧ 30 < i) → ¬ (x = 167 ∧ i = h 36 5) → ¬ (150 < x ∧ x < 155) → g11 x i = h x i := fun x i p1 p2 p3 p9 p4 p5 p6 p7 p8 => by rw [w2 x i (by omega) p7 (by omega) (by omega) (by omega) (by omega)]; exact q8 x i p1 p2 p3 p9 p4 p5 (by omega) (by omega) (by omega)
      have wc : ∀ x i, 35 < x → x < 100 → g11 x i = g x i := fun x i p q => by rw [w2 x i (by omega) (by omega) (by omega) (by omega) (by omega) (by omega), o8 x i (by omega) (by omega) (by omega) (by omega), h5, up2_nc (by omega)]
      have S' : SgN (h 31) g11 (61 + 5 * h 36 5) (h 30 2) (rdH h 30) := by
        obtain ⟨s1, s2, s3, s4⟩ := S
        exact ⟨by rw [wc _ _ (by omega) (by omega)]; exact s1, by rw [wc _ _ (by omega) (by omega)]; exact s2, by rw [wc _ _ (by omega) (by omega)]; exact s3, fun i p q => by rw [wc _ _ (by omega) (by omega)]; exact s4 i p q⟩
      have e365 : g11 36 5 = h 36 5 + 1 := by rw [wc 36 5 (by omega) (by omega)]; exact q5
      have e364 : g11 36 4 = h 36 4 := w 36 4 (by omega) (by omega) (by omega) (by omega) (by omega) (by omega) (by omega) (by omega) (by omega)
      have r1 : ∀ j, j ≠ 10 + h 36 5 → g11 152 j = h 152 j ∧ g11 153 j = h 153 j ∧ g11 154 j = h 154 j := by
        intro j z
        refine ⟨?_, ?_, ?_⟩
        · rw [w1 152 _ (by omega) (by omega), (k2 j z).1]; exact q8 152 j (by omega) (by omega) (by omega) (by omega) (by omega) (by omega) (by omega) (by omega) (by omega)
        · rw [w1 153 _ (by omega) (by omega), (k2 j z).2.1]; exact q8 153 j (by omega) (by omega) (by omega) (by omega) (by omega) (by omega) (by omega) (by omega) (by omega)
        · rw [w1 154 _ (by omega) (by omega), (k2 j z).2.2]; exact q8 154 j (by omega) (by omega) (by omega) (by omega) (by omega) (by omega) (by omega) (by omega) (by omega)
      have r2 : ∀ i, i < 24 * (10 + h 36 5) ∨ 24 * (10 + h 36 5) + 24 ≤ i → g11 151 i = h 151 i := by
        intro i z
        rw [w1 151 _ (by omega) (by omega), k3 i z]; exact q8 151 i (by omega) (by omega) (by omega) (by omega) (by omega) (by omega) (by omega) (by omega) (by omega)
      refine H g11 (BIx_out B (fun a i p => w a i (by omega) (by omega) (by omega) (by omega) (by omega) (by omega) (by omega) (by omega) (by omega)) (fun a i p q => w a i (by omega) (by omega) (by omega) (by omega) (by omega) (by omega) (by omega) (by omega) (by omega)) ⟨fun i p q => w _ _ (by omega) (by omega) (by omega) (by omega) (by omega) (by omega) (by omega) (by omega) (by omega), fun a i p q r => w _ _ (by omega) (by omega) (by omega) (by omega) (by omega) (by omega) (by omega) (by omega) (by omega)⟩) ?_ ⟨?_, ?_, ?_⟩ ⟨?_, ?_⟩ ?_ ?_ ⟨fun x i p q r s => w x i r (by omega) (by omega) (by omega) (by omega) (by omega) (by omega) (by omega) (by omega), e364, Or.inr ⟨e365, by rw [wc 40 _ (by omega) (by omega)]; exact q40⟩⟩
      · have e2 : g11 30 2 = 0 := by rw [w2 30 2 (by omega) (by omega) (by omega) (by omega) (by omega) (by omega), o8 30 2 (by omega) (by omega) (by omega) (by omega), h5, up2_eq]
        have e33 : g11 135 33 = 0 := by rw [w2 135 33 (by omega) (by omega) (by omega) (by omega) (by omega) (by omega)]; exact z8
        exact ⟨⟨by omega, by omega, by omega⟩, fun i i0 i1 => by omega⟩
      · rw [e364, e365, show g11 135 31 = h 36 5 + 1 by rw [h11, up2_eq], w2 135 30 (by omega) (by omega) (by omega) (by omega) (by omega) (by omega), q8 135 30 (by omega) (by omega) (by omega) (by omega) (by omega) (by omega) (by omega) (by omega) (by omega)]
        exact ⟨a0, a1, a2, by omega, by omega, rfl⟩
      · intro k k0 k1'
        obtain ⟨s, f⟩ := cs k k0 (by omega)
        have rr := r1 k (by omega)
        refine ⟨SgR_keep s (fun i => w _ _ (by omega) (by omega) (by omega) (by omega) (by omega) (by omega) (by omega) (by omega) (by omega)) (fun i => w _ _ (by omega) (by omega) (by omega) (by omega) (by omega) (by omega) (by omega) (by omega) (by omega)) rr.1 rr.2.1 rr.2.2 (fun i i0 i1 => r2 i (by omega)), ?_⟩
        rw [w 155 k (by omega) (by omega) (by omega) (by omega) (by omega) (by omega) (by omega) (by omega) (by omega), w (41 + 2 * k) 4 (by omega) (by omega) (by omega) (by omega) (by omega) (by omega) (by omega) (by omega) (by omega)]
        exact f
      · intro f f0 f1
        by_cases z : f = h 36 5
        · subst z
          refine ⟨SgR_new (b := h 31) (b' := g8 157) t0 ln e c3 S' (by rw [w1 152 _ (by omega) (by omega)]; exact k4) (by rw [w1 153 _ (by omega) (by omega)]; exact k5) (by rw [w1 154 _ (by omega) (by omega)]; exact k6) (fun i i0 i1 => by rw [w1 151 _ (by omega) (by omega)]; exact k7 i i0 i1) r8, Or.inl ⟨?_, ?_⟩⟩
          · rw [wc 40 _ (by omega) (by omega)]; exact q40
          · rw [h11, up2_nc (by decide), h10, up2_eq]
        · obtain ⟨s, t⟩ := fs f f0 (by omega)
          have rr := r1 (10 + f) (by omega)
          refine ⟨SgR_keep s (fun i => w _ _ (by omega) (by omega) (by omega) (by omega) (by omega) (by omega) (by omega) (by omega) (by omega)) (fun i => w _ _ (by omega) (by omega) (by omega) (by omega) (by omega) (by omega) (by omega) (by omega) (by omega)) rr.1 rr.2.1 rr.2.2 (fun i i0 i1 => r2 i (by omega)), ?_⟩
          rw [w 40 f (by omega) (by omega) (by omega) (by omega) (by omega) (by omega) (by omega) (by omega) (by omega), w 167 f (by omega) (by omega) (by omega) (by omega) (by omega) (by omega) (by omega) (by omega) (by omega), w (63 + 5 * f) 3 (by omega) (by omega) (by omega) (by omega) (by omega) (by omega) (by omega) (by omega) (by omega)]
          exact t
      · intro k k0 k1'
        have s := O.1 k k0 (by omega)
        unfold SgO at *
        rw [w (41 + 2 * k) 1 (by omega) (by omega) (by omega) (by omega) (by omega) (by omega) (by omega) (by omega) (by omega), w (41 + 2 * k) 2 (by omega) (by omega) (by omega) (by omega) (by omega) (by omega) (by omega) (by omega) (by omega), show g11 (41 + 2 * k + 1) = h (41 + 2 * k + 1) from funext fun i => w _ _ (by omega) (by omega) (by omega) (by omega) (by omega) (by omega) (by omega) (by omega) (by omega)]
        exact s
      · intro f f0 f1
        by_cases z : f = h 36 5
        · subst z
          refine SgO_new S' ?_
          show _ = rdS (h 31) (h 30 2) (min (h 30 2) 24) 3 0
          rw [show min (h 30 2) 24 = h 30 2 by omega]
        · have s := O.2 f f0 (by omega)
          unfold SgO at *
          rw [w (61 + 5 * f) 1 (by omega) (by omega) (by omega) (by omega) (by omega) (by omega) (by omega) (by omega) (by omega), w (61 + 5 * f) 2 (by omega) (by omega) (by omega) (by omega) (by omega) (by omega) (by omega) (by omega) (by omega), show g11 (61 + 5 * f + 1) = h (61 + 5 * f + 1) from funext fun i => w _ _ (by omega) (by omega) (by omega) (by omega) (by omega) (by omega) (by omega) (by omega) (by omega)]
          exact s
      · exact RnR_ag (fun x i p q => w x i (by omega) (by omega) (by omega) (by omega) (by omega) (by omega) (by omega) (by omega) (by omega)) (w 1 9 (by omega) (by omega) (by omega) (by omega) (by omega) (by omega) (by omega) (by omega) (by omega)) (w 1 10 (by omega) (by omega) (by omega) (by omega) (by omega) (by omega) (by omega) (by omega) (by omega)) (by rw [w 135 24 (by omega) (by omega) (by omega) (by omega) (by omega) (by omega) (by omega) (by omega) (by omega), w 1 11 (by omega) (by omega) (by omega) (by omega) (by omega) (by omega) (by omega) (by omega) (by omega)]; exact N.1.2.2.2.2) N
      · intro a i p1 p2 p3 p4 p5 p6 p7 p8 p9 p10 p11 p12 p13
        exact w a i p8 (by omega) (by omega) (by omega) (by omega) p12 (by omega) (by omega) (by omega)
    · have g4 : g3 30 4 = -1 - rdH h 30 := by rw [h3, up2_nc (by decide)]; exact e4
      have lb := rdH_lb (h := h) (a := 30) t0
      rw [g4]
      refine ⟨by unfold r32; omega, by omega, by omega, fun g5 h5 => ref g5 _ (fun x i p => by rw [h5, up2_nc (by omega), h3, up2_nc (by omega)]; exact o x i (by omega) (by omega)) (fun z => by omega) (fun _ g8 o8 z8 y8 => ⟨rfl, ?_⟩)⟩
      have w : ∀ x i, ¬ (x = 1 ∧ i = 11) → ¬ (x = 30 ∧ (i = 2 ∨ i = 4 ∨ i = 5)) → x ≠ 157 → ¬ (x = 135 ∧ 32 < i) → ¬ (x = 135 ∧ i = 24) → g8 x i = h x i := fun x i p1 p2 p3 p4 p5 => by rw [o8 x i p3 (by omega) (by omega) (by omega) p5, h5, up2_ext (by omega), h3, up2_ext p1]; exact o x i (by omega) (by omega)
      have e111 : g8 1 11 = 1 := by rw [o8 1 11 (by omega) (by omega) (by omega) (by omega) (by omega), h5, up2_nc (by decide), h3, up2_eq]; exact e5
      have e302 : g8 30 2 = 0 := by rw [o8 30 2 (by omega) (by omega) (by omega) (by omega) (by omega), h5, up2_eq]
      exact H g8 (BIx_out B (fun a i p => w a i (by omega) (by omega) (by omega) (by omega) (by omega)) (fun a i p q => w a i (by omega) (by omega) (by omega) (by omega) (by omega)) ⟨fun i p q => w _ _ (by omega) (by omega) (by omega) (by omega) (by omega), fun a i p q r => w _ _ (by omega) (by omega) (by omega) (by omega) (by omega)⟩)
        ⟨by rw [z8, e302]; omega, fun i i0 i1 => by omega⟩
        (DcR_ag (fun x i p q => w x i (by omega) (by omega) (by omega) (by omega) (by omega)) (w 135 30 (by omega) (by omega) (by omega) (by omega) (by omega)) (w 135 31 (by omega) (by omega) (by omega) (by omega) (by omega)) ⟨⟨a0, a1, a2, a3, a4, a5⟩, cs, fs⟩)
        (DcO_ag (w 36 4 (by omega) (by omega) (by omega) (by omega) (by omega)) (w 36 5 (by omega) (by omega) (by omega) (by omega) (by omega)) (fun x i p q => w x i (by omega) (by omega) (by omega) (by omega) (by omega)) ⟨⟨a0, a1, a2, a3, a4, a5⟩, cs, fs⟩ O)
        (RnR_ag (fun x i p q => w x i (by omega) (by omega) (by omega) (by omega) (by omega)) (w 1 9 (by omega) (by omega) (by omega) (by omega) (by omega)) (w 1 10 (by omega) (by omega) (by omega) (by omega) (by omega)) (by rw [y8, e111]) N)
        (fun a i p1 p2 p3 p4 p5 p6 p7 p8 p9 p10 p11 p12 p13 => w a i (by omega) (by omega) p12 (by omega) (by omega))
        ⟨fun x i p q r s => w x i (by omega) (by omega) (by omega) (by omega) (by omega), w 36 4 (by omega) (by omega) (by omega) (by omega) (by omega), Or.inl (w 36 5 (by omega) (by omega) (by omega) (by omega) (by omega))⟩
  · have rb := fun {d : Nat} (q : 0 < d) => ref_full (d := d) B H' hg1 q
    have f31 : g1 135 31 = h 36 5 := by rw [hg1, up2_nc (by decide)]; exact a5
    exact N_Mo_signs_0 ⟨fun u => by omega, fun _ => rb (by omega)⟩
/-! the invariant of the law's loop -/
def INV (h : HP) : Prop := BIx h ∧ TxR h ∧ DcR h ∧ DcO h ∧ RnR h ∧ BdR h ∧ HsR h ∧ BdW h
theorem inv_B {h h2 : HP} (I : INV h) (b : BIx h2) (f : FrB h h2) : INV h2 := by
  obtain ⟨B, T, D, O, N, Bd, hs, Bw⟩ := I
  exact ⟨b, TxR_fr f T, DcR_fr f D, DcO_fr f D O, RnR_fr f N, BdR_ag (DcR_C D) (fun x i p q => f.1 x i (by omega)) (fun x i p q _ _ => f.1 x i (by omega)) Bd, fun j j0 j1 => by rw [f.1 136 j (by omega)]; exact hs j j0 j1, BdW_ag D O (fun x i p q => f.1 x i (by omega)) Bd Bw⟩
theorem inv_X {h h2 : HP} (I : INV h) (b : BIx h2) (t : TxR h2) (f : FrX h h2) : INV h2 := by
  obtain ⟨B, T, D, O, N, Bd, hs, Bw⟩ := I
  have o : ∀ x i, 35 < x → x < 91 → h2 x i = h x i := fun x i p q => f.1 x i (by omega) (by omega) (by omega) (by omega)
  exact ⟨b, t, DcR_fx f D, DcO_o (fun x i p => o x i (by omega) (by omega)) D O, RnR_fx f N, BdR_ag (DcR_C D) o (fun x i p q _ _ => f.1 x i (by omega) (by omega) (by omega) (by omega)) Bd, fun j j0 j1 => by rw [f.1 136 j (by omega) (by omega) (by omega) (by omega)]; exact hs j j0 j1, BdW_ag D O o Bd Bw⟩
theorem inv_C {h h2 : HP} (I : INV h) (b : BIx h2) (f : FrC h h2) : INV h2 := by
  obtain ⟨B, T, D, O, N, Bd, hs, Bw⟩ := I
  have o : ∀ x i, 35 < x → x < 91 → h2 x i = h x i := fun x i p q => f.1 x i (by omega)
  refine ⟨b, ?_, DcR_o (fun x i p => f.1 x i (by omega)) (f.2.2 30 (by omega)) (f.2.2 31 (by omega)) D, DcO_o (fun x i p => o x i (by omega) (by omega)) D O, RnR_ag (fun x i p q => f.1 x i (by omega)) (f.2.1 9 (by omega)) (f.2.1 10 (by omega)) (by rw [f.2.2 24 (by omega), f.2.1 11 (by omega)]; exact N.1.2.2.2.2) N, BdR_ag (DcR_C D) o (fun x i p q _ _ => f.1 x i (by omega)) Bd, fun j j0 j1 => by rw [f.1 136 j (by omega)]; exact hs j j0 j1, BdW_ag D O o Bd Bw⟩
  unfold TxR at *
  rw [f.1 30 2 (by omega), f.2.2 33 (by omega), show h2 31 = h 31 from funext fun i => f.1 31 i (by omega), show h2 156 = h 156 from funext fun i => f.1 156 i (by omega)]
  exact T
theorem inv_con {h h2 : HP} (I : INV h) (b : BIx h2) (t : TxR h2) (dd : DcR h2) (oo : DcO h2) (n : RnR h2) (f : FrS h h2) (x : h2 36 5 = h 36 5 ∧ (0 < h 36 5 → FrB h h2)) : INV h2 := by
  by_cases z : 0 < h 36 5
  · exact inv_B I b (x.2 z)
  · obtain ⟨B, T, D, O, N, Bd, hs, Bw⟩ := I
    exact ⟨b, t, dd, oo, n, fun f f0 f1 => by omega, fun j j0 j1 => by rw [f 136 j (by omega) (by omega) (by omega) (by omega) (by omega) (by have := D.1; omega) (by have := D.1; omega) (by have := D.1; omega) (by have := D.1; omega) (by omega) (by omega) (by omega) (by omega)]; exact hs j j0 j1, fun f f0 f1 => by omega⟩
theorem inv_sig {h h2 : HP} (I : INV h) (b : BIx h2) (t : TxR h2) (dd : DcR h2) (oo : DcO h2) (n : RnR h2) (f : FrS h h2) (x0 : (∀ x i, 60 < x → x < 91 → x ≠ 61 + 5 * h 36 5 → x ≠ 62 + 5 * h 36 5 → h2 x i = h x i) ∧ h2 36 4 = h 36 4 ∧ (h2 36 5 = h 36 5 ∨ (h2 36 5 = h 36 5 + 1 ∧ h2 40 (h 36 5) = 0))) : INV h2 := by
  obtain ⟨B, T, D, O, N, Bd, hs, Bw⟩ := I
  have d1 := D.1
  have x := x0.2
  have fx := x0.1
  have x1 := x.1
  have n5 : h 36 5 ≤ h2 36 5 := by have := x.2; omega
  have old : ∀ j, 0 ≤ j → j < h2 36 5 → h2 40 j = 1 → j < h 36 5 ∧ h 40 j = 1 := by
    intro j j0 j1 e
    have jl : j < h 36 5 := by
      rcases x.2 with y | ⟨y1, y2⟩
      · omega
      · by_cases c : j = h 36 5
        · rw [c] at e; omega
        · omega
    refine ⟨jl, ?_⟩
    rw [← e]
    exact (f 40 j (by omega) (by omega) (by omega) (by omega) (by omega) (by omega) (by omega) (by omega) (by omega) (by omega) (by omega) (by omega) (by omega)).symm
  have sc' : ∀ j i, 0 ≤ j → j < h 36 4 → h2 (41 + 2 * j) i = h (41 + 2 * j) i ∧ h2 (42 + 2 * j) i = h (42 + 2 * j) i := fun j i j0 j1 => ⟨f _ _ (by omega) (by omega) (by omega) (by omega) (by omega) (by omega) (by omega) (by omega) (by omega) (by omega) (by omega) (by omega) (by omega), f _ _ (by omega) (by omega) (by omega) (by omega) (by omega) (by omega) (by omega) (by omega) (by omega) (by omega) (by omega) (by omega) (by omega)⟩
  have sf : ∀ j i, 0 ≤ j → j < h 36 5 → h2 (61 + 5 * j) i = h (61 + 5 * j) i ∧ h2 (62 + 5 * j) i = h (62 + 5 * j) i := fun j i j0 j1 => ⟨fx _ _ (by omega) (by omega) (by omega) (by omega), fx _ _ (by omega) (by omega) (by omega) (by omega)⟩
  have bb : ∀ j k i, 0 ≤ j → j < h 36 5 → 63 + 5 * j ≤ k → k ≤ 65 + 5 * j → h2 k i = h k i := fun j k i j0 j1 k0 k1 => fx _ _ (by omega) (by omega) (by omega) (by omega)
  refine ⟨b, t, dd, oo, n, fun j j0 j1 e => ?_, fun j j0 j1 => by rw [f 136 j (by omega) (by omega) (by omega) (by omega) (by omega) (by omega) (by omega) (by omega) (by omega) (by omega) (by omega) (by omega) (by omega)]; exact hs j j0 j1, fun j j0 j1 e α => ?_⟩
  · obtain ⟨jl, e0⟩ := old j j0 j1 e
    exact BdR_one D Bd j0 jl e0 n5 x1 (fun i u i0 i1 => (sc' i u i0 i1).1) (fun i u i0 i1 => (sf i u i0 i1).1) (bb j _ _ j0 jl (by omega) (by omega)) (fun i => ⟨bb j _ _ j0 jl (by omega) (by omega), bb j _ _ j0 jl (by omega) (by omega)⟩) (fun x i x0 x1 i0 i1 => f _ _ (by omega) (by omega) (by omega) (by omega) (by omega) (by omega) (by omega) (by omega) (by omega) (by omega) (by omega) (by omega) (by omega))
  · obtain ⟨jl, e0⟩ := old j j0 j1 e
    exact BdW_one D O Bd Bw j0 jl e0 x1 sc' sf (bb j _ _ j0 jl (by omega) (by omega)) (fun i => ⟨bb j _ _ j0 jl (by omega) (by omega), bb j _ _ j0 jl (by omega) (by omega)⟩) α
end
