section
theorem b_comes {d : Nat} {h : HP} {k x : Int} {R : HP → Prop} (hd : 60 < d) (B : BIx h) (D : DcR h) (O : DcO h) (H : ∀ h2, BIx h2 → FrC h h2 → R h2) :
    Go d M_BT_comes 0 [(21, 1), (0, k), (0, x), (2, 0)] [] h (fun r1 h1 => Go d M_Mo_comes 0 [(22, 135), (0, k), (0, x), (2, 0), (2, 0)] [] h1 (fun r2 h2 => r1 = r2 ∧ R h2)) := by
  have H' : ∀ h2, BIx h2 → FrB h h2 → R h2 := fun h2 b f => H h2 b (FrC_of f)
  have B0 := B
  obtain ⟨⟨kk, ck⟩, ⟨tm, S, V, c, b⟩, c0, c1, c2⟩ := B
  have b' := b
  obtain ⟨W, Rw, hV, ⟨e15, e14, e19, e18, n60, d8⟩, rows⟩ := b
  have n0 := W.1.2.1.2.1
  have d0 := W.2.2.2.2.2
  have F := W.1
  have D0 := D
  obtain ⟨⟨a0, a1, a2, a3, a4, a5⟩, cs, fs⟩ := D
  obtain ⟨v, hv⟩ := RcB_ex 1 W
  obtain ⟨mu, fr⟩ := fresh3 hV (by omega)
  have M : Mi 0 (h 5 13) (h 141) := by
    have := Rw.1.1.2.2.2.2.2.2.2.1
    rw [e14, e15] at this
    exact this
  have MVh : MV h tm S V := ⟨Rw, by rw [e14, e15]; exact VOk_rows hV (fun i i0 i1 => ⟨(rows i i0 i1).1, (rows i i0 i1).2.1⟩)⟩
  have bad : ¬ (0 ≤ k ∧ k < h 36 4 ∧ 0 ≤ x ∧ x < h 5 13) → ∀ g1 : HP, g1 = up2 h 1 12 (w32 (h 1 12 + 1)) → Go d M_Mo_comes 0 [(22, 135), (0, k), (0, x), (2, 0), (2, 0)] [] g1 (fun r2 h2 => -2 = r2 ∧ R h2) := by
    intro nb g1 hg1
    have f1 : ∀ i, g1 135 i = h 135 i := fun i => by rw [hg1, up2_nc (by decide)]
    have f30 := f1 30
    have f15 := f1 15
    have rb := fun {d : Nat} (q : 0 < d) => ref_bad (d := d) B0 H' hg1 q
    exact N_Mo_comes_0 ⟨by omega, c_isCons (by omega) (by omega) (by omega) (fun p q => ⟨fun z => absurd z (by decide), fun _ => ⟨by omega, c_isType (by omega) (by omega) (by omega) (fun p' q' => absurd ⟨p, by omega, p', by omega⟩ nb) (fun _ => ⟨fun z => absurd rfl z, fun _ => rb (by omega)⟩)⟩⟩) (fun _ => ⟨fun _ => rb (by omega), fun z => absurd rfl z⟩)⟩
  refine N_BT_comes_0 ⟨by omega, c_consOf a1 (fun k0 k1 => ⟨fun z => by omega, fun _ => ⟨by omega, c_has (R := 84) (Or.inl ⟨rfl, rfl⟩) (fun x0 x1 => ⟨fun _ => ⟨by omega, ?_⟩, fun z => absurd z (by decide)⟩) (fun nt => ⟨fun z => absurd rfl z, fun _ => N_BT_comes_27 ⟨by omega, bad (by omega)⟩⟩)⟩⟩) (fun z => ⟨fun _ => N_BT_comes_27 ⟨by omega, bad (by omega)⟩, fun z => absurd rfl z⟩)⟩
  have le := BR_lead b' x0 x1
  have l := (FB_lead F).1 x x0 x1
  have r := rows _ l.1 l.2.1
  have mx := M x x0 x1
  obtain ⟨sr, e4, q0, q3⟩ := cs k k0 k1
  obtain ⟨s1, s2, s3, s4, s5, s6⟩ := sr
  have so := O.1 k k0 k1
  unfold SgO at so
  obtain ⟨L, hL⟩ : ∃ L, L = ldC h 5 c x := ⟨_, rfl⟩
  rw [← hL] at l r le
  -- refused
  have noRef : ∀ g g1 : HP, ScC 5 h g → g1 = up2 g 1 13 (w32 (g 1 13 + 1)) → (h 137 L = 3 + h 155 k → (0 ≤ h 138 L ∧ h 138 L < h 5 13) ∧ v (h 138 L) ≠ 2) → Go d M_Mo_comes 0 [(22, 135), (0, k), (0, x), (2, 0), (2, 0)] [] g1 (fun r2 h2 => -3 = r2 ∧ R h2) := by
    intro g g1 s hg1 no
    have o1 : ∀ a i, ¬ (a = 1 ∧ i = 13) → (a < 19 ∨ 29 < a) → g1 a i = h a i := fun a i p q => by rw [hg1, up2_ext p, s a i (by omega)]
    have lm : LcM h g1 := ⟨fun i p q => o1 _ _ (by omega) (by omega), fun a i p q r => o1 _ _ (by omega) (by omega)⟩
    have f15 : g1 135 15 = h 135 15 := o1 _ _ (by omega) (by omega)
    have f30 : g1 135 30 = h 135 30 := o1 _ _ (by omega) (by omega)
    obtain ⟨Bg, Fg⟩ := BIx_scC B0 s
    have no0 := fun {d : Nat} (q : 0 < d) => ref_no (d := d) Bg (fun h2 b2 f2 => H' h2 b2 (FrB_trans Fg f2)) hg1 q
    have noW : ∀ (w : Int → Int) {d : Nat}, 0 < d → 0 < d ∧ (0 ≤ w32 (-2 - -3) ∧ w32 (-2 - -3) < 3) ∧ (0 ≤ w32 (-2 - -3) ∧ w32 (-2 - -3) < 3) ∧ ∀ g2 : HP, g2 = up2 (setR g1 145 0 (h 5 13) w) 150 (w32 (-2 - -3)) (w32 ((setR g1 145 0 (h 5 13) w) 150 (w32 (-2 - -3)) + 1)) → ((-3 : Int) = -3 ∧ R g2) := by
      intro w d q
      obtain ⟨B1, F1⟩ := BIx_scr B0 s ⟨w, rfl⟩
      refine ref_no B1 (fun h2 b2 f2 => H' h2 b2 (FrB_trans F1 f2)) ?_ q
      rw [hg1, ← setR_up2_comm (by decide), setR_ne (show (1 : Int) ≠ 145 by decide)]
    refine N_Mo_comes_0 ⟨by omega, c_isCons (by omega) (by omega) (by omega) (fun _ _ => ⟨fun z => absurd z (by decide), fun _ => ⟨by omega, c_isType (by omega) (by omega) (by omega) (fun _ _ => ⟨fun _ => ?_, fun z => absurd z (by decide)⟩) (fun z => by omega)⟩⟩) (fun z => by omega)⟩
    rw [show g1 141 = h 141 from funext fun i => o1 _ _ (by omega) (by omega), show g1 142 = h 142 from funext fun i => o1 _ _ (by omega) (by omega), show g1 137 = h 137 from funext fun i => o1 _ _ (by omega) (by omega), show g1 138 = h 138 from funext fun i => o1 _ _ (by omega) (by omega), show g1 155 = h 155 from funext fun i => o1 _ _ (by omega) (by omega), ← le]
    refine ⟨by omega, ⟨by omega, by omega⟩, ⟨by omega, by omega⟩, ⟨by omega, by omega⟩, ⟨by omega, by omega⟩, by unfold r32; omega, fun _ => no0 (by omega), fun eq => ⟨⟨by omega, by omega⟩, by omega, ?_⟩⟩
    obtain ⟨⟨i0, i1⟩, nk⟩ := no eq
    exact c_knownL (by omega) b' lm hv i0 i1 (fun z => absurd z nk) (fun _ w => ⟨fun z => absurd rfl z, fun _ => noW w (by omega)⟩)
  -- tried
  have refFin : ∀ (g g2 : HP) (r : Int), ScC 5 h g → AdI g g2 5 84 tm S V → h 137 L = 3 + h 155 k → 0 ≤ h 138 L → h 138 L < h 5 13 → v (h 138 L) = 2 → ((AdS h S mu (tm (h 138 L)) k ∧ r = 1) ∨ (¬ AdS h S mu (tm (h 138 L)) k ∧ r = 0)) → Go d M_Mo_comes 0 [(22, 135), (0, k), (0, x), (2, 0), (2, 0)] [] g2 (fun r2 h2 => r = r2 ∧ R h2) := by
    intro g g2 r sg I eq i0 i1 kn ar
    obtain ⟨C2, X2, g13, og⟩ := I
    have o2 : ∀ a i, 29 < a → g2 a i = h a i := fun a i p => by rw [og a i (by omega), sg a i (by omega)]
    have lm : LcM h g2 := ⟨fun i p q => o2 _ _ (by omega), fun a i p q r => o2 _ _ (by omega)⟩
    have f15 : g2 135 15 = h 135 15 := o2 _ _ (by omega)
    have f30 : g2 135 30 = h 135 30 := o2 _ _ (by omega)
    refine N_Mo_comes_0 ⟨by omega, c_isCons (by omega) (by omega) (by omega) (fun _ _ => ⟨fun z => absurd z (by decide), fun _ => ⟨by omega, c_isType (by omega) (by omega) (by omega) (fun _ _ => ⟨fun _ => ?_, fun z => absurd z (by decide)⟩) (fun z => by omega)⟩⟩) (fun z => by omega)⟩
    rw [show g2 141 = h 141 from funext fun i => o2 _ _ (by omega), show g2 142 = h 142 from funext fun i => o2 _ _ (by omega), show g2 137 = h 137 from funext fun i => o2 _ _ (by omega), show g2 138 = h 138 from funext fun i => o2 _ _ (by omega), show g2 155 = h 155 from funext fun i => o2 _ _ (by omega), ← le]
    refine ⟨by omega, ⟨by omega, by omega⟩, ⟨by omega, by omega⟩, ⟨by omega, by omega⟩, ⟨by omega, by omega⟩, by unfold r32; omega, fun z => absurd eq z, fun _ => ⟨⟨by omega, by omega⟩, by omega, c_knownL (by omega) b' lm hv i0 i1 (fun _ w => ⟨fun _ => ⟨⟨by omega, by omega⟩, by omega, ?_⟩, fun z => absurd z (by decide)⟩) (fun z => absurd kn z)⟩⟩
    obtain ⟨g5, h5⟩ : ∃ g5, g5 = setR g2 145 0 (h 5 13) w := ⟨_, rfl⟩
    rw [← h5]
    have o5 : ∀ a i, a ≠ 145 → g5 a i = g2 a i := fun a i p => by rw [h5, setR_ne p]
    have oh : ∀ a i, 29 < a → a ≠ 145 → g5 a i = h a i := fun a i p q => by rw [o5 a i q, o2 a i p]
    have lm5 : LcM h g5 := ⟨fun i p q => oh _ _ (by omega) (by omega), fun a i p q r => oh _ _ (by omega) (by omega)⟩
    have M5 := MV_loc lm5 MVh
    have p14 : g5 135 14 = h 135 14 := oh _ _ (by omega) (by omega)
    have p15 : g5 135 15 = h 135 15 := oh _ _ (by omega) (by omega)
    have p18 : g5 135 18 = h 135 18 := oh _ _ (by omega) (by omega)
    have p19 : g5 135 19 = h 135 19 := oh _ _ (by omega) (by omega)
    rw [oh 138 L (by omega) (by omega)]
    refine c_brClash (b := h (41 + 2 * k + 1)) (n := h (41 + 2 * k) 1) (c := h (41 + 2 * k) 2) (mu := mu) (by omega) M5 fr (by omega) (by omega) (by omega) k0 (by omega) s4.1 s4.2 (by rw [oh 152 k (by omega) (by omega)]; exact s1) (fun i j0 j1 => by rw [oh 151 _ (by omega) (by omega)]; exact s6 i j0 j1) s5.1 so (by omega) (by omega) (by omega) (fun r' g6 tm6 X6 _ n6 O6 cases => ⟨by omega, ?_⟩)
    refine c_unbrV (by omega) M5 (by omega) (by omega) (by omega) X6.1 (by omega) (fun g7 M7 X7 e7 O7 => ?_)
    have o7 : ∀ a i, a < 135 ∨ a = 136 ∨ (149 < a ∧ a < 158) ∨ 160 < a → g7 a i = g5 a i := fun a i p => by rw [O7.1 a i (by omega), O6.1 a i p]
    have oc : ∀ a i, a < 135 → g7 a i = g2 a i := fun a i p => by rw [o7 a i (by omega), o5 a i (by omega)]
    have done : R g7 := by
      obtain ⟨cc, Wc, _⟩ := C2
      have lc2 : LcC 5 g2 g7 := fun a i p q => oc a i (by omega)
      have lcg : LcC 5 g h := fun a i p q => (sg a i (by omega)).symm
      refine H g7 (BIx_same ck b' c0 c1 c2 (CW_loc lc2 Wc) M7.1 (ExB_loc lcg lc2 X2) (ExN_loc (LcM_symm lm5) (LcM_refl g7) X7.1) ?_ (by omega) (fun i p q => ?_) (fun i => ?_)) ⟨fun a i p => ?_, fun i p => ?_, fun i p => ?_⟩
      · rw [oc 5 13 (by omega), g13]; exact sg 5 13 (by omega)
      · rw [oc 1 i (by omega), og 1 i (by omega), sg 1 i (by omega)]
      · rw [o7 150 i (by omega), oh 150 i (by omega) (by omega)]
      · rw [o7 a i (by omega), oh a i (by omega) (by omega)]
      · rw [oc 1 i (by omega), og 1 i (by omega), sg 1 i (by omega)]
      · rw [O7.2 i p, O6.2 i p, oh 135 i (by omega) (by omega)]
    rcases cases with ⟨sat, r0, _⟩ | ⟨sat, r1, _⟩
    · refine ⟨fun _ => ⟨?_, done⟩, fun z => absurd r0 z⟩
      rcases ar with ⟨_, e⟩ | ⟨e, _⟩
      · exact e
      · exact absurd sat e
    · refine ⟨fun z => by omega, fun _ => ⟨?_, done⟩⟩
      rcases ar with ⟨e, _⟩ | ⟨_, e⟩
      · exact absurd e sat
      · exact e
  have r4 := r.2.2.1
  refine c_famOf (T := 5) (R := 84) (by omega) W x0 x1 ?_ ?_
  · rw [← hL]
    intro f3 f6
    have e138 := r4 (by omega) f6
    have e137 := r.1
    have i := (W.2.1.1.1 L l.1 l.2.1).2.1 (by omega) f6
    refine ⟨by omega, fun ne => N_BT_comes_68 ⟨by omega, fun g1 hg1 => noRef h g1 (ScC_refl 5 h) hg1 (fun z => by omega)⟩, fun eq => ⟨by omega, c_idxOf (T := 5) (R := 84) (by omega) W x0 x1 (by rw [← hL]; exact f3) (by rw [← hL]; exact f6) ?_⟩⟩
    rw [← hL]
    intro i0 i1
    refine ⟨by omega, c_knownB (by omega) W hv i0 i1 (fun kn g sg => ⟨fun _ => ⟨by omega, by omega, ?_⟩, fun z => absurd z (by decide)⟩) (fun kn g sg => ⟨fun z => absurd rfl z, fun _ => N_BT_comes_68 ⟨by omega, fun g1 hg1 => noRef g g1 sg hg1 (fun _ => by rw [e138]; exact ⟨⟨i0, i1⟩, kn⟩)⟩⟩)⟩
    obtain ⟨Bg, Fg⟩ := BIx_scC B0 sg
    have lc : LcC 5 h g := fun a i p q => sg a i (by omega)
    have lg : ldC g 5 c x = L := by rw [hL]; unfold ldC; rw [ScC_row sg 9 (by omega)]
    refine c_idxOf (T := 5) (R := 84) (by omega) (CW_scr sg W) x0 (by rw [sg 5 13 (by omega)]; exact x1) (by rw [lg, ScC_row sg 3 (by omega)]; exact f3) (by rw [lg, ScC_row sg 3 (by omega)]; exact f6) ?_
    rw [lg, ScC_row sg 4 (by omega), sg (41 + 2 * k) 4 (by omega)]
    intro _ _
    have eA : ∀ t, AdS g S mu t k ↔ AdS h S mu t k := by
      intro t
      unfold AdS
      rw [show g (41 + 2 * k + 1) = h (41 + 2 * k + 1) from funext fun i => sg _ i (by omega), sg (41 + 2 * k) 1 (by omega), sg (41 + 2 * k) 2 (by omega)]
    have q137 : h 137 L = 3 + h 155 k := by omega
    refine ⟨by omega, c_admits (T := 5) (R := 84) (mu := mu) (by omega) (CV_loc lc ⟨c, W, hV⟩) fr (by rw [sg 5 15 (by omega)]; omega) (DcR_fr Fg D0) (DcO_fr Fg D0 O) (by rw [sg 5 13 (by omega)]; omega) i0 (by rw [sg 5 13 (by omega)]; exact i1) ?_ ?_⟩
    · intro k' a0' a1' fm bt ad _ g2 I2
      rw [sg 36 4 (by omega)] at a1'
      have ek : k' = k := (bit_one k0 (by omega) a0' (by omega)).mp bt
      subst ek
      refine ⟨fun z => absurd z (by decide), fun _ => refFin g g2 1 sg I2 q137 (by omega) (by omega) (by rw [e138]; exact kn) (Or.inl ⟨?_, rfl⟩)⟩
      rw [e138]
      exact (eA _).mp ad
    · intro no g2 I2
      refine ⟨fun _ => refFin g g2 0 sg I2 q137 (by omega) (by omega) (by rw [e138]; exact kn) (Or.inr ⟨fun z => ?_, rfl⟩), fun z => absurd rfl z⟩
      rw [e138] at z
      exact no k k0 (by rw [sg 36 4 (by omega)]; exact k1) (by rw [sg (41 + 2 * k) 4 (by omega)]) ((bit_one k0 (by omega) k0 (by omega)).mpr rfl) ((eA _).mpr z)
  · rw [← hL]
    intro nf
    have e137 := r.1
    refine ⟨by omega, fun _ => N_BT_comes_68 ⟨by omega, fun g1 hg1 => noRef h g1 (ScC_refl 5 h) hg1 (fun z => by omega)⟩, fun z => by omega⟩
end
