section
/-- both sides have made the same equal -/
theorem BIx_eq {h h1 h2 : HP} {tm : Int → Tm} {S S' : Sx} {V : Vx} {c c' : Int → Int} {k : Nat} (ck : CH k h) (b : BR h tm S V c) (c0 : h 1 12 = h 150 0) (c1 : h 1 13 = h 150 1) (c2 : h 1 14 = h 150 2) (W1 : CW h1 5 84 tm S' c') (X1 : ExC 5 h h1) (e1 : h1 5 13 = h 5 13) (R2 : RW h2 tm S') (X2 : ExM h1 h2) (e2 : h2 135 15 = h1 135 15) : BIx h2 ∧ FrB h h2 := by
  have b' := b
  obtain ⟨W, Rw, hV, ⟨e15, e14, e19, e18, n60, d8⟩, rows⟩ := b
  obtain ⟨x1, x2, x3, x4, x5, x6⟩ := X1
  obtain ⟨y1, y2, y3, y4, y5, y6, y7, y8⟩ := X2
  have m1 : LcM h h1 := ⟨fun i p q => x6 _ _ (by omega), fun a i p q r => x6 _ _ (by omega)⟩
  have l2 : LcC 5 h1 h2 := fun a i p q => y7 a i (by omega)
  have t2 : ∀ i, h2 5 i = h1 5 i := fun i => l2 5 i (by omega) (by omega)
  have EB : ExB 5 h h2 := ExB_loc (LcC_refl 5 _) l2 ⟨x1, x2, x3, x4, x5⟩
  have EN : ExN h h2 := ExN_loc (LcM_symm m1) (LcM_refl _) (ExM_ExN ⟨y1, y2, y3, y4, y5, y6, y7, y8⟩)
  have W2 := CW_loc l2 W1
  have g13 : h2 5 13 = h 5 13 := by rw [t2, e1]
  have g15 : h2 5 15 = h 5 15 := EB.1.2.2
  have f15 : h2 135 15 = h 135 15 := by rw [e2, x6 135 15 (by omega)]
  refine ⟨⟨⟨k, CH_step ck b' EB EN⟩, ⟨tm, S', V, c', W2, R2, ?_, ?_, ?_⟩, ?_⟩, ⟨fun a i p => ?_, fun i p => ?_, fun i p => ?_⟩⟩
  · rw [g13]
    refine ⟨fun x xa xb x7 => ?_, fun m hm => ?_⟩
    · have r := EB.2.1 x xa xb
      rw [r.1] at x7 ⊢
      rw [r.2.2.2]
      exact hV.1 x xa xb x7
    · obtain ⟨x, xa, xb, x7, xe⟩ := hV.2 m hm
      exact ⟨x, xa, xb, by rw [(EB.2.1 x xa xb).1]; exact x7, xe⟩
  · rw [g13, g15, f15, EN.1.1, EN.1.2.2.1, EN.1.2.2.2]
    exact ⟨e15, e14, e19, e18, n60, d8⟩
  · rw [g13]
    intro x xa xb
    have r := EB.2.1 x xa xb
    have s := EN.2.2.2.1 x (by omega)
    rw [r.1, r.2.1, r.2.2.1, r.2.2.2, s.1, s.2.1, s.2.2.1, s.2.2.2]
    exact rows x xa xb
  · rw [y7 1 12 (by omega), y7 1 13 (by omega), y7 1 14 (by omega), y7 150 0 (by omega), y7 150 1 (by omega), y7 150 2 (by omega), x6 1 12 (by omega), x6 1 13 (by omega), x6 1 14 (by omega), x6 150 0 (by omega), x6 150 1 (by omega), x6 150 2 (by omega)]
    exact ⟨c0, c1, c2⟩
  · rw [y7 a i (by omega), x6 a i (by omega)]
  · rw [y7 1 i (by omega), x6 1 i (by omega)]
  · rw [y1 i (by omega) (by omega), x6 135 i (by omega)]
theorem c_has {d : Nat} {h : HP} {T R x : Int} {Q : PQ} (hT : TR T R) (H1 : 0 ≤ x → x < h T 13 → Q 1 h) (H0 : (x < 0 ∨ h T 13 ≤ x) → Q 0 h) : Go d M_Types_has 0 [(17, T), (0, x)] [] h Q :=
  W_Types_has_0 hT ⟨fun w => H0 (Or.inl w), fun w => ⟨fun v => H0 (Or.inr v), fun v => H1 w v⟩⟩
theorem c_areT {d : Nat} {h : HP} {x y : Int} {Q : PQ} (hd : 0 < d) (H1 : 0 ≤ x → x < h 5 13 → 0 ≤ y → y < h 5 13 → Q 1 h) (H0 : ¬ (0 ≤ x ∧ x < h 5 13 ∧ 0 ≤ y ∧ y < h 5 13) → Q 0 h) : Go d M_BT_areTypes 0 [(21, 1), (0, x), (0, y)] [] h Q := by
  refine N_BT_areTypes_0 ⟨hd, c_has (R := 84) (Or.inl ⟨rfl, rfl⟩) (fun a b => ⟨fun z => absurd z (by decide), fun _ => ⟨hd, c_has (R := 84) (Or.inl ⟨rfl, rfl⟩) (fun a' b' => ⟨fun z => absurd z (by decide), fun _ => H1 a b a' b'⟩) (fun z => ⟨fun _ => H0 (by omega), fun z => absurd rfl z⟩)⟩⟩) (fun z => ⟨fun _ => H0 (by omega), fun z => absurd rfl z⟩)⟩
theorem c_isType {d : Nat} {h : HP} {x : Int} {Q : PQ} (hd : 0 < d) (h0 : 0 ≤ h 135 15) (h1 : h 135 15 ≤ 1000) (H1 : 0 ≤ x → x < h 135 15 → Q 1 h) (H0 : (x < 0 ∨ h 135 15 ≤ x) → Q 0 h) : Go d M_Mo_isType 0 [(22, 135), (0, x)] [] h Q :=
  N_Mo_isType_0 ⟨by unfold r32; omega, hd, c_in (fun a b => ⟨Or.inr rfl, H1 a (by omega)⟩) (fun a => ⟨Or.inl rfl, H0 (by omega)⟩)⟩
/-- a refusal on both sides -/
theorem ref_bad {h g1 : HP} {R : HP → Prop} (B : BIx h) (H : ∀ h2, BIx h2 → FrB h h2 → R h2) (e : g1 = up2 h 1 12 (w32 (h 1 12 + 1))) {d : Nat} (hd : 0 < d) : 0 < d ∧ (0 ≤ w32 (-2 - -2) ∧ w32 (-2 - -2) < 3) ∧ (0 ≤ w32 (-2 - -2) ∧ w32 (-2 - -2) < 3) ∧ ∀ g2 : HP, g2 = up2 g1 150 (w32 (-2 - -2)) (w32 (g1 150 (w32 (-2 - -2)) + 1)) → ((-2 : Int) = -2 ∧ R g2) := by
  rw [w32_0]
  refine ⟨hd, ⟨by decide, by decide⟩, ⟨by decide, by decide⟩, ?_⟩
  intro g2 hg2
  rw [e, up2_nc (show (150 : Int) ≠ 1 by decide)] at hg2
  obtain ⟨x1, x2⟩ := BIx_ref (j := 0) B (by decide) (by decide) hg2
  exact ⟨rfl, H g2 x1 x2⟩
theorem ref_no {h g1 : HP} {R : HP → Prop} (B : BIx h) (H : ∀ h2, BIx h2 → FrB h h2 → R h2) (e : g1 = up2 h 1 13 (w32 (h 1 13 + 1))) {d : Nat} (hd : 0 < d) : 0 < d ∧ (0 ≤ w32 (-2 - -3) ∧ w32 (-2 - -3) < 3) ∧ (0 ≤ w32 (-2 - -3) ∧ w32 (-2 - -3) < 3) ∧ ∀ g2 : HP, g2 = up2 g1 150 (w32 (-2 - -3)) (w32 (g1 150 (w32 (-2 - -3)) + 1)) → ((-3 : Int) = -3 ∧ R g2) := by
  rw [w32_1]
  refine ⟨hd, ⟨by decide, by decide⟩, ⟨by decide, by decide⟩, ?_⟩
  intro g2 hg2
  rw [e, up2_nc (show (150 : Int) ≠ 1 by decide)] at hg2
  obtain ⟨x1, x2⟩ := BIx_ref (j := 1) B (by decide) (by decide) hg2
  exact ⟨rfl, H g2 x1 x2⟩
theorem ref_full {h g1 : HP} {R : HP → Prop} (B : BIx h) (H : ∀ h2, BIx h2 → FrB h h2 → R h2) (e : g1 = up2 h 1 14 (w32 (h 1 14 + 1))) {d : Nat} (hd : 0 < d) : 0 < d ∧ (0 ≤ w32 (-2 - -4) ∧ w32 (-2 - -4) < 3) ∧ (0 ≤ w32 (-2 - -4) ∧ w32 (-2 - -4) < 3) ∧ ∀ g2 : HP, g2 = up2 g1 150 (w32 (-2 - -4)) (w32 (g1 150 (w32 (-2 - -4)) + 1)) → ((-4 : Int) = -4 ∧ R g2) := by
  rw [w32_2]
  refine ⟨hd, ⟨by decide, by decide⟩, ⟨by decide, by decide⟩, ?_⟩
  intro g2 hg2
  rw [e, up2_nc (show (150 : Int) ≠ 1 by decide)] at hg2
  obtain ⟨x1, x2⟩ := BIx_ref (j := 2) B (by decide) (by decide) hg2
  exact ⟨rfl, H g2 x1 x2⟩
theorem b_unites {d : Nat} {h : HP} {x y : Int} {R : HP → Prop} (hd : 20 < d) (B : BIx h) (H : ∀ h2, BIx h2 → FrB h h2 → R h2) :
    Go d M_BT_unites 0 [(21, 1), (0, x), (0, y)] [] h (fun r1 h1 => Go d M_Mo_unites 0 [(22, 135), (0, x), (0, y)] [] h1 (fun r2 h2 => r1 = r2 ∧ R h2)) := by
  have B0 := B
  obtain ⟨⟨k, ck⟩, ⟨tm, S, V, c, b⟩, c0, c1, c2⟩ := B
  have b' := b
  obtain ⟨W, Rw, hV, ⟨e15, e14, e19, e18, n60, d8⟩, rows⟩ := b
  have n0 := W.1.2.1.2.1
  have hV2 : VOk (h 135 14) (h 135 15) (h 137) (h 140) tm V := by
    rw [e14, e15]
    refine ⟨fun z z0 z1 z7 => ?_, fun m hm => ?_⟩
    · rw [(rows z z0 z1).1] at z7 ⊢
      rw [(rows z z0 z1).2.1]
      exact hV.1 z z0 z1 z7
    · obtain ⟨z, z0, z1, z7, ze⟩ := hV.2 m hm
      exact ⟨z, z0, z1, by rw [(rows z z0 z1).1]; exact z7, ze⟩
  refine N_BT_unites_0 ⟨by omega, c_areT (by omega) (fun x0 x1 y0 y1 => ⟨fun z => absurd z (by decide), fun _ => ⟨by omega, ?_⟩⟩) (fun nt => ⟨fun _ => ⟨by omega, ?_⟩, fun z => absurd rfl z⟩)⟩
  · have ref : ∀ (h1 : HP) (S' : Sx) (c' : Int → Int) (r : Int), CW h1 5 84 tm S' c' → ExC 5 h h1 → h1 5 13 = h 5 13 → ((Sat (Snd S (tm x) (tm y)) ∧ ¬ FixS S (Snd S (tm x) (tm y)) V (h 5 15) ∧ S' = Snd S (tm x) (tm y) ∧ r = ncl tm S 0 (h 5 13) - ncl tm (Snd S (tm x) (tm y)) 0 (h 5 13)) ∨ (¬ Sat (Snd S (tm x) (tm y)) ∧ S' = S ∧ r = -5) ∨ (Sat (Snd S (tm x) (tm y)) ∧ FixS S (Snd S (tm x) (tm y)) V (h 5 15) ∧ S' = S ∧ r = -6)) → Go d M_Mo_unites 0 [(22, 135), (0, x), (0, y)] [] h1 (fun r2 h2 => r = r2 ∧ R h2) := by
      intro h1 S' c' r W1 X1 a13 hr
      have m1 : LcM h h1 := ⟨fun i p q => X1.2.2.2.2.2 _ _ (by omega), fun a i p q r => X1.2.2.2.2.2 _ _ (by omega)⟩
      have f1 : ∀ i, h1 135 i = h 135 i := fun i => X1.2.2.2.2.2 _ _ (by omega)
      have R1 := RW_loc m1 Rw
      have hV3 : VOk (h1 135 14) (h1 135 15) (h1 137) (h1 140) tm V := by
        rw [f1, f1, LcM_row m1 137 (by omega) (by omega) (by omega), LcM_row m1 140 (by omega) (by omega) (by omega)]
        exact hV2
      refine N_Mo_unites_0 ⟨by omega, c_isType (by omega) (by rw [f1]; omega) (by rw [f1]; omega) (fun _ _ => ⟨fun z => absurd z (by decide), fun _ => ⟨by omega, c_isType (by omega) (by rw [f1]; omega) (by rw [f1]; omega) (fun _ _ => ⟨fun z => absurd z (by decide), fun _ => ⟨by omega, ?_⟩⟩) (fun z => by rw [f1] at z; omega)⟩⟩) (fun z => by rw [f1] at z; omega)⟩
      refine c_united (V := V) (by omega) R1 hV3 (by rw [f1, f1]; omega) (by rw [f1, f1]; omega) (fun sat nf h2 R2 X2 b15 r2 hr2 r0 _ _ => ?_) (fun ns h2 R2 X2 b15 _ => ?_) (fun sat fx h2 R2 X2 b15 _ => ?_)
      · rw [f1, e18] at nf
        rw [f1, f1, e14, e15] at hr2
        rcases hr with ⟨_, _, e, hr⟩ | ⟨ns, _⟩ | ⟨_, fx, _⟩
        · subst e
          obtain ⟨z1, z2⟩ := BIx_eq ck b' c0 c1 c2 W1 X1 a13 R2 X2 b15
          exact ⟨by omega, H h2 z1 z2⟩
        · exact absurd sat ns
        · exact absurd fx nf
      · rcases hr with ⟨sat, _⟩ | ⟨_, e, hr⟩ | ⟨sat, _⟩
        · exact absurd sat ns
        · subst e
          obtain ⟨z1, z2⟩ := BIx_eq ck b' c0 c1 c2 W1 X1 a13 R2 X2 b15
          exact ⟨hr, H h2 z1 z2⟩
        · exact absurd sat ns
      · rw [f1, e18] at fx
        rcases hr with ⟨_, nf, _⟩ | ⟨ns, _⟩ | ⟨_, _, e, hr⟩
        · exact absurd fx nf
        · exact absurd sat ns
        · subst e
          obtain ⟨z1, z2⟩ := BIx_eq ck b' c0 c1 c2 W1 X1 a13 R2 X2 b15
          exact ⟨hr, H h2 z1 z2⟩
    refine c_join (T := 5) (R := 84) (V := V) (by omega) W hV x0 x1 y0 y1 (fun sat nf h1 c1' W1 X1 a13 r hr _ _ => ?_) (fun ns h1 W1 X1 a13 _ => ?_) (fun sat _ fx h1 W1 X1 a13 _ => ?_)
    · refine ref h1 _ c1' r W1 X1 a13 (Or.inl ⟨sat, ?_, rfl, hr⟩)
      rcases nf with z | z
      · exact absurd z (by decide)
      · exact z
    · exact ref h1 _ c (-5) W1 X1 a13 (Or.inr (Or.inl ⟨ns, rfl, rfl⟩))
    · exact ref h1 _ c (-6) W1 X1 a13 (Or.inr (Or.inr ⟨sat, fx, rfl, rfl⟩))
  · intro g1 hg1
    have f1 : g1 135 15 = h 135 15 := by rw [hg1, up2_nc (by decide)]
    have rb := fun {d : Nat} (q : 0 < d) => ref_bad (d := d) B0 H hg1 q
    refine N_Mo_unites_0 ⟨by omega, c_isType (by omega) (by omega) (by omega) (fun _ _ => ⟨fun z => absurd z (by decide), fun _ => ⟨by omega, c_isType (by omega) (by omega) (by omega) (fun _ _ => by omega) (fun _ => ⟨fun _ => rb (by omega), fun z => absurd rfl z⟩)⟩⟩) (fun _ => ⟨fun _ => rb (by omega), fun z => absurd rfl z⟩)⟩
theorem b_same {d : Nat} {h : HP} {x y : Int} {R : HP → Prop} (hd : 20 < d) (B : BIx h) (H : ∀ h2, BIx h2 → FrB h h2 → R h2) :
    Go d M_BT_same 0 [(21, 1), (0, x), (0, y)] [] h (fun r1 h1 => Go d M_Mo_same 0 [(22, 135), (0, x), (0, y)] [] h1 (fun r2 h2 => r1 = r2 ∧ R h2)) := by
  have B0 := B
  obtain ⟨⟨k, ck⟩, ⟨tm, S, V, c, b⟩, c0, c1, c2⟩ := B
  obtain ⟨W, Rw, hV, ⟨e15, e14, e19, e18, n60, d8⟩, rows⟩ := b
  have n0 := W.1.2.1.2.1
  refine N_BT_same_0 ⟨by omega, c_areT (by omega) (fun x0 x1 y0 y1 => ⟨fun _ => ⟨by omega, c_root W.1 (fun _ _ => ⟨by omega, c_root W.1 (fun _ _ => ?_) (fun z => by omega)⟩) (fun z => by omega)⟩, fun z => absurd z (by decide)⟩) (fun nt => ⟨fun z => absurd rfl z, fun _ => ⟨by omega, ?_⟩⟩)⟩
  · have cl := Ptn_eq W.2.1 x0 x1 y0 y1
    have cm := RW_eq Rw (x := x) (y := y) (by omega) (by omega) (by omega) (by omega)
    have fin : ∀ r : Int, ((r = 0 ∧ c x ≠ c y) ∨ (r = 1 ∧ c x = c y)) → Go d M_Mo_same 0 [(22, 135), (0, x), (0, y)] [] h (fun r2 h2 => r = r2 ∧ R h2) := by
      intro r hr
      refine N_Mo_same_0 ⟨by omega, c_isType (by omega) (by omega) (by omega) (fun _ _ => ⟨fun z => absurd z (by decide), fun _ => ⟨by omega, c_isType (by omega) (by omega) (by omega) (fun _ _ => ⟨fun _ => ⟨⟨by omega, by omega⟩, ⟨by omega, by omega⟩, fun q => ⟨?_, H h B0 (FrB_refl h)⟩, fun q => ⟨?_, H h B0 (FrB_refl h)⟩⟩, fun z => absurd z (by decide)⟩) (fun z => by omega)⟩⟩) (fun z => by omega)⟩
      · rcases hr with ⟨hr, _⟩ | ⟨_, hr⟩
        · exact hr
        · exact absurd (cm.mpr (cl.mp hr)) q
      · rcases hr with ⟨_, hr⟩ | ⟨hr, _⟩
        · exact absurd (cl.mpr (cm.mp q)) hr
        · exact hr
    exact ⟨fun q => fin 0 (Or.inl ⟨rfl, q⟩), fun q => fin 1 (Or.inr ⟨rfl, q⟩)⟩
  · intro g1 hg1
    have f1 : g1 135 15 = h 135 15 := by rw [hg1, up2_nc (by decide)]
    have rb := fun {d : Nat} (q : 0 < d) => ref_bad (d := d) B0 H hg1 q
    refine N_Mo_same_0 ⟨by omega, c_isType (by omega) (by omega) (by omega) (fun _ _ => ⟨fun z => absurd z (by decide), fun _ => ⟨by omega, c_isType (by omega) (by omega) (by omega) (fun _ _ => by omega) (fun _ => ⟨fun z => absurd rfl z, fun _ => rb (by omega)⟩)⟩⟩) (fun _ => ⟨fun _ => rb (by omega), fun z => absurd rfl z⟩)⟩
theorem b_classes {d : Nat} {h : HP} {R : HP → Prop} (hd : 20 < d) (B : BIx h) (H : ∀ h2, BIx h2 → FrB h h2 → R h2) :
    Go d M_BT_classes 0 [(21, 1)] [] h (fun r1 h1 => Go d M_Mo_classes 0 [(22, 135)] [] h1 (fun r2 h2 => r1 = r2 ∧ R h2)) := by
  have B0 := B
  obtain ⟨⟨k, ck⟩, ⟨tm, S, V, c, b⟩, c0, c1, c2⟩ := B
  obtain ⟨W, Rw, hV, ⟨e15, e14, e19, e18, n60, d8⟩, rows⟩ := b
  have n0 := W.1.2.1.2.1
  have L0 := CW_L0 W
  refine N_BT_classes_0 ⟨by unfold r32; omega, ?_⟩
  refine N_Mo_classes_0 ⟨by omega, c_many e14 e15 (by omega) n0 (by omega) ⟨?_, H h B0 (FrB_refl h)⟩⟩
  have a := FB_ncl (tm := tm) (S := S) W.1 (fun x y a b a' b' => Ptn_eq W.2.1 a b a' b')
  have m := RW_many Rw
  rw [e14, e15] at m
  have e := W.1.2.2.2.1
  omega
end
