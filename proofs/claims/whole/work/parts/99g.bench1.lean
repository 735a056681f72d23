section
/-! both benches -/
def BR (h : HP) (tm : Int → Tm) (S : Sx) (V : Vx) (c : Int → Int) : Prop := CW h 5 84 tm S c ∧ RW h tm S ∧ VOk 0 (h 5 13) (h (5 + 3)) (h (5 + 6)) tm V ∧ (h 135 15 = h 5 13 ∧ h 135 14 = 0 ∧ h 135 19 = 0 ∧ h 135 18 = h 5 15 ∧ h 5 13 ≤ 60 ∧ h 5 15 ≤ 8) ∧ (∀ x, 0 ≤ x → x < h 5 13 → h 137 x = h (5 + 3) x ∧ h 140 x = h (5 + 6) x ∧ (2 ≤ h (5 + 3) x → h (5 + 3) x ≤ 6 → h 138 x = h (5 + 4) x) ∧ (h (5 + 3) x = 2 → h 139 x = h (5 + 5) x))
def CH : Nat → HP → Prop
  | 0, h => h 5 15 = 0
  | k + 1, h => h 5 15 = (k : Int) + 1 ∧ ∃ h0, CH k h0 ∧ (∃ tm S V c, BR h0 tm S V c) ∧ ExB 5 (opH h0 5) h ∧ ExN (brH h0) h
def BIx (h : HP) : Prop := (∃ k, CH k h) ∧ (∃ tm S V c, BR h tm S V c) ∧ h 1 12 = h 150 0 ∧ h 1 13 = h 150 1 ∧ h 1 14 = h 150 2
/-- what the calls on the bench leave -/
def FrB (h h' : HP) : Prop := (∀ a i, (a < 5 ∧ a ≠ 1) ∨ (29 < a ∧ a < 135) ∨ a = 136 ∨ 150 < a → h' a i = h a i) ∧ (∀ i, i < 12 ∨ 14 < i → h' 1 i = h 1 i) ∧ (∀ i, i < 14 ∨ 19 < i → h' 135 i = h 135 i)
theorem FrB_refl (h : HP) : FrB h h := ⟨fun _ _ _ => rfl, fun _ _ => rfl, fun _ _ => rfl⟩
theorem BR_loc {h h' : HP} {tm : Int → Tm} {S : Sx} {V : Vx} {c : Int → Int} (s : LcC 5 h h') (m : LcM h h') (B : BR h tm S V c) : BR h' tm S V c := by
  obtain ⟨a, b, e, f, g⟩ := B
  have t : ∀ i, h' 5 i = h 5 i := fun i => s 5 i (by omega) (by omega)
  refine ⟨CW_loc s a, RW_loc m b, ?_, ?_, ?_⟩
  · rw [t, LcC_row s 3 (by omega) (by omega), LcC_row s 6 (by omega) (by omega)]; exact e
  · rw [t, t, m.1 15 (by omega) (by omega), m.1 14 (by omega) (by omega), m.1 19 (by omega) (by omega), m.1 18 (by omega) (by omega)]; exact f
  · rw [t, LcC_row s 3 (by omega) (by omega), LcC_row s 4 (by omega) (by omega), LcC_row s 5 (by omega) (by omega), LcC_row s 6 (by omega) (by omega), LcM_row m 137 (by omega) (by omega) (by omega), LcM_row m 138 (by omega) (by omega) (by omega), LcM_row m 139 (by omega) (by omega) (by omega), LcM_row m 140 (by omega) (by omega) (by omega)]
    exact g
theorem LcM_refl (h : HP) : LcM h h := ⟨fun _ _ _ => rfl, fun _ _ _ _ _ => rfl⟩
theorem LcC_refl (T : Int) (h : HP) : LcC T h h := fun _ _ _ _ => rfl
theorem CH_loc {k : Nat} {h h' : HP} (s : LcC 5 h h') (m : LcM h h') (H : CH k h) : CH k h' := by
  have t : ∀ i, h' 5 i = h 5 i := fun i => s 5 i (by omega) (by omega)
  cases k with
  | zero => show h' 5 15 = 0; rw [t]; exact H
  | succ k =>
    obtain ⟨e, h0, c, b, x, y⟩ := H
    exact ⟨by rw [t]; exact e, h0, c, b, ExB_loc (LcC_refl 5 _) s x, ExN_loc (LcM_refl _) m y⟩
theorem CH_step {k : Nat} {h h' : HP} {tm : Int → Tm} {S : Sx} {V : Vx} {c : Int → Int} (H : CH k h) (B : BR h tm S V c) (x : ExB 5 h h') (y : ExN h h') : CH k h' := by
  have e15 := x.1.2.2
  cases k with
  | zero => show h' 5 15 = 0; rw [e15]; exact H
  | succ k =>
    obtain ⟨e, h0, c0, ⟨tm0, S0, V0, cc, b0⟩, x0, y0⟩ := H
    refine ⟨by rw [e15]; exact e, h0, c0, ⟨tm0, S0, V0, cc, b0⟩, ExB_trans B.1.1 ?_ x0 x, ExN_trans y0 y⟩
    rw [opH_o (by omega) (by omega) (by omega)]
    exact (CW_L0 b0.1).1
theorem BIx_ref {h h2 : HP} {j : Int} (B : BIx h) (j0 : 0 ≤ j) (j1 : j ≤ 2) (e : h2 = up2 (up2 h 1 (12 + j) (w32 (h 1 (12 + j) + 1))) 150 j (w32 (h 150 j + 1))) : BIx h2 ∧ FrB h h2 := by
  have o : ∀ a i, ¬ (a = 1 ∧ i = 12 + j) → ¬ (a = 150 ∧ i = j) → h2 a i = h a i := fun a i p q => by rw [e, up2_ext q, up2_ext p]
  have o1 : h2 1 (12 + j) = w32 (h 1 (12 + j) + 1) := by rw [e, up2_nc (by decide), up2_eq]
  have o2 : h2 150 j = w32 (h 150 j + 1) := by rw [e, up2_eq]
  have s : LcC 5 h h2 := fun a i p q => o a i (by omega) (by omega)
  have m : LcM h h2 := ⟨fun i p q => o _ _ (by omega) (by omega), fun a i p q r => o _ _ (by omega) (by omega)⟩
  obtain ⟨⟨k, ck⟩, ⟨tm, S, V, c, b⟩, c0, c1, c2⟩ := B
  refine ⟨⟨⟨k, CH_loc s m ck⟩, ⟨tm, S, V, c, BR_loc s m b⟩, ?_⟩, ⟨fun a i p => o a i (by omega) (by omega), fun i p => o _ _ (by omega) (by omega), fun i p => o _ _ (by omega) (by omega)⟩⟩
  have : j = 0 ∨ j = 1 ∨ j = 2 := by omega
  rcases this with z | z | z
  · subst z
    have o1 : h2 1 12 = w32 (h 1 12 + 1) := o1
    rw [o1, o2, o 1 13 (by omega) (by omega), o 1 14 (by omega) (by omega), o 150 1 (by omega) (by omega), o 150 2 (by omega) (by omega), c0]
    exact ⟨rfl, c1, c2⟩
  · subst z
    have o1 : h2 1 13 = w32 (h 1 13 + 1) := o1
    rw [o1, o2, o 1 12 (by omega) (by omega), o 1 14 (by omega) (by omega), o 150 0 (by omega) (by omega), o 150 2 (by omega) (by omega), c1]
    exact ⟨c0, rfl, c2⟩
  · subst z
    have o1 : h2 1 14 = w32 (h 1 14 + 1) := o1
    rw [o1, o2, o 1 12 (by omega) (by omega), o 1 13 (by omega) (by omega), o 150 0 (by omega) (by omega), o 150 1 (by omega) (by omega), c2]
    exact ⟨c0, c1, rfl⟩
theorem w32_0 : w32 (-2 - -2) = 0 := by decide
theorem w32_1 : w32 (-2 - -3) = 1 := by decide
theorem w32_2 : w32 (-2 - -4) = 2 := by decide
theorem b_opens {d : Nat} {h : HP} {R : HP → Prop} (hd : 20 < d) (B : BIx h) (H : ∀ h2, BIx h2 → FrB h h2 → R h2) :
    Go d M_BT_opens 0 [(21, 1)] [] h (fun r1 h1 => Go d M_Mo_opens 0 [(22, 135)] [] h1 (fun r2 h2 => r1 = r2 ∧ R h2)) := by
  have B0 := B
  obtain ⟨⟨k, ck⟩, ⟨tm, S, V, c, b⟩, c0, c1, c2⟩ := B
  have b' := b
  obtain ⟨W, Rw, hV, ⟨e15, e14, e19, e18, n60, d8⟩, rows⟩ := b
  have hd0 := W.2.2.2.2.2
  refine N_BT_opens_0 ⟨fun w => ⟨by omega, c_open (R := 84) (Or.inl ⟨rfl, rfl⟩) hd0 (by omega) ?_⟩, fun w => ⟨by omega, ?_⟩⟩
  · have o : ∀ a i, a ≠ 5 + 1 → a ≠ 5 + 2 → ¬ (a = 5 ∧ i = 15) → opH h 5 a i = h a i := fun a i p q r => opH_o p q r
    have m1 : LcM h (opH h 5) := ⟨fun i p q => o _ _ (by omega) (by omega) (by omega), fun a i p q r => o _ _ (by omega) (by omega) (by omega)⟩
    have e5 : opH h 5 5 15 = h 5 15 + 1 := up2_eq
    have f : ∀ i, opH h 5 135 i = h 135 i := fun i => o _ _ (by omega) (by omega) (by omega)
    have rw1 : RW (opH h 5) tm S := RW_loc m1 Rw
    refine N_Mo_opens_0 ?_
    rw [f 18, f 19, f 15]
    refine ⟨fun w2 => ⟨by omega, by unfold r32; omega, ⟨by omega, by omega⟩, ?_⟩, fun w2 => by omega⟩
    intro g1 hg1
    have a18 : g1 135 18 = h 135 18 := by rw [hg1, up2_nc (by decide), f]
    have a19 : g1 135 19 = h 135 19 := by rw [hg1, up2_nc (by decide), f]
    have a17 : g1 135 17 = h 135 17 := by rw [hg1, up2_nc (by decide), f]
    rw [a18, a19, a17]
    refine ⟨by unfold r32; omega, ⟨by omega, by omega⟩, ?_⟩
    intro g2 hg2
    rw [show g2 135 18 = h 135 18 by rw [hg2, up2_nc (by decide), a18]]
    refine ⟨by unfold r32; omega, ?_⟩
    intro g3 hg3
    have eb : g3 = brH (opH h 5) := by
      rw [hg3, hg2, hg1]
      unfold brH
      rw [f 18, f 19, f 15, f 17]
    have b18 : g3 135 18 = h 135 18 + 1 := by rw [hg3, up2_eq]
    rw [b18, e5]
    refine ⟨by omega, H g3 ?_ ?_⟩
    · have go : ∀ a i, a ≠ 148 → a ≠ 149 → ¬ (a = 135 ∧ i = 18) → g3 a i = opH h 5 a i := fun a i p q r => by rw [eb]; exact brH_o p q r
      have lc : LcC 5 (opH h 5) g3 := fun a i p q => go a i (by omega) (by omega) (by omega)
      refine ⟨⟨k + 1, ?_, h, ck, ⟨tm, S, V, c, b'⟩, ?_, ?_⟩, ⟨tm, S, V, c, ?_⟩, ?_⟩
      · rw [go 5 15 (by omega) (by omega) (by omega), e5]
        have : h 5 15 = k := by
          cases k with
          | zero => exact ck
          | succ k => exact ck.1
        omega
      · exact ExB_loc (LcC_refl 5 _) lc (ExC_ExB (ExC_refl 5 _))
      · have : LcM (brH h) g3 := by
          rw [eb]
          exact brH_loc m1
        exact ExN_loc (LcM_refl _) this (ExM_ExN (ExM_refl _))
      · refine ⟨CW_loc lc (CW_opH W), by rw [eb]; exact RW_brH rw1, ?_, ?_, ?_⟩
        · rw [go 5 13 (by omega) (by omega) (by omega), o 5 13 (by omega) (by omega) (by omega), LcC_row lc 3 (by omega) (by omega), LcC_row lc 6 (by omega) (by omega), show opH h 5 (5 + 3) = h (5 + 3) from funext fun i => o _ i (by omega) (by omega) (by omega), show opH h 5 (5 + 6) = h (5 + 6) from funext fun i => o _ i (by omega) (by omega) (by omega)]
          exact hV
        · rw [b18, go 5 13 (by omega) (by omega) (by omega), go 5 15 (by omega) (by omega) (by omega), o 5 13 (by omega) (by omega) (by omega), e5, go 135 14 (by omega) (by omega) (by omega), go 135 15 (by omega) (by omega) (by omega), go 135 19 (by omega) (by omega) (by omega), f, f, f]
          omega
        · intro x x0 x1
          rw [go 5 13 (by omega) (by omega) (by omega), o 5 13 (by omega) (by omega) (by omega)] at x1
          have r := rows x x0 x1
          rw [go 137 x (by omega) (by omega) (by omega), go 138 x (by omega) (by omega) (by omega), go 139 x (by omega) (by omega) (by omega), go 140 x (by omega) (by omega) (by omega), go (5 + 3) x (by omega) (by omega) (by omega), go (5 + 4) x (by omega) (by omega) (by omega), go (5 + 5) x (by omega) (by omega) (by omega), go (5 + 6) x (by omega) (by omega) (by omega), o 137 x (by omega) (by omega) (by omega), o 138 x (by omega) (by omega) (by omega), o 139 x (by omega) (by omega) (by omega), o 140 x (by omega) (by omega) (by omega), o (5 + 3) x (by omega) (by omega) (by omega), o (5 + 4) x (by omega) (by omega) (by omega), o (5 + 5) x (by omega) (by omega) (by omega), o (5 + 6) x (by omega) (by omega) (by omega)]
          exact r
      · rw [go 1 12 (by omega) (by omega) (by omega), go 1 13 (by omega) (by omega) (by omega), go 1 14 (by omega) (by omega) (by omega), go 150 0 (by omega) (by omega) (by omega), go 150 1 (by omega) (by omega) (by omega), go 150 2 (by omega) (by omega) (by omega), o 1 12 (by omega) (by omega) (by omega), o 1 13 (by omega) (by omega) (by omega), o 1 14 (by omega) (by omega) (by omega), o 150 0 (by omega) (by omega) (by omega), o 150 1 (by omega) (by omega) (by omega), o 150 2 (by omega) (by omega) (by omega)]
        exact ⟨c0, c1, c2⟩
    · rw [eb]
      refine ⟨fun a i p => ?_, fun i p => ?_, fun i p => ?_⟩
      · rw [brH_o (by omega) (by omega) (by omega), o a i (by omega) (by omega) (by omega)]
      · rw [brH_o (by omega) (by omega) (by omega), o 1 i (by omega) (by omega) (by omega)]
      · rw [brH_o (by omega) (by omega) (by omega), o 135 i (by omega) (by omega) (by omega)]
  · rintro g1 rfl
    refine N_Mo_opens_0 ?_
    rw [up2_nc (show (135 : Int) ≠ 1 by decide)]
    refine ⟨fun w2 => by omega, fun w2 => ⟨by omega, ?_⟩⟩
    rw [w32_2]
    refine ⟨⟨by decide, by decide⟩, ⟨by decide, by decide⟩, ?_⟩
    intro g2 hg2
    rw [up2_nc (show (150 : Int) ≠ 1 by decide)] at hg2
    obtain ⟨x1, x2⟩ := BIx_ref (j := 2) B0 (by decide) (by decide) hg2
    exact ⟨rfl, H g2 x1 x2⟩
theorem b_closes {d : Nat} {h : HP} {R : HP → Prop} (hd : 20 < d) (B : BIx h) (H : ∀ h2, BIx h2 → FrB h h2 → R h2) :
    Go d M_BT_closes 0 [(21, 1), (2, 0)] [] h (fun r1 h1 => Go d M_Mo_closes 0 [(22, 135)] [] h1 (fun r2 h2 => r1 = r2 ∧ R h2)) := by
  have B0 := B
  obtain ⟨⟨k, ck⟩, ⟨tm, S, V, c, b⟩, c0, c1, c2⟩ := B
  obtain ⟨W, Rw, hV, ⟨e15, e14, e19, e18, n60, d8⟩, rows⟩ := b
  have hd0 := W.2.2.2.2.2
  have n0 := W.1.2.1.2.1
  refine N_BT_closes_0 ⟨fun w => ⟨by omega, ?_⟩, fun w => ⟨by omega, ?_⟩⟩
  · cases k with
    | zero => exact absurd ck w
    | succ k =>
      obtain ⟨ek, h0, ck0, ⟨tm0, S0, V0, cc0, b0⟩, x0, y0⟩ := ck
      have b0' := b0
      obtain ⟨W0, Rw0, hV0, ⟨f15, f14, f19, f18, m60, f8⟩, rows0⟩ := b0
      have hd00 := W0.2.2.2.2.2
      have m0 := W0.1.2.1.2.1
      have ox : (opH h0 5) 5 15 = h0 5 15 + 1 := up2_eq
      have oo : ∀ i, i ≠ 15 → (opH h0 5) 5 i = h0 5 i := fun i q => opH_o (by omega) (by omega) (fun z => q z.2)
      have q13 := x0.1.1
      rw [oo 13 (by decide)] at q13
      refine c_closeB (by omega) W0 (by omega) x0 W.1 (fun h1 W1 X1 a13 a14 o1 => ⟨by unfold r32; omega, ?_⟩)
      rw [a13]
      have m1 : LcM h h1 := ⟨fun i p q => o1 _ _ (by omega), fun a i p q r => o1 _ _ (by omega)⟩
      have f1 : ∀ i, h1 135 i = h 135 i := fun i => o1 _ _ (by omega)
      have y1 := ExN_loc (LcM_refl (brH h0)) m1 y0
      have R1 := RW_loc m1 Rw
      refine N_Mo_closes_0 ?_
      rw [f1 18]
      refine ⟨fun _ => ⟨by omega, c_unbranchesB (by omega) Rw0 (by omega) (by omega) ⟨by omega, by omega⟩ y1 (by rw [f1]; omega) (fun h2 R2 Y2 b15 b17 o2 o2b => ?_)⟩, fun z => by omega⟩
      rw [f1 15]
      refine ⟨by omega, H h2 ?_ ?_⟩
      · have lc2 : LcC 5 h1 h2 := fun a i p q => o2 a i (by omega)
        have W2 := CW_loc lc2 W1
        have t2 : ∀ i, h2 5 i = h1 5 i := fun i => lc2 5 i (by omega) (by omega)
        have X2 : ExB 5 h0 h2 := ExB_loc (LcC_refl 5 _) lc2 X1
        have g15 : h2 5 15 = h0 5 15 := X2.1.2.2
        have g13 : h2 5 13 = h0 5 13 := by rw [t2, a13]
        have Y2' := Y2
        obtain ⟨⟨z14, z16, z18, z19⟩, _, _, zn, _, _, _⟩ := Y2'
        refine ⟨⟨k, CH_step ck0 b0' X2 Y2⟩, ⟨tm0, S0, V0, cc0, W2, R2, ?_, ?_, ?_⟩, ?_⟩
        · rw [g13]
          refine ⟨fun x xa xb x7 => ?_, fun m hm => ?_⟩
          · have r := X2.2.1 x xa xb
            rw [r.1] at x7 ⊢
            rw [r.2.2.2]
            exact hV0.1 x xa xb x7
          · obtain ⟨x, xa, xb, x7, xe⟩ := hV0.2 m hm
            exact ⟨x, xa, xb, by rw [(X2.2.1 x xa xb).1]; exact x7, xe⟩
        · rw [g13, g15, b15, z14, z18, z19]
          exact ⟨f15, f14, f19, f18, m60, f8⟩
        · rw [g13]
          intro x xa xb
          have r := X2.2.1 x xa xb
          have s := zn x (by omega)
          rw [r.1, r.2.1, r.2.2.1, r.2.2.2, s.1, s.2.1, s.2.2.1, s.2.2.2]
          exact rows0 x xa xb
        · rw [o2 1 12 (by omega), o2 1 13 (by omega), o2 1 14 (by omega), o2 150 0 (by omega), o2 150 1 (by omega), o2 150 2 (by omega), o1 1 12 (by omega), o1 1 13 (by omega), o1 1 14 (by omega), o1 150 0 (by omega), o1 150 1 (by omega), o1 150 2 (by omega)]
          exact ⟨c0, c1, c2⟩
      · refine ⟨fun a i p => ?_, fun i p => ?_, fun i p => ?_⟩
        · rw [o2 a i (by omega), o1 a i (by omega)]
        · rw [o2 1 i (by omega), o1 1 i (by omega)]
        · rw [o2b i p, o1 135 i (by omega)]
  · rintro g1 rfl
    refine N_Mo_closes_0 ?_
    rw [up2_nc (show (135 : Int) ≠ 1 by decide)]
    refine ⟨fun w2 => by omega, fun w2 => ⟨by omega, ?_⟩⟩
    rw [w32_1]
    refine ⟨⟨by decide, by decide⟩, ⟨by decide, by decide⟩, ?_⟩
    intro g2 hg2
    rw [up2_nc (show (150 : Int) ≠ 1 by decide)] at hg2
    obtain ⟨x1, x2⟩ := BIx_ref (j := 1) B0 (by decide) (by decide) hg2
    exact ⟨rfl, H g2 x1 x2⟩
end
