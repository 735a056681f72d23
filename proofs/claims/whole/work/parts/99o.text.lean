section
/-! the text: type, clear -/
/-- what the calls on the text leave -/
def FrX (h h' : HP) : Prop := (∀ a i, (a < 5 ∧ a ≠ 1) ∨ (29 < a ∧ a < 135) ∨ a = 136 ∨ 150 < a → a ≠ 31 → a ≠ 156 → ¬ (a = 30 ∧ i = 2) → h' a i = h a i) ∧ (∀ i, i < 12 ∨ 14 < i → h' 1 i = h 1 i) ∧ (∀ i, i < 14 ∨ 19 < i → i ≠ 33 → h' 135 i = h 135 i)
theorem FrX_of {h h' : HP} (f : FrB h h') : FrX h h' := ⟨fun a i p _ _ _ => f.1 a i p, f.2.1, fun i p _ => f.2.2 i p⟩
theorem RnR_fx {h h' : HP} (f : FrX h h') (T : RnR h) : RnR h' := by
  unfold RnR at *
  rw [show h' 189 = h 189 from funext fun i => f.1 189 i (by omega) (by omega) (by omega) (by omega), f.2.1 9 (by omega), f.2.1 10 (by omega), f.2.1 11 (by omega), f.1 131 1 (by omega) (by omega) (by omega) (by omega), f.1 133 1 (by omega) (by omega) (by omega) (by omega), f.2.2 24 (by omega) (by omega), show h' 190 = h 190 from funext fun i => f.1 190 i (by omega) (by omega) (by omega) (by omega), show h' 132 = h 132 from funext fun i => f.1 132 i (by omega) (by omega) (by omega) (by omega), show h' 191 = h 191 from funext fun i => f.1 191 i (by omega) (by omega) (by omega) (by omega), show h' 134 = h 134 from funext fun i => f.1 134 i (by omega) (by omega) (by omega) (by omega)]
  exact T
theorem DcR_fx {h h' : HP} (f : FrX h h') (T : DcR h) : DcR h' := by
  obtain ⟨a, b, c⟩ := T
  have f1 : ∀ x i, 35 < x → x < 135 ∨ x = 151 ∨ x = 152 ∨ x = 153 ∨ x = 154 ∨ x = 155 ∨ x = 167 → h' x i = h x i := fun x i p q => f.1 x i (by omega) (by omega) (by omega) (by omega)
  have sg : ∀ x j, 35 < x → x < 134 → SgR h x j → SgR h' x j := by
    intro x j p q s
    unfold SgR at *
    rw [f1 152 j (by omega) (by omega), f1 153 j (by omega) (by omega), f1 154 j (by omega) (by omega), f1 x 1 (by omega) (by omega), f1 x 2 (by omega) (by omega), f1 x 3 (by omega) (by omega), show h' 151 = h 151 from funext fun i => f1 151 i (by omega) (by omega), show h' (x + 1) = h (x + 1) from funext fun i => f1 (x + 1) i (by omega) (by omega)]
    exact s
  refine ⟨?_, fun k k0 k1 => ?_, fun k k0 k1 => ?_⟩
  · rw [f1 36 4 (by omega) (by omega), f1 36 5 (by omega) (by omega), f.2.2 30 (by omega) (by omega), f.2.2 31 (by omega) (by omega)]; exact a
  · rw [f1 36 4 (by omega) (by omega)] at k1
    obtain ⟨s, t⟩ := b k k0 k1
    refine ⟨sg _ _ (by omega) (by omega) s, ?_⟩
    rw [f1 155 k (by omega) (by omega), f1 (41 + 2 * k) 4 (by omega) (by omega)]
    exact t
  · rw [f1 36 5 (by omega) (by omega)] at k1
    obtain ⟨s, t⟩ := c k k0 k1
    refine ⟨sg _ _ (by omega) (by omega) s, ?_⟩
    rw [f1 40 k (by omega) (by omega), f1 167 k (by omega) (by omega), f1 (63 + 5 * k) 3 (by omega) (by omega)]
    exact t
/-- cells that no bench reads -/
theorem BIx_out {h g : HP} (B : BIx h) (s : ∀ a i, ((2 ≤ a ∧ a < 30) ∨ (135 < a ∧ a < 151)) ∨ (a = 1 ∧ 11 < i ∧ i < 15) ∨ (a = 135 ∧ 13 < i ∧ i < 24) → g a i = h a i) (lc : LcC 5 h g) (lm : LcM h g) : BIx g := by
  obtain ⟨⟨k, ck⟩, ⟨tm, S, V, c, b⟩, c0, c1, c2⟩ := B
  refine ⟨⟨k, CH_loc lc lm ck⟩, ⟨tm, S, V, c, BR_loc lc lm b⟩, ?_⟩
  rw [s 1 12 (by omega), s 1 13 (by omega), s 1 14 (by omega), s 150 0 (by omega), s 150 1 (by omega), s 150 2 (by omega)]
  exact ⟨c0, c1, c2⟩
theorem b_clear {d : Nat} {h : HP} {R : HP → Prop} (hd : 20 < d) (B : BIx h) (T : TxR h) (H : ∀ h2, BIx h2 → TxR h2 → FrX h h2 → R h2) :
    Go d M_BT_clear 0 [(21, 1), (2, 0)] [] h (fun r1 h1 => Go d M_Mo_clear 0 [(22, 135), (2, 0)] [] h1 (fun r2 h2 => r1 = r2 ∧ R h2)) := by
  refine N_BT_clear_0 ⟨by omega, fun g1 hg1 => N_Mo_clear_0 fun g2 hg2 => ?_⟩
  have o : ∀ a i, ¬ (a = 30 ∧ i = 2) → ¬ (a = 135 ∧ i = 33) → g2 a i = h a i := fun a i p q => by rw [hg2, up2_ext q, hg1, up2_ext p]
  have o1 : g2 30 2 = 0 := by rw [hg2, up2_nc (by decide), hg1, up2_eq]
  have o2 : g2 135 33 = 0 := by rw [hg2, up2_eq]
  have o3 : g1 135 33 = h 135 33 := by rw [hg1, up2_nc (by decide)]
  refine ⟨by rw [o3, T.1.2.2], H g2 (BIx_out B (fun a i p => o a i (by omega) (by omega)) (fun a i p q => o a i (by omega) (by omega)) ⟨fun i p q => o _ _ (by omega) (by omega), fun a i p q r => o _ _ (by omega) (by omega)⟩) ?_ ⟨fun a i p q r t => o a i t (by omega), fun i p => o _ _ (by omega) (by omega), fun i p q => o _ _ (by omega) (by omega)⟩⟩
  refine ⟨⟨by omega, by omega, by omega⟩, fun i i0 i1 => by omega⟩
theorem b_type {d : Nat} {h : HP} {x : Int} {R : HP → Prop} (hd : 20 < d) (B : BIx h) (T : TxR h) (H : ∀ h2, BIx h2 → TxR h2 → FrX h h2 → R h2) :
    Go d M_BT_type 0 [(21, 1), (0, x)] [] h (fun r1 h1 => Go d M_Mo_type 0 [(22, 135), (0, x)] [] h1 (fun r2 h2 => r1 = r2 ∧ R h2)) := by
  have H' : ∀ h2, BIx h2 → FrB h h2 → R h2 := fun h2 b f => H h2 b (TxR_fr f T) (FrX_of f)
  have bad : ¬ (0 ≤ x ∧ x ≤ 127) → ∀ g1 : HP, g1 = up2 h 1 12 (w32 (h 1 12 + 1)) → Go d M_Mo_type 0 [(22, 135), (0, x)] [] g1 (fun r2 h2 => -2 = r2 ∧ R h2) := by
    intro nb g1 hg1
    have rb := fun {d : Nat} (q : 0 < d) => ref_bad (d := d) B H' hg1 q
    exact N_Mo_type_0 ⟨by omega, c_in (fun a b => absurd ⟨a, b⟩ nb) (fun _ => ⟨fun z => absurd rfl z, fun _ => rb (by omega)⟩)⟩
  have sz : aSZ (30 + 1) = 100 := rfl
  obtain ⟨⟨t0, t1, t2⟩, t3⟩ := T
  refine N_BT_type_0 ⟨fun z => ⟨by omega, bad (by omega)⟩, fun x0 => ⟨fun x1 => ⟨fun z => ⟨by omega, V_Code_append_0 ⟨fun q => by omega, fun _ => ⟨⟨t0, by rw [sz]; omega⟩, fun g1 hg1 => ⟨?_, fun g2 hg2 => ?_⟩⟩⟩⟩, fun z => ⟨by omega, fun g1 hg1 => ?_⟩⟩, fun z => ⟨by omega, bad (by omega)⟩⟩⟩
  · rw [hg1, up2_nc (by decide)]; unfold r32; omega
  · have p0 : g1 30 2 = h 30 2 := by rw [hg1, up2_nc (by decide)]
    have p1 : g2 135 33 = h 30 2 := by rw [hg2, up2_nc (by decide), hg1, up2_nc (by decide), t2]
    refine N_Mo_type_0 ⟨by omega, c_in (fun _ _ => ⟨fun _ => ⟨fun _ => ⟨⟨by omega, by omega⟩, fun g3 hg3 => ⟨?_, fun g4 hg4 => ?_⟩⟩, fun u => by omega⟩, fun u => absurd u (by decide)⟩) (fun u => by omega)⟩
    · rw [hg3, up2_nc (by decide), p1]; unfold r32; omega
    · rw [p1] at hg3
      have p3 : g3 135 33 = h 30 2 := by rw [hg3, up2_nc (by decide), p1]
      rw [p3] at hg4
      rw [p0] at hg2
      have o : ∀ a i, ¬ (a = 30 ∧ i = 2) → ¬ (a = 30 + 1 ∧ i = h 30 2) → ¬ (a = 135 ∧ i = 33) → ¬ (a = 156 ∧ i = h 30 2) → g4 a i = h a i := fun a i p q r s => by rw [hg4, up2_ext r, hg3, up2_ext s, hg2, up2_ext p, hg1, up2_ext q]
      have o1 : g4 30 2 = h 30 2 + 1 := by rw [hg4, up2_nc (by decide), hg3, up2_nc (by decide), hg2, up2_eq]
      have o2 : g4 135 33 = h 30 2 + 1 := by rw [hg4, up2_eq]
      have o3 : g4 31 (h 30 2) = x := by rw [hg4, up2_nc (by decide), hg3, up2_nc (by decide), hg2, up2_nc (by decide), hg1]; exact up2_eq
      have o4 : g4 156 (h 30 2) = x := by rw [hg4, up2_nc (by decide), hg3, up2_eq]
      have o5 : g2 30 2 = h 30 2 + 1 := by rw [hg2, up2_eq]
      refine ⟨by rw [o5, o2], H g4 (BIx_out B (fun a i p => o a i (by omega) (by omega) (by omega) (by omega)) (fun a i p q => o a i (by omega) (by omega) (by omega) (by omega)) ⟨fun i p q => o _ _ (by omega) (by omega) (by omega) (by omega), fun a i p q r => o _ _ (by omega) (by omega) (by omega) (by omega)⟩) ?_ ⟨fun a i p q r t => o a i t (by omega) (by omega) (by omega), fun i p => o _ _ (by omega) (by omega) (by omega) (by omega), fun i p q => o _ _ (by omega) (by omega) (by omega) (by omega)⟩⟩
      refine ⟨⟨by omega, by omega, by omega⟩, fun i i0 i1 => ?_⟩
      by_cases e : i = h 30 2
      · rw [e, o3, o4]; exact ⟨rfl, x0, x1⟩
      · rw [o 31 i (by omega) (by omega) (by omega) (by omega), o 156 i (by omega) (by omega) (by omega) (by omega)]
        exact t3 i i0 (by omega)
  · have g33 : g1 135 33 = h 30 2 := by rw [hg1, up2_nc (by decide), t2]
    have rb := fun {d : Nat} (q : 0 < d) => ref_full (d := d) B H' hg1 q
    exact N_Mo_type_0 ⟨by omega, c_in (fun _ _ => ⟨fun _ => ⟨fun u => by omega, fun _ => rb (by omega)⟩, fun u => absurd u (by decide)⟩) (fun u => by omega)⟩
end
