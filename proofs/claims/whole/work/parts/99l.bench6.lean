section
theorem b_would {d : Nat} {h : HP} {x y : Int} {R : HP → Prop} (hd : 20 < d) (B : BIx h) (H : ∀ h2, BIx h2 → FrB h h2 → R h2) :
    Go d M_BT_would 0 [(21, 1), (0, x), (0, y), (2, 0), (2, 0)] [] h (fun r1 h1 => Go d M_Mo_would 0 [(22, 135), (0, x), (0, y), (2, 0)] [] h1 (fun r2 h2 => r1 = r2 ∧ R h2)) := by
  have B0 := B
  obtain ⟨⟨k, ck⟩, ⟨tm, S, V, c, b⟩, c0, c1, c2⟩ := B
  have b' := b
  obtain ⟨W, Rw, hV, ⟨e15, e14, e19, e18, n60, d8⟩, rows⟩ := b
  have n0 := W.1.2.1.2.1
  have hV2 : VOk (h 135 14) (h 135 15) (h 137) (h 140) tm V := by
    rw [e14, e15]
    refine ⟨fun z z0 z1 z7 => ?_, fun m hm => ?_⟩
    · rw [(rows z z0 z1).1] at z7 ⊢
      rw [(rows z z0 z1).2.1]
      exact hV.1 z z0 z1 z7
    · obtain ⟨z, z0, z1, z7, ze⟩ := hV.2 m hm
      exact ⟨z, z0, z1, by rw [(rows z z0 z1).1]; exact z7, ze⟩
  refine N_BT_would_0 ⟨by omega, c_areT (by omega) (fun x0 x1 y0 y1 => ⟨fun _ => ⟨by omega, ?_⟩, fun z => absurd z (by decide)⟩) (fun nt => ⟨fun z => absurd rfl z, fun _ => ⟨by omega, ?_⟩⟩)⟩
  · have ref : ∀ (h1 : HP) (r : Int), CW h1 5 84 tm S c → ExC 5 h h1 → h1 5 13 = h 5 13 → ((Sat (Snd S (tm x) (tm y)) ∧ ¬ FixS S (Snd S (tm x) (tm y)) V (h 5 15) ∧ r = ncl tm S 0 (h 5 13) - ncl tm (Snd S (tm x) (tm y)) 0 (h 5 13)) ∨ (¬ Sat (Snd S (tm x) (tm y)) ∧ r = -5) ∨ (Sat (Snd S (tm x) (tm y)) ∧ FixS S (Snd S (tm x) (tm y)) V (h 5 15) ∧ r = -6)) → Go d M_Mo_would 0 [(22, 135), (0, x), (0, y), (2, 0)] [] h1 (fun r2 h2 => r = r2 ∧ R h2) := by
      intro h1 r W1 X1 a13 hr
      have m1 : LcM h h1 := ⟨fun i p q => X1.2.2.2.2.2 _ _ (by omega), fun a i p q r => X1.2.2.2.2.2 _ _ (by omega)⟩
      have f1 : ∀ i, h1 135 i = h 135 i := fun i => X1.2.2.2.2.2 _ _ (by omega)
      have R1 := RW_loc m1 Rw
      have hV3 : VOk (h1 135 14) (h1 135 15) (h1 137) (h1 140) tm V := by
        rw [f1, f1, LcM_row m1 137 (by omega) (by omega) (by omega), LcM_row m1 140 (by omega) (by omega) (by omega)]
        exact hV2
      have fin : ∀ h2, RW h2 tm S → ExM h1 h2 → h2 135 15 = h1 135 15 → R h2 := fun h2 R2 X2 b15 => by
        obtain ⟨z1, z2⟩ := BIx_eq ck b' c0 c1 c2 W1 X1 a13 R2 X2 b15
        exact H h2 z1 z2
      refine N_Mo_would_0 ⟨by omega, c_isType (by omega) (by rw [f1]; omega) (by rw [f1]; omega) (fun _ _ => ⟨fun z => absurd z (by decide), fun _ => ⟨by omega, c_isType (by omega) (by rw [f1]; omega) (by rw [f1]; omega) (fun _ _ => ⟨fun _ => ⟨by omega, ?_⟩, fun z => absurd z (by decide)⟩) (fun z => by rw [f1] at z; omega)⟩⟩) (fun z => by rw [f1] at z; omega)⟩
      refine c_united (V := V) (by omega) R1 hV3 (by rw [f1, f1]; omega) (by rw [f1, f1]; omega) (fun sat nf h2 R2 X2 b15 r2 hr2 r0 rz rp => ?_) (fun ns h2 R2 X2 b15 _ => ?_) (fun sat fx h2 R2 X2 b15 _ => ?_)
      · rw [f1, e18] at nf
        rw [f1, f1, e14, e15] at hr2
        have er : r = r2 := by
          rcases hr with ⟨_, _, hr⟩ | ⟨ns, _⟩ | ⟨_, fx, _⟩
          · omega
          · exact absurd sat ns
          · exact absurd fx nf
        refine ⟨fun z => ⟨er, fin h2 (RW_iff R2 (fun θ => ?_)) X2 b15⟩, fun z => ⟨by omega, c_unequal (by omega) R1 X2 b15 (rp z) (fun h3 R3 X3 d15 _ => ⟨er, fin h3 R3 X3 d15⟩)⟩⟩
        have e := (rz (by omega)).2
        exact ⟨fun q => ⟨q, e θ q⟩, fun q => q.1⟩
      · refine ⟨fun _ => ⟨?_, fin h2 R2 X2 b15⟩, fun z => absurd z (by decide)⟩
        rcases hr with ⟨sat, _⟩ | ⟨_, hr⟩ | ⟨sat, _⟩
        · exact absurd sat ns
        · exact hr
        · exact absurd sat ns
      · rw [f1, e18] at fx
        refine ⟨fun _ => ⟨?_, fin h2 R2 X2 b15⟩, fun z => absurd z (by decide)⟩
        rcases hr with ⟨_, nf, _⟩ | ⟨ns, _⟩ | ⟨_, _, hr⟩
        · exact absurd fx nf
        · exact absurd sat ns
        · exact hr
    refine c_join (T := 5) (R := 84) (V := V) (by omega) W hV x0 x1 y0 y1 (fun sat nf h1 c1' W1 X1 a13 r hr _ _ => ⟨by omega, ?_⟩) (fun ns h1 W1 X1 a13 _ => ⟨by omega, ?_⟩) (fun sat _ fx h1 W1 X1 a13 _ => ⟨by omega, ?_⟩)
    · have F1 := W1.1
      rw [a13] at F1
      refine c_undoTo W X1 F1 (fun g Wg Xg g13 _ _ => ref g r Wg Xg g13 (Or.inl ⟨sat, ?_, hr⟩))
      rcases nf with z | z
      · exact absurd z (by decide)
      · exact z
    · have F1 := W1.1
      rw [a13] at F1
      exact c_undoTo W X1 F1 (fun g Wg Xg g13 _ _ => ref g (-5) Wg Xg g13 (Or.inr (Or.inl ⟨ns, rfl⟩)))
    · have F1 := W1.1
      rw [a13] at F1
      exact c_undoTo W X1 F1 (fun g Wg Xg g13 _ _ => ref g (-6) Wg Xg g13 (Or.inr (Or.inr ⟨sat, fx, rfl⟩)))
  · intro g1 hg1
    have f1 : g1 135 15 = h 135 15 := by rw [hg1, up2_nc (by decide)]
    have rb := fun {d : Nat} (q : 0 < d) => ref_bad (d := d) B0 H hg1 q
    refine N_Mo_would_0 ⟨by omega, c_isType (by omega) (by omega) (by omega) (fun _ _ => ⟨fun z => absurd z (by decide), fun _ => ⟨by omega, c_isType (by omega) (by omega) (by omega) (fun _ _ => by omega) (fun _ => ⟨fun z => absurd rfl z, fun _ => rb (by omega)⟩)⟩⟩) (fun _ => ⟨fun _ => rb (by omega), fun z => absurd rfl z⟩)⟩
theorem BIx_scC {h g : HP} (B : BIx h) (s : ScC 5 h g) : BIx g ∧ FrB h g := by
  have lc : LcC 5 h g := fun a i p q => s a i (by omega)
  have lm : LcM h g := ⟨fun i p q => s _ _ (by omega), fun a i p q r => s _ _ (by omega)⟩
  obtain ⟨⟨k, ck⟩, ⟨tm, S, V, c, b⟩, c0, c1, c2⟩ := B
  refine ⟨⟨⟨k, CH_loc lc lm ck⟩, ⟨tm, S, V, c, BR_loc lc lm b⟩, ?_⟩, ⟨fun a i p => s _ _ (by omega), fun i p => s _ _ (by omega), fun i p => s _ _ (by omega)⟩⟩
  rw [s 1 12 (by omega), s 1 13 (by omega), s 1 14 (by omega), s 150 0 (by omega), s 150 1 (by omega), s 150 2 (by omega)]
  exact ⟨c0, c1, c2⟩
theorem FrB_trans {h h' h'' : HP} (a : FrB h h') (b : FrB h' h'') : FrB h h'' := ⟨fun x i p => (b.1 x i p).trans (a.1 x i p), fun i p => (b.2.1 i p).trans (a.2.1 i p), fun i p => (b.2.2 i p).trans (a.2.2 i p)⟩
theorem b_shape {d : Nat} {h : HP} {x w : Int} {R : HP → Prop} (hd : 20 < d) (B : BIx h) (H : ∀ h2, BIx h2 → FrB h h2 → R h2) :
    Go d M_BT_shape 0 [(21, 1), (0, x), (0, w), (2, 0), (2, 0)] [] h (fun r1 h1 => Go d M_Mo_shape 0 [(22, 135), (0, x), (0, w), (2, 0), (2, 0), (2, 0), (2, 0)] [] h1 (fun r2 h2 => r1 = r2 ∧ R h2)) := by
  have B0 := B
  obtain ⟨⟨k, ck⟩, ⟨tm, S, V, c, b⟩, c0, c1, c2⟩ := B
  have b' := b
  obtain ⟨W, Rw, hV, ⟨e15, e14, e19, e18, n60, d8⟩, rows⟩ := b
  have n0 := W.1.2.1.2.1
  have F := W.1
  have NA := W.2.2.2.1
  have bad : ¬ (0 ≤ x ∧ x < h 5 13 ∧ 0 ≤ w ∧ w ≤ 5) → ∀ g1 : HP, g1 = up2 h 1 12 (w32 (h 1 12 + 1)) → Go d M_Mo_shape 0 [(22, 135), (0, x), (0, w), (2, 0), (2, 0), (2, 0), (2, 0)] [] g1 (fun r2 h2 => -2 = r2 ∧ R h2) := by
    intro nb g1 hg1
    have f1 : g1 135 15 = h 135 15 := by rw [hg1, up2_nc (by decide)]
    have rb := fun {d : Nat} (q : 0 < d) => ref_bad (d := d) B0 H hg1 q
    exact N_Mo_shape_0 ⟨by omega, c_isType (by omega) (by omega) (by omega) (fun x0 x1 => ⟨fun z => absurd z (by decide), fun _ => ⟨by omega, c_in (fun a b => absurd ⟨x0, by omega, a, b⟩ nb) (fun _ => ⟨fun z => absurd rfl z, fun _ => rb (by omega)⟩)⟩⟩) (fun _ => ⟨fun _ => rb (by omega), fun z => absurd rfl z⟩)⟩
  refine N_BT_shape_0 ⟨by omega, c_has (R := 84) (Or.inl ⟨rfl, rfl⟩) (fun x0 x1 => ⟨fun _ => ⟨by omega, c_leadOf (by omega) F x0 x1 ?_⟩, fun z => absurd z (by decide)⟩) (fun nt => ⟨fun z => absurd rfl z, fun _ => ⟨by omega, bad (by omega)⟩⟩)⟩
  have le := BR_lead b' x0 x1
  have l := (FB_lead F).1 x x0 x1
  have r := rows _ l.1 l.2.1
  have na := NA _ l.1 l.2.1
  have M : Mi 0 (h 5 13) (h 141) := by
    have := Rw.1.1.2.2.2.2.2.2.2.1
    rw [e14, e15] at this
    exact this
  have ec : ∀ z u, 0 ≤ z → z < h 5 13 → 0 ≤ u → u < h 5 13 → (c z = c u ↔ h 141 z = h 141 u) := fun z u z0 z1 u0 u1 => (Ptn_eq W.2.1 z0 z1 u0 u1).trans (RW_eq Rw (by omega) (by omega) (by omega) (by omega)).symm
  have m := M x x0 x1
  have Fr := F.2.2.2.2.1
  have cx := (Fr x x0 x1).2.1
  -- the reference's answer
  have ref : ∀ a : Int, 0 ≤ w → w ≤ 5 → (w = 0 → a = ldC h 5 c x) → (w = 1 → a = h (5 + 3) (ldC h 5 c x)) → (w = 2 → a = h (5 + 4) (ldC h 5 c x)) → (w = 3 → a = h (5 + 5) (ldC h 5 c x)) → (w = 4 → a = h (5 + 10) (c x)) → (w = 5 → a = h (5 + 8) (c x)) → Go d M_Mo_shape 0 [(22, 135), (0, x), (0, w), (2, 0), (2, 0), (2, 0), (2, 0)] [] h (fun r2 h2 => a = r2 ∧ R h2) := by
    intro a w0 w5 q0 q1 q2 q3 q4 q5
    have done := H h B0 (FrB_refl h)
    have ll := l
    rw [le] at ll
    refine N_Mo_shape_0 ⟨by omega, c_isType (by omega) (by omega) (by omega) (fun _ _ => ⟨fun z => absurd z (by decide), fun _ => ⟨by omega, c_in (fun _ _ => ⟨fun _ => ⟨by omega, ⟨by omega, by omega⟩, ⟨by omega, by omega⟩, ⟨by omega, by omega⟩, by omega, c_parts (by omega) ?_⟩, fun z => absurd z (by decide)⟩) (fun z => by omega)⟩⟩) (fun z => by omega)⟩
    rw [e14]
    have loop : ∀ n, n = cnt (fun i => h 141 i = h 141 x) 0 0 → Go d M_Mo_shape 50 [(22, 135), (0, x), (0, w), (0, h 142 (h 141 x)), (0, ari (h 137 (h 142 (h 141 x)))), (0, n), (0, 0)] [] h (fun r2 h2 => a = r2 ∧ R h2) := by
      refine up_loop (i := 0) (hi := h 5 13) n0 (P := fun j => ∀ n, n = cnt (fun i => h 141 i = h 141 x) 0 j → Go d M_Mo_shape 50 [(22, 135), (0, x), (0, w), (0, h 142 (h 141 x)), (0, ari (h 137 (h 142 (h 141 x)))), (0, n), (0, j)] [] h (fun r2 h2 => a = r2 ∧ R h2)) ?_ ?_
      · intro n hn
        rw [← le, r.1]
        refine N_Mo_shape_50 ⟨fun _ => ⟨fun z => ⟨q0 z, done⟩, fun _ => ⟨fun z => ⟨⟨by omega, by omega⟩, by rw [q1 z, r.1], done⟩, fun _ => ⟨fun z => ⟨fun u => ⟨?_, done⟩, fun u => ⟨⟨by omega, by omega⟩, ?_, done⟩⟩, fun _ => ⟨fun z => ⟨fun u => ⟨?_, done⟩, fun u => ⟨⟨by omega, by omega⟩, ?_, done⟩⟩, fun _ => ⟨fun z => ⟨⟨by omega, by omega⟩, ?_, done⟩, fun z => ⟨?_, done⟩⟩⟩⟩⟩⟩, fun z => by omega⟩
        · rw [q2 z]
          refine na.1 ?_
          rcases Int.lt_or_le (h (5 + 3) (ldC h 5 c x)) 2 with y | y
          · exact Or.inl y
          · rcases Int.lt_or_le 6 (h (5 + 3) (ldC h 5 c x)) with t | t
            · exact Or.inr t
            · rcases Int.lt_or_le (h (5 + 3) (ldC h 5 c x)) 3 with s | s
              · rw [ari_2 (by omega)] at u; omega
              · rw [ari_1 s t] at u; omega
        · rw [q2 z, r.2.2.1 (ari_ge1 u).1 (ari_ge1 u).2]
        · rw [q3 z]
          refine na.2 (fun y => ?_)
          rw [ari_2 y] at u; omega
        · rw [q3 z, r.2.2.2 (ari_ge2 u)]
        · rw [q4 z]
          obtain ⟨⟨y, y0, y1, y2, y3⟩, mn⟩ := F.2.2.2.2.2.2.1 x x0 x1
          have y3 : h (5 + 10) (c x) = y := y3
          have a1 : h (5 + 10) (c x) ≤ h 141 x := mn (h 141 x) m.1 (by omega) ((ec _ _ m.1 (by omega) x0 x1).mpr m.2.2)
          have a2 := M y y0 y1
          have a3 := (ec y x y0 y1 x0 x1).mp y2
          omega
        · rw [q5 (by omega), hn, (Fr (c x) cx.1 cx.2).2.2.2.2.2.2.2.2 (Frs_cc Fr x0 x1)]
          exact cnt_congr (fun i i0 i1 => ec i x i0 i1 x0 x1)
      · intro j j0 j1 ih n hn
        have bd := cnt_bd (p := fun i => h 141 i = h 141 x) j0
        refine N_Mo_shape_50 ⟨fun z => by omega, fun _ => ⟨⟨by omega, by omega⟩, ⟨by omega, by omega⟩, fun z => ⟨by unfold r32; omega, by unfold r32; omega, ih _ ?_⟩, fun z => ⟨by unfold r32; omega, by unfold r32; omega, ih _ ?_⟩⟩⟩
        · rw [cnt_sf (p := fun i => h 141 i = h 141 x) j0 z, ← hn]; omega
        · rw [cnt_st (p := fun i => h 141 i = h 141 x) j0 z, ← hn]
    exact loop 0 (by rw [cnt_nil (Int.le_refl _)])
  refine ⟨fun z => ref _ (by omega) (by omega) (fun _ => rfl) (fun z => by omega) (fun z => by omega) (fun z => by omega) (fun z => by omega) (fun z => by omega), fun _ => ⟨fun z => ⟨⟨by omega, by omega⟩, ref _ (by omega) (by omega) (fun z => by omega) (fun _ => rfl) (fun z => by omega) (fun z => by omega) (fun z => by omega) (fun z => by omega)⟩, fun _ => ⟨fun z => ⟨⟨by omega, by omega⟩, ref _ (by omega) (by omega) (fun z => by omega) (fun z => by omega) (fun _ => rfl) (fun z => by omega) (fun z => by omega) (fun z => by omega)⟩, fun _ => ⟨fun z => ⟨⟨by omega, by omega⟩, ref _ (by omega) (by omega) (fun z => by omega) (fun z => by omega) (fun z => by omega) (fun _ => rfl) (fun z => by omega) (fun z => by omega)⟩, fun _ => ⟨fun z => ⟨by omega, c_lowestOf (by omega) F x0 x1 (ref _ (by omega) (by omega) (fun z => by omega) (fun z => by omega) (fun z => by omega) (fun z => by omega) (fun _ => rfl) (fun z => by omega))⟩, fun _ => ⟨fun z => ⟨by omega, c_sizeOf (by omega) F x0 x1 (ref _ (by omega) (by omega) (fun z => by omega) (fun z => by omega) (fun z => by omega) (fun z => by omega) (fun z => by omega) (fun _ => rfl))⟩, fun _ => ⟨by omega, bad (by omega)⟩⟩⟩⟩⟩⟩⟩
end
