section
theorem RcB_loc {h g : HP} {what : Int} {c v : Int → Int} (s : LcC 5 h g) (H : RcB h what c v) : RcB g what c v := by
  unfold RcB wF RcV ldC at *
  rw [s 5 13 (by omega) (by omega), LcC_row s 3 (by omega) (by omega), LcC_row s 4 (by omega) (by omega), LcC_row s 5 (by omega) (by omega), LcC_row s 6 (by omega) (by omega), LcC_row s 9 (by omega) (by omega)]
  exact H
/-- the reference's work, where its cells are those of a bench -/
theorem c_workedL {d : Nat} {h k : HP} {tm : Int → Tm} {S : Sx} {V : Vx} {c vn : Int → Int} {what x : Int} {Q : PQ} (hd : 4 < d) (b : BR h tm S V c) (lm : LcM h k) (hv : RcB h what c vn) (x0 : 0 ≤ x) (x1 : x < h 5 13) (H : ∀ v, Q (vn x) (setR k 145 0 (h 5 13) v)) : Go d M_Mo_worked 0 [(22, 135), (0, what), (0, x)] [] k Q := by
  have b' := b
  obtain ⟨W, Rw, hV, ⟨e15, e14, e19, e18, n60, d8⟩, rows⟩ := b
  have RBk := (RW_loc lm Rw).1.1
  rw [lm.1 14 (by omega) (by omega), lm.1 15 (by omega) (by omega), e14, e15] at RBk
  have M := RBk.2.2.2.2.2.2.2.1
  have m := M x x0 x1
  obtain ⟨rk, A⟩ := W.2.1.2.2.2.1
  refine N_Mo_worked_0 ⟨by omega, c_works (by omega) RBk (fun v rk' T I Z => ?_)⟩
  have r137 := LcM_row lm 137 (by omega) (by omega) (by omega)
  have r138 := LcM_row lm 138 (by omega) (by omega) (by omega)
  have r139 := LcM_row lm 139 (by omega) (by omega) (by omega)
  have r140 := LcM_row lm 140 (by omega) (by omega) (by omega)
  have r141 := LcM_row lm 141 (by omega) (by omega) (by omega)
  have r142 := LcM_row lm 142 (by omega) (by omega) (by omega)
  have I2 : WkI h 0 (h 5 13) what v rk' T := by
    unfold WkI pA1 pB1 at *
    rw [r137, r138, r139, r140, r141, r142] at I
    exact I
  have Z2 : ∀ k, 0 ≤ k → k < h 5 13 → h 141 k = k → v k = 0 → pA1 h v k = 0 ∨ pB1 h v k = 0 := by
    unfold pA1 pB1 at *
    rw [r137, r138, r139, r141, r142] at Z
    exact Z
  have rv := works_rc b' I2 Z2
  have eq := rc_uniq (Wst_arg W.2.1.1) A (FB_lead W.1).1 rv hv x x0 x1
  rw [r141] at m
  rw [setR_ne (show (141 : Int) ≠ 145 by decide), r141, setR_in (by omega) (by omega)]
  have eq : v (h 141 x) = vn x := eq
  rw [eq]
  exact ⟨⟨by omega, by omega⟩, ⟨by omega, by omega⟩, H v⟩
theorem c_knownL {d : Nat} {h k : HP} {tm : Int → Tm} {S : Sx} {V : Vx} {c v : Int → Int} {x : Int} {Q : PQ} (hd : 5 < d) (b : BR h tm S V c) (lm : LcM h k) (hv : RcB h 1 c v) (x0 : 0 ≤ x) (x1 : x < h 5 13) (H1 : v x = 2 → ∀ w, Q 1 (setR k 145 0 (h 5 13) w)) (H0 : v x ≠ 2 → ∀ w, Q 0 (setR k 145 0 (h 5 13) w)) : Go d M_Mo_isKnown 0 [(22, 135), (0, x)] [] k Q :=
  N_Mo_isKnown_0 ⟨by omega, c_workedL (by omega) b lm hv x0 x1 (fun w => ⟨fun q => H0 q w, fun q => H1 q w⟩)⟩
theorem LcM_145 {h k : HP} {lo hi : Int} {w : Int → Int} (lm : LcM h k) : LcM h (setR k 145 lo hi w) := ⟨fun i p q => by rw [setR_ne (by decide)]; exact lm.1 i p q, fun a i p q r => by rw [setR_ne (by omega)]; exact lm.2 a i p q r⟩
theorem b_equates {d : Nat} {h : HP} {x y : Int} {R : HP → Prop} (hd : 20 < d) (B : BIx h) (H : ∀ h2, BIx h2 → FrB h h2 → R h2) :
    Go d M_BT_equates 0 [(21, 1), (0, x), (0, y)] [] h (fun r1 h1 => Go d M_Mo_equates 0 [(22, 135), (0, x), (0, y)] [] h1 (fun r2 h2 => r1 = r2 ∧ R h2)) := by
  have B0 := B
  obtain ⟨⟨k, ck⟩, ⟨tm, S, V, c, b⟩, c0, c1, c2⟩ := B
  have b' := b
  obtain ⟨W, Rw, hV, ⟨e15, e14, e19, e18, n60, d8⟩, rows⟩ := b
  have n0 := W.1.2.1.2.1
  obtain ⟨v, hv⟩ := RcB_ex 1 W
  -- refused: NO
  have refNo : ∀ g g1 : HP, ScC 5 h g → g1 = up2 g 1 13 (w32 (g 1 13 + 1)) → 0 ≤ x → x < h 5 13 → 0 ≤ y → y < h 5 13 → (h 5 15 = 0 ∨ v x ≠ 2 ∨ v y ≠ 2) → Go d M_Mo_equates 0 [(22, 135), (0, x), (0, y)] [] g1 (fun r2 h2 => -3 = r2 ∧ R h2) := by
    intro g g1 s hg1 x0 x1 y0 y1 no
    have o1 : ∀ a i, ¬ (a = 1 ∧ i = 13) → (a < 19 ∨ 29 < a) → g1 a i = h a i := fun a i p q => by rw [hg1, up2_ext p, s a i (by omega)]
    have lm : LcM h g1 := ⟨fun i p q => o1 _ _ (by omega) (by omega), fun a i p q r => o1 _ _ (by omega) (by omega)⟩
    have f15 : g1 135 15 = h 135 15 := o1 _ _ (by omega) (by omega)
    have f18 : g1 135 18 = h 135 18 := o1 _ _ (by omega) (by omega)
    obtain ⟨Bg, Fg⟩ := BIx_scC B0 s
    have no0 : ∀ {d : Nat}, 0 < d → 0 < d ∧ (0 ≤ w32 (-2 - -3) ∧ w32 (-2 - -3) < 3) ∧ (0 ≤ w32 (-2 - -3) ∧ w32 (-2 - -3) < 3) ∧ ∀ g2 : HP, g2 = up2 g1 150 (w32 (-2 - -3)) (w32 (g1 150 (w32 (-2 - -3)) + 1)) → ((-3 : Int) = -3 ∧ R g2) := fun q => ref_no Bg (fun h2 b2 f2 => H h2 b2 (FrB_trans Fg f2)) hg1 q
    have noW : ∀ (w : Int → Int) {d : Nat}, 0 < d → 0 < d ∧ (0 ≤ w32 (-2 - -3) ∧ w32 (-2 - -3) < 3) ∧ (0 ≤ w32 (-2 - -3) ∧ w32 (-2 - -3) < 3) ∧ ∀ g2 : HP, g2 = up2 (setR g1 145 0 (h 5 13) w) 150 (w32 (-2 - -3)) (w32 ((setR g1 145 0 (h 5 13) w) 150 (w32 (-2 - -3)) + 1)) → ((-3 : Int) = -3 ∧ R g2) := by
      intro w d q
      obtain ⟨B1, F1⟩ := BIx_scr B0 s ⟨w, rfl⟩
      refine ref_no B1 (fun h2 b2 f2 => H h2 b2 (FrB_trans F1 f2)) ?_ q
      rw [hg1, ← setR_up2_comm (by decide), setR_ne (show (1 : Int) ≠ 145 by decide)]
    refine N_Mo_equates_0 ⟨by omega, c_isType (by omega) (by omega) (by omega) (fun _ _ => ⟨fun z => absurd z (by decide), fun _ => ⟨by omega, c_isType (by omega) (by omega) (by omega) (fun _ _ => ⟨fun _ => ⟨fun _ => no0 (by omega), fun z => ⟨by omega, c_knownL (by omega) b' lm hv x0 x1 (fun q w => ⟨fun z => absurd z (by decide), fun _ => ⟨by omega, c_knownL (by omega) b' (LcM_145 lm) hv y0 y1 (fun q2 w2 => ?_) (fun q2 w2 => ⟨fun z => absurd rfl z, fun _ => ?_⟩)⟩⟩) (fun q w => ⟨fun _ => noW w (by omega), fun z => absurd rfl z⟩)⟩⟩, fun z => absurd z (by decide)⟩) (fun z => by omega)⟩⟩) (fun z => by omega)⟩
    · rw [f18] at z
      rcases no with no | no | no
      · omega
      · exact absurd q no
      · exact absurd q2 no
    · rw [setR_twice]
      exact noW w2 (by omega)
  -- made equal, or a clash
  have refOk : ∀ (h1 : HP) (S' : Sx) (c' : Int → Int) (r : Int), 0 ≤ x → x < h 5 13 → 0 ≤ y → y < h 5 13 → h 5 15 ≠ 0 → v x = 2 → v y = 2 → CW h1 5 84 tm S' c' → ExC 5 h h1 → h1 5 13 = h 5 13 → ((Sat (Snd S (tm x) (tm y)) ∧ S' = Snd S (tm x) (tm y) ∧ r = ncl tm S 0 (h 5 13) - ncl tm (Snd S (tm x) (tm y)) 0 (h 5 13)) ∨ (¬ Sat (Snd S (tm x) (tm y)) ∧ S' = S ∧ r = -5)) → Go d M_Mo_equates 0 [(22, 135), (0, x), (0, y)] [] h1 (fun r2 h2 => r = r2 ∧ R h2) := by
    intro h1 S' c' r x0 x1 y0 y1 dn kx ky W1 X1 a13 hr
    have f1 : ∀ i, h1 135 i = h 135 i := fun i => X1.2.2.2.2.2 _ _ (by omega)
    have m1 : LcM h h1 := ⟨fun i p q => X1.2.2.2.2.2 _ _ (by omega), fun a i p q r => X1.2.2.2.2.2 _ _ (by omega)⟩
    have f15 := f1 15
    have f18 := f1 18
    refine N_Mo_equates_0 ⟨by omega, c_isType (by omega) (by omega) (by omega) (fun _ _ => ⟨fun z => absurd z (by decide), fun _ => ⟨by omega, c_isType (by omega) (by omega) (by omega) (fun _ _ => ⟨fun _ => ⟨fun z => by omega, fun z => ⟨by omega, c_knownL (by omega) b' m1 hv x0 x1 (fun q w => ⟨fun z => absurd z (by decide), fun _ => ⟨by omega, c_knownL (by omega) b' (LcM_145 m1) hv y0 y1 (fun q2 w2 => ⟨fun _ => ⟨by omega, ?_⟩, fun z => absurd z (by decide)⟩) (fun q2 => absurd ky q2)⟩⟩) (fun q => absurd kx q)⟩⟩, fun z => absurd z (by decide)⟩) (fun z => by omega)⟩⟩) (fun z => by omega)⟩
    rw [setR_twice]
    have lm2 : LcM h (setR h1 145 0 (h 5 13) w2) := LcM_145 m1
    have X12 : ExM h1 (setR h1 145 0 (h 5 13) w2) := SmC_ExM ⟨fun a i p => setR_ne (by omega), fun i p => ⟨setR_ne (by decide), setR_ne (by decide)⟩⟩
    have g : ∀ i, (setR h1 145 0 (h 5 13) w2) 135 i = h 135 i := fun i => by rw [setR_ne (by decide), f1]
    generalize setR h1 145 0 (h 5 13) w2 = k2 at *
    have R2 := RW_loc lm2 Rw
    have b15 : k2 135 15 = h1 135 15 := by rw [g, f1]
    refine c_equated (by omega) R2 (by rw [g, g]; omega) (by rw [g, g]; omega) (fun e => ?_) (fun ne sat h2 R3 X3 d15 _ _ r2 hr2 _ => ?_) (fun ns h2 R3 X3 d15 _ => ?_)
    · have iff : ∀ θ, Snd S (tm x) (tm y) θ ↔ S θ := fun θ => ⟨fun q => q.1, fun q => ⟨q, e θ q⟩⟩
      rcases hr with ⟨sat, es, hr⟩ | ⟨ns, _⟩
      · subst es
        obtain ⟨z1, z2⟩ := BIx_eq ck b' c0 c1 c2 W1 X1 a13 (RW_iff R2 iff) X12 b15
        refine ⟨?_, H _ z1 z2⟩
        rw [hr, ncl_congr (tm' := tm) (fun _ _ _ => rfl) iff]
        omega
      · obtain ⟨θ, hθ⟩ := Rw.2.1
        exact absurd ⟨θ, (iff θ).mpr hθ⟩ ns
    · rw [g, g, e14, e15] at hr2
      rcases hr with ⟨_, es, hr⟩ | ⟨ns, _⟩
      · subst es
        obtain ⟨z1, z2⟩ := BIx_eq ck b' c0 c1 c2 W1 X1 a13 R3 (ExM_trans X12 X3) (by rw [d15, b15])
        exact ⟨by omega, H _ z1 z2⟩
      · exact absurd sat ns
    · rcases hr with ⟨sat, _⟩ | ⟨_, es, hr⟩
      · exact absurd sat ns
      · subst es
        obtain ⟨z1, z2⟩ := BIx_eq ck b' c0 c1 c2 W1 X1 a13 R3 (ExM_trans X12 X3) (by rw [d15, b15])
        exact ⟨hr, H _ z1 z2⟩
  refine N_BT_equates_0 ⟨by omega, c_areT (by omega) (fun x0 x1 y0 y1 => ⟨fun _ => ⟨fun z => ⟨by omega, fun g1 hg1 => refNo h g1 (ScC_refl 5 h) hg1 x0 x1 y0 y1 (Or.inl z)⟩, fun z => ⟨by omega, c_knownB (by omega) W hv x0 x1 (fun kx ga sa => ⟨fun z => absurd z (by decide), fun _ => ⟨by omega, ?_⟩⟩) (fun kx ga sa => ⟨fun _ => ⟨by omega, fun g1 hg1 => refNo ga g1 sa hg1 x0 x1 y0 y1 (Or.inr (Or.inl kx))⟩, fun z => absurd rfl z⟩)⟩⟩, fun z => absurd z (by decide)⟩) (fun nt => ⟨fun z => absurd rfl z, fun _ => ⟨by omega, ?_⟩⟩)⟩
  · have n13 : ga 5 13 = h 5 13 := sa _ _ (by omega)
    refine c_knownB (by omega) (CW_scr sa W) (RcB_scr sa hv) y0 (by omega) (fun ky gb sb2 => ⟨fun _ => ⟨by omega, ?_⟩, fun z => absurd z (by decide)⟩) (fun ky gb sb2 => ⟨fun z => absurd rfl z, fun _ => ⟨by omega, fun g1 hg1 => refNo gb g1 (ScC_trans sa sb2) hg1 x0 x1 y0 y1 (Or.inr (Or.inr ky))⟩⟩)
    have s2 := ScC_trans sa sb2
    have Wb := CW_scr s2 W
    have m13 : gb 5 13 = h 5 13 := s2 _ _ (by omega)
    have hVb : VOk 0 (gb 5 13) (gb (5 + 3)) (gb (5 + 6)) tm V := by
      rw [m13, ScC_row s2 3 (by omega), ScC_row s2 6 (by omega)]
      exact hV
    have Xb : ExC 5 h gb := ScC_ExC s2
    have L0 := CW_L0 W
    refine c_join (T := 5) (R := 84) (V := V) (by omega) Wb hVb x0 (by omega) y0 (by omega) (fun sat _ h1 c1' W1 X1 a13 r hr _ _ => ?_) (fun ns h1 W1 X1 a13 _ => ?_) (fun _ q _ => absurd rfl q)
    · rw [m13] at hr a13
      exact refOk h1 _ c1' r x0 x1 y0 y1 z kx ky W1 (ExC_trans Wb.1 L0.1 Xb X1) a13 (Or.inl ⟨sat, rfl, hr⟩)
    · rw [m13] at a13
      exact refOk h1 _ c (-5) x0 x1 y0 y1 z kx ky W1 (ExC_trans Wb.1 L0.1 Xb X1) a13 (Or.inr ⟨ns, rfl, rfl⟩)
  · intro g1 hg1
    have f1 : g1 135 15 = h 135 15 := by rw [hg1, up2_nc (by decide)]
    have rb := fun {d : Nat} (q : 0 < d) => ref_bad (d := d) B0 H hg1 q
    refine N_Mo_equates_0 ⟨by omega, c_isType (by omega) (by omega) (by omega) (fun _ _ => ⟨fun z => absurd z (by decide), fun _ => ⟨by omega, c_isType (by omega) (by omega) (by omega) (fun _ _ => by omega) (fun _ => ⟨fun z => absurd rfl z, fun _ => rb (by omega)⟩)⟩⟩) (fun _ => ⟨fun _ => rb (by omega), fun z => absurd rfl z⟩)⟩
/-- groups that are unsolved, counted on both sides -/
theorem c_unsolved {d : Nat} {h : HP} {tm : Int → Tm} {S : Sx} {c : Int → Int} {Q : PQ} (hd : 1 < d) (W : CW h 5 84 tm S c) (H : Q (cnt (fun x => h (5 + 3) x = 8 ∧ ldC h 5 c x = x) 0 (h 5 13)) h) : Go d M_Types_unsolvedClasses 0 [(17, 5), (2, 0), (2, 0)] [] h Q := by
  have F := W.1
  have n0 := F.2.1.2.1
  have nR := F.2.1.2.2
  refine W_Types_unsolvedClasses_0 (R := 84) (Or.inl ⟨rfl, rfl⟩) ?_
  have loop : ∀ n, n = cnt (fun x => h (5 + 3) x = 8 ∧ ldC h 5 c x = x) 0 0 → Go d M_Types_unsolvedClasses 4 [(17, 5), (0, n), (0, 0)] [] h Q := by
    refine up_loop (i := 0) (hi := h 5 13) n0 (P := fun j => ∀ n, n = cnt (fun x => h (5 + 3) x = 8 ∧ ldC h 5 c x = x) 0 j → Go d M_Types_unsolvedClasses 4 [(17, 5), (0, n), (0, j)] [] h Q) ?_ ?_
    · intro n hn
      exact W_Types_unsolvedClasses_4 (R := 84) (Or.inl ⟨rfl, rfl⟩) ⟨fun _ => by rw [hn]; exact H, fun z => by omega⟩
    · intro j j0 j1 ih n hn
      have bd := cnt_bd (p := fun x => h (5 + 3) x = 8 ∧ ldC h 5 c x = x) j0
      refine W_Types_unsolvedClasses_4 (R := 84) (Or.inl ⟨rfl, rfl⟩) ⟨fun z => by omega, fun _ => ⟨⟨by omega, by omega⟩, fun z => ⟨by unfold r32; omega, ih _ ?_⟩, fun z => ⟨by omega, c_leadOf (by omega) F j0 j1 ⟨fun u => ⟨by unfold r32; omega, ih _ ?_⟩, fun u => ⟨by unfold r32; omega, by unfold r32; omega, ih _ ?_⟩⟩⟩⟩⟩
      · rw [cnt_sf (p := fun x => h (5 + 3) x = 8 ∧ ldC h 5 c x = x) j0 (fun q => z q.1), ← hn]
      · rw [cnt_sf (p := fun x => h (5 + 3) x = 8 ∧ ldC h 5 c x = x) j0 (fun q => u q.2), ← hn]
      · rw [cnt_st (p := fun x => h (5 + 3) x = 8 ∧ ldC h 5 c x = x) j0 ⟨z, u⟩, ← hn]
  exact loop 0 (by rw [cnt_nil (Int.le_refl _)])
theorem uns_eq {h : HP} {tm : Int → Tm} {S : Sx} {V : Vx} {c : Int → Int} (b : BR h tm S V c) : cnt (fun x => h (5 + 3) x = 8 ∧ ldC h 5 c x = x) 0 (h 5 13) = cnt (fun i => h 141 i = i ∧ h 137 (h 142 i) = 8) 0 (h 5 13) := by
  have b' := b
  obtain ⟨W, Rw, hV, ⟨e15, e14, e19, e18, n60, d8⟩, rows⟩ := b
  have n0 := W.1.2.1.2.1
  have M : Mi 0 (h 5 13) (h 141) := by
    have := Rw.1.1.2.2.2.2.2.2.2.1
    rw [e14, e15] at this
    exact this
  have Ld := (FB_lead W.1).1
  have ec : ∀ z u, 0 ≤ z → z < h 5 13 → 0 ≤ u → u < h 5 13 → (c z = c u ↔ h 141 z = h 141 u) := fun z u z0 z1 u0 u1 => (Ptn_eq W.2.1 z0 z1 u0 u1).trans (RW_eq Rw (by omega) (by omega) (by omega) (by omega)).symm
  have a : cnt (fun x => h (5 + 3) x = 8 ∧ ldC h 5 c x = x) 0 (h 5 13) ≤ cnt (fun i => h 141 i = i ∧ h 137 (h 142 i) = 8) 0 (h 5 13) := by
    refine cnt_inj (f := h 141) n0 (fun x x0 x1 hx => ?_) (fun x y x0 x1 y0 y1 hx hy e => ?_)
    · have m := M x x0 x1
      refine ⟨m.1, by omega, m.2.2, ?_⟩
      rw [← BR_lead b' x0 x1, hx.2, (rows x x0 x1).1]
      exact hx.1
    · have := Led_best Ld x0 x1 y0 y1 ((ec x y x0 x1 y0 y1).mpr e)
      rw [hx.2, hy.2] at this
      exact this
  have bb : cnt (fun i => h 141 i = i ∧ h 137 (h 142 i) = 8) 0 (h 5 13) ≤ cnt (fun x => h (5 + 3) x = 8 ∧ ldC h 5 c x = x) 0 (h 5 13) := by
    refine cnt_inj (f := ldC h 5 c) n0 (fun x x0 x1 hx => ?_) (fun x y x0 x1 y0 y1 hx hy e => ?_)
    · have l := Ld x x0 x1
      refine ⟨l.1, l.2.1, ?_, Led_best Ld l.1 l.2.1 x0 x1 l.2.2.1⟩
      rw [← (rows _ l.1 l.2.1).1, BR_lead b' x0 x1, hx.1]
      exact hx.2
    · have l1 := Ld x x0 x1
      have l2 := Ld y y0 y1
      have : c x = c y := by rw [← l1.2.2.1, ← l2.2.2.1, e]
      have := (ec x y x0 x1 y0 y1).mp this
      rw [hx.1, hy.1] at this
      exact this
  omega
theorem c_benchM {d : Nat} {h : HP} {w : Int} {Q : PQ} (e14 : h 135 14 = 0) (n0 : 0 ≤ h 135 15) (n1 : h 135 15 ≤ 1000) (sh : ∀ i, 0 ≤ i → i < h 135 15 → h 141 i = i → 0 ≤ h 142 i ∧ h 142 i < 1000) (H0 : w = 0 → Q (h 135 15) h) (H1 : w = 1 → Q (h 135 18) h) (H2 : w ≠ 0 → w ≠ 1 → Q (cnt (fun i => h 141 i = i ∧ h 137 (h 142 i) = 8) 0 (h 135 15)) h) : Go d M_Mo_benchOf 0 [(22, 135), (0, w), (2, 0), (2, 0)] [] h Q := by
  refine N_Mo_benchOf_0 ?_
  rw [e14]
  have loop : ∀ n, n = cnt (fun i => h 141 i = i ∧ h 137 (h 142 i) = 8) 0 0 → Go d M_Mo_benchOf 7 [(22, 135), (0, w), (0, n), (0, 0)] [] h Q := by
    refine up_loop (i := 0) (hi := h 135 15) n0 (P := fun j => ∀ n, n = cnt (fun i => h 141 i = i ∧ h 137 (h 142 i) = 8) 0 j → Go d M_Mo_benchOf 7 [(22, 135), (0, w), (0, n), (0, j)] [] h Q) ?_ ?_
    · intro n hn
      exact N_Mo_benchOf_7 ⟨fun _ => ⟨fun z => ⟨fun u => by rw [hn]; exact H2 z u, fun u => H1 u⟩, fun z => H0 z⟩, fun z => by omega⟩
    · intro j j0 j1 ih n hn
      have bd := cnt_bd (p := fun i => h 141 i = i ∧ h 137 (h 142 i) = 8) j0
      refine N_Mo_benchOf_7 ⟨fun z => by omega, fun _ => ⟨⟨by omega, by omega⟩, fun z => ⟨by unfold r32; omega, by unfold r32; omega, ih _ ?_⟩, fun z => ⟨⟨by omega, by omega⟩, sh j j0 j1 z, fun u => ⟨by unfold r32; omega, by unfold r32; omega, ih _ ?_⟩, fun u => ⟨by unfold r32; omega, by unfold r32; omega, ih _ ?_⟩⟩⟩⟩
      · rw [cnt_sf (p := fun i => h 141 i = i ∧ h 137 (h 142 i) = 8) j0 (fun q => z q.1), ← hn]; omega
      · rw [cnt_sf (p := fun i => h 141 i = i ∧ h 137 (h 142 i) = 8) j0 (fun q => u q.2), ← hn]; omega
      · rw [cnt_st (p := fun i => h 141 i = i ∧ h 137 (h 142 i) = 8) j0 ⟨z, u⟩, ← hn]
  exact loop 0 (by rw [cnt_nil (Int.le_refl _)])
theorem BR_sh {h : HP} {tm : Int → Tm} {S : Sx} {V : Vx} {c : Int → Int} (b : BR h tm S V c) : ∀ i, 0 ≤ i → i < h 135 15 → h 141 i = i → 0 ≤ h 142 i ∧ h 142 i < 1000 := by
  obtain ⟨W, Rw, hV, ⟨e15, e14, e19, e18, n60, d8⟩, rows⟩ := b
  intro i i0 i1 e
  have := (RW_Led Rw) i (by omega) i1
  rw [e14] at this
  have t : 0 ≤ h 142 (h 141 i) ∧ h 142 (h 141 i) < h 135 15 := ⟨this.1, this.2.1⟩
  rw [e] at t
  omega
theorem b_bench {d : Nat} {h : HP} {w : Int} {R : HP → Prop} (hd : 20 < d) (B : BIx h) (H : ∀ h2, BIx h2 → FrB h h2 → R h2) :
    Go d M_BT_bench 0 [(21, 1), (0, w)] [] h (fun r1 h1 => Go d M_Mo_bench 0 [(22, 135), (0, w)] [] h1 (fun r2 h2 => r1 = r2 ∧ R h2)) := by
  have B0 := B
  obtain ⟨⟨k, ck⟩, ⟨tm, S, V, c, b⟩, c0, c1, c2⟩ := B
  have b' := b
  obtain ⟨W, Rw, hV, ⟨e15, e14, e19, e18, n60, d8⟩, rows⟩ := b
  have n0 := W.1.2.1.2.1
  have done := H h B0 (FrB_refl h)
  have ref : ∀ r : Int, 0 ≤ w → w ≤ 2 → (w = 0 → r = h 5 13) → (w = 1 → r = h 5 15) → (w = 2 → r = cnt (fun i => h 141 i = i ∧ h 137 (h 142 i) = 8) 0 (h 5 13)) → Go d M_Mo_bench 0 [(22, 135), (0, w)] [] h (fun r2 h2 => r = r2 ∧ R h2) := by
    intro r w0 w2 q0 q1 q2
    refine N_Mo_bench_0 ⟨by omega, c_in (fun _ _ => ⟨fun z => absurd z (by decide), fun _ => ⟨by omega, c_benchM e14 (by omega) (by omega) (BR_sh b') (fun z => ⟨by rw [q0 z, e15], done⟩) (fun z => ⟨by rw [q1 z, e18], done⟩) (fun z u => ⟨by rw [q2 (by omega), e15], done⟩)⟩⟩) (fun z => by omega)⟩
  refine N_BT_bench_0 ⟨fun z => ref _ (by omega) (by omega) (fun _ => rfl) (fun q => by omega) (fun q => by omega), fun _ => ⟨fun z => ref _ (by omega) (by omega) (fun q => by omega) (fun _ => rfl) (fun q => by omega), fun _ => ⟨fun z => ⟨by omega, c_unsolved (by omega) W (ref _ (by omega) (by omega) (fun q => by omega) (fun q => by omega) (fun _ => uns_eq b'))⟩, fun z => ⟨by omega, ?_⟩⟩⟩⟩
  intro g1 hg1
  have rb := fun {d : Nat} (q : 0 < d) => ref_bad (d := d) B0 H hg1 q
  exact N_Mo_bench_0 ⟨by omega, c_in (fun _ _ => by omega) (fun _ => ⟨fun _ => rb (by omega), fun z => absurd rfl z⟩)⟩
end
