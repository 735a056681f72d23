section
abbrev RcB (h : HP) (what : Int) (c v : Int → Int) : Prop := RcV (h 5 13) (wF h what) (h (5 + 3)) (h (5 + 4)) (h (5 + 5)) (ldC h 5 c) v
theorem rc_inv {n : Int} {hd fa fb c L v : Int → Int} {rk : Int → Nat} {f : Int → Int → Int → Int} {P : Int → Prop} (Ar : ArgIn 0 n hd fa fb) (A : Acy 0 n hd fa fb c rk) (Ld : Led 0 n hd c L) (hv : RcV n f hd fa fb L v) (h1 : P 1) (hf : ∀ l a b, 0 ≤ l → l < n → P a → P b → P (f l a b)) : ∀ z, 0 ≤ z → z < n → P (v z) := by
  have st : ∀ (m : Nat) (z : Int), 0 ≤ z → z < n → rk (c z) < m → P (v z) := by
    intro m
    induction m with
    | zero => intro z _ _ h; omega
    | succ m ih =>
      intro z z0 z1 hz
      obtain ⟨sa, sb'⟩ := rc_step Ar A Ld z0 z1
      have l := Ld z z0 z1
      rw [hv z z0 z1]
      refine hf _ _ _ l.1 l.2.1 ?_ ?_
      · split
        · rename_i q
          have := sa q
          exact ih _ this.1.1 this.1.2 (by omega)
        · exact h1
      · split
        · rename_i q
          have := sb' q
          exact ih _ this.1.1 this.1.2 (by omega)
        · exact h1
  exact fun z z0 z1 => st _ z z0 z1 (Nat.lt_succ_self _)
theorem RcB_scr {h g : HP} {what : Int} {c v : Int → Int} (s : ScC 5 h g) (H : RcB h what c v) : RcB g what c v := by
  unfold RcB wF RcV ldC at *
  rw [s 5 13 (by omega), ScC_row s 3 (by omega), ScC_row s 4 (by omega), ScC_row s 5 (by omega), ScC_row s 6 (by omega), ScC_row s 9 (by omega)]
  exact H
theorem RcB_ex {h : HP} {tm : Int → Tm} {S : Sx} {c : Int → Int} (what : Int) (W : CW h 5 84 tm S c) : ∃ v, RcB h what c v := by
  obtain ⟨rk, A⟩ := W.2.1.2.2.2.1
  exact rc_ex _ (Wst_arg W.2.1.1) A (FB_lead W.1).1
theorem RcB_pos {h : HP} {tm : Int → Tm} {S : Sx} {c v : Int → Int} {what : Int} (W : CW h 5 84 tm S c) (d8 : h 5 15 ≤ 8) (H : RcB h what c v) : ∀ z, 0 ≤ z → z < h 5 13 → 1 ≤ v z ∧ v z ≤ 10000 := by
  obtain ⟨rk, A⟩ := W.2.1.2.2.2.1
  refine rc_inv (P := fun a => 1 ≤ a ∧ a ≤ 10000) (Wst_arg W.2.1.1) A (FB_lead W.1).1 H (by decide) (fun l a b l0 l1 ha hb => ?_)
  have := W.2.2.2.2.1 l l l0 (Int.le_refl _) l1
  exact wth_bd ha hb (by omega)
theorem RcB_12 {h : HP} {tm : Int → Tm} {S : Sx} {c v : Int → Int} (W : CW h 5 84 tm S c) (H : RcB h 1 c v) : ∀ z, 0 ≤ z → z < h 5 13 → v z = 1 ∨ v z = 2 := by
  obtain ⟨rk, A⟩ := W.2.1.2.2.2.1
  refine rc_inv (P := fun a => a = 1 ∨ a = 2) (Wst_arg W.2.1.1) A (FB_lead W.1).1 H (Or.inl rfl) (fun l a b l0 l1 ha hb => ?_)
  show wth 1 _ _ a b = 1 ∨ wth 1 _ _ a b = 2
  unfold wth
  rw [if_neg (by decide), if_pos rfl]
  split
  · exact Or.inl rfl
  · exact Or.inr rfl
theorem c_knownB {d : Nat} {h : HP} {x : Int} {tm : Int → Tm} {S : Sx} {c v : Int → Int} {Q : PQ} (hd : 1 < d) (W : CW h 5 84 tm S c) (H : RcB h 1 c v) (x0 : 0 ≤ x) (x1 : x < h 5 13) (H1 : v x = 2 → ∀ g, ScC 5 h g → Q 1 g) (H0 : v x ≠ 2 → ∀ g, ScC 5 h g → Q 0 g) : Go d M_Walk_isKnown 0 [(19, 19), (0, x), (2, 0)] [] h Q := by
  have Ld := (FB_lead W.1).1
  have Fr := W.1.2.2.2.2.1
  have same := rc_same Ld H
  have v12 := RcB_12 W H
  have cx := (Fr x x0 x1).2.1
  have ex := same (c x) x cx.1 cx.2 x0 x1 (Frs_cc Fr x0 x1)
  refine c_isKnown (T := 5) (R := 84) (K := fun r => v r = 2) hd W x0 x1 (fun r r0 r1 cr => ?_) (fun q g s _ => H1 (by rw [← ex]; exact q) g s) (fun q g s _ => H0 (by rw [← ex]; exact q) g s)
  obtain ⟨k1, k2, k3, k4⟩ := kid_lead W same r0 r1 cr
  have l := Ld r r0 r1
  have Ar := Wst_arg W.2.1.1
  have el : hdL h 5 r = h (5 + 3) (ldC h 5 c r) := by unfold hdL ldC; rw [cr]
  have e := H r r0 r1
  have e : v r = wth 1 (h (5 + 3) (ldC h 5 c r)) (h (5 + 6) (ldC h 5 c r)) (if 0 < ari (h (5 + 3) (ldC h 5 c r)) then v (h (5 + 4) (ldC h 5 c r)) else 1) (if 1 < ari (h (5 + 3) (ldC h 5 c r)) then v (h (5 + 5) (ldC h 5 c r)) else 1) := e
  unfold wth at e
  rw [if_neg (by decide), if_pos rfl] at e
  rw [k1, k2]
  show v r = 2 ↔ (hdL h 5 r ≠ 8 ∧ (0 < ari (hdL h 5 r) → v (kA h 5 c (h 5 13) r) = 2) ∧ (1 < ari (hdL h 5 r) → v (kB h 5 c (h 5 13) r) = 2))
  rw [el] at k3 k4 ⊢
  have inA : 0 < ari (h (5 + 3) (ldC h 5 c r)) → v (h (5 + 4) (ldC h 5 c r)) = 1 ∨ v (h (5 + 4) (ldC h 5 c r)) = 2 := fun q => by
    have := (Ar _ l.1 l.2.1).1 (ari_ge1 q).1 (ari_ge1 q).2
    exact v12 _ this.1 this.2
  have inB : 1 < ari (h (5 + 3) (ldC h 5 c r)) → v (h (5 + 5) (ldC h 5 c r)) = 1 ∨ v (h (5 + 5) (ldC h 5 c r)) = 2 := fun q => by
    have := (Ar _ l.1 l.2.1).2 (ari_ge2 q)
    exact v12 _ this.1 this.2
  generalize hA : (if 0 < ari (h (5 + 3) (ldC h 5 c r)) then v (h (5 + 4) (ldC h 5 c r)) else 1) = A at e
  generalize hB : (if 1 < ari (h (5 + 3) (ldC h 5 c r)) then v (h (5 + 5) (ldC h 5 c r)) else 1) = B at e
  constructor
  · intro q
    rw [e] at q
    split at q
    · omega
    · rename_i nq
      refine ⟨fun z => nq (Or.inl z), fun z => ?_, fun z => ?_⟩
      · rw [k3 z]
        rcases inA z with y | y
        · exact absurd (Or.inr (Or.inl ⟨z, by rw [← hA, if_pos z]; exact y⟩)) nq
        · exact y
      · rw [k4 z]
        rcases inB z with y | y
        · exact absurd (Or.inr (Or.inr ⟨z, by rw [← hB, if_pos z]; exact y⟩)) nq
        · exact y
  · rintro ⟨q1, q2, q3⟩
    rw [e, if_neg]
    rintro (z | ⟨z, y⟩ | ⟨z, y⟩)
    · exact q1 z
    · rw [← hA, if_pos z, ← k3 z, q2 z] at y; omega
    · rw [← hB, if_pos z, ← k4 z, q3 z] at y; omega
theorem c_knownM {d : Nat} {h : HP} {tm : Int → Tm} {S : Sx} {V : Vx} {c v : Int → Int} {x : Int} {Q : PQ} (hd : 5 < d) (b : BR h tm S V c) (hv : RcB h 1 c v) (x0 : 0 ≤ x) (x1 : x < h 5 13) (H1 : v x = 2 → ∀ w, Q 1 (setR h 145 0 (h 5 13) w)) (H0 : v x ≠ 2 → ∀ w, Q 0 (setR h 145 0 (h 5 13) w)) : Go d M_Mo_isKnown 0 [(22, 135), (0, x)] [] h Q :=
  N_Mo_isKnown_0 ⟨by omega, c_workedB (by omega) b hv x0 x1 (fun w => ⟨fun q => H0 q w, fun q => H1 q w⟩)⟩
theorem b_known {d : Nat} {h : HP} {x : Int} {R : HP → Prop} (hd : 20 < d) (B : BIx h) (H : ∀ h2, BIx h2 → FrB h h2 → R h2) :
    Go d M_BT_known 0 [(21, 1), (0, x)] [] h (fun r1 h1 => Go d M_Mo_known 0 [(22, 135), (0, x)] [] h1 (fun r2 h2 => r1 = r2 ∧ R h2)) := by
  have B0 := B
  obtain ⟨⟨k, ck⟩, ⟨tm, S, V, c, b⟩, c0, c1, c2⟩ := B
  have b' := b
  obtain ⟨W, Rw, hV, ⟨e15, e14, e19, e18, n60, d8⟩, rows⟩ := b
  have n0 := W.1.2.1.2.1
  obtain ⟨v, hv⟩ := RcB_ex 1 W
  have ref : ∀ (r : Int) (g : HP), ScC 5 h g → 0 ≤ x → x < h 5 13 → ((r = 1 ∧ v x = 2) ∨ (r = 0 ∧ v x ≠ 2)) → Go d M_Mo_known 0 [(22, 135), (0, x)] [] g (fun r2 h2 => r = r2 ∧ R h2) := by
    intro r g s x0 x1 hr
    have lc : LcC 5 h g := fun a i p q => s a i (by omega)
    have lm : LcM h g := ⟨fun i p q => s _ _ (by omega), fun a i p q r => s _ _ (by omega)⟩
    have bg := BR_loc lc lm b'
    have f15 : g 135 15 = h 135 15 := s _ _ (by omega)
    have f13 : g 5 13 = h 5 13 := s _ _ (by omega)
    refine N_Mo_known_0 ⟨by omega, c_isType (by omega) (by omega) (by omega) (fun _ _ => ⟨fun _ => ⟨by omega, c_knownM (v := v) (by omega) bg (RcB_scr s hv) x0 (by omega) (fun q w => ⟨fun z => absurd z (by decide), fun _ => ⟨?_, ?_⟩⟩) (fun q w => ⟨fun _ => ⟨?_, ?_⟩, fun z => absurd rfl z⟩)⟩, fun z => absurd z (by decide)⟩) (fun z => by omega)⟩
    · rcases hr with ⟨hr, _⟩ | ⟨_, hr⟩
      · exact hr
      · exact absurd q hr
    · rw [f13]
      obtain ⟨z1, z2⟩ := BIx_scr B0 s ⟨w, rfl⟩
      exact H _ z1 z2
    · rcases hr with ⟨_, hr⟩ | ⟨hr, _⟩
      · exact absurd hr q
      · exact hr
    · rw [f13]
      obtain ⟨z1, z2⟩ := BIx_scr B0 s ⟨w, rfl⟩
      exact H _ z1 z2
  refine N_BT_known_0 ⟨by omega, c_has (R := 84) (Or.inl ⟨rfl, rfl⟩) (fun x0 x1 => ⟨fun _ => ⟨by omega, c_knownB (by omega) W hv x0 x1 (fun q g s => ⟨fun z => absurd z (by decide), fun _ => ref 1 g s x0 x1 (Or.inl ⟨rfl, q⟩)⟩) (fun q g s => ⟨fun _ => ref 0 g s x0 x1 (Or.inr ⟨rfl, q⟩), fun z => absurd rfl z⟩)⟩, fun z => absurd z (by decide)⟩) (fun nt => ⟨fun z => absurd rfl z, fun _ => ⟨by omega, ?_⟩⟩)⟩
  intro g1 hg1
  have f1 : g1 135 15 = h 135 15 := by rw [hg1, up2_nc (by decide)]
  have rb := fun {d : Nat} (q : 0 < d) => ref_bad (d := d) B0 H hg1 q
  exact N_Mo_known_0 ⟨by omega, c_isType (by omega) (by omega) (by omega) (fun _ _ => by omega) (fun _ => ⟨fun z => absurd rfl z, fun _ => rb (by omega)⟩)⟩
theorem b_measure {d : Nat} {h : HP} {x : Int} {R : HP → Prop} (hd : 20 < d) (B : BIx h) (H : ∀ h2, BIx h2 → FrB h h2 → R h2) :
    Go d M_BT_measure 0 [(21, 1), (0, x)] [] h (fun r1 h1 => Go d M_Mo_measure 0 [(22, 135), (0, x)] [] h1 (fun r2 h2 => r1 = r2 ∧ R h2)) := by
  have B0 := B
  obtain ⟨⟨k, ck⟩, ⟨tm, S, V, c, b⟩, c0, c1, c2⟩ := B
  have b' := b
  obtain ⟨W, Rw, hV, ⟨e15, e14, e19, e18, n60, d8⟩, rows⟩ := b
  have n0 := W.1.2.1.2.1
  obtain ⟨v, hv⟩ := RcB_ex 2 W
  have Ld := (FB_lead W.1).1
  have Fr := W.1.2.2.2.2.1
  have same := rc_same Ld hv
  refine N_BT_measure_0 ⟨by omega, c_has (R := 84) (Or.inl ⟨rfl, rfl⟩) (fun x0 x1 => ⟨fun z => absurd z (by decide), fun _ => ⟨by omega, c_sizeW (T := 5) (R := 84) (V := v) (by omega) W x0 x1 (fun r r0 r1 cr => ?_) (fun g s _ => ?_)⟩⟩) (fun nt => ⟨fun _ => ⟨by omega, ?_⟩, fun z => absurd rfl z⟩)⟩
  · obtain ⟨k1, k2, k3, k4⟩ := kid_lead W same r0 r1 cr
    have el : hdL h 5 r = h (5 + 3) (ldC h 5 c r) := by unfold hdL ldC; rw [cr]
    rw [el] at k1 k2 k3 k4
    have e : v r = wth 2 (h (5 + 3) (ldC h 5 c r)) (h (5 + 6) (ldC h 5 c r)) (if 0 < ari (h (5 + 3) (ldC h 5 c r)) then v (h (5 + 4) (ldC h 5 c r)) else 1) (if 1 < ari (h (5 + 3) (ldC h 5 c r)) then v (h (5 + 5) (ldC h 5 c r)) else 1) := hv r r0 r1
    unfold wth at e
    rw [if_neg (by decide), if_neg (by decide), if_pos rfl] at e
    rw [e]
    have a : (if 0 < ari (h (5 + 3) (ldC h 5 c r)) then (if 0 < ari (h (5 + 3) (ldC h 5 c r)) then v (h (5 + 4) (ldC h 5 c r)) else 1) else 0) = (if kA h 5 c (h 5 13) r ≠ -1 then v (kA h 5 c (h 5 13) r) else 0) := by
      by_cases q : 0 < ari (h (5 + 3) (ldC h 5 c r))
      · rw [if_pos q, if_pos q, if_pos (k1.mpr q), k3 q]
      · rw [if_neg q, if_neg (fun z => q (k1.mp z))]
    have b2 : (if 1 < ari (h (5 + 3) (ldC h 5 c r)) then (if 1 < ari (h (5 + 3) (ldC h 5 c r)) then v (h (5 + 5) (ldC h 5 c r)) else 1) else 0) = (if kB h 5 c (h 5 13) r ≠ -1 then v (kB h 5 c (h 5 13) r) else 0) := by
      by_cases q : 1 < ari (h (5 + 3) (ldC h 5 c r))
      · rw [if_pos q, if_pos q, if_pos (k2.mpr q), k4 q]
      · rw [if_neg q, if_neg (fun z => q (k2.mp z))]
    rw [a, b2]
    omega
  · have lc : LcC 5 h g := fun a i p q => s a i (by omega)
    have lm : LcM h g := ⟨fun i p q => s _ _ (by omega), fun a i p q r => s _ _ (by omega)⟩
    have bg := BR_loc lc lm b'
    have f15 : g 135 15 = h 135 15 := s _ _ (by omega)
    have f13 : g 5 13 = h 5 13 := s _ _ (by omega)
    have cx := (Fr x x0 x1).2.1
    refine N_Mo_measure_0 ⟨by omega, c_isType (by omega) (by omega) (by omega) (fun _ _ => ⟨fun z => absurd z (by decide), fun _ => ⟨by omega, c_workedB (vn := v) (by omega) bg (RcB_scr s hv) x0 (by omega) (fun w => ⟨same (c x) x cx.1 cx.2 x0 x1 (Frs_cc Fr x0 x1), ?_⟩)⟩⟩) (fun z => by omega)⟩
    rw [f13]
    obtain ⟨z1, z2⟩ := BIx_scr B0 s ⟨w, rfl⟩
    exact H _ z1 z2
  · intro g1 hg1
    have f1 : g1 135 15 = h 135 15 := by rw [hg1, up2_nc (by decide)]
    have rb := fun {d : Nat} (q : 0 < d) => ref_bad (d := d) B0 H hg1 q
    exact N_Mo_measure_0 ⟨by omega, c_isType (by omega) (by omega) (by omega) (fun _ _ => by omega) (fun _ => ⟨fun _ => rb (by omega), fun z => absurd rfl z⟩)⟩
theorem b_reach {d : Nat} {h : HP} {x : Int} {R : HP → Prop} (hd : 20 < d) (B : BIx h) (H : ∀ h2, BIx h2 → FrB h h2 → R h2) :
    Go d M_BT_reach 0 [(21, 1), (0, x)] [] h (fun r1 h1 => Go d M_Mo_reach 0 [(22, 135), (0, x)] [] h1 (fun r2 h2 => r1 = r2 ∧ R h2)) := by
  have B0 := B
  obtain ⟨⟨k, ck⟩, ⟨tm, S, V, c, b⟩, c0, c1, c2⟩ := B
  have b' := b
  obtain ⟨W, Rw, hV, ⟨e15, e14, e19, e18, n60, d8⟩, rows⟩ := b
  have n0 := W.1.2.1.2.1
  obtain ⟨v, hv⟩ := RcB_ex 3 W
  have Ld := (FB_lead W.1).1
  have Fr := W.1.2.2.2.2.1
  have Ar := Wst_arg W.2.1.1
  have same := rc_same Ld hv
  have pos := RcB_pos W d8 hv
  refine N_BT_reach_0 ⟨by omega, c_has (R := 84) (Or.inl ⟨rfl, rfl⟩) (fun x0 x1 => ⟨fun z => absurd z (by decide), fun _ => ⟨by omega, c_deepest (T := 5) (R := 84) (V := fun z => v z - 1) (by omega) W x0 x1 (fun r r0 r1 cr => ?_) (fun g s _ => ?_)⟩⟩) (fun nt => ⟨fun _ => ⟨by omega, ?_⟩, fun z => absurd rfl z⟩)⟩
  · obtain ⟨k1, k2, k3, k4⟩ := kid_lead W same r0 r1 cr
    have l := Ld r r0 r1
    have el : hdL h 5 r = h (5 + 3) (ldC h 5 c r) := by unfold hdL ldC; rw [cr]
    have el2 : h (5 + 9) r % 1024 = ldC h 5 c r := by unfold ldC; rw [cr]
    rw [el] at k1 k2 k3 k4
    have e : v r = wth 3 (h (5 + 3) (ldC h 5 c r)) (h (5 + 6) (ldC h 5 c r)) (if 0 < ari (h (5 + 3) (ldC h 5 c r)) then v (h (5 + 4) (ldC h 5 c r)) else 1) (if 1 < ari (h (5 + 3) (ldC h 5 c r)) then v (h (5 + 5) (ldC h 5 c r)) else 1) := hv r r0 r1
    unfold wth at e
    rw [if_neg (by decide), if_neg (by decide), if_neg (by decide)] at e
    have bn := W.2.2.2.2.1 _ _ l.1 (Int.le_refl _) l.2.1
    show v r - 1 = max (if 7 ≤ hdL h 5 r then h (5 + 6) (h (5 + 9) r % 1024) else 0) (max (if kA h 5 c (h 5 13) r ≠ -1 then v (kA h 5 c (h 5 13) r) - 1 else 0) (if kB h 5 c (h 5 13) r ≠ -1 then v (kB h 5 c (h 5 13) r) - 1 else 0))
    rw [el, el2]
    have pA : 0 < ari (h (5 + 3) (ldC h 5 c r)) → 1 ≤ v (h (5 + 4) (ldC h 5 c r)) := fun q => by
      have := (Ar _ l.1 l.2.1).1 (ari_ge1 q).1 (ari_ge1 q).2
      exact (pos _ this.1 this.2).1
    have pB : 1 < ari (h (5 + 3) (ldC h 5 c r)) → 1 ≤ v (h (5 + 5) (ldC h 5 c r)) := fun q => by
      have := (Ar _ l.1 l.2.1).2 (ari_ge2 q)
      exact (pos _ this.1 this.2).1
    by_cases q7 : 7 ≤ h (5 + 3) (ldC h 5 c r)
    · have a0 := ari_0 (k := h (5 + 3) (ldC h 5 c r)) (by omega)
      rw [if_pos q7] at e
      rw [if_pos q7, if_neg (fun z => by have := k1.mp z; omega), if_neg (fun z => by have := k2.mp z; omega), e]
      omega
    · rw [if_neg q7] at e
      rw [if_neg q7]
      by_cases qa : 0 < ari (h (5 + 3) (ldC h 5 c r)) <;> by_cases qb : 1 < ari (h (5 + 3) (ldC h 5 c r))
      · have := pA qa
        have := pB qb
        rw [if_pos qa, if_pos qb] at e
        rw [if_pos (k1.mpr qa), if_pos (k2.mpr qb), k3 qa, k4 qb, e]
        omega
      · have := pA qa
        rw [if_pos qa, if_neg qb] at e
        rw [if_pos (k1.mpr qa), if_neg (fun z => qb (k2.mp z)), k3 qa, e]
        omega
      · omega
      · rw [if_neg qa, if_neg qb] at e
        rw [if_neg (fun z => qa (k1.mp z)), if_neg (fun z => qb (k2.mp z)), e]
        omega
  · have lc : LcC 5 h g := fun a i p q => s a i (by omega)
    have lm : LcM h g := ⟨fun i p q => s _ _ (by omega), fun a i p q r => s _ _ (by omega)⟩
    have bg := BR_loc lc lm b'
    have f15 : g 135 15 = h 135 15 := s _ _ (by omega)
    have f13 : g 5 13 = h 5 13 := s _ _ (by omega)
    have cx := (Fr x x0 x1).2.1
    have ex := same (c x) x cx.1 cx.2 x0 x1 (Frs_cc Fr x0 x1)
    have px := pos x x0 x1
    refine N_Mo_reach_0 ⟨by omega, c_isType (by omega) (by omega) (by omega) (fun _ _ => ⟨fun z => absurd z (by decide), fun _ => ⟨by omega, c_workedB (vn := v) (by omega) bg (RcB_scr s hv) x0 (by omega) (fun w => ⟨by unfold r32; omega, by rw [ex], ?_⟩)⟩⟩) (fun z => by omega)⟩
    rw [f13]
    obtain ⟨z1, z2⟩ := BIx_scr B0 s ⟨w, rfl⟩
    exact H _ z1 z2
  · intro g1 hg1
    have f1 : g1 135 15 = h 135 15 := by rw [hg1, up2_nc (by decide)]
    have rb := fun {d : Nat} (q : 0 < d) => ref_bad (d := d) B0 H hg1 q
    exact N_Mo_reach_0 ⟨by omega, c_isType (by omega) (by omega) (by omega) (fun _ _ => by omega) (fun _ => ⟨fun _ => rb (by omega), fun z => absurd rfl z⟩)⟩
end
