section
theorem k_match {h0 : HP} {A : Int} {N : Nat} (bc : BC h0 A) (ck : CkT h0 A N) (it : InT h0 A N) : MaT h0 A (N + 1) := by
  intro p sc w r w' hs D g m h tm S V Γ d Q c p0 hN hd G w0 w1 s1 s2 s3 hm s g0 gl HG HB
  have a0 := bc.1
  have bn := bc.2.1
  have pn := GD_n G p0
  obtain ⟨r1, u1, G1, b1, f, gk⟩ := GD_match G p0 c
  have q1 := bc_w bc _ _ _ _ _ (by omega) G1
  have gw := GK_w (n := h0 A 2) (p + 1) (fun q q0 z => (bA_lt (b := h0 (A + 1)) (n := h0 A 2) (p := q) (by omega)).2) (by omega) (fun j j0 j1 => (cel_ok bc (Or.inl rfl) j0 j1).2.2.2.2.2.1.1) (fun q sc w r w' q1 x => bc_w bc q sc w r w' (by omega) x) _ _ _ _ _ _ (by omega) gk
  have B1 := BAD_sub (go' := none) (q := p + 1) HB s s (XB_refl 96 h tm) (KX_refl h sc hs) (fun k S' V' t k0 j => ⟨S, V, tI, jc_in (Or.inr (Or.inr (Or.inr (Or.inl ⟨c, k, S', V', t, j, Or.inl ⟨k0, rfl⟩⟩))))⟩)
  refine V_Checker_checkMatch_0 ⟨by unfold r32; omega, by omega, ?_⟩
  refine it (p + 1) sc w r1 u1 hs D m h tm S V Γ (d - 1) _ (by omega) (by omega) (by omega) G1 w0 w1 (by omega) (by omega) (by omega) (by omega) s (fun x h1 tm1 S1 V1 j1 x0 x1 s1' X1 o1 => ⟨fun _ => ⟨by omega, ?_⟩, fun z => by omega⟩) (fun h' k S' V' t a b c' z e => ⟨fun q => absurd rfl q, fun _ => B1 h' k S' V' t a b c' z e⟩)
  have gg : tm1 g = tm g := X1.2 g g0 gl
  have n1 := X1.1.1.1
  have C1 := s1'.2.1.1
  have C1' := C1
  obtain ⟨cc, W, hV⟩ := C1'
  have Ld := (FB_lead W.1).1
  obtain ⟨m1, m2⟩ := Led_fm W.2.1 Ld x0 x1
  have k71 : h1 92 7 = A := s1'.2.1.2.2.1.2.2.1
  obtain ⟨mu, F⟩ := fresh3 hV (Int.le_refl 0)
  have sct : ∀ g', ScC 96 h1 g' → ST h0 A g' tm1 S1 V1 D sc hs Γ (m + 3 * (r1 - (p + 1)) + (u1 - w)) ∧ XB 96 h1 tm1 g' tm1 ∧ KX h1 g' sc hs ∧ g' 92 7 = A ∧ g' 96 13 = h1 96 13 := by
    intro g' u
    have lc : LcC 96 h1 g' := fun a i v v' => u a i (by omega)
    have xb : XB 96 h1 tm1 g' tm1 := XB_loc (LcC_refl 96 h1) lc (XB_refl 96 h1 tm1)
    have kx : KX h1 g' sc hs := KX_out (fun a i v => u a i (by omega))
    have e13 : g' 96 13 = h1 96 13 := u 96 13 (by omega)
    exact ⟨ST_step s1' (CV_loc lc C1) xb kx (by have := s1'.2.2; omega), xb, kx, by rw [u 92 7 (by omega)]; exact k71, e13⟩
  have bad : ∀ g', ScC 96 h1 g' → (¬ ∃ k a, (3 ≤ k ∧ k ≤ 6) ∧ EqS S1 (tm1 x) (tF k a) ∧ Kn S1 V1 a) → ∀ y2 y3 : Int, Go d M_Checker_checkMatch 56 [(10, 92), (0, p), (0, g), (0, x), (0, y2), (0, y3), (2, 0), (2, 0), (2, 0), (2, 0), (2, 0)] [] g' Q := by
    intro g' u no y2 y3
    obtain ⟨s2', X2, o2, e7, _⟩ := sct g' u
    refine V_Checker_checkMatch_56 ⟨by omega, by omega, by omega, fun g1 e1 g2 e2 => ?_⟩
    rw [e7] at e1 e2
    obtain ⟨f4, f5, z, fo⟩ := k_flt (sc := sc) (hs := hs) a0 s2'.2.1.1 e1 e2
    exact HB g2 (10 * p + 6) S V tI (jc_in (Or.inr (Or.inr (Or.inr (Or.inl ⟨c, 0, S1, V1, tm1 x, j1, Or.inr ⟨rfl, Or.inl ⟨no, rfl⟩⟩⟩))))) (by omega) (by omega) (KX_KZ (KX_trans o1 o2) z) (FO_trans s.2.1.1 s2'.2.1.1 (ST_X s s1' X1 X2).1 fo)
  have mF : ∀ (k : Int) (a b : Tm), 3 ≤ k → mkT k a b = tF k a := fun k a b q => by
    unfold mkT
    rw [if_neg (by omega), if_neg (by omega), if_neg (by omega)]
  refine c_famOf (T := 96) (R := 512) (by omega) W x0 x1 (fun f3 f6 => ⟨by omega, ?_⟩) (fun nf => ⟨by omega, ?_⟩)
  · have eqx := m1 f6
    rw [mF _ _ _ f3] at eqx
    refine c_idxOf (T := 96) (R := 512) (by omega) W x0 x1 f3 f6 (fun i0 i1 => ⟨fun z => by omega, fun _ => ⟨by omega, ?_⟩⟩)
    refine c_knownC (T := 96) (R := 512) (by omega) C1 i0 i1 (fun kn g' u => ⟨fun _ => ?_, fun z => absurd z (by decide)⟩) (fun nk g' u => ⟨fun z => absurd rfl z, fun _ => bad g' u (fun ⟨k, a, kr, ek, kn⟩ => nk ?_) _ _⟩)
    · obtain ⟨s2', X2, o2, e7, e13⟩ := sct g' u
      refine ⟨by unfold r32; omega, by omega, by omega, ?_⟩
      rw [e7]
      refine k_beh (by omega) bc s2'.1 (by omega) (fun y5 hy => ⟨by have := hy _ _ _ _ G1; unfold r32; omega, ?_⟩)
      have ey := hy _ _ _ _ G1
      subst ey
      have ee : h0 (A + 2) (p + 1) = y5 := (GD_e G1).2
      refine m_loop (mu := mu) bc ck p0 (by omega) (by omega) s1 s2 s3 F f (y5 + 1) u1 (fun _ => False) 0 0 _ _ g' gk (by omega) (by omega) (by omega) (by omega) (fun j j0 j1 => ⟨fun _ z => z, fun _ => bit_no j0 j1⟩) (Int.le_refl 0) (by omega) s2' i0 (by omega) g0 (by omega) (fun h2 c2 s3' X3 o3 => ?_) (fun h2 z c2 ez b zz fo => ?_)
      · refine HG h2 tm1 S1 V1 (tm g) (jc_in (Or.inr (Or.inr (Or.inr (Or.inl ⟨c, 0, S1, V1, tm1 x, j1, Or.inr ⟨rfl, Or.inr ⟨_, _, ⟨f3, f6⟩, eqx, kn, rfl, rfl, rfl, f, ?_⟩⟩⟩))))) (ST_le s3' (by omega)) (ST_X s s2' (ST_X s s1' X1 X2) X3) (KX_trans (KX_trans o1 o2) o3)
        rw [ee, ← gg]
        exact c2
      · refine HB h2 z S1 V1 (tm g) (jc_in (Or.inr (Or.inr (Or.inr (Or.inl ⟨c, 0, S1, V1, tm1 x, j1, Or.inr ⟨rfl, Or.inr ⟨_, _, ⟨f3, f6⟩, eqx, kn, rfl, rfl, rfl, f, ?_⟩⟩⟩))))) ez b (KX_KZ (KX_trans o1 o2) zz) (FO_trans s.2.1.1 s2'.2.1.1 (ST_X s s1' X1 X2).1 fo)
        rw [ee, ← gg]
        exact c2
    · have q := m2 k a tI (by omega) (by rw [mF _ _ _ kr.1]; exact ek)
      exact Kn_eq (q.2.2.1 (by omega)) kn
  · have l := Ld x x0 x1
    have nR := W.1.2.1.2.2
    have no : ¬ ∃ k a, (3 ≤ k ∧ k ≤ 6) ∧ EqS S1 (tm1 x) (tF k a) ∧ Kn S1 V1 a := fun ⟨k, a, kr, ek, _⟩ => by
      have q := m2 k a tI (by omega) (by rw [mF _ _ _ kr.1]; exact ek)
      have := q.1
      omega
    exact W_World_indexOf_0 (T := 96) (R := 512) W.1.1 ⟨by omega, c_leadOf (T := 96) (R := 512) (by omega) W.1 x0 x1 ⟨⟨l.1, by omega⟩, fun _ => ⟨⟨l.1, by omega⟩, fun _ => bad h1 (ScC_refl 96 h1) no _ _, fun z => absurd rfl z⟩, fun _ => ⟨fun _ => bad h1 (ScC_refl 96 h1) no _ _, fun z => absurd rfl z⟩⟩⟩
/-- check and infer, all of it -/
theorem k_all {h0 : HP} {A : Int} (bc : BC h0 A) : ∀ N : Nat, CkT h0 A N ∧ InT h0 A N := by
  intro N
  induction N with
  | zero =>
    refine ⟨?_, ?_⟩
    · intro p sc w r w' hs D g m h tm S V Γ d Q p0 hN hd G
      have := GD_n G p0
      omega
    · intro p sc w r w' hs D m h tm S V Γ d Q p0 hN hd G
      have := GD_n G p0
      omega
  | succ N ih =>
    have it := k_infer bc ih.1 ih.2 (k_callI bc ih.1)
    exact ⟨k_check bc ih.1 it (k_callC bc ih.1) (k_match bc ih.1 ih.2), it⟩
end
