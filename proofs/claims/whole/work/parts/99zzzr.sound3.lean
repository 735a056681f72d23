section
theorem jw_none {h0 : HP} {A : Int} {N : Nat} (bc : BC h0 A) (ih : ∀ go, JWg h0 A N go) : JWg h0 A (N + 1) none := by
  intro p sc w r w' Γ S V D S' V' t p0 hN G J I hΓ _
  have pn := GD_n G p0
  have nog : ∀ (u : Tm) g, (none : Option Tm) = some g → u = g := fun u g e => by cases e
  have oP : ∀ j : Nat, pO (bA (h0 (A + 1)) (h0 A 2) p) = (j : Int) + 1 → GC (gd h0 A) (j + 1) (p + 1) sc w r w' := fun j hj => GD_op G hj
  rcases jn_out J with ⟨lf, _, eS, eV, et⟩ | ⟨c, J⟩ | ⟨c, J⟩ | ⟨c, J⟩ | ⟨c, J⟩ | ⟨c, mu, F, J⟩ | ⟨c, z⟩
  · subst eS eV et
    refine ⟨RS_refl I, ?_, nog _, fun θ s => WT_in (Or.inl ⟨lf, lfT_sb⟩)⟩
    unfold lfO at lf
    unfold lfT
    split
    · exact hΓ _ (by omega)
    · split <;> exact VTS_c (fun _ => rfl)
  · have p2 : pO (bA (h0 (A + 1)) (h0 A 2) p) = ((1 : Nat) : Int) + 1 := by
      unfold pO
      rw [if_neg (by omega), if_pos (by omega)]
      rfl
    obtain ⟨r1, v1, G1, r2, v2, G2, er, ew⟩ := oP 1 p2
    have l1 := bc_w bc _ _ _ _ _ (by omega) G1
    have e1 : h0 (A + 2) (p + 1) = r1 := (GD_e G1).2
    obtain ⟨S1, V1, t1, j1, J⟩ := th0 J
    obtain ⟨S2, V2, t2, j2, _, eS, eV, et⟩ := th0 J
    rw [e1] at j2
    subst eS eV et
    obtain ⟨R1, _, g1, w1⟩ := ih (some tI) _ _ _ _ _ _ _ _ _ _ _ _ (by omega) (by omega) G1 j1 I hΓ (VTS_c (fun _ => rfl))
    obtain ⟨R2, _, g2, w2⟩ := ih (some tI) _ _ _ _ _ _ _ _ _ _ _ _ (by omega) (by omega) G2 j2 R1.2.1 (fun i il => VTS_RS (hΓ i il) R1) (VTS_c (fun _ => rfl))
    have h1 := g1 tI rfl
    have h2 := g2 tI rfl
    subst h1 h2
    refine ⟨RS_trans R1 R2, ?_, nog _, fun θ s => WT_in (Or.inr (Or.inl ⟨c, w1 θ (R2.1 θ s), by rw [e1]; exact w2 θ s, ?_⟩))⟩
    · split <;> exact VTS_c (fun _ => rfl)
    · split <;> rfl
  · have p2 : pO (bA (h0 (A + 1)) (h0 A 2) p) = ((2 : Nat) : Int) + 1 := by rw [c]; rfl
    obtain ⟨r1, v1, G1, r2, v2, G2, r3, v3, G3, er, ew⟩ := oP 2 p2
    have l1 := bc_w bc _ _ _ _ _ (by omega) G1
    have l2 := bc_w bc _ _ _ _ _ (by omega) G2
    have e1 : h0 (A + 2) (p + 1) = r1 := (GD_e G1).2
    have e2 : h0 (A + 2) r1 = r2 := (GD_e G2).2
    obtain ⟨S1, V1, t1, j1, J⟩ := th0 J
    obtain ⟨S2, V2, t2, j2, J⟩ := th0 J
    obtain ⟨S3, V3, t3, j3, _, eS, eV, et⟩ := th0 J
    rw [e1] at j2
    rw [e1, e2] at j3
    subst eS eV et
    obtain ⟨R1, _, g1, w1⟩ := ih (some tB) _ _ _ _ _ _ _ _ _ _ _ _ (by omega) (by omega) G1 j1 I hΓ (VTS_c (fun _ => rfl))
    obtain ⟨R2, T2, _, w2⟩ := ih none _ _ _ _ _ _ _ _ _ _ _ _ (by omega) (by omega) G2 j2 R1.2.1 (fun i il => VTS_RS (hΓ i il) R1) trivial
    have R12 := RS_trans R1 R2
    obtain ⟨R3, _, g3, w3⟩ := ih (some _) _ _ _ _ _ _ _ _ _ _ _ _ (by omega) (by omega) G3 j3 R2.2.1 (fun i il => VTS_RS (hΓ i il) R12) T2
    have h1 := g1 tB rfl
    have h3 := g3 _ rfl
    subst h1 h3
    refine ⟨RS_trans R12 R3, VTS_RS T2 R3, nog _, fun θ s => WT_in (Or.inr (Or.inr (Or.inl ⟨c, w1 θ (R2.1 θ (R3.1 θ s)), by rw [e1]; exact w2 θ (R3.1 θ s), by rw [e1, e2]; exact w3 θ s⟩)))⟩
  · have p2 : pO (bA (h0 (A + 1)) (h0 A 2) p) = ((1 : Nat) : Int) + 1 := by rw [c]; rfl
    obtain ⟨r1, v1, G1, r2, v2, G2, er, ew⟩ := oP 1 p2
    have l1 := bc_w bc _ _ _ _ _ (by omega) G1
    have e1 : h0 (A + 2) (p + 1) = r1 := (GD_e G1).2
    obtain ⟨S1, V1, t1, j1, J⟩ := th0 J
    obtain ⟨S2, V2, t2, j2, _, eS, eV, et⟩ := th0 J
    rw [e1] at j2
    subst eS eV et
    obtain ⟨R1, T1, _, w1⟩ := ih none _ _ _ _ _ _ _ _ _ _ _ _ (by omega) (by omega) G1 j1 I hΓ trivial
    obtain ⟨R2, T2, _, w2⟩ := ih none _ _ _ _ _ _ _ _ _ _ _ _ (by omega) (by omega) G2 j2 R1.2.1 (fun i il => VTS_RS (hΓ i il) R1) trivial
    have T1' := VTS_RS T1 R2
    refine ⟨RS_trans R1 R2, fun θ θ' a b d => by rw [sb_P, sb_P, T1' θ θ' a b d, T2 θ θ' a b d], nog _, fun θ s => WT_in (Or.inr (Or.inr (Or.inr (Or.inl ⟨c, _, _, rfl, w1 θ (R2.1 θ s), by rw [e1]; exact w2 θ s⟩))))⟩
  · have p2 : pO (bA (h0 (A + 1)) (h0 A 2) p) = ((0 : Nat) : Int) + 1 := by
      unfold pO
      rw [if_pos c]
      rfl
    obtain ⟨r1, v1, G1, er, ew⟩ := oP 0 p2
    obtain ⟨S1, V1, t1, j1, J⟩ := th0 J
    obtain ⟨R1, T1, _, w1⟩ := ih none _ _ _ _ _ _ _ _ _ _ _ _ (by omega) (by omega) G1 j1 I hΓ trivial
    have fin : ∀ (a b : Tm) (S2 : Sx) (V2 : Vx), RS S1 V1 D S2 V2 → EqS S2 t1 (tP a b) → RS S V D S2 V2 ∧ VTS S2 V2 (if bA (h0 (A + 1)) (h0 A 2) p = 76 then a else b) ∧ (∀ g, (none : Option Tm) = some g → (if bA (h0 (A + 1)) (h0 A 2) p = 76 then a else b) = g) ∧ ∀ θ, S2 θ → wt h0 A p (fun i => sb θ (Γ i)) sc (sb θ (if bA (h0 (A + 1)) (h0 A 2) p = 76 then a else b)) := by
      intro a b S2 V2 R2 e
      have vp := VTS_P (VTS_eq (VTS_RS T1 R2) e)
      refine ⟨RS_trans R1 R2, ?_, nog _, fun θ s => WT_in (Or.inr (Or.inr (Or.inr (Or.inr (Or.inl ⟨c, sb θ a, sb θ b, ?_, ?_⟩)))))⟩
      · split
        · exact vp.1
        · exact vp.2
      · have := w1 θ (R2.1 θ s)
        rw [e θ s] at this
        exact this
      · split <;> rfl
    rcases J with ⟨a, b, e, _, eS, eV, et⟩ | ⟨_, m1, m2, ne, f1, f2, U⟩
    · subst eS eV et
      exact fin a b _ _ (RS_refl R1.2.1) e
    · obtain ⟨nf, _, eS, eV, a, b, e, et⟩ := un0 p0 U
      subst eS eV et
      have Ru1 := RS_up (m := m1) R1.2.1 f1
      have Ru2 := RS_up (m := m2) Ru1.2.1 (by show (if m2 = m1 then _ else V1 m2).1 < 7; rw [if_neg (fun z => ne z.symm)]; exact f2)
      have Ru := RS_trans Ru1 Ru2
      have vm : ∀ m, (m = m1 ∨ m = m2) → VTS S1 (upV (upV V1 m1 (8, D)) m2 (8, D)) (tV m) := by
        intro m hm θ θ' _ _ ag
        refine ag m ?_
        show 7 ≤ (if m = m2 then ((8 : Int), D) else (if m = m1 then ((8 : Int), D) else V1 m)).1
        rcases hm with e | e
        · subst e
          rw [if_neg ne, if_pos rfl]
          show (7 : Int) ≤ 8
          omega
        · subst e
          rw [if_pos rfl]
          show (7 : Int) ≤ 8
          omega
      have Rn := RS_un Ru.2.1 (VTS_RS T1 Ru) (fun θ θ' x y ag => by rw [sb_P, sb_P, vm m1 (Or.inl rfl) θ θ' x y ag, vm m2 (Or.inr rfl) θ θ' x y ag]) nf.1 nf.2
      exact fin a b _ _ (RS_trans Ru Rn) e
  · obtain ⟨ok, hl, GG⟩ := GD_sign G p0 c
    have j0 : 0 ≤ bA (h0 (A + 1)) (h0 A 2) (p + 1) - 48 := by have := ok.1; omega
    obtain ⟨_, _, _, _, _, ⟨l0, l1⟩, ⟨n0, n3⟩, O⟩ := cel_ok bc c j0 ok.2.2
    have lL := sgL_len (mu := mu) l0 n0 O
    have lF := sgF_get (sb' := sbr h0) (ll := llr h0) (pp := ppr h0) (k := bA (h0 (A + 1)) (h0 A 2) p) (j := bA (h0 (A + 1)) (h0 A 2) (p + 1) - 48) (mu := mu) rfl n0 lL
    have Rf := RS_nV (P := Oc (sbr h0 (bA (h0 (A + 1)) (h0 A 2) p) (bA (h0 (A + 1)) (h0 A 2) (p + 1) - 48)) 0 (llr h0 (bA (h0 (A + 1)) (h0 A 2) p) (bA (h0 (A + 1)) (h0 A 2) (p + 1) - 48))) I F
    have lE : (sgF (sbr h0) (llr h0) (ppr h0) (bA (h0 (A + 1)) (h0 A 2) p) (bA (h0 (A + 1)) (h0 A 2) (p + 1) - 48) mu).length = (ppr h0 (bA (h0 (A + 1)) (h0 A 2) p) (bA (h0 (A + 1)) (h0 A 2) (p + 1) - 48)).toNat := by have := lF.1; omega
    rw [← lE] at GG
    obtain ⟨S2, V2, ⟨_, eS, eV, et⟩, R2, w2⟩ := kiW_of bc ih _ (p + 2) _ S _ (by omega) (by omega) GG J Rf.2.1 (fun i il => VTS_RS (hΓ i il) Rf) (fun i u e => sgF_VTS (p := (8, D)) (by show (7 : Int) ≤ 8; omega) i u e)
    subst eS eV et
    refine ⟨RS_trans Rf R2, ?_, nog _, fun θ s => WT_in (Or.inr (Or.inr (Or.inr (Or.inr (Or.inr (Or.inl ⟨c, fun v => θ (mu v), ?_, ?_⟩))))))⟩
    · have q : VTS S (nV V mu (Oc (sbr h0 (bA (h0 (A + 1)) (h0 A 2) p) (bA (h0 (A + 1)) (h0 A 2) (p + 1) - 48)) 0 (llr h0 (bA (h0 (A + 1)) (h0 A 2) p) (bA (h0 (A + 1)) (h0 A 2) (p + 1) - 48))) (8, D)) (sgR' (sbr h0) (llr h0) (ppr h0) (bA (h0 (A + 1)) (h0 A 2) p) (bA (h0 (A + 1)) (h0 A 2) (p + 1) - 48) mu) := sgR_VTS (by show (7 : Int) ≤ 8; omega)
      have q2 := VTS_RS q R2
      intro θ θ' a b ag
      rw [cllT_sb, cllT_sb, q2 θ θ' a b ag]
    · have := w2 θ s
      rw [sgF_map] at this
      exact this
    · rw [cllT_sb]
      show cllT _ _ _ (sb θ (sgI _ _ mu _)) = _
      rw [sgI_sb]
  · omega
theorem jw_some {h0 : HP} {A : Int} {N : Nat} (bc : BC h0 A) (ih : ∀ go, JWg h0 A N go) (inn : JWg h0 A (N + 1) none) (g : Tm) : JWg h0 A (N + 1) (some g) := by
  intro p sc w r w' Γ S V D S' V' t p0 hN G J I hΓ hg
  have hg : VTS S V g := hg
  have pn := GD_n G p0
  have sg : ∀ u : Tm, some u = some u → u = u := fun _ _ => rfl
  have oP : ∀ j : Nat, pO (bA (h0 (A + 1)) (h0 A 2) p) = (j : Int) + 1 → GC (gd h0 A) (j + 1) (p + 1) sc w r w' := fun j hj => GD_op G hj
  rcases jc_out J with ⟨c, J⟩ | ⟨c, a, b, ab, J⟩ | ⟨c, mu, F, U⟩ | ⟨c, J⟩ | ⟨c, J⟩
  · have p2 : pO (bA (h0 (A + 1)) (h0 A 2) p) = ((2 : Nat) : Int) + 1 := by rw [c]; rfl
    obtain ⟨r1, v1, G1, r2, v2, G2, r3, v3, G3, er, ew⟩ := oP 2 p2
    have l1 := bc_w bc _ _ _ _ _ (by omega) G1
    have l2 := bc_w bc _ _ _ _ _ (by omega) G2
    have e1 : h0 (A + 2) (p + 1) = r1 := (GD_e G1).2
    have e2 : h0 (A + 2) r1 = r2 := (GD_e G2).2
    obtain ⟨S1, V1, t1, j1, J⟩ := th0 J
    obtain ⟨S2, V2, t2, j2, J⟩ := th0 J
    obtain ⟨S3, V3, t3, j3, _, eS, eV, et⟩ := th0 J
    rw [e1] at j2
    rw [e1, e2] at j3
    subst eS eV et
    obtain ⟨R1, _, g1, w1⟩ := ih (some tB) _ _ _ _ _ _ _ _ _ _ _ _ (by omega) (by omega) G1 j1 I hΓ (VTS_c (fun _ => rfl))
    obtain ⟨R2, T2, g2, w2⟩ := ih (some t) _ _ _ _ _ _ _ _ _ _ _ _ (by omega) (by omega) G2 j2 R1.2.1 (fun i il => VTS_RS (hΓ i il) R1) (VTS_RS hg R1)
    have R12 := RS_trans R1 R2
    obtain ⟨R3, _, g3, w3⟩ := ih (some t) _ _ _ _ _ _ _ _ _ _ _ _ (by omega) (by omega) G3 j3 R2.2.1 (fun i il => VTS_RS (hΓ i il) R12) (VTS_RS hg R12)
    have h1 := g1 tB rfl
    have h2 := g2 _ rfl
    have h3 := g3 _ rfl
    subst h1 h2 h3
    have R13 := RS_trans R12 R3
    refine ⟨R13, VTS_RS hg R13, fun g e => Option.some.inj e, fun θ s => WT_in (Or.inr (Or.inr (Or.inl ⟨c, w1 θ (R2.1 θ (R3.1 θ s)), by rw [e1]; exact w2 θ (R3.1 θ s), by rw [e1, e2]; exact w3 θ s⟩)))⟩
  · have p2 : pO (bA (h0 (A + 1)) (h0 A 2) p) = ((1 : Nat) : Int) + 1 := by rw [c]; rfl
    obtain ⟨r1, v1, G1, r2, v2, G2, er, ew⟩ := oP 1 p2
    have l1 := bc_w bc _ _ _ _ _ (by omega) G1
    have e1 : h0 (A + 2) (p + 1) = r1 := (GD_e G1).2
    have vp := VTS_P (VTS_eq hg ab)
    obtain ⟨S1, V1, t1, j1, J⟩ := th0 J
    obtain ⟨S2, V2, t2, j2, _, eS, eV, et⟩ := th0 J
    rw [e1] at j2
    subst eS eV et
    obtain ⟨R1, T1, g1, w1⟩ := ih (some a) _ _ _ _ _ _ _ _ _ _ _ _ (by omega) (by omega) G1 j1 I hΓ vp.1
    obtain ⟨R2, T2, g2, w2⟩ := ih (some b) _ _ _ _ _ _ _ _ _ _ _ _ (by omega) (by omega) G2 j2 R1.2.1 (fun i il => VTS_RS (hΓ i il) R1) (VTS_RS vp.2 R1)
    have h1 := g1 _ rfl
    have h2 := g2 _ rfl
    subst h1 h2
    have R12 := RS_trans R1 R2
    refine ⟨R12, VTS_RS hg R12, fun g e => Option.some.inj e, fun θ s => WT_in (Or.inr (Or.inr (Or.inr (Or.inl ⟨c, _, _, ab θ (R12.1 θ s), w1 θ (R2.1 θ s), by rw [e1]; exact w2 θ s⟩))))⟩
  · obtain ⟨ok, hl, GG⟩ := GD_sign G p0 c
    have j0 : 0 ≤ bA (h0 (A + 1)) (h0 A 2) (p + 1) - 48 := by have := ok.1; omega
    obtain ⟨_, _, _, _, _, ⟨l0, l1⟩, ⟨n0, n3⟩, O⟩ := cel_ok bc c j0 ok.2.2
    have lL := sgL_len (mu := mu) l0 n0 O
    have lF := sgF_get (sb' := sbr h0) (ll := llr h0) (pp := ppr h0) (k := bA (h0 (A + 1)) (h0 A 2) p) (j := bA (h0 (A + 1)) (h0 A 2) (p + 1) - 48) (mu := mu) rfl n0 lL
    have Rf := RS_nV (P := Oc (sbr h0 (bA (h0 (A + 1)) (h0 A 2) p) (bA (h0 (A + 1)) (h0 A 2) (p + 1) - 48)) 0 (llr h0 (bA (h0 (A + 1)) (h0 A 2) p) (bA (h0 (A + 1)) (h0 A 2) (p + 1) - 48))) I F
    have lE : (sgF (sbr h0) (llr h0) (ppr h0) (bA (h0 (A + 1)) (h0 A 2) p) (bA (h0 (A + 1)) (h0 A 2) (p + 1) - 48) mu).length = (ppr h0 (bA (h0 (A + 1)) (h0 A 2) p) (bA (h0 (A + 1)) (h0 A 2) (p + 1) - 48)).toNat := by have := lF.1; omega
    rw [← lE] at GG
    obtain ⟨nf, J⟩ := un0 p0 U
    have q : VTS S (nV V mu (Oc (sbr h0 (bA (h0 (A + 1)) (h0 A 2) p) (bA (h0 (A + 1)) (h0 A 2) (p + 1) - 48)) 0 (llr h0 (bA (h0 (A + 1)) (h0 A 2) p) (bA (h0 (A + 1)) (h0 A 2) (p + 1) - 48))) (8, D)) (sgR' (sbr h0) (llr h0) (ppr h0) (bA (h0 (A + 1)) (h0 A 2) p) (bA (h0 (A + 1)) (h0 A 2) (p + 1) - 48) mu) := sgR_VTS (by show (7 : Int) ≤ 8; omega)
    have Rn := RS_un Rf.2.1 (fun θ θ' a b ag => by rw [cllT_sb, cllT_sb, q θ θ' a b ag]) (VTS_RS hg Rf) nf.1 nf.2
    have Rfn := RS_trans Rf Rn
    obtain ⟨S2, V2, ⟨_, eS, eV, et⟩, R2, w2⟩ := kiW_of bc ih _ (p + 2) _ _ _ (by omega) (by omega) GG J Rn.2.1 (fun i il => VTS_RS (hΓ i il) Rfn) (fun i u e => sgF_VTS (p := (8, D)) (by show (7 : Int) ≤ 8; omega) i u e)
    subst eS eV et
    have Ra := RS_trans Rfn R2
    refine ⟨Ra, VTS_RS hg Ra, fun g e => Option.some.inj e, fun θ s => WT_in (Or.inr (Or.inr (Or.inr (Or.inr (Or.inr (Or.inl ⟨c, fun v => θ (mu v), ?_, ?_⟩))))))⟩
    · have := w2 θ s
      rw [sgF_map] at this
      exact this
    · rw [← (R2.1 θ s).2, cllT_sb]
      show cllT _ _ _ (sb θ (sgI _ _ mu _)) = _
      rw [sgI_sb]
  · obtain ⟨r1, u1, G1, b1, fg, gk⟩ := GD_match G p0 c
    have l1 := bc_w bc _ _ _ _ _ (by omega) G1
    have e1 : h0 (A + 2) (p + 1) = r1 := (GD_e G1).2
    obtain ⟨S1, V1, t1, j1, J⟩ := th0 J
    obtain ⟨R1, T1, _, w1⟩ := ih none _ _ _ _ _ _ _ _ _ _ _ _ (by omega) (by omega) G1 j1 I hΓ trivial
    rcases J with ⟨_, z⟩ | ⟨k, a, kr, ea, _, eS, eV, et, f, cc⟩
    · omega
    · subst eS eV et
      rw [e1] at cc
      refine ⟨R1, VTS_RS hg R1, fun g e => Option.some.inj e, fun θ s => WT_in (Or.inr (Or.inr (Or.inr (Or.inr (Or.inr (Or.inr ⟨c, k, sb θ a, kr, ?_, f, ?_⟩))))))⟩
      · have := w1 θ s
        rw [ea θ s] at this
        exact this
      · rw [e1]
        exact caW_of bc ih p0 (by omega) R1.2.1 (fun i il => VTS_RS (hΓ i il) R1) (VTS_RS hg R1) (VTS_F (VTS_eq T1 ea)) fg f (r1 + 1) u1 _ (by omega) gk cc θ s
  · obtain ⟨S1, V1, t1, j1, U⟩ := th0 J
    obtain ⟨nf, _, eS, eV, et⟩ := un0 p0 U
    subst eS eV et
    obtain ⟨R1, T1, _, w1⟩ := inn p sc w r w' Γ S V D S1 _ t1 p0 hN G j1 I hΓ trivial
    have Rn := RS_un R1.2.1 T1 (VTS_RS hg R1) nf.1 nf.2
    have R := RS_trans R1 Rn
    refine ⟨R, VTS_RS hg R, fun g e => Option.some.inj e, fun θ s => ?_⟩
    have := w1 θ s.1
    rw [s.2] at this
    exact this
theorem jw_all {h0 : HP} {A : Int} (bc : BC h0 A) : ∀ (N : Nat) go, JWg h0 A N go := by
  intro N
  induction N with
  | zero =>
    intro go p sc w r w' Γ S V D S' V' t p0 hN G
    have := GD_n G p0
    omega
  | succ N ih =>
    have inn := jw_none bc ih
    intro go
    cases go with
    | none => exact inn
    | some g => exact jw_some bc ih inn g
end
