section
theorem QT_145 {g0 h : HP} {tm : Int → Tm} {S : Sx} {V : Vx} {D sc F m lo hi : Int} {Γ : Int → Tm} {w : Int → Int} (T : QT g0 h tm S V D sc Γ F m) : QT g0 (setR h 145 lo hi w) tm S V D sc Γ F m ∧ XM h tm (setR h 145 lo hi w) tm := by
  have o : ∀ a i, a ≠ 145 → setR h 145 lo hi w a i = h a i := fun a i p => setR_ne p
  obtain ⟨tb, tl, ⟨M0, q, t62, ts⟩, tm0⟩ := T
  have lc : LcM h (setR h 145 lo hi w) := ⟨fun i p q => o _ _ (by omega), fun a i p q r => o _ _ (by omega)⟩
  refine ⟨⟨QB_trans tb ⟨fun a i p => o a i (by omega), fun i p => o _ _ (by omega)⟩, LO_trans tl (LcM_LO lc), ⟨MV_loc lc M0, ?_, ?_, fun i i0 i1 => ?_⟩, ?_⟩, XM_loc (LcM_of fun _ _ _ => rfl) lc (XM_refl h tm)⟩
  · rw [o 135 14 (by omega), o 135 18 (by omega), o 135 19 (by omega)]; exact q
  · rw [o 135 62 (by omega), o 135 65 (by omega)]; exact t62
  · rw [o 178 i (by omega), o 135 15 (by omega)]; exact ts i i0 i1
  · rw [o 135 15 (by omega)]; exact tm0
theorem r_matchN {q0 g0 : HP} {A : Int} {N : Nat} (bc : BD q0 g0 A) : RkP q0 g0 A N none (fun c _ => c = 77) := by
  intro p k sc w r w' D f m z h tm S V Γ S' V' t d ty Q lf hd P nn T en es gy J H1 H0
  obtain ⟨⟨p0, hN⟩, G, ⟨w0, w1⟩, ⟨s1, d0, s3⟩, ⟨f0, f1⟩, hm⟩ := P
  have bn := bc.1.2.1
  have pn := GD_n G p0
  have nr := nx_r nn
  have f1' : f ≤ 2 * p + 1 := f1
  have gn : h 174 f = -1 := gy
  have lf' : bA (q0 (A + 1)) (q0 A 2) p = 77 := lf
  have nx1 := NX_out nn
  have ep : g0 162 (600 + k) = p := nx1.1.2.1
  have e161 : h 161 (600 + k) = 77 := ((T.1.1 161 _ (by omega)).trans nx1.1.1).trans lf'
  have ez : z = 10 * p + 5 := by
    rcases jn_out J with ⟨x, _⟩ | ⟨x, _⟩ | ⟨x, _⟩ | ⟨x, _⟩ | ⟨x, _⟩ | ⟨x, _⟩ | ⟨_, e⟩
    · unfold lfO at x; omega
    · omega
    · omega
    · omega
    · omega
    · omega
    · exact e
  refine q_match (by omega) T.2.2.1.2.2.1.1 T.2.2.1.2.2.1.2 f0 (by omega) en (by omega) (by omega) es (by omega) (by omega) e161 ?_
  obtain ⟨T1, X1, q1⟩ := QT_st (f := f) (v := 0 + 1) T
  have e4 : up2 h 175 f (0 + 1) 174 f = -1 := by rw [up2_nc (by decide)]; exact gn
  generalize up2 h 175 f (0 + 1) = h1 at T1 X1 q1 e4 ⊢
  have e2 : h1 162 (600 + k) = p := (T1.1.1 162 _ (by omega)).trans ep
  refine N_Mo_match_0 ⟨by omega, fun z => absurd e4 z, fun _ => ⟨by omega, by omega, q_flt T1.1 T1.2.1 (by omega) (by omega) (by omega) (fun g9 F9 => ?_)⟩⟩
  rw [e2, ← ez] at F9
  exact q_end F9 (H0 (by omega) g9 F9)
theorem r_match {q0 g0 : HP} {A : Int} {N : Nat} (bc : BD q0 g0 A) (g : Tm) (R : RkT q0 g0 A N) : RkP q0 g0 A (N + 1) (some g) (fun c _ => c = 77) := by
  intro p k sc w r w' D f m z h tm S V Γ S' V' t d ty Q lf hd P nn T en es gy J H1 H0
  obtain ⟨⟨p0, hN⟩, G, ⟨w0, w1⟩, ⟨s1, d0, s3⟩, ⟨f0, f1⟩, hm⟩ := P
  have bn := bc.1.2.1
  have pn := GD_n G p0
  have nr := nx_r nn
  have f1' : f ≤ 2 * p := f1
  have lf' : bA (q0 (A + 1)) (q0 A 2) p = 77 := lf
  have nx1 := NX_out nn
  have ep : g0 162 (600 + k) = p := nx1.1.2.1
  have efc : g0 166 (600 + k) = sc := nx1.1.2.2.1
  have eo : g0 161 (600 + k) = 77 := nx1.1.1.trans lf'
  have op : ∀ (x : HP), QB g0 x → x 161 (600 + k) = 77 := fun x b => (b.1 161 _ (by omega)).trans eo
  obtain ⟨r1, u1, G1, b1, fg, gk⟩ := GD_match G p0 lf'
  have l1 := bc_w bc.1 _ _ _ _ _ (by omega) G1
  have e1 : q0 (A + 2) (p + 1) = r1 := (GD_e G1).2
  have gw := GK_w (n := q0 A 2) (p + 1) (fun q qz z => (bA_lt (b := q0 (A + 1)) (n := q0 A 2) (p := q) (by omega)).2) (by omega) (fun j j0 j1 => (cel_ok bc.1 (Or.inl rfl) j0 j1).2.2.2.2.2.1.1) (fun q sc w r w' q1 x => bc_w bc.1 q sc w r w' (by omega) x) _ _ _ _ _ _ (by omega) gk
  have KK : nx q0 g0 A (p + 1) (g0 164 (600 + k)) sc ∧ ∃ fk, KCA (fun x i => g0 x (600 + i)) (bA (q0 (A + 1)) (q0 A 2)) (q0 (A + 2)) (nPr q0) (ppr q0) (nx q0 g0 A) fk (q0 (A + 2) (p + 1) + 1) (g0 165 (600 + g0 164 (600 + k))) sc := by
    rcases nx1.2 with l | ⟨l, _⟩ | ⟨l, _⟩ | ⟨_, a, K⟩
    · unfold lfO at l; omega
    · rw [lf'] at l; exact absurd l (by decide)
    · omega
    · exact ⟨a, K⟩
  obtain ⟨n1, fk, K1⟩ := KK
  rw [e1] at K1
  have n1r := nx_r n1
  have J0 : thJ (jj q0 A) (p + 1) Γ sc none S V D z (fun S1 V1 t1 => ((¬ ∃ k a, (3 ≤ k ∧ k ≤ 6) ∧ EqS S1 t1 (tF k a) ∧ Kn S1 V1 a) ∧ z = 10 * p + 6) ∨ (∃ k a, (3 ≤ k ∧ k ≤ 6) ∧ EqS S1 t1 (tF k a) ∧ Kn S1 V1 a ∧ S' = S1 ∧ V' = V1 ∧ t = g ∧ ∃ ff, cj q0 A p Γ sc S1 V1 D g k a z ff (q0 (A + 2) (p + 1) + 1) (fun _ => False))) := by
    rcases jc_out J with ⟨x, _⟩ | ⟨x, _⟩ | ⟨x, _⟩ | ⟨_, H⟩ | ⟨x, _⟩
    · omega
    · omega
    · omega
    · exact H
    · omega
  clear J
  have gy1 : (100 ≤ h 174 f ∧ h 174 f < h 135 15) ∧ EqS S (tm (h 174 f)) g := gy
  have e14 := T.2.2.1.2.1.1
  refine q_match (by omega) T.2.2.1.2.2.1.1 T.2.2.1.2.2.1.2 f0 (by omega) en (by omega) (by omega) es (by omega) (by omega) (op h T.1) ?_
  obtain ⟨T1, X1, q1⟩ := QT_st (f := f) (v := 0 + 1) T
  have fr1 : up2 h 175 f (0 + 1) 173 f = 600 + k ∧ up2 h 175 f (0 + 1) 174 f = h 174 f ∧ up2 h 175 f (0 + 1) 175 f = 1 := ⟨by rw [up2_nc (by decide)]; exact en, up2_nc (by decide), up2_eq⟩
  generalize up2 h 175 f (0 + 1) = h1 at T1 X1 q1 fr1 ⊢
  refine N_Mo_match_0 ⟨by omega, fun _ => ⟨fun z => absurd rfl z, fun _ => ⟨by omega, c_child (R := fun x i => g0 x (600 + i)) (i := 0) (QB_ag T1.1) nr.1 nr.2 (by omega) (fun i hi => ?_) ⟨by omega, q_psh (F := f + 1) T1.2.2.1.2.2.1.1 (by omega) (by omega) ?_⟩⟩⟩, fun z => by omega⟩
  · have : i = 0 := by omega
    subst this
    exact n1r
  refine q_th (R none) hd ⟨⟨by omega, by omega⟩, G1, ⟨w0, w1⟩, ⟨by omega, d0, by omega⟩, ⟨by omega, by show f + 1 ≤ 2 * (p + 1) + 1; omega⟩, by omega⟩ n1 T1 rfl J0 (fun S1 V1 t1 h2 tm2 J2 T2 X2 q2 gr2 ge2 sub1 => ?_) H0
  replace J2 := hid_in J2
  have fr2 := QX_f q2
  have X02 := XM_trans X1 X2
  have q02 : QX h h2 f sc := QX_trans (by omega) (Int.le_refl _) q1 q2
  refine q_match (by omega) T2.2.2.1.2.2.1.1 T2.2.2.1.2.2.1.2 f0 (by omega) (show h2 173 f = 600 + k by omega) (by omega) (by omega) (show h2 175 f = 1 by omega) (by omega) (by omega) (op h2 T2.1) ?_
  obtain ⟨T3, X3, q3⟩ := QT_st (f := f) (v := 1 + 1) T2
  have fr3 : up2 h2 175 f (1 + 1) 173 f = 600 + k ∧ up2 h2 175 f (1 + 1) 174 f = h 174 f ∧ up2 h2 175 f (1 + 1) 175 f = 2 ∧ up2 h2 175 f (1 + 1) 135 63 = h2 135 63 ∧ up2 h2 175 f (1 + 1) 135 15 = h2 135 15 := ⟨by rw [up2_nc (by decide)]; omega, by rw [up2_nc (by decide)]; omega, by rw [up2_eq]; rfl, up2_nc (by decide), up2_nc (by decide)⟩
  generalize up2 h2 175 f (1 + 1) = h3 at T3 X3 q3 fr3 ⊢
  have M3 := T3.2.2.1.1
  have x14 := T3.2.2.1.2.1.1
  have gr3 : 100 ≤ h3 135 63 ∧ h3 135 63 < h3 135 15 := by omega
  have ge3 : EqS S1 (tm2 (h3 135 63)) t1 := by rw [fr3.2.2.2.1]; exact ge2
  clear ge2
  obtain ⟨L1, L2, L3, L4⟩ := q_lead (x := h3 135 63) M3 (by omega) gr3.2
  have fm := q_form (x := h3 135 63) M3 (by omega) gr3.2 rfl
  generalize hL : h3 142 (h3 141 (h3 135 63)) = L at L3 L4 fm
  have X03 := XM_trans X02 X3
  have q03 : QX h h3 f sc := QX_trans (Int.le_refl _) (Int.le_refl _) q02 q3
  -- reason 6
  have bad : (¬ ∃ k a, (3 ≤ k ∧ k ≤ 6) ∧ EqS S1 t1 (tF k a) ∧ Kn S1 V1 a) → ∀ g5, QB g0 g5 → LO g0 g5 → ∀ g3 : HP, g3 = up2 g5 135 65 (g5 162 (600 + k)) → ∀ g4 : HP, g4 = up2 g3 135 66 6 → Lp d ty Q g4 := by
    intro no g5 b5 l5
    have ez : z = 10 * p + 6 := by
      rcases hid_out J2 with ⟨_, e⟩ | ⟨k', a, kr, e, kn, _⟩
      · exact e
      · exact absurd ⟨k', a, kr, e, kn⟩ no
    have e2 : g5 162 (600 + k) = p := (b5.1 162 _ (by omega)).trans ep
    refine q_flt b5 l5 (by omega) (by omega) (by omega) (fun g9 F9 => ?_)
    rw [e2, ← ez] at F9
    exact q_end F9 (H0 (by omega) g9 F9)
  refine N_Mo_match_0 ⟨by omega, fun _ => ⟨fun _ => ⟨fun z => absurd rfl z, fun _ => ⟨by omega, L1, L2, ?_, by omega, ?_⟩⟩, fun z => by omega⟩, fun z => by omega⟩
  · rw [hL]; exact L4
  rw [hL]
  refine c_parts (by omega) ⟨fun na => ⟨by omega, by omega, bad (fun ⟨k', a, kr, e, kn⟩ => na ?_) h3 T3.1 T3.2.1⟩, fun ea => ⟨L4, by omega, ?_⟩⟩
  · have q := (fm.2.1 k' a tI (by omega) (by rw [mkT_f kr.1]; exact EqS_trans ge3 e)).1
    rw [q]
    unfold ari
    rw [if_neg (by omega), if_pos (by omega)]
  have fam : 3 ≤ h3 137 L ∧ h3 137 L ≤ 6 := by
    unfold ari at ea
    by_cases c2 : h3 137 L = 2
    · rw [if_pos c2] at ea; omega
    · rw [if_neg c2] at ea
      by_cases c3 : 3 ≤ h3 137 L ∧ h3 137 L ≤ 6
      · exact c3
      · rw [if_neg c3] at ea; omega
  have xr := fm.2.2.1 (by omega) fam.2
  have eF := fm.1 fam.2
  rw [mkT_f fam.1] at eF
  refine c_knownR (by omega) M3 xr.1 xr.2 (fun kn w5 => ⟨fun _ => ⟨by omega, fun g6 e6 => ⟨by unfold r32; omega, by omega, fun g7 e7 => ?_⟩⟩, fun z => absurd z (by decide)⟩) (fun nk w5 => ⟨fun z => absurd rfl z, fun _ => ⟨by omega, by omega, ?_⟩⟩)
  · have Jy : ∃ k a, (3 ≤ k ∧ k ≤ 6) ∧ EqS S1 t1 (tF k a) ∧ S' = S1 ∧ V' = V1 ∧ t = g ∧ ∃ ff, cj q0 A p Γ sc S1 V1 D g k a z ff (q0 (A + 2) (p + 1) + 1) (fun _ => False) := by
      rcases hid_out J2 with ⟨n, _⟩ | ⟨k', a, kr, e, _, H⟩
      · exact absurd ⟨_, _, fam, EqS_trans (EqS_symm ge3) eF, kn⟩ n
      · exact ⟨k', a, kr, e, H⟩
    clear J2 bad
    obtain ⟨kk, a, kr, ea2, eS, eV, et, ff, cc⟩ := Jy
    rw [e1] at cc
    subst eS eV et
    have q := fm.2.1 kk a tI (by omega) (by rw [mkT_f kr.1]; exact EqS_trans ge3 ea2)
    obtain ⟨T5, X5⟩ := QT_145 (lo := h3 135 14) (hi := h3 135 15) (w := w5) T3
    have o5 : ∀ a i, a ≠ 145 → setR h3 145 (h3 135 14) (h3 135 15) w5 a i = h3 a i := fun a i p => setR_ne p
    generalize setR h3 145 (h3 135 14) (h3 135 15) w5 = h5 at T5 X5 o5 e6
    have o7 : ∀ a i, ¬ (a = 176 ∧ i = f) → ¬ (a = 177 ∧ i = 4 * f) → g7 a i = h5 a i := fun a i p q => by rw [e7, up2_ext q, e6, up2_ext p]
    have op7 : ∀ a i, a < 173 ∨ 177 < a → ¬ (a = 135 ∧ (i = 62 ∨ i = 63)) → g7 a i = h5 a i := fun a i p q => o7 a i (by omega) (by omega)
    have T7 := QT_pile T5 op7 (F' := f + 1) (by rw [o7 135 62 (by omega) (by omega)]; exact T5.2.2.1.2.2.1.1)
    have X57 : XM h5 tm2 g7 tm2 := XM_pile op7
    have q37 : QX h3 g7 f sc := fun a i p => by rw [o7 a i (by omega) (by omega), o5 a i (by omega)]
    have e37 : ∀ a i, a ≠ 145 → ¬ (a = 176 ∧ i = f) → ¬ (a = 177 ∧ i = 4 * f) → g7 a i = h3 a i := fun a i p q r => by rw [o7 a i q r, o5 a i p]
    have f177 : g7 177 (4 * f) = 0 := by rw [e7, up2_eq]
    have f176 : g7 176 f = L := by rw [e7, up2_nc (by decide), e6, up2_eq]
    have e15 : g7 135 15 = h3 135 15 := e37 135 15 (by omega) (by omega) (by omega)
    refine q_mloop (S := S) (m1 := m + 4 * (r1 - (p + 1)) - 3 + 2 * (u1 - w)) (L := L) (kk := kk) (x := h3 138 L) bc R hd p0 (by omega) s1 d0 s3 f0 f1' nr.1 nr.2 ep eo efc sub1 gy e14 kr (by omega) H1 H0 fg fk ff 1 (r1 + 1) u1 0 (fun _ => False) _ g7 (by omega) gk K1 cc (fun i il => ?_) (by omega) (by omega) (by omega) (by omega) (by omega) (by omega) (by omega) sn1_0 T7 (XM_trans X03 (XM_trans X5 X57)) (QX_trans (Int.le_refl _) (Int.le_refl _) q03 q37) ⟨?_, ?_, ?_, f176, f177⟩ ⟨by omega, by omega, ?_, ?_⟩ ⟨by omega, by omega, q.2.2.1 (by omega)⟩
    · have : i = 0 := by omega
      subst this
      exact n1r
    · rw [e37 173 f (by omega) (by omega) (by omega)]; exact fr3.1
    · rw [e37 174 f (by omega) (by omega) (by omega)]; exact fr3.2.1
    · rw [e37 175 f (by omega) (by omega) (by omega), fr3.2.2.1]; rfl
    · rw [e37 137 L (by omega) (by omega) (by omega)]; exact q.1
    · exact e37 138 L (by omega) (by omega) (by omega)
  · obtain ⟨T5, X5⟩ := QT_145 (lo := h3 135 14) (hi := h3 135 15) (w := w5) T3
    refine bad (fun ⟨k', a, kr, e, kn⟩ => nk ?_) _ T5.1 T5.2.1
    have q := fm.2.1 k' a tI (by omega) (by rw [mkT_f kr.1]; exact EqS_trans ge3 e)
    exact Kn_eq (q.2.2.1 (by omega)) kn
theorem r_all {q0 g0 : HP} {A : Int} (bc : BD q0 g0 A) : ∀ N : Nat, RkT q0 g0 A N := by
  intro N
  induction N with
  | zero =>
    intro go p k sc w r w' D f m z h tm S V Γ S' V' t d ty Q hd P
    have := GD_n P.2.1 P.1.1
    have := P.1.2
    omega
  | succ N ih =>
    have Ri : RkG q0 g0 A (N + 1) none := by
      intro p k sc w r w' D f m z h tm S V Γ S' V' t d ty Q hd P nn T en es gy J H1 H0
      have kd := GD_kind P.2.1 P.1.1
      rcases kd with kd | kd | kd | kd | kd
      · exact r_leaf bc p k sc w r w' D f m z h tm S V Γ S' V' t d ty Q kd hd P nn T en es gy J H1 H0
      · have pk := pO_r (bA (q0 (A + 1)) (q0 A 2) p)
        by_cases a1 : bA (q0 (A + 1)) (q0 A 2) p = 76 ∨ bA (q0 (A + 1)) (q0 A 2) p = 82
        · exact r_side bc ih p k sc w r w' D f m z h tm S V Γ S' V' t d ty Q a1 hd P nn T en es gy J H1 H0
        · by_cases a2 : bA (q0 (A + 1)) (q0 A 2) p = 80
          · exact r_pairN bc ih p k sc w r w' D f m z h tm S V Γ S' V' t d ty Q a2 hd P nn T en es gy J H1 H0
          · by_cases a3 : bA (q0 (A + 1)) (q0 A 2) p = 63
            · exact r_if bc ih none p k sc w r w' D f m z h tm S V Γ S' V' t d ty Q a3 hd P nn T en es gy J H1 H0
            · have a4 : bA (q0 (A + 1)) (q0 A 2) p = 43 ∨ bA (q0 (A + 1)) (q0 A 2) p = 45 ∨ bA (q0 (A + 1)) (q0 A 2) p = 60 ∨ bA (q0 (A + 1)) (q0 A 2) p = 61 := by
                unfold pO at kd
                rw [if_neg a1] at kd
                by_cases b1 : bA (q0 (A + 1)) (q0 A 2) p = 43 ∨ bA (q0 (A + 1)) (q0 A 2) p = 45 ∨ bA (q0 (A + 1)) (q0 A 2) p = 60 ∨ bA (q0 (A + 1)) (q0 A 2) p = 61
                · exact b1
                · rw [if_neg (by omega), if_neg a3] at kd; omega
              exact r_arith bc ih p k sc w r w' D f m z h tm S V Γ S' V' t d ty Q a4 hd P nn T en es gy J H1 H0
      · exact r_sign bc ih none p k sc w r w' D f m z h tm S V Γ S' V' t d ty Q (Or.inl kd) hd P nn T en es gy J H1 H0
      · exact r_sign bc ih none p k sc w r w' D f m z h tm S V Γ S' V' t d ty Q (Or.inr kd) hd P nn T en es gy J H1 H0
      · exact r_matchN bc p k sc w r w' D f m z h tm S V Γ S' V' t d ty Q kd hd P nn T en es gy J H1 H0
    intro go
    cases go with
    | none => exact Ri
    | some g =>
      intro p k sc w r w' D f m z h tm S V Γ S' V' t d ty Q hd P nn T en es gy J H1 H0
      by_cases a1 : bA (q0 (A + 1)) (q0 A 2) p = 63
      · exact r_if bc ih (some g) p k sc w r w' D f m z h tm S V Γ S' V' t d ty Q a1 hd P nn T en es gy J H1 H0
      · by_cases a2 : bA (q0 (A + 1)) (q0 A 2) p = 67 ∨ bA (q0 (A + 1)) (q0 A 2) p = 71
        · exact r_sign bc ih (some g) p k sc w r w' D f m z h tm S V Γ S' V' t d ty Q a2 hd P nn T en es gy J H1 H0
        · by_cases a3 : bA (q0 (A + 1)) (q0 A 2) p = 77
          · exact r_match bc g ih p k sc w r w' D f m z h tm S V Γ S' V' t d ty Q a3 hd P nn T en es gy J H1 H0
          · by_cases a4 : bA (q0 (A + 1)) (q0 A 2) p = 80
            · exact r_pairC bc g ih Ri p k sc w r w' D f m z h tm S V Γ S' V' t d ty Q a4 hd P nn T en es gy J H1 H0
            · exact r_other bc g Ri p k sc w r w' D f m z h tm S V Γ S' V' t d ty Q ⟨a1, by omega, by omega, a3, a4⟩ hd P nn T en es gy J H1 H0
end
