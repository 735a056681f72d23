section
/-! checked against a type: found first, then united -/
theorem q_othB {e d : Nat} {g0 h h3 : HP} {p k sc D f m M z ty : Int} {tm tm2 : Int → Tm} {S S1 S' : Sx} {V1 V' : Vx} {Γ : Int → Tm} {t t1 g : Tm} {Q : PQ} (he : 10 < e) (T : QT g0 h3 tm2 S1 V1 D sc Γ (f + 1) m) (lM : m ≤ M) (d0 : 0 ≤ D) (p0 : 0 ≤ p) (k0 : 0 ≤ k) (k1 : k < 100) (f0 : 0 ≤ f) (f1 : f < 260) (ep : g0 162 (600 + k) = p) (X : XM h tm h3 tm2) (qx : QX h h3 f sc) (gr : 100 ≤ h3 135 63 ∧ h3 135 63 < h3 135 15) (ge : EqS S1 (tm2 (h3 135 63)) t1) (gy : goY h3 tm2 S1 (h3 174 f) (some g)) (sub : ∀ θ, S1 θ → S θ) (U : unJ p S1 V1 D t1 g z (fun S2 => z = 0 ∧ S' = S2 ∧ V' = V1 ∧ t = g))
    (H1 : z = 0 → ∀ h' tm', QT g0 h' tm' S' V' D sc Γ f M → XM h tm h' tm' → QX h h' f sc → (100 ≤ h' 135 63 ∧ h' 135 63 < h' 135 15) → EqS S' (tm' (h' 135 63)) t → (∀ θ, S' θ → S θ) → Lp d ty Q h') (H0 : z ≠ 0 → ∀ h', QF g0 h' z → Q 0 h') :
    Go e M_Mo_other 0 [(22, 135), (0, f), (0, 600 + k), (0, 1)] [] h3 (fun _ k => Lp d ty Q k) := by
  have gy1 : (100 ≤ h3 174 f ∧ h3 174 f < h3 135 15) ∧ EqS S1 (tm2 (h3 174 f)) g := gy
  refine N_Mo_other_0 ⟨fun _ => ⟨by omega, by omega, q_unite (p := p) (by omega) T d0 (by omega) (by omega) ep p0 gr gy1.1 ge gy1.2 U (fun kk k8 T8 X8 o8 => ⟨fun z => absurd T8.2.2.1.2.2.1.2 z, fun _ => ⟨by omega, by omega, ?_⟩⟩) (fun z0 k8 F8 => ⟨fun _ => q_end F8 (H0 z0 k8 F8), fun z => by have := F8.2.2.2.1; omega⟩)⟩, fun z => by omega⟩
  obtain ⟨z0, eS, eV, et⟩ := kk
  subst eS eV
  have x8 := X8.1.2.1
  rw [o8.1 174 f (by omega)]
  refine q_giv (F := f) T8.2.2.1.2.2.1.1 f0 (by omega) (q_fin T8 (XM_trans X X8) (QX_trans (Int.le_refl _) (Int.le_refl _) qx (OuM_QX o8)) (by omega) ?_ (fun θ q => sub θ q.1) lM (H1 z0))
  rw [et]
  exact EqS_sub (fun _ q => q.1) gy1.2
theorem r_other {q0 g0 : HP} {A : Int} {N : Nat} (bc : BD q0 g0 A) (g : Tm) (Ri : RkG q0 g0 A N none) : RkP q0 g0 A N (some g) (fun c _ => c ≠ 63 ∧ c ≠ 67 ∧ c ≠ 71 ∧ c ≠ 77 ∧ c ≠ 80) := by
  intro p k sc w r w' D f m z h tm S V Γ S' V' t d ty Q lf hd P nn T en es gy J H1 H0
  obtain ⟨⟨p0, hN⟩, G, ⟨w0, w1⟩, ⟨s1, d0, s3⟩, ⟨f0, f1⟩, hm⟩ := P
  have bn := bc.1.2.1
  have pn := GD_n G p0
  have nr := nx_r nn
  have f1' : f ≤ 2 * p := f1
  have nx1 := NX_out nn
  have ep : g0 162 (600 + k) = p := nx1.1.2.1
  have lf' : bA (q0 (A + 1)) (q0 A 2) p ≠ 63 ∧ bA (q0 (A + 1)) (q0 A 2) p ≠ 67 ∧ bA (q0 (A + 1)) (q0 A 2) p ≠ 71 ∧ bA (q0 (A + 1)) (q0 A 2) p ≠ 77 ∧ bA (q0 (A + 1)) (q0 A 2) p ≠ 80 := lf
  have op : ∀ (x : HP), QB g0 x → x 161 (600 + k) = bA (q0 (A + 1)) (q0 A 2) p := fun x b => (b.1 161 _ (by omega)).trans nx1.1.1
  have J0 : thJ (jj q0 A) p Γ sc none S V D z (fun S1 V1 t1 => unJ p S1 V1 D t1 g z (fun S2 => z = 0 ∧ S' = S2 ∧ V' = V1 ∧ t = g)) := by
    rcases jc_out J with ⟨x, _⟩ | ⟨x, _⟩ | ⟨x, _⟩ | ⟨x, _⟩ | ⟨_, H⟩
    · omega
    · omega
    · omega
    · omega
    · exact H
  have gy1 : (100 ≤ h 174 f ∧ h 174 f < h 135 15) ∧ EqS S (tm (h 174 f)) g := gy
  refine q_other (by omega) T.2.2.1.2.2.1.1 T.2.2.1.2.2.1.2 f0 (by omega) en (by omega) (by omega) es (by omega) (by omega) ⟨by rw [op h T.1]; exact lf', by omega⟩ ?_
  obtain ⟨T1, X1, q1⟩ := QT_st (f := f) (v := 0 + 1) T
  have fr1 : up2 h 175 f (0 + 1) 173 f = 600 + k ∧ up2 h 175 f (0 + 1) 174 f = h 174 f ∧ up2 h 175 f (0 + 1) 175 f = 1 := ⟨by rw [up2_nc (by decide)]; exact en, up2_nc (by decide), up2_eq⟩
  generalize up2 h 175 f (0 + 1) = h1 at T1 X1 q1 fr1 ⊢
  refine N_Mo_other_0 ⟨fun z => absurd rfl z, fun _ => ⟨by omega, q_psh (F := f + 1) T1.2.2.1.2.2.1.1 (by omega) (by omega) ?_⟩⟩
  refine q_th Ri hd ⟨⟨p0, hN⟩, G, ⟨w0, w1⟩, ⟨s1, d0, s3⟩, ⟨by omega, by show f + 1 ≤ 2 * p + 1; omega⟩, hm⟩ nn T1 rfl J0 (fun S1 V1 t1 h2 tm2 J2 T2 X2 q2 gr2 ge2 sub1 => ?_) H0
  have fr2 := QX_f q2
  have X02 := XM_trans X1 X2
  have q02 : QX h h2 f sc := QX_trans (by omega) (Int.le_refl _) q1 q2
  have gy2 : goY h2 tm2 S1 (h 174 f) (some g) := goY_mono gy X02 T.2.2.1.2.1.1 sub1
  refine q_other (by omega) T2.2.2.1.2.2.1.1 T2.2.2.1.2.2.1.2 f0 (by omega) (show h2 173 f = 600 + k by omega) (by omega) (by omega) (show h2 175 f = 1 by omega) (by omega) (by omega) ⟨by rw [op h2 T2.1]; exact lf', by omega⟩ ?_
  obtain ⟨T3, X3, q3⟩ := QT_st (f := f) (v := 1 + 1) T2
  have fr3 : up2 h2 175 f (1 + 1) 174 f = h 174 f ∧ up2 h2 175 f (1 + 1) 135 63 = h2 135 63 ∧ up2 h2 175 f (1 + 1) 135 15 = h2 135 15 := ⟨by rw [up2_nc (by decide)]; omega, up2_nc (by decide), up2_nc (by decide)⟩
  generalize up2 h2 175 f (1 + 1) = h3 at T3 X3 q3 fr3 ⊢
  exact q_othB (by omega) T3 (Int.le_refl _) d0 p0 nr.1 nr.2 f0 (by omega) ep (XM_trans X02 X3) (QX_trans (Int.le_refl _) (Int.le_refl _) q02 q3) (by omega) (by rw [fr3.2.1]; exact ge2) (by rw [fr3.1]; exact goY_mono gy2 X3 T2.2.2.1.2.1.1 (fun _ z => z)) sub1 J2 H1 H0
/-- P against a type -/
theorem r_pairC {q0 g0 : HP} {A : Int} {N : Nat} (bc : BD q0 g0 A) (g : Tm) (R : RkT q0 g0 A N) (Ri : RkG q0 g0 A (N + 1) none) : RkP q0 g0 A (N + 1) (some g) (fun c _ => c = 80) := by
  intro p k sc w r w' D f m z h tm S V Γ S' V' t d ty Q lf hd P nn T en es gy J H1 H0
  obtain ⟨⟨p0, hN⟩, G, ⟨w0, w1⟩, ⟨s1, d0, s3⟩, ⟨f0, f1⟩, hm⟩ := P
  have bn := bc.1.2.1
  have pn := GD_n G p0
  have nr := nx_r nn
  have f1' : f ≤ 2 * p := f1
  have nx1 := NX_out nn
  have ep : g0 162 (600 + k) = p := nx1.1.2.1
  have lf' : bA (q0 (A + 1)) (q0 A 2) p = 80 := lf
  have op : ∀ (x : HP), QB g0 x → x 161 (600 + k) = 80 := fun x b => ((b.1 161 _ (by omega)).trans nx1.1.1).trans lf'
  have p2 : pO (bA (q0 (A + 1)) (q0 A 2) p) = 2 := by rw [lf']; rfl
  have kid : KID (fun x i => g0 x (600 + i)) (q0 (A + 2)) (nx q0 g0 A) 2 (p + 1) (g0 164 (600 + k)) sc := by
    rcases nx1.2 with l | ⟨_, K⟩ | ⟨c, _⟩ | ⟨c, _⟩
    · unfold lfO at l; omega
    · rw [p2] at K; exact K
    · omega
    · omega
  have G0 := G
  obtain ⟨r1, v1, G1, r2, v2, G2, er, ew⟩ := GD_op G (j := 1) (by omega)
  subst er ew
  have l1 := bc_w bc.1 _ _ _ _ _ (by omega) G1
  have l2 := bc_w bc.1 _ _ _ _ _ (by omega) G2
  have e1 : q0 (A + 2) (p + 1) = r1 := (GD_e G1).2
  have kr : ∀ j : Nat, j ≤ 1 → 0 ≤ nxt (fun x i => g0 x (600 + i)) j (g0 164 (600 + k)) ∧ nxt (fun x i => g0 x (600 + i)) j (g0 164 (600 + k)) < 100 := fun j j1 => nx_r (KID_nth j 2 _ _ _ (by omega) kid)
  have n1 := KID_nth 0 2 _ _ _ (by omega) kid
  have n2 := KID_nth 1 2 _ _ _ (by omega) kid
  rw [show plc (q0 (A + 2)) 1 (p + 1) = r1 from e1] at n2
  have gy1 : (100 ≤ h 174 f ∧ h 174 f < h 135 15) ∧ EqS S (tm (h 174 f)) g := gy
  refine q_pair (by omega) T.2.2.1.2.2.1.1 T.2.2.1.2.2.1.2 f0 (by omega) en (by omega) (by omega) es (by omega) (by omega) (op h T.1) ?_
  obtain ⟨T1, X1, q1⟩ := QT_st (f := f) (v := 0 + 1) T
  have fr1 : up2 h 175 f (0 + 1) 173 f = 600 + k ∧ up2 h 175 f (0 + 1) 174 f = h 174 f ∧ up2 h 175 f (0 + 1) 175 f = 1 ∧ up2 h 175 f (0 + 1) 135 15 = h 135 15 := ⟨by rw [up2_nc (by decide)]; exact en, up2_nc (by decide), up2_eq, up2_nc (by decide)⟩
  generalize up2 h 175 f (0 + 1) = h1 at T1 X1 q1 fr1 ⊢
  have M1 := T1.2.2.1.1
  have x14 := T1.2.2.1.2.1.1
  have e14 := T.2.2.1.2.1.1
  have gy2 : goY h1 tm S (h1 174 f) (some g) := by
    rw [fr1.2.1]
    exact goY_mono gy X1 e14 (fun _ z => z)
  have gy3 : (100 ≤ h1 174 f ∧ h1 174 f < h1 135 15) ∧ EqS S (tm (h1 174 f)) g := gy2
  obtain ⟨L1, L2, L3, L4⟩ := q_lead (x := h1 174 f) M1 (by omega) gy3.1.2
  have fm := q_form (x := h1 174 f) M1 (by omega) gy3.1.2 rfl
  generalize hL : h1 142 (h1 141 (h1 174 f)) = L at L3 L4 fm
  have frm : ∀ (v : Int), QT g0 (up2 h1 176 f v) tm S V D sc Γ (f + 1) m ∧ XM h1 tm (up2 h1 176 f v) tm ∧ QX h1 (up2 h1 176 f v) f sc ∧ (up2 h1 176 f v 173 f = 600 + k ∧ up2 h1 176 f v 174 f = h1 174 f ∧ up2 h1 176 f v 175 f = 1 ∧ up2 h1 176 f v 176 f = v) := fun v => by
    have o : ∀ a i, a < 173 ∨ 177 < a → ¬ (a = 135 ∧ (i = 62 ∨ i = 63)) → up2 h1 176 f v a i = h1 a i := fun a i p q => up2_nc (by omega)
    exact ⟨QT_pile T1 o (by rw [up2_nc (by decide)]; exact T1.2.2.1.2.2.1.1), XM_pile o, fun a i p => up2_ext (by omega), by rw [up2_nc (by decide)]; omega, up2_nc (by decide), by rw [up2_nc (by decide)]; omega, up2_eq⟩
  refine N_Mo_pair_0 ⟨by omega, fun z => by omega, fun _ => ⟨fun z => absurd rfl z, fun _ => ⟨by omega, by omega, L1, L2, ?_, ?_, ?_⟩⟩⟩
  · rw [hL]; exact L4
  · -- no pair
    intro c2
    refine ⟨by omega, fun g2 eg2 => ?_⟩
    rw [hL] at c2
    have nP : ¬ ∃ a b, EqS S g (tP a b) := fun ⟨a, b, e⟩ => c2 (fm.2.1 2 a b (by omega) (EqS_trans gy3.2 e)).1
    have J0 : thJ (jj q0 A) p Γ sc none S V D z (fun S1 V1 t1 => unJ p S1 V1 D t1 g z (fun S2 => z = 0 ∧ S' = S2 ∧ V' = V1 ∧ t = g)) := by
      rcases jc_out J with ⟨x, _⟩ | ⟨_, a, b, ab, _⟩ | ⟨x, _⟩ | ⟨x, _⟩ | ⟨_, H⟩
      · omega
      · exact absurd ⟨a, b, ab⟩ nP
      · omega
      · omega
      · exact H
    obtain ⟨T2, X2, q2, fr2⟩ := frm (-1)
    rw [← eg2] at T2 X2 q2 fr2
    refine N_Mo_pair_44 ⟨fun z => by omega, fun _ => ⟨by omega, fun z => absurd fr2.2.2.2 z, fun _ => ⟨by omega, ?_⟩⟩⟩
    refine N_Mo_other_0 ⟨fun z => absurd rfl z, fun _ => ⟨by omega, q_psh (F := f + 1) T2.2.2.1.2.2.1.1 (by omega) (by omega) ?_⟩⟩
    refine q_th Ri hd ⟨⟨p0, hN⟩, G0, ⟨w0, w1⟩, ⟨s1, d0, s3⟩, ⟨by omega, by show f + 1 ≤ 2 * p + 1; omega⟩, hm⟩ nn T2 rfl J0 (fun S1 V1 t1 h3 tm3 J3 T3 X3 q3 gr3 ge3 sub1 => ?_) H0
    have fr3 := QX_f q3
    have X03 := XM_trans X1 (XM_trans X2 X3)
    have q03 : QX h h3 f sc := QX_trans (by omega) (Int.le_refl _) (QX_trans (Int.le_refl _) (Int.le_refl _) q1 q2) q3
    have gy4 : goY h3 tm3 S1 (h 174 f) (some g) := goY_mono gy X03 e14 sub1
    refine q_pair (by omega) T3.2.2.1.2.2.1.1 T3.2.2.1.2.2.1.2 f0 (by omega) (show h3 173 f = 600 + k by omega) (by omega) (by omega) (show h3 175 f = 1 by omega) (by omega) (by omega) (op h3 T3.1) ?_
    obtain ⟨T4, X4, q4⟩ := QT_st (f := f) (v := 1 + 1) T3
    have fr4 : up2 h3 175 f (1 + 1) 174 f = h 174 f ∧ up2 h3 175 f (1 + 1) 135 63 = h3 135 63 ∧ up2 h3 175 f (1 + 1) 135 15 = h3 135 15 ∧ up2 h3 175 f (1 + 1) 176 f = -1 := ⟨by rw [up2_nc (by decide)]; omega, up2_nc (by decide), up2_nc (by decide), by rw [up2_nc (by decide)]; omega⟩
    generalize up2 h3 175 f (1 + 1) = h4 at T4 X4 q4 fr4 ⊢
    refine N_Mo_pair_0 ⟨by omega, fun z => by omega, fun _ => ⟨fun _ => N_Mo_pair_44 ⟨fun z => by omega, fun _ => ⟨by omega, fun z => absurd fr4.2.2.2 z, fun _ => ⟨by omega, ?_⟩⟩⟩, fun z => by omega⟩⟩
    exact q_othB (by omega) T4 (Int.le_refl _) d0 p0 nr.1 nr.2 f0 (by omega) ep (XM_trans X03 X4) (QX_trans (Int.le_refl _) (Int.le_refl _) q03 q4) (by omega) (by rw [fr4.2.1]; exact ge3) (by rw [fr4.1]; exact goY_mono gy4 X4 T3.2.2.1.2.1.1 (fun _ z => z)) sub1 J3 H1 H0
  · -- a pair
    intro c2
    rw [hL] at c2 ⊢
    have eP := fm.1 (by omega)
    rw [c2] at eP
    have isP : ∃ a b, EqS S g (tP a b) := ⟨_, _, EqS_trans (EqS_symm gy3.2) eP⟩
    have J0 : ∃ a b, EqS S g (tP a b) ∧ thJ (jj q0 A) (p + 1) Γ sc (some a) S V D z (fun S1 V1 _ => thJ (jj q0 A) (q0 (A + 2) (p + 1)) Γ sc (some b) S1 V1 D z (fun S2 V2 _ => z = 0 ∧ S' = S2 ∧ V' = V2 ∧ t = g)) := by
      rcases jc_out J with ⟨x, _⟩ | ⟨_, H⟩ | ⟨x, _⟩ | ⟨x, _⟩ | ⟨x, _⟩
      · omega
      · exact H
      · omega
      · omega
      · exact absurd isP (x.2.2.2.2 lf')
    obtain ⟨a, b, ab, J1⟩ := J0
    rw [e1] at J1
    have ff := fm.2.1 2 a b (by omega) (EqS_trans gy3.2 ab)
    have ra := fm.2.2.1 (by omega) (by omega)
    have rb := fm.2.2.2 c2
    refine ⟨by omega, L1, L2, by omega, fun g2 eg2 => ?_⟩
    obtain ⟨T2, X2, q2, fr2⟩ := frm L
    rw [← eg2] at T2 X2 q2 fr2
    have r8 : g2 138 L = h1 138 L ∧ g2 139 L = h1 139 L ∧ g2 135 15 = h1 135 15 := by rw [eg2]; exact ⟨up2_nc (by decide), up2_nc (by decide), up2_nc (by decide)⟩
    refine N_Mo_pair_44 ⟨fun z => by omega, fun _ => ⟨by omega, fun _ => ?_, fun z => by omega⟩⟩
    refine N_Mo_pair_70 ⟨fun z => by omega, fun _ => ?_⟩
    rw [fr2.2.2.2, r8.1, r8.2.1]
    refine ⟨by omega, L4, by omega, L4, by omega, ?_⟩
    refine N_Mo_against_0 ⟨fun z => by omega, fun _ => ⟨by omega, c_child (R := fun x i => g0 x (600 + i)) (i := 0) (QB_ag T2.1) nr.1 nr.2 (by omega) (fun j hj => kr j (by omega)) ⟨fun z => absurd rfl z, fun _ => ⟨by omega, q_psh (F := f + 1) T2.2.2.1.2.2.1.1 (by omega) (by omega) ⟨fun _ => ⟨fun _ => ?_, fun z => absurd rfl z⟩, fun z => by omega⟩⟩⟩⟩⟩
    refine q_th (R (some a)) hd ⟨⟨by omega, by omega⟩, G1, ⟨w0, w1⟩, ⟨by omega, d0, by omega⟩, ⟨by omega, by show f + 1 ≤ 2 * (p + 1); omega⟩, by omega⟩ n1 T2 ⟨by omega, ff.2.2.1 (by omega)⟩ J1 (fun S1 V1 t1 h3 tm3 J3 T3 X3 q3 _ _ sub1 => ?_) H0
    have fr3 := QX_f q3
    have X03 := XM_trans X1 (XM_trans X2 X3)
    have q03 : QX h h3 f sc := QX_trans (by omega) (Int.le_refl _) (QX_trans (Int.le_refl _) (Int.le_refl _) q1 q2) q3
    have x23 := X3.1.2.1
    have row := X3.1.2.2.2.1 L (by omega)
    refine q_pair (by omega) T3.2.2.1.2.2.1.1 T3.2.2.1.2.2.1.2 f0 (by omega) (show h3 173 f = 600 + k by omega) (by omega) (by omega) (show h3 175 f = 1 by omega) (by omega) (by omega) (op h3 T3.1) ?_
    obtain ⟨T4, X4, q4⟩ := QT_st (f := f) (v := 1 + 1) T3
    have fr4 : up2 h3 175 f (1 + 1) 173 f = 600 + k ∧ up2 h3 175 f (1 + 1) 174 f = h 174 f ∧ up2 h3 175 f (1 + 1) 175 f = 2 ∧ up2 h3 175 f (1 + 1) 176 f = L ∧ up2 h3 175 f (1 + 1) 138 L = h1 138 L ∧ up2 h3 175 f (1 + 1) 139 L = h1 139 L ∧ up2 h3 175 f (1 + 1) 135 15 = h3 135 15 := ⟨by rw [up2_nc (by decide)]; omega, by rw [up2_nc (by decide)]; omega, up2_eq, by rw [up2_nc (by decide)]; omega, by rw [up2_nc (by decide), row.2.1]; exact r8.1, by rw [up2_nc (by decide), row.2.2.1]; exact r8.2.1, up2_nc (by decide)⟩
    generalize up2 h3 175 f (1 + 1) = h4 at T4 X4 q4 fr4 ⊢
    refine N_Mo_pair_0 ⟨by omega, fun z => by omega, fun _ => ⟨fun _ => N_Mo_pair_44 ⟨fun z => by omega, fun _ => ⟨by omega, fun _ => ?_, fun z => by omega⟩⟩, fun z => by omega⟩⟩
    refine N_Mo_pair_70 ⟨fun z => by omega, fun _ => ?_⟩
    rw [fr4.2.2.2.1, fr4.2.2.2.2.1, fr4.2.2.2.2.2.1]
    refine ⟨by omega, L4, by omega, L4, by omega, ?_⟩
    refine N_Mo_against_0 ⟨fun z => by omega, fun _ => ⟨by omega, c_child (R := fun x i => g0 x (600 + i)) (i := 1) (QB_ag T4.1) nr.1 nr.2 (by omega) (fun j hj => kr j (by omega)) ⟨fun _ => ⟨by omega, q_psh (F := f + 1) T4.2.2.1.2.2.1.1 (by omega) (by omega) ⟨fun _ => ⟨fun _ => ?_, fun z => absurd rfl z⟩, fun z => by omega⟩⟩, fun z => by omega⟩⟩⟩
    refine q_th (R (some b)) hd ⟨⟨by omega, by omega⟩, G2, ⟨by omega, by omega⟩, ⟨by omega, d0, by omega⟩, ⟨by omega, by show f + 1 ≤ 2 * r1; omega⟩, by omega⟩ n2 T4 ⟨by omega, ?_⟩ J3 (fun S2 V2 t2 h5 tm5 J5 T5 X5 q5 _ _ sub2 => ?_) H0
    · rw [(XM_trans X2 X3).2 (h1 139 L) (by omega) (by omega)]
      exact EqS_sub sub1 (ff.2.2.2 rfl)
    have fr5 := QX_f q5
    obtain ⟨z0, eS, eV, et⟩ := J5
    subst eS eV
    have X05 := XM_trans X03 (XM_trans X4 X5)
    have q05 : QX h h5 f sc := QX_trans (by omega) (Int.le_refl _) (QX_trans (Int.le_refl _) (Int.le_refl _) q03 q4) q5
    refine q_pair (by omega) T5.2.2.1.2.2.1.1 T5.2.2.1.2.2.1.2 f0 (by omega) (show h5 173 f = 600 + k by omega) (by omega) (by omega) (show h5 175 f = 2 by omega) (by omega) (by omega) (op h5 T5.1) ?_
    obtain ⟨T6, X6, q6⟩ := QT_st (f := f) (v := 2 + 1) T5
    have fr6 : up2 h5 175 f (2 + 1) 174 f = h 174 f ∧ up2 h5 175 f (2 + 1) 176 f = L := ⟨by rw [up2_nc (by decide)]; omega, by rw [up2_nc (by decide)]; omega⟩
    generalize up2 h5 175 f (2 + 1) = h6 at T6 X6 q6 fr6 ⊢
    refine N_Mo_pair_0 ⟨by omega, fun z => by omega, fun _ => ⟨fun _ => N_Mo_pair_44 ⟨fun z => by omega, fun _ => ⟨by omega, fun _ => ?_, fun z => by omega⟩⟩, fun z => by omega⟩⟩
    have gy6 : goY h6 tm5 S' (h 174 f) (some g) := goY_mono gy (XM_trans X05 X6) e14 (fun θ q => sub1 θ (sub2 θ q))
    refine N_Mo_pair_70 ⟨fun z => by omega, fun _ => ?_⟩
    rw [fr6.2, fr6.1]
    refine ⟨by omega, L4, by omega, L4, by omega, ?_⟩
    refine N_Mo_against_0 ⟨fun _ => ⟨fun z => by omega, fun _ => ⟨fun z => absurd z (by decide), fun _ => ⟨by omega, q_giv (F := f) T6.2.2.1.2.2.1.1 f0 (by omega) (q_fin T6 (XM_trans X05 X6) (QX_trans (Int.le_refl _) (Int.le_refl _) q05 q6) gy6.1 (by rw [et]; exact gy6.2) (fun θ q => sub1 θ (sub2 θ q)) (by omega) (H1 z0))⟩⟩⟩, fun z => by omega⟩
end
