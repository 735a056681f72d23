section
theorem fB_le (p : Int) (go : Option Tm) : 2 * p ≤ fB p go ∧ fB p go ≤ 2 * p + 1 := by
  cases go with
  | none => exact ⟨by show 2 * p ≤ 2 * p + 1; omega, Int.le_refl _⟩
  | some g => exact ⟨Int.le_refl _, by show 2 * p ≤ 2 * p + 1; omega⟩
theorem goY_mono {h h' : HP} {tm tm' : Int → Tm} {S S' : Sx} {y : Int} {go : Option Tm} (H : goY h tm S y go) (X : XM h tm h' tm') (e : h 135 14 = 100) (sub : ∀ θ, S' θ → S θ) : goY h' tm' S' y go := by
  cases go with
  | none => exact H
  | some g =>
    have H1 : (100 ≤ y ∧ y < h 135 15) ∧ EqS S (tm y) g := H
    have x := X.1.2.1
    refine ⟨by omega, ?_⟩
    rw [X.2 y (by omega) H1.1.2]
    exact EqS_sub sub H1.2
theorem jn_out {q0 : HP} {A p : Int} {Γ : Int → Tm} {sc : Int} {S : Sx} {V : Vx} {D r : Int} {S' : Sx} {V' : Vx} {t : Tm} (J : jj q0 A p Γ sc none S V D r S' V' t) : JN (bA (q0 (A + 1)) (q0 A 2)) (q0 (A + 2)) (sbr q0) (llr q0) (ppr q0) (fun j => q0 (41 + 2 * j) 4) (jj q0 A) p Γ sc S V D r S' V' t := JJ_out J
theorem jc_out {q0 : HP} {A p : Int} {Γ : Int → Tm} {sc : Int} {g : Tm} {S : Sx} {V : Vx} {D r : Int} {S' : Sx} {V' : Vx} {t : Tm} (J : jj q0 A p Γ sc (some g) S V D r S' V' t) : JC (bA (q0 (A + 1)) (q0 A 2)) (q0 (A + 2)) (q0 36 4) (sbr q0) (llr q0) (ppr q0) (fun j => q0 (41 + 2 * j) 4) (jj q0 A) p Γ sc g S V D r S' V' t := JJ_out J
/-- ? in both ways -/
theorem j_if {q0 : HP} {A p : Int} {Γ : Int → Tm} {sc : Int} {go : Option Tm} {S : Sx} {V : Vx} {D z : Int} {S' : Sx} {V' : Vx} {t : Tm} (c : bA (q0 (A + 1)) (q0 A 2) p = 63) (J : jj q0 A p Γ sc go S V D z S' V' t) : thJ (jj q0 A) (p + 1) Γ sc (some tB) S V D z (fun S1 V1 _ => thJ (jj q0 A) (q0 (A + 2) (p + 1)) Γ sc go S1 V1 D z (fun S2 V2 t2 => thJ (jj q0 A) (q0 (A + 2) (q0 (A + 2) (p + 1))) Γ sc (some (go.getD t2)) S2 V2 D z (fun S3 V3 _ => z = 0 ∧ S' = S3 ∧ V' = V3 ∧ t = go.getD t2))) := by
  cases go with
  | none =>
    rcases jn_out J with ⟨x, _⟩ | ⟨x, _⟩ | ⟨_, H⟩ | ⟨x, _⟩ | ⟨x, _⟩ | ⟨x, _⟩ | ⟨x, _⟩
    · unfold lfO at x; omega
    · omega
    · exact H
    all_goals omega
  | some g =>
    rcases jc_out J with ⟨_, H⟩ | ⟨x, _⟩ | ⟨x, _⟩ | ⟨x, _⟩ | ⟨x, _⟩
    · exact H
    all_goals omega
theorem r_if {q0 g0 : HP} {A : Int} {N : Nat} (bc : BD q0 g0 A) (R : RkT q0 g0 A N) (go : Option Tm) : RkP q0 g0 A (N + 1) go (fun c _ => c = 63) := by
  intro p k sc w r w' D f m z h tm S V Γ S' V' t d ty Q lf hd P nn T en es gy J H1 H0
  obtain ⟨⟨p0, hN⟩, G, ⟨w0, w1⟩, ⟨s1, d0, s3⟩, ⟨f0, f1⟩, hm⟩ := P
  have bn := bc.1.2.1
  have pn := GD_n G p0
  have nr := nx_r nn
  have f1' : f ≤ 2 * p + 1 := Int.le_trans f1 (fB_le p go).2
  have lf' : bA (q0 (A + 1)) (q0 A 2) p = 63 := lf
  have nx1 := NX_out nn
  have op : ∀ (g : HP), QB g0 g → g 161 (600 + k) = 63 := fun g b => ((b.1 161 _ (by omega)).trans nx1.1.1).trans lf'
  have p2 : pO (bA (q0 (A + 1)) (q0 A 2) p) = 3 := by rw [lf']; rfl
  have kid : KID (fun x i => g0 x (600 + i)) (q0 (A + 2)) (nx q0 g0 A) 3 (p + 1) (g0 164 (600 + k)) sc := by
    rcases nx1.2 with l | ⟨_, K⟩ | ⟨c, _⟩ | ⟨c, _⟩
    · unfold lfO at l; omega
    · rw [p2] at K; exact K
    · omega
    · omega
  obtain ⟨r1, v1, G1, r2, v2, G2, r3, v3, G3, er, ew⟩ := GD_op G (j := 2) (by omega)
  subst er ew
  have l1 := bc_w bc.1 _ _ _ _ _ (by omega) G1
  have l2 := bc_w bc.1 _ _ _ _ _ (by omega) G2
  have l3 := bc_w bc.1 _ _ _ _ _ (by omega) G3
  have e1 : q0 (A + 2) (p + 1) = r1 := (GD_e G1).2
  have e2 : q0 (A + 2) r1 = r2 := (GD_e G2).2
  have kr : ∀ j : Nat, j ≤ 2 → 0 ≤ nxt (fun x i => g0 x (600 + i)) j (g0 164 (600 + k)) ∧ nxt (fun x i => g0 x (600 + i)) j (g0 164 (600 + k)) < 100 := fun j j1 => nx_r (KID_nth j 3 _ _ _ (by omega) kid)
  have n1 := KID_nth 0 3 _ _ _ (by omega) kid
  have n2 := KID_nth 1 3 _ _ _ (by omega) kid
  have n3 := KID_nth 2 3 _ _ _ (by omega) kid
  rw [show plc (q0 (A + 2)) 1 (p + 1) = r1 from e1] at n2
  rw [show plc (q0 (A + 2)) 2 (p + 1) = r2 by rw [plc_succ, show plc (q0 (A + 2)) 1 (p + 1) = r1 from e1, e2]] at n3
  have J0 := j_if lf' J
  rw [e1, e2] at J0
  -- the first part
  refine q_choice (by omega) T.2.2.1.2.2.1.1 T.2.2.1.2.2.1.2 f0 (by omega) en (by omega) (by omega) es (by omega) (by omega) (op h T.1) ?_
  obtain ⟨T1, X1, q1⟩ := QT_st (f := f) (v := 0 + 1) T
  have fr1 : up2 h 175 f (0 + 1) 173 f = 600 + k ∧ up2 h 175 f (0 + 1) 174 f = h 174 f ∧ up2 h 175 f (0 + 1) 175 f = 1 := ⟨by rw [up2_nc (by decide)]; exact en, up2_nc (by decide), up2_eq⟩
  generalize up2 h 175 f (0 + 1) = h1 at T1 X1 q1 fr1 ⊢
  refine N_Mo_choice_0 ⟨by omega, fun _ => ?_, fun z => by omega⟩
  refine N_Mo_choice_29 ⟨fun z => absurd rfl z, fun _ => ⟨by omega, c_child (R := fun x i => g0 x (600 + i)) (i := 0) (QB_ag T1.1) nr.1 nr.2 (by omega) (fun j hj => kr j (by omega)) ⟨by omega, q_tru (by omega) T1 d0 (by omega) (by omega) (fun y g2 tm2 T2 X2 o2 y0 y1 ye => ⟨by omega, q_psh (F := f + 1) T2.2.2.1.2.2.1.1 (by omega) (by omega) ?_⟩)⟩⟩⟩
  have q2 : QX h1 g2 (f + 1) sc := OuM_QX o2
  have fr2 := QX_f q2
  refine q_th (R (some tB)) hd ⟨⟨by omega, by omega⟩, G1, ⟨w0, w1⟩, ⟨by omega, d0, by omega⟩, ⟨by omega, by show f + 1 ≤ 2 * (p + 1); omega⟩, by omega⟩ n1 T2 ⟨⟨y0, y1⟩, by rw [ye]; exact EqS_rfl⟩ J0 (fun S1 V1 t1 h3 tm3 J3 T3 X3 q3 _ _ sub1 => ?_) H0
  have fr3 := QX_f q3
  have X03 := XM_trans X1 (XM_trans X2 X3)
  have q03 : QX h h3 f sc := QX_trans (by omega) (Int.le_refl _) (QX_trans (by omega) (Int.le_refl _) q1 q2) q3
  -- the second part
  have e14 := T.2.2.1.2.1.1
  have gy3 : goY h3 tm3 S1 (h3 174 f) go := by
    rw [show h3 174 f = h 174 f by omega]
    exact goY_mono gy X03 e14 sub1
  refine q_choice (by omega) T3.2.2.1.2.2.1.1 T3.2.2.1.2.2.1.2 f0 (by omega) (show h3 173 f = 600 + k by omega) (by omega) (by omega) (show h3 175 f = 1 by omega) (by omega) (by omega) (op h3 T3.1) ?_
  obtain ⟨T4, X4, q4⟩ := QT_st (f := f) (v := 1 + 1) T3
  have fr4 : up2 h3 175 f (1 + 1) 173 f = 600 + k ∧ up2 h3 175 f (1 + 1) 174 f = h3 174 f ∧ up2 h3 175 f (1 + 1) 175 f = 2 := ⟨by rw [up2_nc (by decide)]; omega, up2_nc (by decide), up2_eq⟩
  generalize up2 h3 175 f (1 + 1) = h4 at T4 X4 q4 fr4 ⊢
  refine N_Mo_choice_0 ⟨by omega, fun _ => ?_, fun z => by omega⟩
  refine N_Mo_choice_29 ⟨fun _ => ⟨fun z => absurd rfl z, fun _ => ⟨by omega, c_child (R := fun x i => g0 x (600 + i)) (i := 1) (QB_ag T4.1) nr.1 nr.2 (by omega) (fun j hj => kr j (by omega)) ⟨by omega, q_psh (F := f + 1) T4.2.2.1.2.2.1.1 (by omega) (by omega) ?_⟩⟩⟩, fun z => by omega⟩
  have gy4 : goY h4 tm3 S1 (h4 174 f) go := by
    rw [fr4.2.1]
    exact goY_mono gy3 X4 T3.2.2.1.2.1.1 (fun _ z => z)
  refine q_th (R go) hd ⟨⟨by omega, by omega⟩, G2, ⟨by omega, by omega⟩, ⟨by omega, d0, by omega⟩, ⟨by omega, Int.le_trans (by omega) (fB_le r1 go).1⟩, by omega⟩ n2 T4 gy4 J3 (fun S2 V2 t2 h5 tm5 J5 T5 X5 q5 gr5 ge5 sub2 => ?_) H0
  have fr5 := QX_f q5
  have X05 := XM_trans X03 (XM_trans X4 X5)
  have q05 : QX h h5 f sc := QX_trans (by omega) (Int.le_refl _) (QX_trans (Int.le_refl _) (Int.le_refl _) q03 q4) q5
  have sub12 : ∀ θ, S2 θ → S θ := fun θ q => sub1 θ (sub2 θ q)
  -- the third part
  refine q_choice (by omega) T5.2.2.1.2.2.1.1 T5.2.2.1.2.2.1.2 f0 (by omega) (show h5 173 f = 600 + k by omega) (by omega) (by omega) (show h5 175 f = 2 by omega) (by omega) (by omega) (op h5 T5.1) ?_
  obtain ⟨T6, X6, q6⟩ := QT_st (f := f) (v := 2 + 1) T5
  have fr6 : up2 h5 175 f (2 + 1) 173 f = 600 + k ∧ up2 h5 175 f (2 + 1) 174 f = h 174 f ∧ up2 h5 175 f (2 + 1) 175 f = 3 ∧ up2 h5 175 f (2 + 1) 135 63 = h5 135 63 ∧ up2 h5 175 f (2 + 1) 135 15 = h5 135 15 := ⟨by rw [up2_nc (by decide)]; omega, by rw [up2_nc (by decide)]; omega, up2_eq, up2_nc (by decide), up2_nc (by decide)⟩
  generalize up2 h5 175 f (2 + 1) = h6 at T6 X6 q6 fr6 ⊢
  -- what is left, for a kept type
  have rest : ∀ (h7 : HP) (y : Int), QT g0 h7 tm5 S2 V2 D sc Γ (f + 1) (m + 1 + 4 * (r1 - (p + 1)) - 3 + 2 * (v1 - w) + 4 * (r2 - r1) - 3 + 2 * (v2 - v1)) → XM h6 tm5 h7 tm5 → QX h6 h7 f sc → h7 173 f = 600 + k → h7 174 f = h 174 f → h7 175 f = 3 → (100 ≤ y ∧ y < h7 135 15) → EqS S2 (tm5 y) (go.getD t2) → (∀ h8 : HP, QX h7 h8 (f + 1) sc → (h8 174 f ≠ -1 → h8 174 f = y) ∧ (h8 174 f = -1 → h8 176 f = y)) → Lp d ty Q (psh h7 (f + 1) (600 + nxt (fun x i => g0 x (600 + i)) 2 (g0 164 (600 + k))) y) := by
    intro h7 y T7 X7 q7 a7 b7 c7 yr ye kept
    refine q_th (R (some (go.getD t2))) hd ⟨⟨by omega, by omega⟩, G3, ⟨by omega, by omega⟩, ⟨by omega, d0, by omega⟩, ⟨by omega, by show f + 1 ≤ 2 * r2; omega⟩, by omega⟩ n3 T7 ⟨yr, ye⟩ J5 (fun S3 V3 t3 h8 tm8 J8 T8 X8 q8 _ _ sub3 => ?_) H0
    obtain ⟨z0, eS, eV, et⟩ := J8
    subst eS eV
    have H1 := H1 z0
    have fr8 := QX_f q8
    have X08 := XM_trans X05 (XM_trans X6 (XM_trans X7 X8))
    have q08 : QX h h8 f sc := QX_trans (by omega) (Int.le_refl _) (QX_trans (Int.le_refl _) (Int.le_refl _) (QX_trans (Int.le_refl _) (Int.le_refl _) q05 q6) q7) q8
    have x8 := X8.1.2.1
    have kp := kept h8 q8
    have ye8 : EqS S' (tm8 y) t := by
      have := T7.2.2.1.2.1.1
      rw [X8.2 y (by omega) yr.2, et]
      exact EqS_sub sub3 ye
    refine q_choice (by omega) T8.2.2.1.2.2.1.1 T8.2.2.1.2.2.1.2 f0 (by omega) (show h8 173 f = 600 + k by omega) (by omega) (by omega) (show h8 175 f = 3 by omega) (by omega) (by omega) (op h8 T8.1) ?_
    obtain ⟨T9, X9, q9⟩ := QT_st (f := f) (v := 3 + 1) T8
    have fr9 : up2 h8 175 f (3 + 1) 174 f = h8 174 f ∧ up2 h8 175 f (3 + 1) 176 f = h8 176 f ∧ up2 h8 175 f (3 + 1) 135 15 = h8 135 15 := ⟨up2_nc (by decide), up2_nc (by decide), up2_nc (by decide)⟩
    generalize up2 h8 175 f (3 + 1) = h9 at T9 X9 q9 fr9 ⊢
    have fin : Lp d ty Q (giv h9 f y) := q_fin T9 (XM_trans X08 X9) (QX_trans (Int.le_refl _) (Int.le_refl _) q08 q9) ⟨yr.1, by omega⟩ ye8 (fun θ q => sub12 θ (sub3 θ q)) (by omega) H1
    refine N_Mo_choice_0 ⟨by omega, fun _ => ?_, fun z => by omega⟩
    rw [fr9.1]
    refine N_Mo_choice_29 ⟨fun _ => ⟨fun _ => ⟨fun _ => ⟨fun c => ⟨by omega, ?_⟩, fun c => ⟨by omega, by omega, ?_⟩⟩, fun z => by omega⟩, fun z => by omega⟩, fun z => by omega⟩
    · rw [kp.1 c]
      exact q_giv (F := f) T9.2.2.1.2.2.1.1 f0 (by omega) fin
    · rw [fr9.2.1, kp.2 c]
      exact q_giv (F := f) T9.2.2.1.2.2.1.1 f0 (by omega) fin
  refine N_Mo_choice_0 ⟨by omega, fun z => absurd rfl z, fun _ => ⟨fun c => ?_, fun c => ⟨by omega, fun g1 e1 => ?_⟩⟩⟩
  · rw [fr6.2.1] at c ⊢
    refine N_Mo_choice_29 ⟨fun _ => ⟨fun _ => ⟨fun z => absurd rfl z, fun _ => ⟨by omega, c_child (R := fun x i => g0 x (600 + i)) (i := 2) (QB_ag T6.1) nr.1 nr.2 (by omega) (fun j hj => kr j (by omega)) ⟨fun _ => ⟨by omega, q_psh (F := f + 1) T6.2.2.1.2.2.1.1 (by omega) (by omega) ?_⟩, fun z => absurd z c⟩⟩⟩, fun z => by omega⟩, fun z => by omega⟩
    cases go with
    | none => exact absurd gy c
    | some g =>
      have gy6 : goY h6 tm5 S2 (h 174 f) (some g) := goY_mono gy (XM_trans X05 X6) e14 sub12
      refine rest h6 (h 174 f) T6 (XM_refl _ _) (QX_refl _ _ _) fr6.1 fr6.2.1 fr6.2.2.1 gy6.1 gy6.2 (fun h8 q8 => ?_)
      have := QX_f q8
      exact ⟨fun _ => by omega, fun z => by omega⟩
  · rw [fr6.2.1] at c ⊢
    have o1 : ∀ a i, a < 173 ∨ 177 < a → ¬ (a = 135 ∧ (i = 62 ∨ i = 63)) → g1 a i = h6 a i := fun a i p q => by rw [e1, up2_nc (by omega)]
    have T7 := QT_pile T6 o1 (F' := f + 1) (by rw [e1, up2_nc (by decide)]; exact T6.2.2.1.2.2.1.1)
    have q7 : QX h6 g1 f sc := fun a i p => by rw [e1, up2_ext (by omega)]
    have k1 : g1 176 f = h5 135 63 := by rw [e1, up2_eq]; exact fr6.2.2.2.1
    refine N_Mo_choice_29 ⟨fun _ => ⟨fun _ => ⟨fun z => absurd rfl z, fun _ => ⟨by omega, c_child (R := fun x i => g0 x (600 + i)) (i := 2) (QB_ag T7.1) nr.1 nr.2 (by omega) (fun j hj => kr j (by omega)) ⟨fun z => absurd c z, fun _ => ⟨by omega, by omega, ?_⟩⟩⟩⟩, fun z => by omega⟩, fun z => by omega⟩
    rw [k1]
    refine q_psh (F := f + 1) T7.2.2.1.2.2.1.1 (by omega) (by omega) ?_
    cases go with
    | none =>
      refine rest g1 (h5 135 63) T7 (XM_pile o1) q7 (by rw [e1, up2_nc (by decide)]; exact fr6.1) (by rw [e1, up2_nc (by decide)]; exact fr6.2.1) (by rw [e1, up2_nc (by decide)]; exact fr6.2.2.1) ⟨gr5.1, by rw [o1 135 15 (by omega) (by omega)]; omega⟩ ge5 (fun h8 q8 => ?_)
      have u := QX_f q8
      have v : g1 174 f = h 174 f := by rw [e1, up2_nc (by decide)]; exact fr6.2.1
      exact ⟨fun z => by omega, fun z => by omega⟩
    | some g =>
      have : (100 ≤ h 174 f ∧ h 174 f < h 135 15) := gy.1
      omega
end
