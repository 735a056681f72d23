section
theorem EqS_P {S : Sx} {a a' b b' : Tm} (p : EqS S a a') (q : EqS S b b') : EqS S (tP a b) (tP a' b') := fun θ s => by rw [sb_P, sb_P, p θ s, q θ s]
theorem EqS_F {S : Sx} {a a' : Tm} {k : Int} (p : EqS S a a') : EqS S (tF k a) (tF k a') := fun θ s => by rw [sb_F, sb_F, p θ s]
theorem q_mkN {d : Nat} {g0 h : HP} {kd : Int} {mm : Nat} {tm : Int → Tm} {S : Sx} {V : Vx} {D sc F m : Int} {Γ : Int → Tm} {Q : PQ} (hd : 5 < d) (T : QT g0 h tm S V D sc Γ F m) (d0 : 0 ≤ D) (d1 : D ≤ 99) (hk : kd = 7 ∨ kd = 8) (hr : m < 1000) (fr : (V mm).1 < 7)
    (H : ∀ (r : Int) (g : HP) (tm' : Int → Tm), QT g0 g tm' S (upV V mm (kd, D)) D sc Γ F (m + 1) → XM h tm g tm' → OuM h g → 100 ≤ r → r < g 135 15 → tm' r = tV mm → Q r g) : Go d M_Mo_makes 0 [(22, 135), (0, kd), (0, -1), (0, -1), (2, 0)] [] h Q := by
  have q := T.2.2.1.2.1
  have l := T.2.2.2
  refine c_mkN (m := mm) hd T.2.2.1.1 hk (by omega) (by omega) fr (fun r g tm' M X o r0 r1 e n => ?_)
  rw [q.2.1] at M
  exact H r g tm' (QT_step T d0 M X (OuM_QB o) (fun i _ => o.1 178 i (by omega)) (o.2 62 (by omega)) (o.2 65 (by omega)) (fun _ z => z) (by omega)) X o (by omega) r1 e
theorem q_unite {d : Nat} {g0 h : HP} {nd p x y z : Int} {s u : Tm} {tm : Int → Tm} {S : Sx} {V : Vx} {D sc F m : Int} {Γ : Int → Tm} {Q : PQ} {K : Sx → Prop} (hd : 8 < d) (T : QT g0 h tm S V D sc Γ F m) (d0 : 0 ≤ D) (n0 : 0 ≤ nd) (n1 : nd < 700) (ep : g0 162 nd = p) (p0 : 0 ≤ p) (xr : 100 ≤ x ∧ x < h 135 15) (yr : 100 ≤ y ∧ y < h 135 15) (ex : EqS S (tm x) s) (ey : EqS S (tm y) u) (J : unJ p S V D s u z K)
    (H1 : K (Snd S s u) → ∀ g, QT g0 g tm (Snd S s u) V D sc Γ F m → XM h tm g tm → OuM h g → Q 0 g) (H0 : z ≠ 0 → ∀ g, QF g0 g z → Q 0 g) :
    Go d M_Mo_unitesAt 0 [(22, 135), (0, nd), (0, x), (0, y), (2, 0)] [] h Q := by
  have q := T.2.2.1.2.1
  have l := T.2.2.2
  have eq := Snd_eq ex ey
  have M := T.2.2.1.1
  unfold unJ at J
  rw [← eq] at J H1
  have st : ∀ (g : HP) (S' : Sx), RW g tm S' → ExM h g → g 135 15 = h 135 15 → (∀ θ, S' θ → S θ) → QT g0 g tm S' V D sc Γ F m ∧ XM h tm g tm ∧ OuM h g := fun g S' R X e15 sub => by
    have o := ExM_OuM X
    have xm : XM h tm g tm := ⟨ExM_ExN X, fun _ _ _ => rfl⟩
    exact ⟨QT_step T d0 (MV_ex M R (ExM_ExN X) e15) xm (OuM_QB o) (fun i _ => o.1 178 i (by omega)) (o.2 62 (by omega)) (o.2 65 (by omega)) sub (by omega), xm, o⟩
  have flt : ∀ (g : HP) (rs : Int), QT g0 g tm S V D sc Γ F m → 1 ≤ rs → rs ≤ 9 → z = 10 * p + rs → ∀ g2 : HP, g2 = up2 g 135 65 (g 162 nd) → ∀ g3 : HP, g3 = up2 g2 135 66 rs → Q 0 g3 := fun g rs T2 r1 r9 ez => by
    have e2 : g 162 nd = p := (T2.1.1 162 nd (by omega)).trans ep
    refine q_flt T2.1 T2.2.1 (by omega) r1 r9 (fun g3 F3 => H0 (by omega) g3 ?_)
    rw [ez, ← e2]
    exact F3
  refine N_Mo_unitesAt_0 ⟨by omega, c_united (by omega) M.1 M.2 (by omega) (by omega) (fun sa nf g R X e15 r er r0 _ _ => ⟨fun _ => ?_, fun z => by omega⟩) (fun ns g R X e15 e17 => ⟨fun z => by omega, fun _ => ⟨fun z => absurd rfl z, fun _ => ⟨by omega, by omega, ?_⟩⟩⟩) (fun sa fx g R X e15 e17 => ⟨fun z => by omega, fun _ => ⟨fun _ => ⟨by omega, by omega, ?_⟩, fun z => by omega⟩⟩)⟩
  · rw [q.2.1] at nf
    obtain ⟨T2, X2, o2⟩ := st g _ R X e15 (fun _ z => z.1)
    rcases J with ⟨a, _⟩ | ⟨_, a, _⟩ | ⟨_, _, kk⟩
    · exact absurd sa a
    · exact absurd a nf
    · exact H1 kk g T2 X2 o2
  · rcases J with ⟨_, ez⟩ | ⟨a, _⟩ | ⟨a, _⟩
    · exact flt g 3 (st g _ R X e15 (fun _ z => z)).1 (by omega) (by omega) ez
    · exact absurd a ns
    · exact absurd a ns
  · rw [q.2.1] at fx
    rcases J with ⟨a, _⟩ | ⟨_, _, ez⟩ | ⟨_, a, _⟩
    · exact absurd sa a
    · exact flt g 4 (st g _ R X e15 (fun _ z => z)).1 (by omega) (by omega) ez
    · exact absurd fx a.1
/-- P, found -/
theorem r_pairN {q0 g0 : HP} {A : Int} {N : Nat} (bc : BD q0 g0 A) (R : RkT q0 g0 A N) : RkP q0 g0 A (N + 1) none (fun c _ => c = 80) := by
  intro p k sc w r w' D f m z h tm S V Γ S' V' t d ty Q lf hd P nn T en es gy J H1 H0
  obtain ⟨⟨p0, hN⟩, G, ⟨w0, w1⟩, ⟨s1, d0, s3⟩, ⟨f0, f1⟩, hm⟩ := P
  have bn := bc.1.2.1
  have pn := GD_n G p0
  have nr := nx_r nn
  have f1' : f ≤ 2 * p + 1 := f1
  have gn : h 174 f = -1 := gy
  have lf' : bA (q0 (A + 1)) (q0 A 2) p = 80 := lf
  have nx1 := NX_out nn
  have op : ∀ (g : HP), QB g0 g → g 161 (600 + k) = 80 := fun g b => ((b.1 161 _ (by omega)).trans nx1.1.1).trans lf'
  have p2 : pO (bA (q0 (A + 1)) (q0 A 2) p) = 2 := by rw [lf']; rfl
  have kid : KID (fun x i => g0 x (600 + i)) (q0 (A + 2)) (nx q0 g0 A) 2 (p + 1) (g0 164 (600 + k)) sc := by
    rcases nx1.2 with l | ⟨_, K⟩ | ⟨c, _⟩ | ⟨c, _⟩
    · unfold lfO at l; omega
    · rw [p2] at K; exact K
    · omega
    · omega
  obtain ⟨r1, v1, G1, r2, v2, G2, er, ew⟩ := GD_op G (j := 1) (by omega)
  subst er ew
  have l1 := bc_w bc.1 _ _ _ _ _ (by omega) G1
  have l2 := bc_w bc.1 _ _ _ _ _ (by omega) G2
  have e1 : q0 (A + 2) (p + 1) = r1 := (GD_e G1).2
  have kr : ∀ j : Nat, j ≤ 1 → 0 ≤ nxt (fun x i => g0 x (600 + i)) j (g0 164 (600 + k)) ∧ nxt (fun x i => g0 x (600 + i)) j (g0 164 (600 + k)) < 100 := fun j j1 => nx_r (KID_nth j 2 _ _ _ (by omega) kid)
  have n1 := KID_nth 0 2 _ _ _ (by omega) kid
  have n2 := KID_nth 1 2 _ _ _ (by omega) kid
  rw [show plc (q0 (A + 2)) 1 (p + 1) = r1 from e1] at n2
  have J0 : thJ (jj q0 A) (p + 1) Γ sc none S V D z (fun S1 V1 a => thJ (jj q0 A) (q0 (A + 2) (p + 1)) Γ sc none S1 V1 D z (fun S2 V2 b => z = 0 ∧ S' = S2 ∧ V' = V2 ∧ t = tP a b)) := by
    rcases jn_out J with ⟨x, _⟩ | ⟨x, _⟩ | ⟨x, _⟩ | ⟨_, H⟩ | ⟨x, _⟩ | ⟨x, _⟩ | ⟨x, _⟩
    · unfold lfO at x; omega
    · omega
    · omega
    · exact H
    all_goals omega
  rw [e1] at J0
  have ask : ∀ (st : Nat) (h : HP) (tm : Int → Tm) (S : Sx) (V : Vx) (m : Int), st ≤ 1 → QT g0 h tm S V D sc Γ (f + 1) m → h 173 f = 600 + k → h 174 f = -1 → h 175 f = (st : Int) → (∀ (g : HP), QT g0 g tm S V D sc Γ (f + 1) m → XM h tm g tm → QX h g f sc → (g 173 f = 600 + k ∧ g 174 f = -1 ∧ g 175 f = (st : Int) + 1 ∧ g 176 f = h 135 63) → Lp d ty Q (psh g (f + 1) (600 + nxt (fun x i => g0 x (600 + i)) st (g0 164 (600 + k))) (-1))) → Lp d ty Q h := by
    intro st h tm S V m st1 T en e4 es K
    refine q_pair (by omega) T.2.2.1.2.2.1.1 T.2.2.1.2.2.1.2 f0 (by omega) en (by omega) (by omega) es (by omega) (by omega) (op h T.1) ?_
    obtain ⟨T1, X1, q1⟩ := QT_st (f := f) (v := (st : Int) + 1) T
    have fr : up2 h 175 f ((st : Int) + 1) 173 f = 600 + k ∧ up2 h 175 f ((st : Int) + 1) 174 f = -1 ∧ up2 h 175 f ((st : Int) + 1) 175 f = (st : Int) + 1 ∧ up2 h 175 f ((st : Int) + 1) 135 63 = h 135 63 := ⟨by rw [up2_nc (by decide)]; exact en, by rw [up2_nc (by decide)]; exact e4, up2_eq, up2_nc (by decide)⟩
    generalize up2 h 175 f ((st : Int) + 1) = h1 at T1 X1 q1 fr ⊢
    refine N_Mo_pair_0 ⟨by omega, fun _ => N_Mo_pair_44 ⟨fun _ => N_Mo_pair_70 ⟨fun _ => ⟨fun _ => ⟨by omega, fun g1 e1 => ?_⟩, fun z => by omega⟩, fun z => absurd fr.2.1 z⟩, fun z => absurd fr.2.1 z⟩, fun z => absurd fr.2.1 z⟩
    have o1 : ∀ a i, a < 173 ∨ 177 < a → ¬ (a = 135 ∧ (i = 62 ∨ i = 63)) → g1 a i = h1 a i := fun a i p q => by rw [e1, up2_nc (by omega)]
    have T2 := QT_pile T1 o1 (F' := f + 1) (by rw [e1, up2_nc (by decide)]; exact T1.2.2.1.2.2.1.1)
    have q2 : QX h1 g1 f sc := fun a i p => by rw [e1, up2_ext (by omega)]
    refine ⟨by omega, c_child (R := fun x i => g0 x (600 + i)) (QB_ag T2.1) nr.1 nr.2 (by omega) (fun j hj => kr j (by omega)) ⟨by omega, q_psh (F := f + 1) T2.2.2.1.2.2.1.1 (by omega) (by omega) ?_⟩⟩
    refine K g1 T2 (XM_trans X1 (XM_pile o1)) (QX_trans (Int.le_refl _) (Int.le_refl _) q1 q2) ⟨?_, ?_, ?_, ?_⟩
    · rw [e1, up2_nc (by decide)]; exact fr.1
    · rw [e1, up2_nc (by decide)]; exact fr.2.1
    · rw [e1, up2_nc (by decide)]; exact fr.2.2.1
    · rw [e1, up2_eq]; exact fr.2.2.2
  refine ask 0 h tm S V m (by omega) T en gn es (fun g T1 X1 q1 fr1 => ?_)
  refine q_th (R none) hd ⟨⟨by omega, by omega⟩, G1, ⟨w0, w1⟩, ⟨by omega, d0, by omega⟩, ⟨by omega, by show f + 1 ≤ 2 * (p + 1) + 1; omega⟩, by omega⟩ n1 T1 rfl J0 (fun S1 V1 t1 h2 tm2 J2 T2 X2 q2 gr2 ge2 sub1 => ?_) H0
  have fr2 := QX_f q2
  refine ask 1 h2 tm2 S1 V1 _ (by omega) T2 (by omega) (by omega) (by omega) (fun g3 T3 X3 q3 fr3 => ?_)
  refine q_th (R none) hd ⟨⟨by omega, by omega⟩, G2, ⟨by omega, by omega⟩, ⟨by omega, d0, by omega⟩, ⟨by omega, by show f + 1 ≤ 2 * r1 + 1; omega⟩, by omega⟩ n2 T3 rfl J2 (fun S2 V2 t2 h4 tm4 J4 T4 X4 q4 gr4 ge4 sub2 => ?_) H0
  have fr4 := QX_f q4
  obtain ⟨z0, eS, eV, et⟩ := J4
  subst eS eV
  have H1 := H1 z0
  have X04 := XM_trans X1 (XM_trans X2 (XM_trans X3 X4))
  have q04 : QX h h4 f sc := QX_trans (by omega) (Int.le_refl _) (QX_trans (Int.le_refl _) (Int.le_refl _) (QX_trans (by omega) (Int.le_refl _) q1 q2) q3) q4
  have x34 := (XM_trans X3 X4).1.2.1
  have x14 := T2.2.2.1.2.1.1
  have kt : tm4 (h2 135 63) = tm2 (h2 135 63) := (XM_trans X3 X4).2 _ (by omega) gr2.2
  refine q_pair (by omega) T4.2.2.1.2.2.1.1 T4.2.2.1.2.2.1.2 f0 (by omega) (show h4 173 f = 600 + k by omega) (by omega) (by omega) (show h4 175 f = 2 by omega) (by omega) (by omega) (op h4 T4.1) ?_
  obtain ⟨T5, X5, q5⟩ := QT_st (f := f) (v := 2 + 1) T4
  have fr5 : up2 h4 175 f (2 + 1) 174 f = -1 ∧ up2 h4 175 f (2 + 1) 176 f = h2 135 63 ∧ up2 h4 175 f (2 + 1) 135 63 = h4 135 63 ∧ up2 h4 175 f (2 + 1) 135 15 = h4 135 15 := ⟨by rw [up2_nc (by decide)]; omega, by rw [up2_nc (by decide)]; omega, up2_nc (by decide), up2_nc (by decide)⟩
  generalize up2 h4 175 f (2 + 1) = h5 at T5 X5 q5 fr5 ⊢
  refine N_Mo_pair_0 ⟨by omega, fun _ => N_Mo_pair_44 ⟨fun _ => N_Mo_pair_70 ⟨fun _ => ⟨fun z => absurd rfl z, fun _ => ⟨by omega, by omega, ?_⟩⟩, fun z => absurd fr5.1 z⟩, fun z => absurd fr5.1 z⟩, fun z => absurd fr5.1 z⟩
  rw [fr5.2.1, fr5.2.2.1]
  refine q_mkF (t := tP (tm4 (h2 135 63)) (tm4 (h4 135 63))) (by omega) T5 d0 (by omega) (by omega) (fun _ => ⟨gr2.1, by omega⟩) (fun _ => ⟨gr4.1, by omega⟩) (by omega) rfl (fun x g tm' T' X' o' x0 x1 ex => ⟨by omega, q_giv (F := f) T'.2.2.1.2.2.1.1 f0 (by omega) (q_fin T' (XM_trans X04 (XM_trans X5 X')) (QX_trans (Int.le_refl _) (Int.le_refl _) q04 (QX_trans (Int.le_refl _) (Int.le_refl _) q5 (OuM_QX o'))) ⟨x0, x1⟩ ?_ (fun θ q => sub1 θ (sub2 θ q)) (by omega) H1)⟩)
  rw [ex, et, kt]
  exact EqS_P (EqS_sub sub2 ge2) ge4
end
