section
/-- hidden from the arithmetic -/
def HidP (p : Prop) : Prop := p
theorem hid_in {p : Prop} (h : p) : HidP p := h
theorem hid_out {p : Prop} (h : HidP p) : p := h
/-- L and R -/
theorem r_side {q0 g0 : HP} {A : Int} {N : Nat} (bc : BD q0 g0 A) (R : RkT q0 g0 A N) : RkP q0 g0 A (N + 1) none (fun c _ => c = 76 ∨ c = 82) := by
  intro p k sc w r w' D f m z h tm S V Γ S' V' t d ty Q lf hd P nn T en es gy J H1 H0
  obtain ⟨⟨p0, hN⟩, G, ⟨w0, w1⟩, ⟨s1, d0, s3⟩, ⟨f0, f1⟩, hm⟩ := P
  have bn := bc.1.2.1
  have pn := GD_n G p0
  have nr := nx_r nn
  have f1' : f ≤ 2 * p + 1 := f1
  have gn : h 174 f = -1 := gy
  have nx1 := NX_out nn
  have J' := jn_out J
  have lf' : bA (q0 (A + 1)) (q0 A 2) p = 76 ∨ bA (q0 (A + 1)) (q0 A 2) p = 82 := lf
  have op : ∀ (g : HP), QB g0 g → g 161 (600 + k) = bA (q0 (A + 1)) (q0 A 2) p := fun g b => (b.1 161 _ (by omega)).trans nx1.1.1
  have ep : g0 162 (600 + k) = p := nx1.1.2.1
  have p2 : pO (bA (q0 (A + 1)) (q0 A 2) p) = 1 := by
    unfold pO
    rw [if_pos (by omega)]
  have kid : KID (fun x i => g0 x (600 + i)) (q0 (A + 2)) (nx q0 g0 A) 1 (p + 1) (g0 164 (600 + k)) sc := by
    rcases nx1.2 with l | ⟨_, K⟩ | ⟨c, _⟩ | ⟨c, _⟩
    · unfold lfO at l; omega
    · rw [p2] at K; exact K
    · omega
    · omega
  obtain ⟨r1, v1, G1, er, ew⟩ := GD_op G (j := 0) (by omega)
  subst er ew
  have l1 := bc_w bc.1 _ _ _ _ _ (by omega) G1
  have kr : ∀ j : Nat, j ≤ 0 → 0 ≤ nxt (fun x i => g0 x (600 + i)) j (g0 164 (600 + k)) ∧ nxt (fun x i => g0 x (600 + i)) j (g0 164 (600 + k)) < 100 := fun j j1 => nx_r (KID_nth j 1 _ _ _ (by omega) kid)
  have n1 := KID_nth 0 1 _ _ _ (by omega) kid
  generalize hc : bA (q0 (A + 1)) (q0 A 2) p = c at lf' op J'
  have J0 : thJ (jj q0 A) (p + 1) Γ sc none S V D z (fun S1 V1 t1 => (∃ a b, EqS S1 t1 (tP a b) ∧ z = 0 ∧ S' = S1 ∧ V' = V1 ∧ t = (if c = 76 then a else b)) ∨ ((¬ ∃ a b, EqS S1 t1 (tP a b)) ∧ ∃ m1 m2, m1 ≠ m2 ∧ (V1 m1).1 < 7 ∧ (V1 m2).1 < 7 ∧ unJ p S1 (upV (upV V1 m1 (8, D)) m2 (8, D)) D t1 (tP (tV m1) (tV m2)) z (fun S2 => z = 0 ∧ S' = S2 ∧ V' = upV (upV V1 m1 (8, D)) m2 (8, D) ∧ ∃ a b, EqS S2 t1 (tP a b) ∧ t = (if c = 76 then a else b)))) := by
    rcases J' with ⟨x, _⟩ | ⟨x, _⟩ | ⟨x, _⟩ | ⟨x, _⟩ | ⟨_, H⟩ | ⟨x, _⟩ | ⟨x, _⟩
    · rw [hc] at x; unfold lfO at x; omega
    · rw [hc] at x; omega
    · rw [hc] at x; omega
    · rw [hc] at x; omega
    · rw [hc] at H; exact H
    · rw [hc] at x; omega
    · rw [hc] at x; omega
  clear J' lf
  refine q_finds (by omega) T.2.2.1.2.2.1.1 T.2.2.1.2.2.1.2 f0 (by omega) en (by omega) (by omega) es (by omega) (by omega) ⟨by rw [op h T.1]; omega, gn⟩ ?_
  obtain ⟨T1, X1, q1⟩ := QT_st (f := f) (v := 0 + 1) T
  have fr1 : up2 h 175 f (0 + 1) 173 f = 600 + k ∧ up2 h 175 f (0 + 1) 174 f = -1 ∧ up2 h 175 f (0 + 1) 175 f = 1 := ⟨by rw [up2_nc (by decide)]; exact en, by rw [up2_nc (by decide)]; exact gn, up2_eq⟩
  generalize up2 h 175 f (0 + 1) = h1 at T1 X1 q1 fr1 ⊢
  -- to the side
  have go : ∀ (g : HP) (st : Int) (W : PQ), QB g0 g → Go (d - 1 - 1 - 1) M_Mo_side 0 [(22, 135), (0, 600 + k), (0, st), (2, 0), (2, 0)] [] g (fun _ k1 => W 0 k1) → Go (d - 1 - 1) M_Mo_finds 0 [(22, 135), (0, 600 + k), (0, st), (2, 0)] [] g W := by
    intro g st W b H
    have H' : ∀ v3, Go (d - 1 - 1) M_Mo_finds 91 [(22, 135), (0, 600 + k), (0, st), (0, v3)] [] g W := fun v3 => N_Mo_finds_91 ⟨by omega, H⟩
    refine N_Mo_finds_0 ?_
    rw [op g b]
    refine ⟨by omega, by omega, c_in (fun a b => by omega) (fun _ => ⟨fun _ => ⟨fun z => by omega, fun _ => ⟨fun _ => ⟨by omega, c_in (fun a b => by omega) (fun _ => ⟨fun _ => ⟨fun _ => H' _, fun _ => ⟨fun z => by omega, fun _ => H' _⟩⟩, fun z => absurd rfl z⟩)⟩, fun z => by omega⟩⟩, fun z => absurd rfl z⟩)⟩
  refine go h1 0 _ T1.1 (N_Mo_side_0 ⟨fun z => absurd rfl z, fun _ => ⟨by omega, c_child (R := fun x i => g0 x (600 + i)) (i := 0) (QB_ag T1.1) nr.1 nr.2 (by omega) (fun j hj => kr j (by omega)) ⟨by omega, q_psh (F := f + 1) T1.2.2.1.2.2.1.1 (by omega) (by omega) ?_⟩⟩⟩)
  refine q_th (R none) hd ⟨⟨by omega, by omega⟩, G1, ⟨w0, w1⟩, ⟨by omega, d0, by omega⟩, ⟨by omega, by show f + 1 ≤ 2 * (p + 1) + 1; omega⟩, by omega⟩ n1 T1 rfl J0 (fun S1 V1 t1 h2 tm2 J2 T2 X2 q2 gr2 ge2 sub1 => ?_) H0
  replace J2 := hid_in J2
  have fr2 := QX_f q2
  have X02 := XM_trans X1 X2
  have q02 : QX h h2 f sc := QX_trans (by omega) (Int.le_refl _) q1 q2
  refine q_finds (by omega) T2.2.2.1.2.2.1.1 T2.2.2.1.2.2.1.2 f0 (by omega) (show h2 173 f = 600 + k by omega) (by omega) (by omega) (show h2 175 f = 1 by omega) (by omega) (by omega) ⟨by rw [op h2 T2.1]; omega, by omega⟩ ?_
  obtain ⟨T3, X3, q3⟩ := QT_st (f := f) (v := 1 + 1) T2
  have fr3 : up2 h2 175 f (1 + 1) 135 63 = h2 135 63 ∧ up2 h2 175 f (1 + 1) 135 15 = h2 135 15 := ⟨up2_nc (by decide), up2_nc (by decide)⟩
  generalize up2 h2 175 f (1 + 1) = h3 at T3 X3 q3 fr3 ⊢
  refine go h3 1 _ T3.1 ?_
  have M3 := T3.2.2.1.1
  have x14 := T3.2.2.1.2.1.1
  have gr3 : 100 ≤ h3 135 63 ∧ h3 135 63 < h3 135 15 := by omega
  have ge3 : EqS S1 (tm2 (h3 135 63)) t1 := by rw [fr3.1]; exact ge2
  clear ge2
  obtain ⟨L1, L2, L3, L4⟩ := q_lead (x := h3 135 63) M3 (by omega) gr3.2
  have fm := q_form (x := h3 135 63) M3 (by omega) gr3.2 rfl
  -- the end, from a lead that is a pair
  have fin : ∀ (g : HP) (tm' : Int → Tm) (M : Int) (a b : Tm), QT g0 g tm' S' V' D sc Γ (f + 1) M → M ≤ m + 4 * (r - p) - 3 + 2 * (w' - w) → XM h3 tm2 g tm' → OuM h3 g → z = 0 → t = (if c = 76 then a else b) → (∀ θ, S' θ → S1 θ) → EqS S' t1 (tP a b) → g 135 63 = h3 135 63 → h3 135 15 ≤ g 135 15 → 0 < d - 1 - 1 - 1 ∧ (0 ≤ g 135 63 ∧ g 135 63 < 1000) ∧ (0 ≤ g 141 (g 135 63) ∧ g 141 (g 135 63) < 1000) ∧ (0 ≤ 600 + k ∧ 600 + k < 700) ∧ (g 161 (600 + k) ≠ 76 → (0 ≤ g 142 (g 141 (g 135 63)) ∧ g 142 (g 141 (g 135 63)) < 1000) ∧ 0 < d - 1 - 1 - 1 ∧ ∀ g1 : HP, g1 = up2 g 135 63 (g 139 (g 142 (g 141 (g 135 63)))) → r32 ((g1 135 62) - 1) ∧ ∀ g2 : HP, g2 = up2 g1 135 62 ((g1 135 62) - 1) → Lp d ty Q g2) ∧ (g 161 (600 + k) = 76 → (0 ≤ g 142 (g 141 (g 135 63)) ∧ g 142 (g 141 (g 135 63)) < 1000) ∧ 0 < d - 1 - 1 - 1 ∧ ∀ g3 : HP, g3 = up2 g 135 63 (g 138 (g 142 (g 141 (g 135 63)))) → r32 ((g3 135 62) - 1) ∧ ∀ g4 : HP, g4 = up2 g3 135 62 ((g3 135 62) - 1) → Lp d ty Q g4) := by
    intro g tm' M a b Tg lM Xg og z0 et sub2 ab e63 e15
    have Mg := Tg.2.2.1.1
    have y14 := Tg.2.2.1.2.1.1
    have egt : tm' (g 135 63) = tm2 (h3 135 63) := by rw [e63]; exact Xg.2 _ (by omega) gr3.2
    obtain ⟨K1, K2, K3, K4⟩ := q_lead (x := g 135 63) Mg (by omega) (by omega)
    obtain ⟨_, f2, f3, f4⟩ := q_form (x := g 135 63) Mg (by omega) (by omega) rfl
    have ff := f2 2 a b (by omega) (by rw [egt]; exact EqS_trans (EqS_sub sub2 ge3) ab)
    have r3 := f3 (by omega) (by omega)
    have r4 := f4 (by omega)
    have H1 := H1 z0
    have X0g := XM_trans X02 (XM_trans X3 Xg)
    have q0g : QX h g f sc := QX_trans (Int.le_refl _) (Int.le_refl _) q02 (QX_trans (Int.le_refl _) (Int.le_refl _) q3 (OuM_QX og))
    have eo := op g Tg.1
    refine ⟨by omega, K1, K2, by omega, fun n => ⟨K4, by omega, q_giv (F := f) Tg.2.2.1.2.2.1.1 f0 (by omega) (q_fin Tg X0g q0g (by omega) ?_ (fun θ q => sub1 θ (sub2 θ q)) lM H1)⟩, fun n => ⟨K4, by omega, q_giv (F := f) Tg.2.2.1.2.2.1.1 f0 (by omega) (q_fin Tg X0g q0g (by omega) ?_ (fun θ q => sub1 θ (sub2 θ q)) lM H1)⟩⟩
    · rw [et, if_neg (by omega)]
      exact ff.2.2.2 rfl
    · rw [et, if_pos (by omega)]
      exact ff.2.2.1 (by omega)
  refine N_Mo_side_0 ⟨fun _ => ⟨by omega, by omega, L1, L2, L4, fun c2 => ⟨fun z => absurd T3.2.2.1.2.2.1.2 z, fun _ => ?_⟩, fun c2 => ⟨by omega, ?_⟩⟩, fun z => by omega⟩
  · have isP : ∃ a b, EqS S1 t1 (tP a b) := by
      have e := fm.1 (by omega)
      rw [c2] at e
      exact ⟨_, _, EqS_trans (EqS_symm ge3) e⟩
    rcases hid_out J2 with ⟨a, b, ab, z0, eS, eV, et⟩ | ⟨n, _⟩
    · subst eS eV
      exact fin h3 tm2 _ a b T3 (by omega) (XM_refl _ _) (OuM_refl _) z0 et (fun _ q => q) ab rfl (Int.le_refl _)
    · exact absurd isP n
  · have nP : ¬ ∃ a b, EqS S1 t1 (tP a b) := fun ⟨a, b, e⟩ => c2 (fm.2.1 2 a b (by omega) (EqS_trans ge3 e)).1
    rcases hid_out J2 with ⟨a, b, ab, _⟩ | ⟨_, m1, m2, ne, a1, a2, U⟩
    · exact absurd ⟨a, b, ab⟩ nP
    · refine q_mkN (mm := m1) (by omega) T3 d0 (by omega) (Or.inr rfl) (by omega) a1 (fun y5 k5 t5 T5 X5 o5 b5 c5 i5 => ⟨by omega, ?_⟩)
      refine q_mkN (mm := m2) (by omega) T5 d0 (by omega) (Or.inr rfl) (by omega) (by show (if m2 = m1 then _ else V1 m2).1 < 7; rw [if_neg (fun z => ne z.symm)]; exact a2) (fun y6 k6 t6 T6 X6 o6 b6 c6 i6 => ⟨by omega, ?_⟩)
      have x6 := X6.1.2.1
      have u14 := T5.2.2.1.2.1.1
      have i5' : t6 y5 = tV m1 := by rw [X6.2 y5 (by omega) c5]; exact i5
      refine q_mkF (t := tP (tV m1) (tV m2)) (by omega) T6 d0 (by omega) (by omega) (fun _ => ⟨b5, by omega⟩) (fun _ => ⟨b6, c6⟩) (by omega) (by rw [i5', i6]; rfl) (fun y7 k7 t7 T7 X7 o7 b7 c7 i7 => ⟨by omega, ?_⟩)
      have X37 := XM_trans X5 (XM_trans X6 X7)
      have o37 := OuM_trans o5 (OuM_trans o6 o7)
      have x37 := X37.1.2.1
      have e63 : k6 135 63 = h3 135 63 := by rw [o6.2 63 (by omega), o5.2 63 (by omega)]
      have e637 : k7 135 63 = h3 135 63 := o37.2 63 (by omega)
      rw [e63]
      refine q_unite (p := p) (by omega) T7 d0 (by omega) (by omega) ep p0 ⟨gr3.1, by omega⟩ ⟨b7, c7⟩ (by rw [X37.2 _ (by omega) gr3.2]; exact ge3) (by rw [i7]; exact EqS_rfl) U (fun kk k8 T8 X8 o8 => ⟨fun z => absurd T8.2.2.1.2.2.1.2 z, fun _ => ?_⟩) (fun z0 k8 F8 => ⟨fun _ => q_end F8 (H0 z0 k8 F8), fun z => by have := F8.2.2.2.1; omega⟩)
      obtain ⟨z0, eS, eV, a, b, ab, et⟩ := kk
      subst eS eV
      have x8 := X8.1.2.1
      exact fin k8 t7 _ a b T8 (by omega) (XM_trans X37 X8) (OuM_trans o37 o8) z0 et (fun _ q => q.1) ab (by rw [o8.2 63 (by omega)]; exact e637) (by omega)
end
