section
/-- ? checked -/
theorem k_if {d : Nat} {h0 h : HP} {A : Int} {N : Nat} {p sc w r w' hs D g y1 m : Int} {tm : Int → Tm} {S : Sx} {V : Vx} {Γ : Int → Tm} {P0 : HP → Prop} {Q : PQ} (bc : BC h0 A) (ck : CkT h0 A N) (p0 : 0 ≤ p) (hN : h0 A 2 - p ≤ N) (hd : 4 * N + 34 < d) (G : gd h0 A p sc w r w') (w0 : w ≤ 240) (w1 : h0 A 2 ≤ w) (s1 : sc ≤ 3 + p) (s2 : 2 * hs ≤ 3 * p) (s3 : 4 * D ≤ p) (hm : m ≤ 26 + 3 * p + (w - h0 A 2)) (s : ST h0 A h tm S V D sc hs Γ m) (g0 : 0 ≤ g) (gl : g < h 96 13) (hy : ∀ sc w r w', gd h0 A (p + 1) sc w r w' → y1 = r) (hc : bA (h0 (A + 1)) (h0 A 2) p = 63)
    (HG : ∀ h' tm' S' V' t, jj h0 A p Γ sc (some (tm g)) S V D 0 S' V' t → ST h0 A h' tm' S' V' D sc hs Γ (m + 3 * (r - p) + (w' - w)) → XB 96 h tm h' tm' → KX h h' sc hs → Q 1 h') (HB : BAD h0 A p Γ sc (some (tm g)) S V D hs h (Q 0)) (hP : ∀ g, Q 0 g → P0 g) :
    Go (d - 1) M_Checker_check 0 [(10, 92), (0, p + 1), (0, h 92 9), (2, 0), (2, 0), (2, 0)] [] h (fun y14 k14 => (y14 = 0 → P0 k14) ∧ (y14 ≠ 0 → 0 < d ∧ Go (d - 1) M_Checker_check 0 [(10, 92), (0, y1), (0, g), (2, 0), (2, 0), (2, 0)] [] k14 (fun y15 k15 => (y15 = 0 → P0 k15) ∧ (y15 ≠ 0 → k15 92 7 ≠ 0 ∧ 0 < d ∧ Go (d - 1) M_Code_behind 0 [(11, k15 92 7), (0, y1)] [] k15 (fun y16 k16 => 0 < d ∧ Go (d - 1) M_Checker_check 0 [(10, 92), (0, y16), (0, g), (2, 0), (2, 0), (2, 0)] [] k16 (fun y17 k17 => (y17 = 0 → P0 k17) ∧ (y17 ≠ 0 → Q 1 k17))))))) := by
  have hl := bc_w bc
  obtain ⟨r1, v1, g1, r2, v2, g2, r3, v3, g3, er, ew⟩ := GD_op (j := 2) G (by rw [hc]; rfl)
  subst er ew
  have l1 := hl _ _ _ _ _ (by omega) g1
  have l2 := hl _ _ _ _ _ (by omega) g2
  have l3 := hl _ _ _ _ _ (by omega) g3
  have e1 : h0 (A + 2) (p + 1) = r1 := (GD_e g1).2
  have e2 : h0 (A + 2) r1 = r2 := (GD_e g2).2
  have ey := hy _ _ _ _ g1
  subst ey
  have q9 := s.2.1.2.2.2.2.1
  have B1 := BAD_mono (BAD_sub (go' := some (tm (h 92 9))) (q := p + 1) HB s s (XB_refl 96 h tm) (KX_refl h sc hs) (fun k S' V' t k0 j => ⟨S, V, tI, jc_in (Or.inl ⟨hc, k, S', V', t, by rw [q9.2.2] at j; exact j, Or.inl ⟨k0, rfl⟩⟩)⟩)) hP
  refine ck (p + 1) sc w _ _ hs D (h 92 9) m h tm S V Γ (d - 1) _ (by omega) (by omega) (by omega) g1 w0 w1 (by omega) (by omega) (by omega) (by omega) s q9.1 q9.2.1 (fun h1 tm1 S1 V1 t1 j1 s1' X1 o1 => ⟨fun z => absurd z (by decide), fun _ => ⟨by omega, ?_⟩⟩) (fun h' k S' V' t a b c z e => ⟨fun _ => B1 h' k S' V' t a b c z e, fun z => absurd rfl z⟩)
  rw [q9.2.2] at j1
  have n1 := X1.1.1.1
  have gg1 : tm1 g = tm g := X1.2 g g0 gl
  have B2 := BAD_mono (BAD_sub (go' := some (tm1 g)) (q := y1) HB s s1' X1 o1 (fun k S' V' t k0 j => ⟨S, V, tI, jc_in (Or.inl ⟨hc, 0, S1, V1, t1, j1, Or.inr ⟨rfl, k, S', V', t, by rw [e1, ← gg1]; exact j, Or.inl ⟨k0, rfl⟩⟩⟩)⟩)) hP
  refine ck y1 sc v1 _ _ hs D g _ h1 tm1 S1 V1 Γ (d - 1) _ (by omega) (by omega) (by omega) g2 (by omega) (by omega) (by omega) (by omega) (by omega) (by omega) s1' g0 (by omega) (fun h2 tm2 S2 V2 t2 j2 s2' X2 o2 => ⟨fun z => absurd z (by decide), fun _ => ?_⟩) (fun h' k S' V' t a b c z e => ⟨fun _ => B2 h' k S' V' t a b c z e, fun z => absurd rfl z⟩)
  have k7 : h2 92 7 = A := s2'.2.1.2.2.1.2.2.1
  have X12 := ST_X s s1' X1 X2
  have o12 := KX_trans o1 o2
  have n2 := X2.1.1.1
  have gg2 : tm2 g = tm g := X12.2 g g0 gl
  rw [gg1] at j2
  refine ⟨by have := bc.1; omega, by omega, ?_⟩
  rw [k7]
  refine k_beh (by omega) bc s2'.1 (by omega) (fun y hy2 => ⟨by omega, ?_⟩)
  have ey2 := hy2 _ _ _ _ g2
  subst ey2
  have B3 := BAD_mono (BAD_sub (go' := some (tm2 g)) (q := y) HB s s2' X12 o12 (fun k S' V' t k0 j => ⟨S, V, tI, jc_in (Or.inl ⟨hc, 0, S1, V1, t1, j1, Or.inr ⟨rfl, 0, S2, V2, t2, by rw [e1]; exact j2, Or.inr ⟨rfl, k, S', V', t, by rw [e1, e2, ← gg2]; exact j, Or.inl ⟨k0, rfl⟩⟩⟩⟩)⟩)) hP
  refine ck y sc v2 _ _ hs D g _ h2 tm2 S2 V2 Γ (d - 1) _ (by omega) (by omega) (by omega) g3 (by omega) (by omega) (by omega) (by omega) (by omega) (by omega) s2' g0 (by omega) (fun h3 tm3 S3 V3 t3 j3 s3' X3 o3 => ⟨fun z => absurd z (by decide), fun _ => ?_⟩) (fun h' k S' V' t a b c z e => ⟨fun _ => B3 h' k S' V' t a b c z e, fun z => absurd rfl z⟩)
  rw [gg2] at j3
  exact HG h3 tm3 S3 V3 (tm g) (jc_in (Or.inl ⟨hc, 0, S1, V1, t1, j1, Or.inr ⟨rfl, 0, S2, V2, t2, by rw [e1]; exact j2, Or.inr ⟨rfl, 0, S3, V3, t3, by rw [e1, e2]; exact j3, Or.inr ⟨rfl, rfl, rfl, rfl, rfl⟩⟩⟩⟩)) (ST_le s3' (by omega)) (ST_X s s2' X12 X3) (KX_trans o12 o3)
/-- P checked against a pair -/
theorem k_pair {d : Nat} {h0 h : HP} {A : Int} {N : Nat} {p sc w r w' hs D g y1 m y6 : Int} {tm : Int → Tm} {S : Sx} {V : Vx} {Γ : Int → Tm} {P0 : HP → Prop} {Q : PQ} (bc : BC h0 A) (ck : CkT h0 A N) (p0 : 0 ≤ p) (hN : h0 A 2 - p ≤ N) (hd : 4 * N + 34 < d) (G : gd h0 A p sc w r w') (w0 : w ≤ 240) (w1 : h0 A 2 ≤ w) (s1 : sc ≤ 3 + p) (s2 : 2 * hs ≤ 3 * p) (s3 : 4 * D ≤ p) (hm : m ≤ 26 + 3 * p + (w - h0 A 2)) (s : ST h0 A h tm S V D sc hs Γ m) (hy : ∀ sc w r w', gd h0 A (p + 1) sc w r w' → y1 = r) (hc : bA (h0 (A + 1)) (h0 A 2) p = 80) (y60 : 0 ≤ y6) (y61 : y6 < h 96 13) (ha : 0 ≤ h 100 y6 ∧ h 100 y6 < h 96 13) (hb : 0 ≤ h 101 y6 ∧ h 101 y6 < h 96 13) (he : EqS S (tm g) (tP (tm (h 100 y6)) (tm (h 101 y6))))
    (HG : ∀ h' tm' S' V' t, jj h0 A p Γ sc (some (tm g)) S V D 0 S' V' t → ST h0 A h' tm' S' V' D sc hs Γ (m + 3 * (r - p) + (w' - w)) → XB 96 h tm h' tm' → KX h h' sc hs → Q 1 h') (HB : BAD h0 A p Γ sc (some (tm g)) S V D hs h (Q 0)) (hP : ∀ g, Q 0 g → P0 g) :
    Go (d - 1) M_Checker_check 0 [(10, 92), (0, p + 1), (0, h 100 y6), (2, 0), (2, 0), (2, 0)] [] h (fun y7 k7 => (y7 = 0 → P0 k7) ∧ (y7 ≠ 0 → (0 ≤ y6 ∧ y6 < 512) ∧ 0 < d ∧ Go (d - 1) M_Checker_check 0 [(10, 92), (0, y1), (0, k7 101 y6), (2, 0), (2, 0), (2, 0)] [] k7 (fun y8 k8 => (y8 = 0 → P0 k8) ∧ (y8 ≠ 0 → Q 1 k8)))) := by
  have hl := bc_w bc
  obtain ⟨r1, v1, g1, r2, v2, g2, er, ew⟩ := GD_op (j := 1) G (by rw [hc]; rfl)
  subst er ew
  have l1 := hl _ _ _ _ _ (by omega) g1
  have l2 := hl _ _ _ _ _ (by omega) g2
  have e1 : h0 (A + 2) (p + 1) = r1 := (GD_e g1).2
  have ey := hy _ _ _ _ g1
  subst ey
  have nR := (CV_L0 s.2.1.1).2.2.1
  have B1 := BAD_mono (BAD_sub (go' := some (tm (h 100 y6))) (q := p + 1) HB s s (XB_refl 96 h tm) (KX_refl h sc hs) (fun k S' V' t k0 j => ⟨S, V, tI, jc_in (Or.inr (Or.inl ⟨hc, _, _, he, k, S', V', t, j, Or.inl ⟨k0, rfl⟩⟩))⟩)) hP
  refine ck (p + 1) sc w _ _ hs D (h 100 y6) m h tm S V Γ (d - 1) _ (by omega) (by omega) (by omega) g1 w0 w1 (by omega) (by omega) (by omega) (by omega) s ha.1 ha.2 (fun h1 tm1 S1 V1 t1 j1 s1' X1 o1 => ⟨fun z => absurd z (by decide), fun _ => ⟨⟨y60, by omega⟩, by omega, ?_⟩⟩) (fun h' k S' V' t a b c z e => ⟨fun _ => B1 h' k S' V' t a b c z e, fun z => absurd rfl z⟩)
  have n1 := X1.1.1.1
  have ro : h1 101 y6 = h 101 y6 := (X1.1.2.1 y6 y60 y61).2.2.1
  rw [ro]
  have gg : tm1 (h 101 y6) = tm (h 101 y6) := X1.2 _ hb.1 hb.2
  have B2 := BAD_mono (BAD_sub (go' := some (tm1 (h 101 y6))) (q := y1) HB s s1' X1 o1 (fun k S' V' t k0 j => ⟨S, V, tI, jc_in (Or.inr (Or.inl ⟨hc, _, _, he, 0, S1, V1, t1, j1, Or.inr ⟨rfl, k, S', V', t, by rw [e1, ← gg]; exact j, Or.inl ⟨k0, rfl⟩⟩⟩))⟩)) hP
  refine ck y1 sc v1 _ _ hs D (h 101 y6) _ h1 tm1 S1 V1 Γ (d - 1) _ (by omega) (by omega) (by omega) g2 (by omega) (by omega) (by omega) (by omega) (by omega) (by omega) s1' hb.1 (by omega) (fun h2 tm2 S2 V2 t2 j2 s2' X2 o2 => ⟨fun z => absurd z (by decide), fun _ => ?_⟩) (fun h' k S' V' t a b c z e => ⟨fun _ => B2 h' k S' V' t a b c z e, fun z => absurd rfl z⟩)
  rw [gg] at j2
  exact HG h2 tm2 S2 V2 (tm g) (jc_in (Or.inr (Or.inl ⟨hc, _, _, he, 0, S1, V1, t1, j1, Or.inr ⟨rfl, 0, S2, V2, t2, by rw [e1]; exact j2, Or.inr ⟨rfl, rfl, rfl, rfl, rfl⟩⟩⟩))) (ST_le s2' (by omega)) (ST_X s s1' X1 X2) (KX_trans o1 o2)
theorem k_check {h0 : HP} {A : Int} {N : Nat} (bc : BC h0 A) (ck : CkT h0 A N) (it : InT h0 A (N + 1)) (cl : ClC h0 A (N + 1)) (ma : MaT h0 A (N + 1)) : CkT h0 A (N + 1) := by
  intro p sc w r w' hs D g m h tm S V Γ d Q p0 hN hd G w0 w1 s1 s2 s3 hm s g0 gl HG HB
  have a0 := bc.1
  have bn := bc.2.1
  have pn := GD_n G p0
  have k7 : h 92 7 = A := s.2.1.2.2.1.2.2.1
  have nR := (CV_L0 s.2.1.1).2.2.1
  refine V_Checker_check_0 ⟨by unfold r32; omega, by omega, by omega, ?_⟩
  rw [k7]
  refine k_beh (by omega) bc s.1 (by omega) (fun y1 hy => ⟨by omega, by omega, ?_⟩)
  rw [k7]
  refine k_byte bc s.1 ?_
  refine ⟨fun c => ⟨by omega, ?_⟩, fun n63 => ⟨fun c => ⟨by omega, ?_⟩, fun n67 => ⟨fun c => ⟨by omega, ?_⟩, fun n71 => ⟨fun c => ⟨by omega, ?_⟩, fun n77 => ⟨fun c => ⟨by omega, ?_⟩, fun n80 => ⟨by omega, ?_⟩⟩⟩⟩⟩⟩
  · exact k_if bc ck p0 (by omega) (by omega) G w0 w1 s1 s2 s3 hm s g0 gl hy c HG HB (fun g z => V_Checker_check_115 z)
  · exact cl p sc w r w' hs D g m h tm S V Γ (d - 1) _ (Or.inl c) p0 hN (by omega) G w0 w1 s1 s2 s3 hm s g0 gl (fun x h' tm' S' V' t x0 j s' X o => ⟨fun z => by omega, fun _ => HG h' tm' S' V' t j s' X o⟩) (fun h' k S' V' t a b c z e => ⟨fun _ => HB h' k S' V' t a b c z e, fun z => absurd rfl z⟩)
  · exact cl p sc w r w' hs D g m h tm S V Γ (d - 1) _ (Or.inr c) p0 hN (by omega) G w0 w1 s1 s2 s3 hm s g0 gl (fun x h' tm' S' V' t x0 j s' X o => ⟨fun z => by omega, fun _ => HG h' tm' S' V' t j s' X o⟩) (fun h' k S' V' t a b c z e => ⟨fun _ => HB h' k S' V' t a b c z e, fun z => absurd rfl z⟩)
  · exact ma p sc w r w' hs D g m h tm S V Γ (d - 1) _ c p0 hN (by omega) G w0 w1 s1 s2 s3 hm s g0 gl (fun h' tm' S' V' t j s' X o => ⟨Or.inr rfl, HG h' tm' S' V' t j s' X o⟩) (fun h' k S' V' t a b c z e => ⟨Or.inl rfl, HB h' k S' V' t a b c z e⟩)
  · refine k_head (by omega) s.2.1.1 g0 gl (fun pr => ⟨fun _ => ⟨by omega, k_lead (by omega) s.2.1.1 g0 gl pr (fun y6 y60 y61 ha hb he => ⟨⟨y60, by show y6 < 512; omega⟩, by omega, ?_⟩)⟩, fun z => absurd rfl z⟩) (fun np x xn => ⟨fun z => absurd z xn, fun _ => ⟨by omega, ?_⟩⟩)
    · exact k_pair bc ck p0 (by omega) (by omega) G w0 w1 s1 s2 s3 hm s hy c y60 y61 ha hb he HG HB (fun g z => V_Checker_check_204 z)
    · exact k_other bc it p0 hN (by omega) G w0 w1 s1 s2 s3 hm s g0 gl ⟨by omega, by omega, by omega, by omega, fun _ => np⟩ HG HB
  · exact k_other bc it p0 hN (by omega) G w0 w1 s1 s2 s3 hm s g0 gl ⟨n63, n67, n71, n77, fun z => absurd z n80⟩ HG HB
end
