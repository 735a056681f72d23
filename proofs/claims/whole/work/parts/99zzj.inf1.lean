section
/-- ? inferred -/
theorem i_if {d : Nat} {h0 h : HP} {A : Int} {N : Nat} {p sc w r w' hs D y1 v4 m : Int} {tm : Int → Tm} {S : Sx} {V : Vx} {Γ : Int → Tm} {Q : PQ} (bc : BC h0 A) (ck : CkT h0 A N) (it : InT h0 A N) (p0 : 0 ≤ p) (hN : h0 A 2 - p ≤ N) (hd : 4 * N + 34 < d) (G : gd h0 A p sc w r w') (w0 : w ≤ 240) (w1 : h0 A 2 ≤ w) (s1 : sc ≤ 3 + p) (s2 : 2 * hs ≤ 3 * p) (s3 : 4 * D ≤ p) (hm : m ≤ 26 + 3 * p + (w - h0 A 2)) (s : ST h0 A h tm S V D sc hs Γ m) (hy : ∀ sc w r w', gd h0 A (p + 1) sc w r w' → y1 = r)
    (hc : bA (h0 (A + 1)) (h0 A 2) p = 63)
    (HG : ∀ x h' tm' S' V', jj h0 A p Γ sc none S V D 0 S' V' (tm' x) → 0 ≤ x → x < h' 96 13 → ST h0 A h' tm' S' V' D sc hs Γ (m + 3 * (r - p) + (w' - w)) → XB 96 h tm h' tm' → KX h h' sc hs → Q x h') (HB : BAD h0 A p Γ sc none S V D hs h (Q (-1))) :
    Go (d - 1) M_Checker_check 0 [(10, 92), (0, p + 1), (0, h 92 9), (2, 0), (2, 0), (2, 0)] [] h (fun y18 k18 => (y18 = 0 → Go d M_Checker_infer 287 [(10, 92), (0, p), (0, p + 1), (0, y1), (0, v4), (2, 0), (2, 0), (2, 0), (2, 0), (2, 0)] [(0, (-1))] k18 Q) ∧ (y18 ≠ 0 → 0 < d ∧ Go (d - 1) M_Checker_infer 0 [(10, 92), (0, y1), (2, 0), (2, 0), (2, 0), (2, 0), (2, 0), (2, 0), (2, 0), (2, 0)] [] k18 (fun y19 k19 => Go d M_Checker_infer 287 [(10, 92), (0, p), (0, p + 1), (0, y1), (0, v4), (2, 0), (2, 0), (2, 0), (2, 0), (2, 0)] [(0, y19)] k19 Q))) := by
  have hl := bc_w bc
  obtain ⟨r1, v1, g1, r2, v2, g2, r3, v3, g3, er, ew⟩ := GD_op (j := 2) G (by rw [hc]; rfl)
  subst er ew
  have l1 := hl _ _ _ _ _ (by omega) g1
  have l2 := hl _ _ _ _ _ (by omega) g2
  have l3 := hl _ _ _ _ _ (by omega) g3
  have e1 : h0 (A + 2) (p + 1) = r1 := (GD_e g1).2
  have e2 : h0 (A + 2) r1 = r2 := (GD_e g2).2
  have ey := hy _ _ _ _ g1
  subst ey
  have q9 := s.2.1.2.2.2.2.1
  have no : ∀ g, Q (-1) g → Go d M_Checker_infer 287 [(10, 92), (0, p), (0, p + 1), (0, y1), (0, v4), (2, 0), (2, 0), (2, 0), (2, 0), (2, 0)] [(0, (-1))] g Q := fun g z => V_Checker_infer_287 ⟨fun _ => V_Checker_infer_317 z, fun z => absurd rfl z⟩
  have B1 := BAD_sub (go' := some (tm (h 92 9))) (q := p + 1) HB s s (XB_refl 96 h tm) (KX_refl h sc hs) (fun k S' V' t k0 j => ⟨S, V, tI, jn_in (Or.inr (Or.inr (Or.inl ⟨hc, k, S', V', t, by rw [q9.2.2] at j; exact j, Or.inl ⟨k0, rfl⟩⟩)))⟩)
  refine ck (p + 1) sc w _ _ hs D (h 92 9) m h tm S V Γ (d - 1) _ (by omega) (by omega) (by omega) g1 w0 w1 (by omega) (by omega) (by omega) (by omega) s q9.1 q9.2.1 (fun h1 tm1 S1 V1 t1 j1 s1' X1 o1 => ⟨fun z => absurd z (by decide), fun _ => ⟨by omega, ?_⟩⟩) (fun h' k S' V' t a b c d e => ⟨fun _ => no _ (B1 h' k S' V' t a b c d e), fun z => absurd rfl z⟩)
  rw [q9.2.2] at j1
  have B2 := BAD_sub (go' := none) (q := y1) HB s s1' X1 o1 (fun k S' V' t k0 j => ⟨S, V, tI, jn_in (Or.inr (Or.inr (Or.inl ⟨hc, 0, S1, V1, t1, j1, Or.inr ⟨rfl, k, S', V', t, by rw [e1]; exact j, Or.inl ⟨k0, rfl⟩⟩⟩)))⟩)
  refine it y1 sc v1 _ _ hs D _ h1 tm1 S1 V1 Γ (d - 1) _ (by omega) (by omega) (by omega) g2 (by omega) (by omega) (by omega) (by omega) (by omega) (by omega) s1' (fun x h2 tm2 S2 V2 j2 x0 x1 s2' X2 o2 => ?_) (fun h' k S' V' t a b c d e => no _ (B2 h' k S' V' t a b c d e))
  have k7 : h2 92 7 = A := s2'.2.1.2.2.1.2.2.1
  have X12 := ST_X s s1' X1 X2
  have o12 := KX_trans o1 o2
  refine V_Checker_infer_287 ⟨fun z => by omega, fun _ => ⟨by have := bc.1; omega, by omega, ?_⟩⟩
  rw [k7]
  refine k_beh (by omega) bc s2'.1 (by omega) (fun y hy2 => ⟨by omega, ?_⟩)
  have ey2 := hy2 _ _ _ _ g2
  subst ey2
  have B3 := BAD_sub (go' := some (tm2 x)) (q := y) HB s s2' X12 o12 (fun k S' V' t k0 j => ⟨S, V, tI, jn_in (Or.inr (Or.inr (Or.inl ⟨hc, 0, S1, V1, t1, j1, Or.inr ⟨rfl, 0, S2, V2, tm2 x, by rw [e1]; exact j2, Or.inr ⟨rfl, k, S', V', t, by rw [e1, e2]; exact j, Or.inl ⟨k0, rfl⟩⟩⟩⟩)))⟩)
  refine ck y sc v2 _ _ hs D x _ h2 tm2 S2 V2 Γ (d - 1) _ (by omega) (by omega) (by omega) g3 (by omega) (by omega) (by omega) (by omega) (by omega) (by omega) s2' x0 x1 (fun h3 tm3 S3 V3 t3 j3 s3' X3 o3 => ⟨fun z => absurd z (by decide), fun _ => ?_⟩) (fun h' k S' V' t a b c d e => ⟨fun _ => V_Checker_infer_317 (B3 h' k S' V' t a b c d e), fun z => absurd rfl z⟩)
  have ex : tm3 x = tm2 x := X3.2 x x0 x1
  exact HG x h3 tm3 S3 V3 (jn_in (Or.inr (Or.inr (Or.inl ⟨hc, 0, S1, V1, t1, j1, Or.inr ⟨rfl, 0, S2, V2, tm2 x, by rw [e1]; exact j2, Or.inr ⟨rfl, 0, S3, V3, t3, by rw [e1, e2]; exact j3, Or.inr ⟨rfl, rfl, rfl, rfl, ex⟩⟩⟩⟩)))) x0 (by have := X3.1.1.1; omega) (ST_le s3' (by omega)) (ST_X s s2' X12 X3) (KX_trans o12 o3)
/-- P inferred -/
theorem i_pair {d : Nat} {h0 h : HP} {A : Int} {N : Nat} {p sc w r w' hs D y1 v4 m : Int} {tm : Int → Tm} {S : Sx} {V : Vx} {Γ : Int → Tm} {Q : PQ} (bc : BC h0 A) (it : InT h0 A N) (p0 : 0 ≤ p) (hN : h0 A 2 - p ≤ N) (hd : 4 * N + 34 < d) (G : gd h0 A p sc w r w') (w0 : w ≤ 240) (w1 : h0 A 2 ≤ w) (s1 : sc ≤ 3 + p) (s2 : 2 * hs ≤ 3 * p) (s3 : 4 * D ≤ p) (hm : m ≤ 26 + 3 * p + (w - h0 A 2)) (s : ST h0 A h tm S V D sc hs Γ m) (hy : ∀ sc w r w', gd h0 A (p + 1) sc w r w' → y1 = r)
    (hc : bA (h0 (A + 1)) (h0 A 2) p = 80)
    (HG : ∀ x h' tm' S' V', jj h0 A p Γ sc none S V D 0 S' V' (tm' x) → 0 ≤ x → x < h' 96 13 → ST h0 A h' tm' S' V' D sc hs Γ (m + 3 * (r - p) + (w' - w)) → XB 96 h tm h' tm' → KX h h' sc hs → Q x h') (HB : BAD h0 A p Γ sc none S V D hs h (Q (-1))) :
    Go (d - 1) M_Checker_infer 0 [(10, 92), (0, p + 1), (2, 0), (2, 0), (2, 0), (2, 0), (2, 0), (2, 0), (2, 0), (2, 0)] [] h (fun y8 k8 => (y8 ≠ (-1) → 0 < d ∧ Go (d - 1) M_Checker_infer 0 [(10, 92), (0, y1), (2, 0), (2, 0), (2, 0), (2, 0), (2, 0), (2, 0), (2, 0), (2, 0)] [] k8 (fun y9 k9 => Go d M_Checker_infer 341 [(10, 92), (0, p), (0, p + 1), (0, y1), (0, v4), (2, 0), (0, y8), (2, 0), (2, 0), (2, 0)] [(0, y9)] k9 Q)) ∧ (y8 = (-1) → Go d M_Checker_infer 341 [(10, 92), (0, p), (0, p + 1), (0, y1), (0, v4), (2, 0), (0, y8), (2, 0), (2, 0), (2, 0)] [(0, (-1))] k8 Q)) := by
  have hl := bc_w bc
  obtain ⟨r1, v1, g1, r2, v2, g2, er, ew⟩ := GD_op (j := 1) G (by rw [hc]; rfl)
  subst er ew
  have l1 := hl _ _ _ _ _ (by omega) g1
  have l2 := hl _ _ _ _ _ (by omega) g2
  have e1 : h0 (A + 2) (p + 1) = r1 := (GD_e g1).2
  have ey := hy _ _ _ _ g1
  subst ey
  have no : ∀ y8 g, Q (-1) g → Go d M_Checker_infer 341 [(10, 92), (0, p), (0, p + 1), (0, y1), (0, v4), (2, 0), (0, y8), (2, 0), (2, 0), (2, 0)] [(0, (-1))] g Q := fun y8 g z => V_Checker_infer_341 ⟨fun z => absurd rfl z, fun _ => z⟩
  have B1 := BAD_sub (go' := none) (q := p + 1) HB s s (XB_refl 96 h tm) (KX_refl h sc hs) (fun k S' V' t k0 j => ⟨S, V, tI, jn_in (Or.inr (Or.inr (Or.inr (Or.inl ⟨hc, k, S', V', t, j, Or.inl ⟨k0, rfl⟩⟩))))⟩)
  refine it (p + 1) sc w _ _ hs D m h tm S V Γ (d - 1) _ (by omega) (by omega) (by omega) g1 w0 w1 (by omega) (by omega) (by omega) (by omega) s (fun x h1 tm1 S1 V1 j1 x0 x1 s1' X1 o1 => ⟨fun _ => ⟨by omega, ?_⟩, fun z => by omega⟩) (fun h' k S' V' t a b c d e => ⟨fun z => absurd rfl z, fun _ => no _ _ (B1 h' k S' V' t a b c d e)⟩)
  have B2 := BAD_sub (go' := none) (q := y1) HB s s1' X1 o1 (fun k S' V' t k0 j => ⟨S, V, tI, jn_in (Or.inr (Or.inr (Or.inr (Or.inl ⟨hc, 0, S1, V1, tm1 x, j1, Or.inr ⟨rfl, k, S', V', t, by rw [e1]; exact j, Or.inl ⟨k0, rfl⟩⟩⟩))))⟩)
  refine it y1 sc v1 _ _ hs D _ h1 tm1 S1 V1 Γ (d - 1) _ (by omega) (by omega) (by omega) g2 (by omega) (by omega) (by omega) (by omega) (by omega) (by omega) s1' (fun y h2 tm2 S2 V2 j2 y0 y1' s2' X2 o2 => ?_) (fun h' k S' V' t a b c d e => no _ _ (B2 h' k S' V' t a b c d e))
  have X12 := ST_X s s1' X1 X2
  have o12 := KX_trans o1 o2
  have g12 := X2.1.1.1
  have ct := s2'.2.2
  have bn := bc.2.1
  have xx : tm2 x = tm1 x := X2.2 x x0 x1
  refine V_Checker_infer_341 ⟨fun _ => ⟨by omega, c_obtF (T := 96) (R := 512) (t := tP (tm1 x) (tm2 y)) (by omega) s2'.2.1.1 (by omega) (fun _ => ⟨x0, by omega⟩) (fun _ => ⟨y0, y1'⟩) (fun z => by omega) (fun z => by omega) (by omega) (by rw [xx]; rfl) (fun z h3 tm3 C3 X3 z0 z1 e3 n3 o3 => ?_)⟩, fun z => by omega⟩
  have o3' : KX h2 h3 sc hs := KX_out (fun a i p => o3 a i (by omega))
  exact HG z h3 tm3 S2 V2 (jn_in (Or.inr (Or.inr (Or.inr (Or.inl ⟨hc, 0, S1, V1, tm1 x, j1, Or.inr ⟨rfl, 0, S2, V2, tm2 y, by rw [e1]; exact j2, Or.inr ⟨rfl, rfl, rfl, rfl, e3⟩⟩⟩))))) z0 z1 (ST_step s2' C3 X3 o3' (by omega)) (ST_X s s2' X12 X3) (KX_trans o12 o3')
end
