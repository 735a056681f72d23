section
theorem k_part {d : Nat} {h : HP} {tm : Int → Tm} {S : Sx} {V : Vx} {x c : Int} {Q : PQ} (hd : 1 < d) (C : CV h 96 512 tm S V) (x0 : 0 ≤ x) (x1 : x < h 96 13) (p : ∃ a b, EqS S (tm x) (tP a b)) (H : ∀ a b, (0 ≤ a ∧ a < h 96 13) → (0 ≤ b ∧ b < h 96 13) → EqS S (tm x) (tP (tm a) (tm b)) → Q (if c = 76 then a else b) h) : Go d M_Checker_partOf 0 [(10, 92), (0, x), (0, c), (2, 0)] [] h Q := by
  have n := (CV_L0 C).2.2.1
  refine V_Checker_partOf_0 ⟨by omega, k_lead (by omega) C x0 x1 p (fun y y0 y1 a b e => ?_)⟩
  have q := H _ _ a b e
  refine ⟨fun z => ⟨⟨y0, ?_⟩, ?_⟩, fun z => ⟨⟨y0, ?_⟩, ?_⟩⟩
  · show y < 512; omega
  · rw [if_neg z] at q; exact q
  · show y < 512; omega
  · rw [if_pos z] at q; exact q
/-- L and R -/
theorem i_lr {d : Nat} {h0 h : HP} {A : Int} {N : Nat} {p sc w r w' hs D y1 v4 m : Int} {tm : Int → Tm} {S : Sx} {V : Vx} {Γ : Int → Tm} {Q : PQ} (bc : BC h0 A) (it : InT h0 A N) (p0 : 0 ≤ p) (hN : h0 A 2 - p ≤ N) (hd : 4 * N + 34 < d) (G : gd h0 A p sc w r w') (w0 : w ≤ 240) (w1 : h0 A 2 ≤ w) (s1 : sc ≤ 3 + p) (s2 : 2 * hs ≤ 3 * p) (s3 : 4 * D ≤ p) (hm : m ≤ 26 + 3 * p + (w - h0 A 2)) (s : ST h0 A h tm S V D sc hs Γ m)
    (hc : bA (h0 (A + 1)) (h0 A 2) p = 76 ∨ bA (h0 (A + 1)) (h0 A 2) p = 82) (hv : v4 = bA (h0 (A + 1)) (h0 A 2) p)
    (HG : ∀ x h' tm' S' V', jj h0 A p Γ sc none S V D 0 S' V' (tm' x) → 0 ≤ x → x < h' 96 13 → ST h0 A h' tm' S' V' D sc hs Γ (m + 3 * (r - p) + (w' - w)) → XB 96 h tm h' tm' → KX h h' sc hs → Q x h') (HB : BAD h0 A p Γ sc none S V D hs h (Q (-1))) :
    Go (d - 1) M_Checker_infer 0 [(10, 92), (0, p + 1), (2, 0), (2, 0), (2, 0), (2, 0), (2, 0), (2, 0), (2, 0), (2, 0)] [] h (fun y12 k12 => (y12 = (-1) → Go d M_Checker_infer 416 [(10, 92), (0, p), (0, p + 1), (0, y1), (0, v4), (2, 0), (2, 0), (2, 0), (0, y12), (2, 0)] [] k12 Q) ∧ (y12 ≠ (-1) → 0 < d ∧ Go (d - 1) M_Types_headOf 0 [(17, (92 + 1) + 3), (0, y12)] [] k12 (fun y13 k13 => (y13 = 2 → Go d M_Checker_infer 412 [(10, 92), (0, p), (0, p + 1), (0, y1), (0, v4), (2, 0), (2, 0), (2, 0), (0, y12), (2, 0)] [] k13 Q) ∧ (y13 ≠ 2 → 0 < d ∧ Go (d - 1) M_Checker_freshPair 0 [(10, 92), (2, 0), (2, 0)] [] k13 (fun y14 k14 => 0 < d ∧ Go (d - 1) M_Checker_agrees 0 [(10, 92), (0, y12), (0, y14), (0, p), (2, 0)] [] k14 (fun y15 k15 => (y15 = 0 → Go d M_Checker_infer 416 [(10, 92), (0, p), (0, p + 1), (0, y1), (0, v4), (2, 0), (2, 0), (2, 0), (0, y12), (2, 0)] [] k15 Q) ∧ (y15 ≠ 0 → Go d M_Checker_infer 412 [(10, 92), (0, p), (0, p + 1), (0, y1), (0, v4), (2, 0), (2, 0), (2, 0), (0, y12), (2, 0)] [] k15 Q))))))) := by
  subst hv
  have hl := bc_w bc
  obtain ⟨r1, v1, g1, er, ew⟩ := GD_op (j := 0) G (by rcases hc with z | z <;> rw [z] <;> rfl)
  subst er ew
  have l1 := hl _ _ _ _ _ (by omega) g1
  have bn := bc.2.1
  have no : ∀ y g, Q (-1) g → Go d M_Checker_infer 416 [(10, 92), (0, p), (0, p + 1), (0, y1), (0, bA (h0 (A + 1)) (h0 A 2) p), (2, 0), (2, 0), (2, 0), (0, y), (2, 0)] [] g Q := fun y g z => V_Checker_infer_416 (V_Checker_infer_417 ⟨fun _ => z, fun z => absurd rfl z⟩)
  have B1 := BAD_sub (go' := none) (q := p + 1) HB s s (XB_refl 96 h tm) (KX_refl h sc hs) (fun k S' V' t k0 j => ⟨S, V, tI, jn_in (Or.inr (Or.inr (Or.inr (Or.inr (Or.inl ⟨hc, k, S', V', t, j, Or.inl ⟨k0, rfl⟩⟩)))))⟩)
  refine it (p + 1) sc w _ _ hs D m h tm S V Γ (d - 1) _ (by omega) (by omega) (by omega) g1 w0 w1 (by omega) (by omega) (by omega) (by omega) s (fun x h1 tm1 S1 V1 j1 x0 x1 s1' X1 o1 => ⟨fun z => by omega, fun _ => ⟨by omega, ?_⟩⟩) (fun h' k S' V' t a b c d e => ⟨fun _ => no _ _ (B1 h' k S' V' t a b c d e), fun z => absurd rfl z⟩)
  have ct := s1'.2.2
  refine k_head (by omega) s1'.2.1.1 x0 x1 (fun pr => ⟨fun _ => ?_, fun z => absurd rfl z⟩) (fun np y yn => ⟨fun z => absurd z yn, fun _ => ⟨by omega, ?_⟩⟩)
  · refine V_Checker_infer_412 (V_Checker_infer_417 ⟨fun z => absurd z (by decide), fun _ => ⟨by omega, k_part (by omega) s1'.2.1.1 x0 x1 pr (fun a b ha hb e => ?_)⟩⟩)
    refine HG _ h1 tm1 S1 V1 (jn_in (Or.inr (Or.inr (Or.inr (Or.inr (Or.inl ⟨hc, 0, S1, V1, tm1 x, j1, Or.inr ⟨rfl, Or.inl ⟨_, _, e, rfl, rfl, rfl, ?_⟩⟩⟩)))))) ?_ ?_ (ST_le s1' (by omega)) X1 o1
    · split <;> rfl
    · split
      · exact ha.1
      · exact hb.1
    · split
      · exact ha.2
      · exact hb.2
  · obtain ⟨m1, m2, mn, f1, f2⟩ := fresh2 s1'.2.1.1
    have eD : h1 96 15 = D := s1'.2.1.2.1
    refine k_fresh (by omega) s1'.2.1.1 (by omega) f1 f2 mn (fun y2 h2 tm2 C2 X2 y20 y21 e2 n2 o2 => ⟨by omega, ?_⟩)
    rw [eD] at C2
    have o2' : KX h1 h2 sc hs := KX_out (fun a i p => o2 a i (by omega))
    have s2' := ST_step (m' := m + 3 * (r - p) + (w' - w)) s1' C2 X2 o2' (by omega)
    have X12 := ST_X s s1' X1 X2
    have o12 := KX_trans o1 o2'
    have xx : tm2 x = tm1 x := X2.2 x x0 x1
    have gx := X2.1.1.1
    refine k_agrees (by omega) s2'.2.1 x0 (by omega) y20 y21 (fun sa nf g K Xg eg og => ⟨fun z => absurd z (by decide), fun _ => ?_⟩) (fun rs g hr z fo e4 e5 => ⟨fun _ => no _ _ ?_, fun z => absurd rfl z⟩)
    · rw [xx, e2] at sa nf K
      have pr : EqS (Snd S1 (tm1 x) (tP (tV m1) (tV m2))) (tm2 x) (tP (tV m1) (tV m2)) := by rw [xx]; exact fun θ q => q.2
      have s3' : ST h0 A g tm2 (Snd S1 (tm1 x) (tP (tV m1) (tV m2))) (upV (upV V1 m1 (8, D)) m2 (8, D)) D sc hs Γ (m + 3 * (r - p) + (w' - w)) := ⟨KB_x s2'.1 og, K, by rw [eg]; exact s2'.2.2⟩
      refine V_Checker_infer_412 (V_Checker_infer_417 ⟨fun z => absurd z (by decide), fun _ => ⟨by omega, k_part (by omega) s3'.2.1.1 x0 (by omega) ⟨_, _, pr⟩ (fun a b ha hb e => ?_)⟩⟩)
      rw [xx] at e
      refine HG _ g tm2 _ _ (jn_in (Or.inr (Or.inr (Or.inr (Or.inr (Or.inl ⟨hc, 0, S1, V1, tm1 x, j1, Or.inr ⟨rfl, Or.inr ⟨np, m1, m2, mn, f1, f2, Or.inr (Or.inr ⟨sa, nf, rfl, rfl, rfl, _, _, e, ?_⟩)⟩⟩⟩)))))) ?_ ?_ s3' (ST_X s s2' X12 Xg) (KX_trans o12 og)
      · split <;> rfl
      · split
        · exact ha.1
        · exact hb.1
      · split
        · exact ha.2
        · exact hb.2
    · rw [xx, e2] at hr
      refine HB g (10 * p + rs) S V tI (jn_in (Or.inr (Or.inr (Or.inr (Or.inr (Or.inl ⟨hc, 0, S1, V1, tm1 x, j1, Or.inr ⟨rfl, Or.inr ⟨np, m1, m2, mn, f1, f2, ?_⟩⟩⟩)))))) (by omega) (by omega) (KX_KZ o12 z) (FO_trans s.2.1.1 s2'.2.1.1 X12.1 fo)
      rcases hr with ⟨a, b⟩ | ⟨a, b, c⟩
      · exact Or.inl ⟨a, by omega⟩
      · exact Or.inr (Or.inl ⟨a, b, by omega⟩)
end
