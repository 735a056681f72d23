section
theorem k_infer {h0 : HP} {A : Int} {N : Nat} (bc : BC h0 A) (ck : CkT h0 A N) (it : InT h0 A N) (cl : ClI h0 A (N + 1)) : InT h0 A (N + 1) := by
  intro p sc w r w' hs D m h tm S V Γ d Q p0 hN hd G w0 w1 s1 s2 s3 hm s HG HB
  have a0 := bc.1
  have bn := bc.2.1
  have pn := GD_n G p0
  have k7 : h 92 7 = A := s.2.1.2.2.1.2.2.1
  refine V_Checker_infer_0 ⟨by unfold r32; omega, by omega, by omega, ?_⟩
  rw [k7]
  refine k_beh (by omega) bc s.1 (by omega) (fun y1 hy => ⟨by omega, by omega, ?_⟩)
  rw [k7]
  refine k_byte bc s.1 ?_
  refine ⟨fun c => ⟨by omega, ?_⟩, fun n43 => ⟨fun c => ⟨by omega, ?_⟩, fun n45 => ⟨fun c => ⟨by omega, ?_⟩, fun n60 => ⟨fun c => ⟨by omega, ?_⟩, fun n61 => ⟨fun c => ⟨by omega, ?_⟩, fun n63 => ⟨fun c => ⟨by omega, ?_⟩, fun n67 => ⟨fun c => ⟨by omega, ?_⟩, fun n71 => ⟨fun c => ⟨by omega, ?_⟩, fun n76 => ⟨fun c => ?_, fun n77 => ⟨fun c => ⟨by omega, ?_⟩, fun n80 => ⟨fun c => ⟨by omega, ?_⟩, fun n82 => ⟨by omega, ?_⟩⟩⟩⟩⟩⟩⟩⟩⟩⟩⟩⟩
  · exact i_arith bc ck p0 (by omega) (by omega) G w0 w1 s1 s2 s3 hm s hy (Or.inl c) (by rw [if_pos (Or.inl c)]) HG HB (fun g z => V_Checker_infer_231 z)
  · exact i_arith bc ck p0 (by omega) (by omega) G w0 w1 s1 s2 s3 hm s hy (Or.inr (Or.inl c)) (by rw [if_pos (Or.inr c)]) HG HB (fun g z => V_Checker_infer_231 z)
  · exact i_arith bc ck p0 (by omega) (by omega) G w0 w1 s1 s2 s3 hm s hy (Or.inr (Or.inr (Or.inl c))) (by rw [if_neg (by omega)]) HG HB (fun g z => V_Checker_infer_264 z)
  · exact i_arith bc ck p0 (by omega) (by omega) G w0 w1 s1 s2 s3 hm s hy (Or.inr (Or.inr (Or.inr c))) (by rw [if_neg (by omega)]) HG HB (fun g z => V_Checker_infer_264 z)
  · exact i_if bc ck it p0 (by omega) (by omega) G w0 w1 s1 s2 s3 hm s hy c HG HB
  · exact cl p sc w r w' hs D m h tm S V Γ (d - 1) _ (Or.inl c) p0 hN (by omega) G w0 w1 s1 s2 s3 hm s HG HB
  · exact cl p sc w r w' hs D m h tm S V Γ (d - 1) _ (Or.inr c) p0 hN (by omega) G w0 w1 s1 s2 s3 hm s HG HB
  · exact i_lr bc it p0 (by omega) (by omega) G w0 w1 s1 s2 s3 hm s (Or.inl c) rfl HG HB
  · refine ⟨by omega, by omega, fun g1 e1 g2 e2 => ?_⟩
    rw [k7] at e1 e2
    refine HB g2 (10 * p + 5) S V tI (jn_in (Or.inr (Or.inr (Or.inr (Or.inr (Or.inr (Or.inr ⟨c, rfl⟩))))))) ?_ ?_ (fun a i _ _ _ _ q => ?_) (FO_loc (h1 := h) (fun a i u v => ?_) (Or.inl ⟨tm, S, V, s.2.1.1, ExB_refl 96 h⟩))
    · rw [e2, up2_eq, up2_ext (by omega), e1, up2_eq]
    · rw [e2, up2_eq, up2_ext (by omega), e1, up2_eq]; omega
    · rw [e2, up2_ext (by omega), e1, up2_ext (by omega)]
    · rw [e2, up2_nc (by omega), e1, up2_nc (by omega)]
  · exact i_pair bc it p0 (by omega) (by omega) G w0 w1 s1 s2 s3 hm s hy c HG HB
  · exact i_lr bc it p0 (by omega) (by omega) G w0 w1 s1 s2 s3 hm s (Or.inr c) rfl HG HB
  · have lf : lfO (bA (h0 (A + 1)) (h0 A 2) p) sc := by
      rcases GD_kind G p0 with k | k | k | k | k
      · exact k
      · exfalso
        unfold pO at k
        rw [if_neg (by omega), if_neg (by omega), if_neg (by omega)] at k
        omega
      · omega
      · omega
      · omega
    have q := GD_leaf G lf
    exact k_leaf s.2.1 lf (fun x x0 x1 e => HG x h tm S V (jn_in (Or.inl ⟨lf, rfl, rfl, rfl, e⟩)) x0 x1 (ST_le s (by omega)) (XB_refl 96 h tm) (KX_refl h sc hs))
/-- what call and checkMatch must do for check -/
def ClC (h0 : HP) (A : Int) (N : Nat) : Prop := ∀ (p sc w r w' hs D g m : Int) (h : HP) (tm : Int → Tm) (S : Sx) (V : Vx) (Γ : Int → Tm) (d : Nat) (Q : PQ), (bA (h0 (A + 1)) (h0 A 2) p = 67 ∨ bA (h0 (A + 1)) (h0 A 2) p = 71) → 0 ≤ p → h0 A 2 + 1 - p ≤ N → 4 * N + 29 < d → gd h0 A p sc w r w' → w ≤ 240 → h0 A 2 ≤ w → sc ≤ 3 + p → 2 * hs ≤ 3 * p → 4 * D ≤ p → m ≤ 26 + 3 * p + (w - h0 A 2) → ST h0 A h tm S V D sc hs Γ m → 0 ≤ g → g < h 96 13 →
  (∀ x h' tm' S' V' t, 0 ≤ x → jj h0 A p Γ sc (some (tm g)) S V D 0 S' V' t → ST h0 A h' tm' S' V' D sc hs Γ (m + 3 * (r - p) + (w' - w)) → XB 96 h tm h' tm' → KX h h' sc hs → Q x h') → BAD h0 A p Γ sc (some (tm g)) S V D hs h (Q (-1)) →
  Go d M_Checker_call 0 [(10, 92), (0, p), (0, g), (2, 0), (2, 0), (2, 0), (2, 0), (2, 0)] [] h Q
def MaT (h0 : HP) (A : Int) (N : Nat) : Prop := ∀ (p sc w r w' hs D g m : Int) (h : HP) (tm : Int → Tm) (S : Sx) (V : Vx) (Γ : Int → Tm) (d : Nat) (Q : PQ), bA (h0 (A + 1)) (h0 A 2) p = 77 → 0 ≤ p → h0 A 2 + 1 - p ≤ N → 4 * N + 31 < d → gd h0 A p sc w r w' → w ≤ 240 → h0 A 2 ≤ w → sc ≤ 3 + p → 2 * hs ≤ 3 * p → 4 * D ≤ p → m ≤ 26 + 3 * p + (w - h0 A 2) → ST h0 A h tm S V D sc hs Γ m → 0 ≤ g → g < h 96 13 →
  (∀ h' tm' S' V' t, jj h0 A p Γ sc (some (tm g)) S V D 0 S' V' t → ST h0 A h' tm' S' V' D sc hs Γ (m + 3 * (r - p) + (w' - w)) → XB 96 h tm h' tm' → KX h h' sc hs → Q 1 h') → BAD h0 A p Γ sc (some (tm g)) S V D hs h (Q 0) →
  Go d M_Checker_checkMatch 0 [(10, 92), (0, p), (0, g), (2, 0), (2, 0), (2, 0), (2, 0), (2, 0), (2, 0), (2, 0), (2, 0)] [] h Q
/-- inferred, and then made equal to the goal -/
theorem k_other {d : Nat} {h0 h : HP} {A : Int} {N : Nat} {p sc w r w' hs D g m : Int} {tm : Int → Tm} {S : Sx} {V : Vx} {Γ : Int → Tm} {Q : PQ} (bc : BC h0 A) (it : InT h0 A N) (p0 : 0 ≤ p) (hN : h0 A 2 + 1 - p ≤ N) (hd : 4 * N + 32 < d) (G : gd h0 A p sc w r w') (w0 : w ≤ 240) (w1 : h0 A 2 ≤ w) (s1 : sc ≤ 3 + p) (s2 : 2 * hs ≤ 3 * p) (s3 : 4 * D ≤ p) (hm : m ≤ 26 + 3 * p + (w - h0 A 2)) (s : ST h0 A h tm S V D sc hs Γ m) (g0 : 0 ≤ g) (g1 : g < h 96 13)
    (hc : bA (h0 (A + 1)) (h0 A 2) p ≠ 63 ∧ bA (h0 (A + 1)) (h0 A 2) p ≠ 67 ∧ bA (h0 (A + 1)) (h0 A 2) p ≠ 71 ∧ bA (h0 (A + 1)) (h0 A 2) p ≠ 77 ∧ (bA (h0 (A + 1)) (h0 A 2) p = 80 → ¬ ∃ a b, EqS S (tm g) (tP a b)))
    (HG : ∀ h' tm' S' V' t, jj h0 A p Γ sc (some (tm g)) S V D 0 S' V' t → ST h0 A h' tm' S' V' D sc hs Γ (m + 3 * (r - p) + (w' - w)) → XB 96 h tm h' tm' → KX h h' sc hs → Q 1 h') (HB : BAD h0 A p Γ sc (some (tm g)) S V D hs h (Q 0)) :
    Go (d - 1) M_Checker_infer 0 [(10, 92), (0, p), (2, 0), (2, 0), (2, 0), (2, 0), (2, 0), (2, 0), (2, 0), (2, 0)] [] h (fun y3 k3 => 0 < d ∧ Go (d - 1) M_Checker_agrees 0 [(10, 92), (0, y3), (0, g), (0, p), (2, 0)] [] k3 (fun y4 k4 => isB y4 ∧ Q y4 k4)) := by
  have bn := bc.2.1
  have pn := GD_n G p0
  have B1 := BAD_sub (go' := none) (q := p) HB s s (XB_refl 96 h tm) (KX_refl h sc hs) (fun k S' V' t k0 j => ⟨S, V, tI, jc_in (Or.inr (Or.inr (Or.inr (Or.inr ⟨hc, k, S', V', t, j, Or.inl ⟨k0, rfl⟩⟩))))⟩)
  refine it p sc w r w' hs D m h tm S V Γ (d - 1) _ p0 hN (by omega) G w0 w1 s1 s2 s3 hm s (fun x h1 tm1 S1 V1 j1 x0 x1 s1' X1 o1 => ⟨by omega, ?_⟩) (fun h' k S' V' t a b c z e => ⟨by omega, V_Checker_agrees_0 ⟨fun q => absurd rfl q, fun _ => ⟨Or.inl rfl, B1 h' k S' V' t a b c z e⟩⟩⟩)
  have n1 := X1.1.1.1
  have gg : tm1 g = tm g := X1.2 g g0 g1
  refine k_agrees (by omega) s1'.2.1 x0 x1 g0 (by omega) (fun sa nf k K Xg eg og => ⟨Or.inr rfl, ?_⟩) (fun rs k hr z fo e4 e5 => ⟨Or.inl rfl, ?_⟩)
  · rw [gg] at sa nf K
    exact HG k tm1 _ V1 (tm g) (jc_in (Or.inr (Or.inr (Or.inr (Or.inr ⟨hc, 0, S1, V1, tm1 x, j1, Or.inr ⟨rfl, Or.inr (Or.inr ⟨sa, nf, rfl, rfl, rfl, rfl⟩)⟩⟩))))) ⟨KB_x s1'.1 og, K, by rw [eg]; exact s1'.2.2⟩ (ST_X s s1' X1 Xg) (KX_trans o1 og)
  · rw [gg] at hr
    refine HB k (10 * p + rs) S V tI (jc_in (Or.inr (Or.inr (Or.inr (Or.inr ⟨hc, 0, S1, V1, tm1 x, j1, Or.inr ⟨rfl, ?_⟩⟩))))) (by omega) (by omega) (KX_KZ o1 z) (FO_trans s.2.1.1 s1'.2.1.1 X1.1 fo)
    rcases hr with ⟨a, b⟩ | ⟨a, b, c⟩
    · exact Or.inl ⟨a, by omega⟩
    · exact Or.inr (Or.inl ⟨a, b, by omega⟩)
end
