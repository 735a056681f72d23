section
/-- the parts, and the end of a call -/
theorem k_rest {d : Nat} {h0 h g : HP} {A : Int} {N : Nat} {p sc w r w' hs D m m1 v2 k j sg n x : Int} {tm tm1 : Int → Tm} {S S1 : Sx} {V V1 : Vx} {Γ : Int → Tm} {mu : Int → Nat} {Q : PQ} (bc : BC h0 A) (ck : CkT h0 A N) (p0 : 0 ≤ p) (hN : h0 A 2 - p ≤ N) (hd : 4 * N + 33 < d) (G : gd h0 A p sc w r w') (w0 : w ≤ 240) (w1 : h0 A 2 ≤ w) (q1 : sc ≤ 3 + p) (q2 : 2 * hs ≤ 3 * p) (q3 : 4 * D ≤ p) (hm : m ≤ 26 + 3 * p + (w - h0 A 2)) (ek : k = bA (h0 (A + 1)) (h0 A 2) p) (ej : j = bA (h0 (A + 1)) (h0 A 2) (p + 1) - 48) (hk : k = 67 ∨ k = 71) (es : sg = cel k j) (en : n = ppr h0 k j) (hj : 0 ≤ j ∧ j < nPr h0 k) (s : ST h0 A h tm S V D sc hs Γ m) (s1 : ST h0 A g tm1 S1 V1 D sc (hs + n) Γ m1) (hm1 : m1 ≤ m + llr h0 k j + 1) (X : XB 96 h tm g tm1) (og : OG h g sc hs) (hx : 0 ≤ x ∧ x < g 96 13) (hr : HeldR g tm1 hs n (sgL (sbr h0 k j) (llr h0 k j) mu))
    (HG : ∀ h' tm' S' V', (∀ K : Sx → Vx → Prop, K S' V' → kiJ (jj h0 A) (h0 (A + 2)) Γ sc D 0 (sgF (sbr h0) (llr h0) (ppr h0) k j mu) (p + 2) S1 V1 K) → ST h0 A h' tm' S' V' D sc hs Γ (m + 3 * (r - p) + (w' - w)) → XB 96 h tm h' tm' → KX h h' sc hs → tm' x = tm1 x → x < h' 96 13 → Q x h')
    (HB : ∀ h' c, (∀ K : Sx → Vx → Prop, kiJ (jj h0 A) (h0 (A + 2)) Γ sc D c (sgF (sbr h0) (llr h0) (ppr h0) k j mu) (p + 2) S1 V1 K) → c = 10 * h' A 4 + h' A 5 → (1 ≤ h' A 5 ∧ h' A 5 ≤ 9 ∧ 0 ≤ h' A 4 ∧ h' A 4 ≤ 100) → KZ h h' sc hs A → FO h h' → Q (-1) h') :
    Go d M_Checker_call 179 [(10, 92), (0, p), (0, v2), (36, sg), (0, x), (0, hs), (0, p + 2), (0, 0)] [] g Q := by
  have a0 := bc.1
  have bn := bc.2.1
  have pn := GD_n G p0
  have hs0 := s.2.1.2.2.2.2.2.1.2.2.1
  have ce := cel_ok bc hk hj.1 hj.2
  rw [← es] at ce
  obtain ⟨⟨c1, c2⟩, csz, cl, cp, cb, ⟨l0, l1⟩, ⟨n0, n3⟩, O⟩ := ce
  have ll := sgL_len (mu := mu) l0 n0 O
  rw [← en] at cp n0 n3 ll
  obtain ⟨fl, fg⟩ := sgF_get (mu := mu) (sb' := sbr h0) (ll := llr h0) (pp := ppr h0) en n0 ll
  obtain ⟨ok, hw, c⟩ := GD_sign G p0 (by rw [← ek]; exact hk)
  rw [← ek, ← ej] at hw c
  rw [← en, show n.toNat = (sgF (sbr h0) (llr h0) (ppr h0) k j mu).length by omega] at c
  refine k_parts bc ck (n := n) p0 hN hd q1 q2 hs0 q3 n3 (by omega) (by omega) (by omega) (by omega) cp (sgF (sbr h0) (llr h0) (ppr h0) k j mu) (p + 2) (w + llr h0 k j) m1 0 g tm1 S1 V1 (by omega) (by omega) (by omega) c hw (by omega) (by omega) s1 (fun i il => ?_) (fun h' tm' S' V' kj s' X' o' => ?_) (fun h' c kj e1 e2 z f => ?_)
  · have q := hr i (by omega)
    rw [show hs + 0 + (i : Int) = hs + i by omega, fg i (by omega)]
    exact q
  · have F := fin_good n0 s s1 X og s' X' o'
    have gn := X'.1.1.1
    exact HG (up2 h' 92 6 hs) tm' S' V' kj (ST_le F.1 (by omega)) F.2.1 F.2.2 (X'.2 x hx.1 hx.2) (by rw [up2_nc (by omega)]; omega)
  · exact HB h' c kj e1 e2 (fin_bad n0 og z) (FO_trans s.2.1.1 s1.2.1.1 X.1 f)
theorem k_callI {h0 : HP} {A : Int} {N : Nat} (bc : BC h0 A) (ck : CkT h0 A N) : ClI h0 A (N + 1) := by
  intro p sc w r w' hs D m h tm S V Γ d Q hc p0 hN hd G w0 w1 q1 q2 q3 hm s HG HB
  have pn := GD_n G p0
  have bn := bc.2.1
  have hs0 := s.2.1.2.2.2.2.2.1.2.2.1
  obtain ⟨mu, F⟩ : ∃ mu, FrN V mu := by
    obtain ⟨c, W, hV⟩ := s.2.1.1
    exact fresh3 hV (Int.le_refl 0)
  refine k_made bc (by omega) p0 hc G w0 w1 q2 hm s F (fun k j sg n x g tm' ek ej es en hj s1 X o hx hr => ?_)
  have hk : k = 67 ∨ k = 71 := by rw [ek]; exact hc
  have ce := cel_ok bc hk hj.1 hj.2
  have l1 := ce.2.2.2.2.2.1
  have hw := (GD_sign G p0 hc).2.1
  rw [← ek, ← ej] at hw
  refine k_type bc (by omega) p0 (by omega) (by omega) ek hk es en hj hs0 (by omega) s s1 X o hx hr (fun g2 tm2 x' s2 X2 og hx' hr' => ⟨fun _ => ?_, fun z => absurd rfl z⟩)
  refine k_rest (mu := mu) bc ck p0 (by omega) (by omega) G w0 w1 q1 q2 q3 hm ek ej hk es en hj s s2 (Int.le_refl _) X2 og ⟨hx'.1, hx'.2.1⟩ hr' (fun h' tm' S' V' kj s' X' o' et xl => ?_) (fun h' c kj e1 e2 z f => ?_)
  · refine HG x' h' tm' S' V' (jn_in (Or.inr (Or.inr (Or.inr (Or.inr (Or.inr (Or.inl ⟨hc, mu, F, ?_⟩))))))) hx'.1 xl s' X' o'
    rw [← ek, ← ej]
    exact kj _ ⟨rfl, rfl, rfl, by rw [et]; exact hx'.2.2⟩
  · refine HB h' c S V tI (jn_in (Or.inr (Or.inr (Or.inr (Or.inr (Or.inr (Or.inl ⟨hc, mu, F, ?_⟩))))))) e1 e2 z f
    rw [← ek, ← ej]
    exact kj _
theorem k_callC {h0 : HP} {A : Int} {N : Nat} (bc : BC h0 A) (ck : CkT h0 A N) : ClC h0 A (N + 1) := by
  intro p sc w r w' hs D g m h tm S V Γ d Q hc p0 hN hd G w0 w1 q1 q2 q3 hm s g0 gl HG HB
  have pn := GD_n G p0
  have bn := bc.2.1
  have hs0 := s.2.1.2.2.2.2.2.1.2.2.1
  obtain ⟨mu, F⟩ : ∃ mu, FrN V mu := by
    obtain ⟨c, W, hV⟩ := s.2.1.1
    exact fresh3 hV (Int.le_refl 0)
  refine k_made bc (by omega) p0 hc G w0 w1 q2 hm s F (fun k j sg n x g' tm' ek ej es en hj s1 X o hx hr => ?_)
  have hk : k = 67 ∨ k = 71 := by rw [ek]; exact hc
  have ce := cel_ok bc hk hj.1 hj.2
  have l1 := ce.2.2.2.2.2.1
  have n0 : 0 ≤ n := by rw [en]; exact ce.2.2.2.2.2.2.1.1
  have hw := (GD_sign G p0 hc).2.1
  rw [← ek, ← ej] at hw
  refine k_type bc (by omega) p0 (by omega) (by omega) ek hk es en hj hs0 (by omega) s s1 X o hx hr (fun g2 tm2 x' s2 X2 og hx' hr' => ⟨fun z => by omega, fun _ => ?_⟩)
  have gn := X2.1.1.1
  have gg : tm2 g = tm g := X2.2 g g0 gl
  refine k_agrees (by omega) s2.2.1 hx'.1 hx'.2.1 g0 (by omega) (fun sa nf g3 K Xg eg og3 => ⟨fun _ => ⟨by unfold r32; omega, ?_⟩, fun z => absurd z (by decide)⟩) (fun rs g3 hr z fo e4 e5 => ⟨fun z => absurd rfl z, fun _ => ?_⟩)
  · rw [gg, hx'.2.2] at sa nf K
    have s3 := (⟨KB_x s2.1 og3, K, by rw [eg]; exact s2.2.2⟩ : ST h0 A g3 tm2 _ _ D sc (hs + n) Γ (m + llr h0 k j + 1))
    have og' : OG h g3 sc hs := fun a i p y q r => by rw [og3 a i p y (by omega)]; exact og a i p y q r
    refine k_rest (mu := mu) bc ck p0 (by omega) (by omega) G w0 w1 q1 q2 q3 hm ek ej hk es en hj s s3 (Int.le_refl _) (ST_X s s2 X2 Xg) og' ⟨hx'.1, by omega⟩ (fun i il => ?_) (fun h' tm' S' V' kj s' X' o' et xl => ?_) (fun h' c kj e1 e2 z f => ?_)
    · have u := hr' i il
      rw [og3 122 _ (by omega) (by omega) (by omega), eg]
      exact u
    · refine HG x' h' tm' S' V' (tm g) hx'.1 (jc_in (Or.inr (Or.inr (Or.inl ⟨hc, mu, F, ?_⟩)))) s' X' o'
      rw [← ek, ← ej]
      exact Or.inr (Or.inr ⟨sa, nf, kj _ ⟨rfl, rfl, rfl, rfl⟩⟩)
    · refine HB h' c S V tI (jc_in (Or.inr (Or.inr (Or.inl ⟨hc, mu, F, ?_⟩)))) e1 e2 z f
      rw [← ek, ← ej]
      exact Or.inr (Or.inr ⟨sa, nf, kj _⟩)
  · rw [gg, hx'.2.2] at hr
    refine HB g3 (10 * p + rs) S V tI (jc_in (Or.inr (Or.inr (Or.inl ⟨hc, mu, F, ?_⟩)))) (by omega) (by omega) (fin_bad n0 og z) (FO_trans s.2.1.1 s2.2.1.1 X2.1 fo)
    rw [← ek, ← ej]
    rcases hr with ⟨a, b⟩ | ⟨a, b, c⟩
    · exact Or.inl ⟨a, by omega⟩
    · exact Or.inr (Or.inl ⟨a, b, by omega⟩)
end
