section
/-! the contracts of check and infer -/
def BC (h0 : HP) (A : Int) : Prop := (A = 30 ∨ A = 33) ∧ (0 ≤ h0 A 2 ∧ h0 A 2 ≤ 100) ∧ DcR h0 ∧ DcO h0
def KB (h0 h : HP) (A : Int) : Prop := ∀ a i, a < 92 ∨ 123 < a → ¬ (a = A ∧ (i = 4 ∨ i = 5)) → h a i = h0 a i
def sbr (h : HP) (k j : Int) : Int → Int := if k = 71 then h (62 + 5 * j) else h (42 + 2 * j)
def jj (h0 : HP) (A : Int) : JX := JJ (bA (h0 (A + 1)) (h0 A 2)) (h0 (A + 2)) (h0 36 4) (sbr h0) (llr h0) (ppr h0) (fun j => h0 (41 + 2 * j) 4)
def gd (h0 : HP) (A : Int) : Int → Int → Int → Int → Int → Prop := GD (bA (h0 (A + 1)) (h0 A 2)) (h0 (A + 2)) (nPr h0) (ppr h0) (llr h0)
def ST (h0 : HP) (A : Int) (h : HP) (tm : Int → Tm) (S : Sx) (V : Vx) (D sc hs : Int) (Γ : Int → Tm) (m : Int) : Prop := KB h0 h A ∧ KS h tm S V D sc hs A Γ ∧ h 96 13 ≤ m
def BAD (h0 : HP) (A p : Int) (Γ : Int → Tm) (sc : Int) (go : Option Tm) (S : Sx) (V : Vx) (D hs : Int) (h : HP) (R : HP → Prop) : Prop := ∀ h' k S' V' t, jj h0 A p Γ sc go S V D k S' V' t → k = 10 * h' A 4 + h' A 5 → (1 ≤ h' A 5 ∧ h' A 5 ≤ 9 ∧ 0 ≤ h' A 4 ∧ h' A 4 ≤ 100) → KZ h h' sc hs A → FO h h' → R h'
def CkT (h0 : HP) (A : Int) (N : Nat) : Prop := ∀ (p sc w r w' hs D g m : Int) (h : HP) (tm : Int → Tm) (S : Sx) (V : Vx) (Γ : Int → Tm) (d : Nat) (Q : PQ), 0 ≤ p → h0 A 2 + 1 - p ≤ N → 4 * N + 32 < d → gd h0 A p sc w r w' → w ≤ 240 → h0 A 2 ≤ w → sc ≤ 3 + p → 2 * hs ≤ 3 * p → 4 * D ≤ p → m ≤ 26 + 3 * p + (w - h0 A 2) → ST h0 A h tm S V D sc hs Γ m → 0 ≤ g → g < h 96 13 →
  (∀ h' tm' S' V' t, jj h0 A p Γ sc (some (tm g)) S V D 0 S' V' t → ST h0 A h' tm' S' V' D sc hs Γ (m + 3 * (r - p) + (w' - w)) → XB 96 h tm h' tm' → KX h h' sc hs → Q 1 h') → BAD h0 A p Γ sc (some (tm g)) S V D hs h (Q 0) →
  Go d M_Checker_check 0 [(10, 92), (0, p), (0, g), (2, 0), (2, 0), (2, 0)] [] h Q
def InT (h0 : HP) (A : Int) (N : Nat) : Prop := ∀ (p sc w r w' hs D m : Int) (h : HP) (tm : Int → Tm) (S : Sx) (V : Vx) (Γ : Int → Tm) (d : Nat) (Q : PQ), 0 ≤ p → h0 A 2 + 1 - p ≤ N → 4 * N + 30 < d → gd h0 A p sc w r w' → w ≤ 240 → h0 A 2 ≤ w → sc ≤ 3 + p → 2 * hs ≤ 3 * p → 4 * D ≤ p → m ≤ 26 + 3 * p + (w - h0 A 2) → ST h0 A h tm S V D sc hs Γ m →
  (∀ x h' tm' S' V', jj h0 A p Γ sc none S V D 0 S' V' (tm' x) → 0 ≤ x → x < h' 96 13 → ST h0 A h' tm' S' V' D sc hs Γ (m + 3 * (r - p) + (w' - w)) → XB 96 h tm h' tm' → KX h h' sc hs → Q x h') → BAD h0 A p Γ sc none S V D hs h (Q (-1)) →
  Go d M_Checker_infer 0 [(10, 92), (0, p), (2, 0), (2, 0), (2, 0), (2, 0), (2, 0), (2, 0), (2, 0), (2, 0)] [] h Q
theorem KB_x {h0 h h' : HP} {A sc hs : Int} (k : KB h0 h A) (o : KX h h' sc hs) : KB h0 h' A := fun a i p q => (o a i (by omega) (by omega) (by omega)).trans (k a i p q)
theorem ST_le {h0 : HP} {A : Int} {h : HP} {tm : Int → Tm} {S : Sx} {V : Vx} {D sc hs : Int} {Γ : Int → Tm} {m m' : Int} (H : ST h0 A h tm S V D sc hs Γ m) (l : m ≤ m') : ST h0 A h tm S V D sc hs Γ m' := ⟨H.1, H.2.1, by have := H.2.2; omega⟩
theorem ST_step {h0 : HP} {A : Int} {h h' : HP} {tm tm' : Int → Tm} {S S' : Sx} {V V' : Vx} {D sc hs : Int} {Γ : Int → Tm} {m m' : Int} (H : ST h0 A h tm S V D sc hs Γ m) (C : CV h' 96 512 tm' S' V') (X : XB 96 h tm h' tm') (o : KX h h' sc hs) (l : h' 96 13 ≤ m') : ST h0 A h' tm' S' V' D sc hs Γ m' := ⟨KB_x H.1 o, KS_step H.2.1 C X o, l⟩
theorem ST_X {h0 : HP} {A : Int} {h h1 h2 : HP} {tm tm1 tm2 : Int → Tm} {S S1 : Sx} {V V1 : Vx} {D D1 sc hs sc1 hs1 : Int} {Γ Γ1 : Int → Tm} {m m1 : Int} (H : ST h0 A h tm S V D sc hs Γ m) (H1 : ST h0 A h1 tm1 S1 V1 D1 sc1 hs1 Γ1 m1) (a : XB 96 h tm h1 tm1) (b : XB 96 h1 tm1 h2 tm2) : XB 96 h tm h2 tm2 := XB_trans H.2.1.1 H1.2.1.1 a b
theorem BAD_sub {h0 : HP} {A p q : Int} {Γ : Int → Tm} {sc : Int} {go go' : Option Tm} {S S1 : Sx} {V V1 : Vx} {D hs : Int} {h h1 : HP} {tm tm1 : Int → Tm} {m m1 : Int} {R : HP → Prop} (H : BAD h0 A p Γ sc go S V D hs h R) (s : ST h0 A h tm S V D sc hs Γ m) (s1 : ST h0 A h1 tm1 S1 V1 D sc hs Γ m1) (X : XB 96 h tm h1 tm1) (o : KX h h1 sc hs) (lf : ∀ k S' V' t, k ≠ 0 → jj h0 A q Γ sc go' S1 V1 D k S' V' t → ∃ S2 V2 t2, jj h0 A p Γ sc go S V D k S2 V2 t2) : BAD h0 A q Γ sc go' S1 V1 D hs h1 R := by
  intro h' k S' V' t j e b z f
  obtain ⟨S2, V2, t2, j2⟩ := lf k S' V' t (by omega) j
  exact H h' k S2 V2 t2 j2 e b (KX_KZ o z) (FO_trans s.2.1.1 s1.2.1.1 X.1 f)
theorem k_beh {d : Nat} {h0 h : HP} {A q : Int} {Q : PQ} (hd : 7 < d) (bc : BC h0 A) (kb : KB h0 h A) (q0 : 0 ≤ q) (H : ∀ y, (∀ sc w r w', gd h0 A q sc w r w' → y = r) → Q y h) : Go d M_Code_behind 0 [(11, A), (0, q)] [] h Q := by
  obtain ⟨a0, n, _⟩ := bc
  have sz : aSZ (A + 2) = 100 := by rcases a0 with e | e <;> subst e <;> rfl
  have e2 : h A 2 = h0 A 2 := kb A 2 (by omega) (by omega)
  have er : h (A + 2) q = h0 (A + 2) q := kb _ q (by omega) (by omega)
  refine V_Code_behind_0 ⟨fun z => by omega, fun _ => ⟨fun z => H _ (fun sc w r w' G => ?_), fun z => ⟨⟨q0, by omega⟩, by unfold r32; omega, hd, H _ (fun sc w r w' G => ?_)⟩⟩⟩
  · have := GD_n G q0; omega
  · have := GD_e G; rw [er]; omega
theorem k_byte {d : Nat} {h0 h : HP} {A q : Int} {Q : PQ} (bc : BC h0 A) (kb : KB h0 h A) (H : Q (bA (h0 (A + 1)) (h0 A 2) q) h) : Go d M_Code_byteAt 0 [(11, A), (0, q)] [] h Q := by
  obtain ⟨a0, n, _⟩ := bc
  have sz : aSZ (A + 1) = 100 := by rcases a0 with e | e <;> subst e <;> rfl
  have e2 : h A 2 = h0 A 2 := kb A 2 (by omega) (by omega)
  have er : h (A + 1) = h0 (A + 1) := funext fun q => kb _ q (by omega) (by omega)
  refine c_codeB sz (by omega) ?_
  rw [er, e2]
  exact H
/-- two parts that are both checked against one type -/
theorem k_two {d : Nat} {h0 h : HP} {A : Int} {N : Nat} {p sc w r w' hs D y1 f m : Int} {tm : Int → Tm} {S : Sx} {V : Vx} {Γ : Int → Tm} {G : Tm} {P0 P1 : HP → Prop} (ck : CkT h0 A N) (p0 : 0 ≤ p) (hN : h0 A 2 - p ≤ N) (hd : 4 * N + 34 < d) (c : GC (gd h0 A) 2 (p + 1) sc w r w') (hl : ∀ q sc w r w', 0 ≤ q → gd h0 A q sc w r w' → q < r ∧ r ≤ h0 A 2 ∧ w ≤ w' ∧ (w ≤ 240 → w' ≤ 240)) (w0 : w ≤ 240) (w1 : h0 A 2 ≤ w) (s1 : sc ≤ 3 + p) (s2 : 2 * hs ≤ 3 * p) (s3 : 4 * D ≤ p) (hm : m ≤ 26 + 3 * p + (w - h0 A 2)) (s : ST h0 A h tm S V D sc hs Γ m) (hy : ∀ sc w r w', gd h0 A (p + 1) sc w r w' → y1 = r) (hf : ∀ (h : HP) tm S V, KS h tm S V D sc hs A Γ → 0 ≤ h 92 f ∧ h 92 f < h 96 13 ∧ tm (h 92 f) = G)
    (H1 : ∀ h' tm' S1 V1 t1 S2 V2 t2, jj h0 A (p + 1) Γ sc (some G) S V D 0 S1 V1 t1 → jj h0 A (h0 (A + 2) (p + 1)) Γ sc (some G) S1 V1 D 0 S2 V2 t2 → ST h0 A h' tm' S2 V2 D sc hs Γ (m + 3 * (r - p) + (w' - w)) → XB 96 h tm h' tm' → KX h h' sc hs → P1 h')
    (H2 : BAD h0 A (p + 1) Γ sc (some G) S V D hs h P0) (H3 : ∀ h1 tm1 m' S1 V1 t1, jj h0 A (p + 1) Γ sc (some G) S V D 0 S1 V1 t1 → ST h0 A h1 tm1 S1 V1 D sc hs Γ m' → XB 96 h tm h1 tm1 → KX h h1 sc hs → BAD h0 A (h0 (A + 2) (p + 1)) Γ sc (some G) S1 V1 D hs h1 P0) :
    Go (d - 1) M_Checker_check 0 [(10, 92), (0, p + 1), (0, h 92 f), (2, 0), (2, 0), (2, 0)] [] h (fun y k => (y = 0 → P0 k) ∧ (y ≠ 0 → 0 < d ∧ Go (d - 1) M_Checker_check 0 [(10, 92), (0, y1), (0, k 92 f), (2, 0), (2, 0), (2, 0)] [] k (fun y' k' => (y' = 0 → P0 k') ∧ (y' ≠ 0 → P1 k')))) := by
  obtain ⟨r1, v1, g1, r2, v2, g2, er, ew⟩ := c
  subst er ew
  have l1 := hl _ _ _ _ _ (by omega) g1
  have l2 := hl _ _ _ _ _ (by omega) g2
  have ee : h0 (A + 2) (p + 1) = r1 := (GD_e g1).2
  have ey := hy _ _ _ _ g1
  subst ey
  have q := hf h tm S V s.2.1
  have H2' := H2
  rw [← q.2.2] at H2'
  refine ck (p + 1) sc w _ _ hs D (h 92 f) m h tm S V Γ (d - 1) _ (by omega) (by omega) (by omega) g1 w0 w1 (by omega) (by omega) (by omega) (by omega) s q.1 q.2.1 (fun h1 tm1 S1 V1 t1 j1 s1' X1 o1 => ⟨fun z => absurd z (by decide), fun _ => ⟨by omega, ?_⟩⟩) (fun h' k S' V' t a b c d e => ⟨fun _ => H2' h' k S' V' t a b c d e, fun z => absurd rfl z⟩)
  rw [q.2.2] at j1
  have q1 := hf h1 tm1 S1 V1 s1'.2.1
  have H3' := H3 h1 tm1 _ S1 V1 t1 j1 s1' X1 o1
  rw [ee, ← q1.2.2] at H3'
  refine ck y1 sc v1 _ _ hs D (h1 92 f) _ h1 tm1 S1 V1 Γ (d - 1) _ (by omega) (by omega) (by omega) g2 (by omega) (by omega) (by omega) (by omega) (by omega) (by omega) s1' q1.1 q1.2.1 (fun h2 tm2 S2 V2 t2 j2 s2' X2 o2 => ⟨fun z => absurd z (by decide), fun _ => ?_⟩) (fun h' k S' V' t a b c d e => ⟨fun _ => H3' h' k S' V' t a b c d e, fun z => absurd rfl z⟩)
  rw [q1.2.2] at j2
  exact H1 h2 tm2 S1 V1 t1 S2 V2 t2 j1 (by rw [ee]; exact j2) (ST_le s2' (by omega)) (ST_X s s1' X1 X2) (KX_trans o1 o2)
end
