section
theorem c_bears {d : Nat} {g : HP} {a y dg : Int} {Q : PQ} (hd : 0 < d) (hc : g 91 1 = a) (a0 : a ≠ 0) (aa : a ≠ 91) (rr : y ≠ 0 → r32 (g 91 2 + g y 1))
    (H1 : y ≠ 0 → g 91 2 + g y 1 ≤ 240 → ∀ g1 : HP, g1 = up2 g 91 2 (g 91 2 + g y 1) → Q 1 g1)
    (H2 : y ≠ 0 → 240 < g 91 2 + g y 1 → ∀ g3 : HP, (∀ x i, ¬ (x = 91 ∧ i = 2) → ¬ (x = a ∧ i = 4) → ¬ (x = a ∧ i = 5) → g3 x i = g x i) → g3 a 4 = dg → g3 a 5 = 2 → Q 0 g3)
    (H0 : y = 0 → ∀ g5 : HP, (∀ x i, ¬ (x = a ∧ i = 4) → ¬ (x = a ∧ i = 5) → g5 x i = g x i) → g5 a 4 = dg → g5 a 5 = 1 → Q 0 g5) :
    Go d M_Reader_bears 0 [(15, 91), (36, y), (0, dg)] [] g Q := by
  refine V_Reader_bears_0 ⟨fun z => ⟨z, rr z, fun g1 e1 => ?_⟩, fun z => ?_⟩
  · have q2 : g1 91 2 = g 91 2 + g y 1 := by rw [e1, up2_eq]
    have q1 : g1 91 1 = a := by rw [e1, up2_ni (by decide), hc]
    rw [q1, q2]
    refine ⟨fun u => H1 z u g1 e1, fun u => ⟨a0, hd, fun g2 e2 g3 e3 => H2 z u g3 (fun x i p q r => by rw [e3, up2_ext r, e2, up2_ext q, e1, up2_ext p]) ?_ (by rw [e3, up2_eq])⟩⟩
    rw [e3, up2_ni (by decide), e2, up2_eq]
  · rw [hc]
    refine ⟨a0, hd, fun g2 e2 g3 e3 => H0 z g3 (fun x i q r => by rw [e3, up2_ext r, e2, up2_ext q]) ?_ (by rw [e3, up2_eq])⟩
    rw [e3, up2_ni (by decide), e2, up2_eq]
theorem CaS_end {h0 g : HP} {a q sc : Int} (I : RdI h0 g a) (w0 : 0 ≤ g 91 2) (w1 : g 91 2 ≤ 240) (c : Bh h0 a q = 125) : CaS h0 g g a q sc (q + 1) := by
  have l := bA_lt (b := h0 (a + 1)) (n := h0 a 2) (p := q) (by show Bh h0 a q ≠ -1; omega)
  exact ⟨I, ⟨by omega, by omega⟩, ⟨w0, w1⟩, fun _ _ => rfl, 1, 0, by omega, by omega, by omega, fun e he => Or.inl ⟨c, rfl, rfl, rfl⟩⟩
theorem CaX_bad {h0 g g2 : HP} {a q sc : Int} (q0 : 0 ≤ q) (q1 : q ≤ h0 a 2) (I : RdI h0 g2 a) (u : ∀ x, g2 (a + 2) x = g (a + 2) x) (c : Bh h0 a q ≠ 125) (no : ¬ okD (Bh h0 a) (nPr h0) 67 q) (e4 : g2 a 4 = q) (e5 : g2 a 5 = 1) : CaX h0 g g2 a q sc :=
  ⟨I, fun x _ => u x, ⟨by omega, by omega, Or.inl e5⟩, 1, 0, 0, fun e he => Or.inr ⟨c, Or.inl ⟨no, by omega⟩⟩⟩
theorem CaX_heavy {h0 g g2 : HP} {a q sc : Int} (q0 : 0 ≤ q) (q1 : q ≤ h0 a 2) (I : RdI h0 g2 a) (u : ∀ x, g2 (a + 2) x = g (a + 2) x) (c : Bh h0 a q ≠ 125) (ok : okD (Bh h0 a) (nPr h0) 67 q) (hv : 240 < g 91 2 + llr h0 67 (Bh h0 a q - 48)) (e4 : g2 a 4 = q) (e5 : g2 a 5 = 2) : CaX h0 g g2 a q sc :=
  ⟨I, fun x _ => u x, ⟨by omega, by omega, Or.inr e5⟩, 1, 0, 0, fun e he => Or.inr ⟨c, Or.inr (Or.inl ⟨ok, hv, by omega⟩)⟩⟩
theorem CaS_cons {h0 g g1 k k2 : HP} {a q sc r1 r : Int} (q0 : 0 ≤ q) (c : Bh h0 a q ≠ 125) (ok : okD (Bh h0 a) (nPr h0) 67 q) (hw : g 91 2 + llr h0 67 (Bh h0 a q - 48) ≤ 240) (e1 : g1 91 2 = g 91 2 + llr h0 67 (Bh h0 a q - 48)) (u1 : ∀ x, g1 (a + 2) x = g (a + 2) x) (e3 : g1 a 3 = g a 3) (S1 : RdS h0 g1 k a (q + 1) (sc + ppr h0 67 (Bh h0 a q - 48)) r1) (S2 : CaS h0 k k2 a r1 sc r) : CaS h0 g k2 a q sc r := by
  obtain ⟨i1, ⟨b1, b2⟩, w1, v1, m1, d1, l1, t1, R1⟩ := S1
  obtain ⟨i2, ⟨b3, b4⟩, w2, v2, f, m2, d2, l2, t2, R2⟩ := S2
  rw [e1] at R1
  refine ⟨i2, ⟨by omega, b4⟩, w2, fun x hx => by rw [v2 x (by omega), v1 x (by omega), u1], f + 1, m1 + m2, by omega, by omega, by omega, fun e he => ?_⟩
  exact Or.inr ⟨c, Or.inr (Or.inr ⟨ok, hw, r1, k 91 2, m1, R1 e (fun x x0 x1 => by rw [he x (by omega) (by omega), v2 x x1]), Or.inr ⟨by omega, m2, R2 e (fun x x0 x1 => he x (by omega) x1), rfl⟩⟩)⟩
theorem CaX_kid {h0 g g1 k : HP} {a q sc : Int} (c : Bh h0 a q ≠ 125) (ok : okD (Bh h0 a) (nPr h0) 67 q) (hw : g 91 2 + llr h0 67 (Bh h0 a q - 48) ≤ 240) (e1 : g1 91 2 = g 91 2 + llr h0 67 (Bh h0 a q - 48)) (u1 : ∀ x, g1 (a + 2) x = g (a + 2) x) (X1 : RdX h0 g1 k a (q + 1) (sc + ppr h0 67 (Bh h0 a q - 48))) : CaX h0 g k a q sc := by
  obtain ⟨i1, v1, f1, w', m, R1⟩ := X1
  rw [e1] at R1
  refine ⟨i1, fun x hx => by rw [v1 x (by omega), u1], f1, 1, w', m, fun e he => Or.inr ⟨c, Or.inr (Or.inr ⟨ok, hw, _, w', m, R1 e (fun x x0 => he x (by omega)), Or.inl ⟨?_, rfl⟩⟩)⟩⟩
  unfold Flt at f1
  omega
theorem CaX_cons {h0 g g1 k k2 : HP} {a q sc r1 : Int} (q0 : 0 ≤ q) (c : Bh h0 a q ≠ 125) (ok : okD (Bh h0 a) (nPr h0) 67 q) (hw : g 91 2 + llr h0 67 (Bh h0 a q - 48) ≤ 240) (e1 : g1 91 2 = g 91 2 + llr h0 67 (Bh h0 a q - 48)) (u1 : ∀ x, g1 (a + 2) x = g (a + 2) x) (S1 : RdS h0 g1 k a (q + 1) (sc + ppr h0 67 (Bh h0 a q - 48)) r1) (X2 : CaX h0 k k2 a r1 sc) : CaX h0 g k2 a q sc := by
  obtain ⟨i1, ⟨b1, b2⟩, w1, v1, m1, d1, l1, t1, R1⟩ := S1
  obtain ⟨i2, v2, f2, f, w', m2, R2⟩ := X2
  rw [e1] at R1
  refine ⟨i2, fun x hx => by rw [v2 x (by omega), v1 x (by omega), u1], f2, f + 1, w', m1 + m2, fun e he => ?_⟩
  exact Or.inr ⟨c, Or.inr (Or.inr ⟨ok, hw, r1, k 91 2, m1, R1 e (fun x x0 x1 => by rw [he x (by omega), v2 x x1]), Or.inr ⟨by omega, m2, R2 e (fun x x0 => he x (by omega)), rfl⟩⟩)⟩
theorem c_read {h0 : HP} {a : Int} (a0 : a = 30 ∨ a = 33) (hc : h0 91 1 = a) (n0 : 0 ≤ h0 a 2) (n1 : h0 a 2 ≤ 100) (D : DcC h0) : ∀ (N : Nat) (p sc : Int) (h : HP) (d : Nat) (Q : PQ), 0 ≤ p → p ≤ h0 a 2 → h0 a 2 + 1 - p ≤ N → 0 ≤ sc → sc ≤ 3 + 3 * p → 2 * N + 20 < d → RdI h0 h a → 0 ≤ h 91 2 → h 91 2 ≤ 240 → 0 ≤ h a 3 → h a 3 ≤ p → (∀ r g, RdS h0 h g a p sc r → Q r g) → (∀ g, RdX h0 h g a p sc → Q (-1) g) → Go d M_Reader_read 0 [(15, 91), (0, p), (0, sc), (2, 0), (2, 0), (2, 0), (2, 0)] [] h Q := by
  have sz1 : aSZ (a + 1) = 100 := by rcases a0 with e | e <;> subst e <;> rfl
  have sz2 : aSZ (a + 2) = 100 := by rcases a0 with e | e <;> subst e <;> rfl
  obtain ⟨⟨D1, D2, D3, D4⟩, Dc, Df⟩ := D
  -- what a heap in between has
  have cod : ∀ g, RdI h0 g a → g 91 1 = a := fun g I => by rw [I 91 1 (by omega) (by omega) (by omega), hc]
  have len : ∀ g, RdI h0 g a → g a 2 = h0 a 2 := fun g I => I a 2 (by omega) (by omega) (by omega)
  have row : ∀ g, RdI h0 g a → g (a + 1) = h0 (a + 1) := fun g I => funext fun i => I _ i (by omega) (by omega) (by omega)
  have d4 : ∀ g, RdI h0 g a → g 36 4 = h0 36 4 := fun g I => I 36 4 (by omega) (by omega) (by omega)
  have d5 : ∀ g, RdI h0 g a → g 36 5 = h0 36 5 := fun g I => I 36 5 (by omega) (by omega) (by omega)
  -- lengths and parts
  have lr : ∀ k j, (k = 67 ∨ k = 71) → 0 ≤ j → j < nPr h0 k → (0 ≤ llr h0 k j ∧ llr h0 k j ≤ 24) ∧ (0 ≤ ppr h0 k j ∧ ppr h0 k j ≤ 3) := by
    intro k j hk j0 j1
    unfold nPr at j1
    unfold llr ppr
    by_cases z : k = 71
    · rw [if_pos z] at j1 ⊢
      rw [if_pos z]
      exact Df j j0 j1
    · rw [if_neg z] at j1 ⊢
      rw [if_neg z]
      exact Dc j j0 j1
  have cl : ∀ g k j, RdI h0 g a → (k = 67 ∨ k = 71) → 0 ≤ j → j < nPr h0 k → cel k j ≠ 0 ∧ g (cel k j) 1 = llr h0 k j ∧ g (cel k j) 2 = ppr h0 k j := by
    intro g k j I hk j0 j1
    unfold nPr at j1
    unfold cel llr ppr
    by_cases z : k = 71
    · rw [if_pos z] at j1
      rw [if_pos z, if_pos z, if_pos z]
      exact ⟨by omega, I _ _ (by omega) (by omega) (by omega), I _ _ (by omega) (by omega) (by omega)⟩
    · rw [if_neg z] at j1
      rw [if_neg z, if_neg z, if_neg z]
      exact ⟨by omega, I _ _ (by omega) (by omega) (by omega), I _ _ (by omega) (by omega) (by omega)⟩
  intro N
  induction N with
  | zero => intro p sc h d Q p0 p1 pN; exfalso; omega
  | succ N ih =>
    intro p sc h d Q p0 p1 pN s0 s1 hd I w0 w1 m0 m1 K1 K0
    have fin1 : ∀ (k : HP) (r m : Int), RdI h0 k a → p < r → r ≤ h0 a 2 → 0 ≤ k 91 2 → k 91 2 ≤ 240 → (∀ q, q < p → k (a + 2) q = h (a + 2) q) → k a 3 = h a 3 + m → 1 ≤ m → m ≤ r - p → (∀ e : Int → Int, e p = r → (∀ q, p + 1 ≤ q → q < r → e q = k (a + 2) q) → RDh h0 a e p sc (h 91 2) r (k 91 2) m) → Go (d - 1) M_Code_noteEnd 0 [(11, a), (0, p), (0, r)] [] k (fun _ k1 => Q r k1) := by
      intro k r m Ik r0 r1 v0 v1 u e3 l1 l2 R
      have lk := len k Ik
      refine c_note sz2 p0 (by omega) (fun g eg _ => K1 r g ?_)
      have eg := eg (by omega)
      have q : ∀ x i, ¬ (x = a + 2 ∧ i = p) → g x i = k x i := fun x i z => by rw [eg, up2_ext z]
      refine ⟨RdI_note Ik eg, ⟨r0, r1⟩, by rw [q 91 2 (by omega)]; exact ⟨v0, v1⟩, fun x hx => by rw [q _ _ (by omega)]; exact u x hx, m, by rw [q a 3 (by omega)]; exact e3, l1, l2, fun e he => ?_⟩
      rw [q 91 2 (by omega)]
      exact R e (by rw [he p (by omega) r0, eg, up2_eq]) (fun x x0 x1 => by rw [he x (by omega) x1, q _ _ (by omega)])
    have fin0 : ∀ (k : HP) (w' m : Int), RdI h0 k a → (∀ q, q < p → k (a + 2) q = h (a + 2) q) → Flt h0 k a → (∀ e : Int → Int, (∀ q, p + 1 ≤ q → e q = k (a + 2) q) → RDh h0 a e p sc (h 91 2) (-(2 * k a 4 + k a 5)) w' m) → Go (d - 1) M_Code_noteEnd 0 [(11, a), (0, p), (0, -1)] [] k (fun _ k1 => Q (-1) k1) := by
      intro k w' m Ik u fl R
      have lk := len k Ik
      refine c_note sz2 p0 (by omega) (fun g eg eg0 => K0 g ?_)
      have q : ∀ x i, ¬ (x = a + 2 ∧ i = p) → g x i = k x i := by
        intro x i z
        rcases Int.lt_or_le p (k a 2) with y | y
        · rw [eg y, up2_ext z]
        · rw [eg0 y]
      refine ⟨fun x i p1 p2 p3 => by rw [q x i (by omega)]; exact Ik x i p1 p2 p3, fun x hx => by rw [q _ _ (by omega)]; exact u x hx, ?_, w', m, fun e he => ?_⟩
      · unfold Flt at fl ⊢; rw [q a 4 (by omega), q a 5 (by omega)]; exact fl
      · rw [q a 4 (by omega), q a 5 (by omega)]
        exact R e (fun x x0 => by rw [he x (by omega), q _ _ (by omega)])
    -- parts one after the other
    have chain : ∀ (j : Nat) (i q : Int) (g : HP) (c parts : Int), i + j = parts → 0 ≤ i → parts ≤ 3 → p < q → q ≤ h0 a 2 → RdI h0 g a → 0 ≤ g 91 2 → g 91 2 ≤ 240 → 0 ≤ g a 3 → g a 3 ≤ q → (∀ r k, ChS h0 g k a j q sc r → Go (d - 1) M_Code_noteEnd 0 [(11, a), (0, p), (0, r)] [] k (fun _ k1 => Q r k1)) → (∀ k, ChX h0 g k a j q sc → Go (d - 1) M_Code_noteEnd 0 [(11, a), (0, p), (0, -1)] [] k (fun _ k1 => Q (-1) k1)) → Go d M_Reader_read 73 [(15, 91), (0, p), (0, sc), (0, c), (0, q), (0, parts), (0, i)] [] g Q := by
      intro j
      induction j with
      | zero =>
        intro i q g c parts ij i0 i3 q0 q1 Ig v0 v1 c0 c1 L1 L0
        refine V_Reader_read_73 ?_
        rw [cod g Ig]
        exact ⟨fun _ => ⟨fun _ => ⟨by omega, by omega, L1 q g (ChS_nil Ig q1 v0 v1)⟩, fun z => by omega⟩, fun z => by omega⟩
      | succ j ihj =>
        intro i q g c parts ij i0 i3 q0 q1 Ig v0 v1 c0 c1 L1 L0
        refine V_Reader_read_73 ⟨fun z => by omega, fun _ => ⟨fun z => by omega, fun _ => ⟨by omega, ih q sc g (d - 1) _ (by omega) q1 (by omega) s0 (by omega) (by omega) Ig v0 v1 c0 c1 (fun r1 k S1 => ⟨by unfold r32; omega, ?_⟩) (fun k X1 => ⟨by unfold r32; omega, ?_⟩)⟩⟩⟩
        · have S1' := S1
          obtain ⟨i1, ⟨b1, b2⟩, ⟨x1, x2⟩, u1, m', e1, l1, t1, R1⟩ := S1'
          exact ihj (i + 1) r1 k c parts (by omega) (by omega) i3 (by omega) b2 i1 x1 x2 (by omega) (by omega) (fun r k2 S2 => L1 r k2 (ChS_cons (by omega) S1 S2)) (fun k2 X2 => L0 k2 (ChX_cons (by omega) S1 X2))
        · refine V_Reader_read_73 ?_
          rw [cod k X1.1]
          have G := L0 k (ChX_kid X1)
          exact ⟨fun _ => ⟨fun _ => ⟨by omega, by omega, G⟩, fun z => by omega⟩, fun _ => ⟨fun _ => ⟨fun _ => ⟨by omega, by omega, G⟩, fun z => by omega⟩, fun z => absurd rfl z⟩⟩
    -- cases one after the other
    have cases : ∀ (F : Nat) (q v4 : Int) (w5 : AV) (g : HP) (Q' : PQ), h0 a 2 - q < F → p + 1 < q → q ≤ h0 a 2 → 0 ≤ v4 → v4 ≤ q - 2 → RdI h0 g a → 0 ≤ g 91 2 → g 91 2 ≤ 240 → 0 ≤ g a 3 → g a 3 ≤ q → (∀ r k, CaS h0 g k a q sc r → Q' r k) → (∀ k, CaX h0 g k a q sc → Q' (-1) k) → Go (d - 1) M_Reader_readMatch 45 [(15, 91), (0, p), (0, sc), (0, q), (0, v4), w5] [] g Q' := by
      intro F
      induction F with
      | zero => intro q v4 w5 g Q' hF q0 q1; exfalso; omega
      | succ F ihF =>
        intro q v4 w5 g Q' hF q0 q1 f0 f1 Ig v0 v1 c0 c1 L1 L0
        have lg := len g Ig
        have eB : bA (g (a + 1)) (g a 2) = Bh h0 a := by rw [row g Ig, lg]
        refine V_Reader_readMatch_45 ⟨fun z => by omega, fun _ => ?_⟩
        rw [cod g Ig]
        refine ⟨by omega, by omega, c_codeB sz1 (by omega) ?_⟩
        rw [eB, cod g Ig]
        refine ⟨fun c => ⟨by unfold r32; omega, L1 (q + 1) g (CaS_end Ig v0 v1 c)⟩, fun c => ⟨by omega, by omega, ?_⟩⟩
        have bad : ¬ okD (Bh h0 a) (nPr h0) 67 q → 0 < d - 1 ∧ Go (d - 1 - 1) M_Reader_bears 0 [(15, 91), (36, 0), (0, q)] [] g (fun y4 k4 => (y4 ≠ 0 → r32 (q + 1) ∧ (0 : Int) ≠ 0 ∧ r32 (sc + k4 0 2) ∧ 0 < d - 1 ∧ Go (d - 1 - 1) M_Reader_read 0 [(15, 91), (0, q + 1), (0, sc + k4 0 2), (2, 0), (2, 0), (2, 0), (2, 0)] [] k4 (fun y5 k5 => (y5 ≠ -1 → r32 (v4 + 1) ∧ Go (d - 1) M_Reader_readMatch 45 [(15, 91), (0, p), (0, sc), (0, y5), (0, v4 + 1), (36, 0)] [] k5 Q') ∧ (y5 = -1 → Q' (-1) k5))) ∧ (y4 = 0 → Q' (-1) k4)) := by
          intro no
          refine ⟨by omega, c_bears (by omega) (cod g Ig) (by omega) (by omega) (fun z => absurd rfl z) (fun z => absurd rfl z) (fun z => absurd rfl z) (fun _ g5 o5 e4 e5 => ⟨fun z => absurd rfl z, fun _ => L0 g5 (CaX_bad (by omega) q1 (fun x i p1 p2 p3 => by rw [o5 x i (by omega) (by omega)]; exact Ig x i p1 p2 p3) (fun x => o5 _ _ (by omega) (by omega)) c no e4 e5)⟩)⟩
        have n67 : nPr h0 67 = h0 36 4 := by unfold nPr; rw [if_neg (by decide)]
        refine c_digB sz1 (by omega) ?_ ?_
        · rw [eB]
          intro x y
          refine ⟨by omega, c_consOf (by rw [d4 g Ig]; exact D2) (fun u v => ?_) (fun u => bad (fun z => ?_))⟩
          · rw [d4 g Ig] at v
            have ok : okD (Bh h0 a) (nPr h0) 67 q := ⟨x, y, by rw [n67]; exact v⟩
            obtain ⟨z1, z2, z3⟩ := cl g 67 (Bh h0 a q - 48) Ig (Or.inl rfl) u (by rw [n67]; exact v)
            have lrr := lr 67 (Bh h0 a q - 48) (Or.inl rfl) u (by rw [n67]; exact v)
            have ec : cel 67 (Bh h0 a q - 48) = 41 + 2 * (Bh h0 a q - 48) := by unfold cel; rw [if_neg (by decide)]
            rw [ec] at z1 z2 z3
            refine ⟨by omega, c_bears (by omega) (cod g Ig) (by omega) (by omega) (fun _ => by rw [z2]; unfold r32; omega) ?_ ?_ (fun z => absurd z z1)⟩
            · rw [z2]
              intro _ hw g1 e1
              have o1 : ∀ x i, ¬ (x = 91 ∧ i = 2) → g1 x i = g x i := fun x i p => by rw [e1, up2_ext p]
              have I1 : RdI h0 g1 a := fun x i p1 p2 p3 => by rw [o1 x i p3]; exact Ig x i p1 p2 p3
              have ew : g1 91 2 = g 91 2 + llr h0 67 (Bh h0 a q - 48) := by rw [e1, up2_eq]
              have ep : g1 (41 + 2 * (Bh h0 a q - 48)) 2 = ppr h0 67 (Bh h0 a q - 48) := by rw [o1 _ _ (by omega)]; exact z3
              have e3 : g1 a 3 = g a 3 := o1 _ _ (by omega)
              have ll := bA_lt (b := h0 (a + 1)) (n := h0 a 2) (p := q) (by show Bh h0 a q ≠ -1; omega)
              rw [ep]
              refine ⟨fun _ => ⟨by unfold r32; omega, z1, by unfold r32; omega, by omega, ih (q + 1) _ g1 (d - 1 - 1) _ (by omega) (by omega) (by omega) (by omega) (by omega) (by omega) I1 (by omega) (by omega) (by omega) (by omega) (fun r1 k S1 => ⟨fun _ => ⟨by unfold r32; omega, ?_⟩, fun z => ?_⟩) (fun k X1 => ⟨fun z => absurd rfl z, fun _ => L0 k (CaX_kid c ok hw ew (fun x => o1 _ _ (by omega)) X1)⟩)⟩, fun z => absurd z (by decide)⟩
              · have S1' := S1
                obtain ⟨i1, ⟨b1, b2⟩, ⟨x1, x2⟩, u1, m', e1', l1, t1, R1⟩ := S1'
                exact ihF r1 (v4 + 1) _ k Q' (by omega) (by omega) b2 (by omega) (by omega) i1 x1 x2 (by omega) (by omega) (fun r k2 S2 => L1 r k2 (CaS_cons (by omega) c ok hw ew (fun x => o1 _ _ (by omega)) e3 S1 S2)) (fun k2 X2 => L0 k2 (CaX_cons (by omega) c ok hw ew (fun x => o1 _ _ (by omega)) S1 X2))
              · have := S1.2.1; omega
            · rw [z2]
              intro _ hv g3 o3 e4 e5
              exact ⟨fun z => absurd rfl z, fun _ => L0 g3 (CaX_heavy (by omega) q1 (fun x i p1 p2 p3 => by rw [o3 x i p3 (by omega) (by omega)]; exact Ig x i p1 p2 p3) (fun x => o3 _ _ (by omega) (by omega) (by omega)) c ok hv e4 e5)⟩
          · have := z.2.2
            rw [n67] at this
            rw [d4 g Ig] at u
            omega
        · rw [eB]
          intro x
          exact ⟨by omega, c_consOf (by rw [d4 g Ig]; exact D2) (fun u v => by omega) (fun u => bad (fun z => x ⟨z.1, z.2.1⟩))⟩
    have lh := len h I
    have eB : bA (h (a + 1)) (h a 2) = Bh h0 a := by rw [row h I, lh]
    refine V_Reader_read_0 ?_
    rw [cod h I]
    refine ⟨by omega, by omega, c_codeB sz1 (by omega) ?_⟩
    rw [eB, cod h I]
    refine ⟨by omega, by unfold r32; omega, by omega, fun g2 e2 => ?_⟩
    have o2 : ∀ x i, ¬ (x = a ∧ i = 3) → g2 x i = h x i := fun x i p => by rw [e2, up2_ext p]
    have I2 : RdI h0 g2 a := fun x i p1 p2 p3 => by rw [o2 x i (by omega)]; exact I x i p1 p2 p3
    have q3 : g2 a 3 = h a 3 + 1 := by rw [e2, up2_eq]
    have qw : g2 91 2 = h 91 2 := o2 _ _ (by omega)
    have qr : ∀ x, g2 (a + 2) x = h (a + 2) x := fun x => o2 _ _ (by omega)
    have l2 := len g2 I2
    have eB2 : bA (g2 (a + 1)) (g2 a 2) = Bh h0 a := by rw [row g2 I2, l2]
    have eN2 : nPr g2 = nPr h0 := by funext k; unfold nPr; rw [d4 g2 I2, d5 g2 I2]
    -- a place in the text
    have inT : Bh h0 a p ≠ -1 → p < h0 a 2 := fun z => (bA_lt (b := h0 (a + 1)) (n := h0 a 2) (p := p) z).2
    -- a head that is wrong
    have wrong : ∀ (g4 : HP) (y : Int), (∀ x i, ¬ (x = a ∧ i = 4) → ¬ (x = a ∧ i = 5) → ¬ (x = 91 ∧ i = 2) → g4 x i = g2 x i) → Flt h0 g4 a → (∀ e : Int → Int, RDh h0 a e p sc (h 91 2) (-(2 * g4 a 4 + g4 a 5)) 0 0) → Go d M_Reader_read 73 [(15, 91), (0, p), (0, sc), (0, Bh h0 a p), (0, y), (0, -1), (0, 0)] [] g4 Q := by
      intro g4 y o4 fl R
      have I4 : RdI h0 g4 a := fun x i p1 p2 p3 => by rw [o4 x i (by omega) (by omega) p3]; exact I2 x i p1 p2 p3
      refine V_Reader_read_73 ?_
      rw [cod g4 I4]
      exact ⟨fun _ => ⟨fun z => absurd rfl z, fun _ => ⟨by omega, by omega, fin0 g4 0 0 I4 (fun x hx => by rw [o4 _ _ (by omega) (by omega) (by omega), qr]) fl (fun e _ => R e)⟩⟩, fun z => by omega⟩
    refine ⟨fun c77 => ⟨by omega, ?_⟩, fun c77 => ⟨by omega, ?_⟩⟩
    · -- no match
      refine V_Reader_readHead_0 ?_
      rw [cod g2 I2]
      refine ⟨by omega, by omega, c_codeB sz1 (by omega) ?_⟩
      rw [eB2]
      -- C or G
      have sign : (Bh h0 a p = 67 ∨ Bh h0 a p = 71) → Go (d - 1) M_Reader_readHead 21 [(15, 91), (0, p), (0, sc), (0, Bh h0 a p), (2, 0), (2, 0)] [] g2 (fun y3 k3 => (Bh h0 a p = 67 → r32 (p + 2) ∧ Go d M_Reader_read 73 [(15, 91), (0, p), (0, sc), (0, Bh h0 a p), (0, p + 2), (0, y3), (0, 0)] [] k3 Q) ∧ (Bh h0 a p ≠ 67 → (Bh h0 a p ≠ 71 → r32 (p + 1) ∧ Go d M_Reader_read 73 [(15, 91), (0, p), (0, sc), (0, Bh h0 a p), (0, p + 1), (0, y3), (0, 0)] [] k3 Q) ∧ (Bh h0 a p = 71 → r32 (p + 2) ∧ Go d M_Reader_read 73 [(15, 91), (0, p), (0, sc), (0, Bh h0 a p), (0, p + 2), (0, y3), (0, 0)] [] k3 Q))) := by
        intro cs
        have pT := inT (by omega)
        -- all three roads at once
        have all : ∀ (y3 : Int) (k3 : HP), Go d M_Reader_read 73 [(15, 91), (0, p), (0, sc), (0, Bh h0 a p), (0, p + 2), (0, y3), (0, 0)] [] k3 Q → ((Bh h0 a p = 67 → r32 (p + 2) ∧ Go d M_Reader_read 73 [(15, 91), (0, p), (0, sc), (0, Bh h0 a p), (0, p + 2), (0, y3), (0, 0)] [] k3 Q) ∧ (Bh h0 a p ≠ 67 → (Bh h0 a p ≠ 71 → r32 (p + 1) ∧ Go d M_Reader_read 73 [(15, 91), (0, p), (0, sc), (0, Bh h0 a p), (0, p + 1), (0, y3), (0, 0)] [] k3 Q) ∧ (Bh h0 a p = 71 → r32 (p + 2) ∧ Go d M_Reader_read 73 [(15, 91), (0, p), (0, sc), (0, Bh h0 a p), (0, p + 2), (0, y3), (0, 0)] [] k3 Q))) := fun y3 k3 G => ⟨fun _ => ⟨by unfold r32; omega, G⟩, fun z => ⟨fun y => by omega, fun _ => ⟨by unfold r32; omega, G⟩⟩⟩
        refine V_Reader_readHead_21 ?_
        rw [cod g2 I2]
        refine ⟨by omega, c_called (by omega) (by omega) sz1 (by omega) (by rw [d4 g2 I2]; exact D2) (by rw [d5 g2 I2]; exact D4) p0 (by omega) (by rw [eB2]; exact cs) ?_ ?_⟩
        · rw [eB2, eN2]
          intro ok
          have j0 : 0 ≤ Bh h0 a (p + 1) - 48 := by have := ok.1; omega
          obtain ⟨z1, z2, z3⟩ := cl g2 (Bh h0 a p) (Bh h0 a (p + 1) - 48) I2 cs j0 ok.2.2
          have lrr := lr (Bh h0 a p) (Bh h0 a (p + 1) - 48) cs j0 ok.2.2
          have pT2 := bA_lt (b := h0 (a + 1)) (n := h0 a 2) (p := p + 1) (by show Bh h0 a (p + 1) ≠ -1; omega)
          refine ⟨by unfold r32; omega, by omega, c_bears (by omega) (cod g2 I2) (by omega) (by omega) (fun _ => by rw [z2, qw]; unfold r32; omega) ?_ ?_ (fun z => absurd z z1)⟩
          · rw [z2, qw]
            intro _ hw g3 e3
            have o3 : ∀ x i, ¬ (x = 91 ∧ i = 2) → g3 x i = g2 x i := fun x i p => by rw [e3, up2_ext p]
            have I3 : RdI h0 g3 a := fun x i p1 p2 p3 => by rw [o3 x i p3]; exact I2 x i p1 p2 p3
            have ew : g3 91 2 = h 91 2 + llr h0 (Bh h0 a p) (Bh h0 a (p + 1) - 48) := by rw [e3, up2_eq]
            have e33 : g3 a 3 = h a 3 + 1 := by rw [o3 a 3 (by omega)]; exact q3
            refine ⟨fun z => absurd z (by decide), fun _ => ⟨z1, ?_⟩⟩
            have ep : g3 (cel (Bh h0 a p) (Bh h0 a (p + 1) - 48)) 2 = ppr h0 (Bh h0 a p) (Bh h0 a (p + 1) - 48) := (cl g3 _ _ I3 cs j0 ok.2.2).2.2
            rw [ep]
            refine all _ _ (chain (ppr h0 (Bh h0 a p) (Bh h0 a (p + 1) - 48)).toNat 0 (p + 2) g3 _ _ (by omega) (by omega) (by omega) (by omega) (by omega) I3 (by omega) (by omega) (by omega) (by omega) (fun r k S => ?_) (fun k X => ?_))
            · obtain ⟨i1, ⟨b1, b2⟩, ⟨x1, x2⟩, u1, m', e1, l1, t1, R1⟩ := S
              refine fin1 k r (1 + m') i1 (by omega) b2 x1 x2 (fun x hx => by rw [u1 x (by omega), o3 _ _ (by omega), qr]) (by omega) (by omega) (by omega) (fun e he1 he2 => RD_in ⟨fun _ => ⟨by omega, he1⟩, Or.inr (Or.inr (Or.inr (Or.inl ⟨cs, Or.inr (Or.inr ⟨ok, hw, m', ?_, rfl⟩)⟩)))⟩)
              have := R1 e (fun x x0 x1 => he2 x (by omega) x1)
              rw [ew] at this
              exact this
            · obtain ⟨i1, u1, f1, w', m', R1⟩ := X
              refine fin0 k w' (1 + m') i1 (fun x hx => by rw [u1 x (by omega), o3 _ _ (by omega), qr]) f1 (fun e he => RD_in ⟨fun z => ?_, Or.inr (Or.inr (Or.inr (Or.inl ⟨cs, Or.inr (Or.inr ⟨ok, hw, m', ?_, rfl⟩)⟩)))⟩)
              · unfold Flt at f1; omega
              · have := R1 e (fun x x0 => he x (by omega))
                rw [ew] at this
                exact this
          · rw [z2, qw]
            intro _ hv g3 o3 e4 e5
            refine ⟨fun _ => all _ _ (wrong g3 _ (fun x i p q r => o3 x i r p q) ⟨by omega, by omega, Or.inr e5⟩ (fun e => RD_in ⟨fun z => by omega, Or.inr (Or.inr (Or.inr (Or.inl ⟨cs, Or.inr (Or.inl ⟨ok, hv, by omega⟩)⟩)))⟩)), fun z => absurd rfl z⟩
        · rw [eB2, eN2]
          intro no
          refine ⟨by unfold r32; omega, by omega, c_bears (by omega) (cod g2 I2) (by omega) (by omega) (fun z => absurd rfl z) (fun z => absurd rfl z) (fun z => absurd rfl z) (fun _ g5 o5 e4 e5 => ⟨fun _ => all _ _ (wrong g5 _ (fun x i p q r => o5 x i p q) ⟨by omega, by omega, Or.inl e5⟩ (fun e => RD_in ⟨fun z => by omega, Or.inr (Or.inr (Or.inr (Or.inl ⟨cs, Or.inl ⟨no, by omega⟩⟩)))⟩)), fun z => absurd rfl z⟩)⟩
      refine ⟨fun c => sign (Or.inl c), fun c67 => ⟨fun c71 => ⟨by omega, ?_⟩, fun c => sign (Or.inr c)⟩⟩
      -- what goes on behind a head that is no sign
      have one : ∀ (y3 : Int) (k3 : HP), Go d M_Reader_read 73 [(15, 91), (0, p), (0, sc), (0, Bh h0 a p), (0, p + 1), (0, y3), (0, 0)] [] k3 Q → ((Bh h0 a p = 67 → r32 (p + 2) ∧ Go d M_Reader_read 73 [(15, 91), (0, p), (0, sc), (0, Bh h0 a p), (0, p + 2), (0, y3), (0, 0)] [] k3 Q) ∧ (Bh h0 a p ≠ 67 → (Bh h0 a p ≠ 71 → r32 (p + 1) ∧ Go d M_Reader_read 73 [(15, 91), (0, p), (0, sc), (0, Bh h0 a p), (0, p + 1), (0, y3), (0, 0)] [] k3 Q) ∧ (Bh h0 a p = 71 → r32 (p + 2) ∧ Go d M_Reader_read 73 [(15, 91), (0, p), (0, sc), (0, Bh h0 a p), (0, p + 2), (0, y3), (0, 0)] [] k3 Q))) := fun y3 k3 G => ⟨fun z => absurd z c67, fun _ => ⟨fun _ => ⟨by unfold r32; omega, G⟩, fun z => absurd z c71⟩⟩
      have flt : ¬ lfO (Bh h0 a p) sc → pO (Bh h0 a p) = 0 → ∀ g3 : HP, g3 = up2 g2 a 4 p → ∀ g4 : HP, g4 = up2 g3 a 5 1 → ((Bh h0 a p = 67 → r32 (p + 2) ∧ Go d M_Reader_read 73 [(15, 91), (0, p), (0, sc), (0, Bh h0 a p), (0, p + 2), (0, -1), (0, 0)] [] g4 Q) ∧ (Bh h0 a p ≠ 67 → (Bh h0 a p ≠ 71 → r32 (p + 1) ∧ Go d M_Reader_read 73 [(15, 91), (0, p), (0, sc), (0, Bh h0 a p), (0, p + 1), (0, -1), (0, 0)] [] g4 Q) ∧ (Bh h0 a p = 71 → r32 (p + 2) ∧ Go d M_Reader_read 73 [(15, 91), (0, p), (0, sc), (0, Bh h0 a p), (0, p + 2), (0, -1), (0, 0)] [] g4 Q))) := by
        intro nl np g3 e3 g4 e4
        have e44 : g4 a 4 = p := by rw [e4, up2_ni (by decide), e3, up2_eq]
        have e45 : g4 a 5 = 1 := by rw [e4, up2_eq]
        refine one _ _ (wrong g4 _ (fun x i p q _ => by rw [e4, up2_ext q, e3, up2_ext p]) ⟨by omega, by omega, Or.inl e45⟩ (fun e => RD_in ⟨fun z => by omega, Or.inl ⟨nl, np, c67, c71, c77, by omega⟩⟩))
      have leaf : lfO (Bh h0 a p) sc → ((Bh h0 a p = 67 → r32 (p + 2) ∧ Go d M_Reader_read 73 [(15, 91), (0, p), (0, sc), (0, Bh h0 a p), (0, p + 2), (0, 0), (0, 0)] [] g2 Q) ∧ (Bh h0 a p ≠ 67 → (Bh h0 a p ≠ 71 → r32 (p + 1) ∧ Go d M_Reader_read 73 [(15, 91), (0, p), (0, sc), (0, Bh h0 a p), (0, p + 1), (0, 0), (0, 0)] [] g2 Q) ∧ (Bh h0 a p = 71 → r32 (p + 2) ∧ Go d M_Reader_read 73 [(15, 91), (0, p), (0, sc), (0, Bh h0 a p), (0, p + 2), (0, 0), (0, 0)] [] g2 Q))) := by
        intro lf
        have pT := inT (lfO_ne lf).1
        refine one _ _ (chain 0 0 (p + 1) g2 _ _ (by omega) (by omega) (by omega) (by omega) (by omega) I2 (by omega) (by omega) (by omega) (by omega) (fun r k S => ?_) (fun k X => ?_))
        · obtain ⟨i1, ⟨b1, b2⟩, ⟨x1, x2⟩, u1, m', e1, l1, t1, R1⟩ := S
          obtain ⟨s1, s2, s3⟩ := R1 (fun x => k (a + 2) x) (fun _ _ _ => rfl)
          refine fin1 k r 1 i1 (by omega) b2 x1 x2 (fun x hx => by rw [u1 x (by omega), qr]) (by omega) (by omega) (by omega) (fun e he1 he2 => RD_in ⟨fun _ => ⟨by omega, he1⟩, Or.inr (Or.inl ⟨lf, s1, by omega, rfl⟩)⟩)
        · obtain ⟨i1, u1, f1, w', m', R1⟩ := X
          obtain ⟨s1, s2, s3⟩ := R1 (fun x => k (a + 2) x) (fun _ _ => rfl)
          unfold Flt at f1
          omega
      have npl : ∀ sc', lfO (Bh h0 a p) sc' → pO (Bh h0 a p) = 0 := by
        intro sc' lf
        rcases Int.lt_or_le 0 (pO (Bh h0 a p)) with z | z
        · unfold lfO at lf
          unfold pO at z
          split at z
          · omega
          · split at z
            · omega
            · split at z <;> omega
        · have := pO_r (Bh h0 a p); omega
      refine c_partsO ?_ ?_ ?_
      · intro lf
        refine ⟨fun z => ⟨fun y => by omega, fun _ => leaf (by unfold lfO; omega)⟩, fun z => ⟨fun y => ⟨fun u => by omega, fun _ => leaf (by unfold lfO; omega)⟩, fun y => ⟨by unfold r32; omega, fun u => ⟨fun x => by omega, fun _ => leaf (by unfold lfO; omega)⟩, fun u => ⟨fun x => by omega, fun _ => ?_⟩⟩⟩⟩
        rw [cod g2 I2]
        refine ⟨by omega, by omega, fun g3 e3 g4 e4 => flt (by unfold lfO; omega) (npl (Bh h0 a p) (by unfold lfO; omega)) g3 e3 g4 e4⟩
      · intro po
        have ne := pO_ne po
        have pr := pO_r (Bh h0 a p)
        have pT := inT ne.1
        have nlf : ¬ (97 ≤ Bh h0 a p) := by
          intro z
          unfold pO at po
          rw [if_neg (by omega), if_neg (by omega), if_neg (by omega)] at po
          omega
        have go : ((Bh h0 a p = 67 → r32 (p + 2) ∧ Go d M_Reader_read 73 [(15, 91), (0, p), (0, sc), (0, Bh h0 a p), (0, p + 2), (0, pO (Bh h0 a p)), (0, 0)] [] g2 Q) ∧ (Bh h0 a p ≠ 67 → (Bh h0 a p ≠ 71 → r32 (p + 1) ∧ Go d M_Reader_read 73 [(15, 91), (0, p), (0, sc), (0, Bh h0 a p), (0, p + 1), (0, pO (Bh h0 a p)), (0, 0)] [] g2 Q) ∧ (Bh h0 a p = 71 → r32 (p + 2) ∧ Go d M_Reader_read 73 [(15, 91), (0, p), (0, sc), (0, Bh h0 a p), (0, p + 2), (0, pO (Bh h0 a p)), (0, 0)] [] g2 Q))) := by
          refine one _ _ (chain (pO (Bh h0 a p)).toNat 0 (p + 1) g2 _ _ (by omega) (by omega) (by omega) (by omega) (by omega) I2 (by omega) (by omega) (by omega) (by omega) (fun r k S => ?_) (fun k X => ?_))
          · obtain ⟨i1, ⟨b1, b2⟩, ⟨x1, x2⟩, u1, m', e1, l1, t1, R1⟩ := S
            refine fin1 k r (1 + m') i1 (by omega) b2 x1 x2 (fun x hx => by rw [u1 x (by omega), qr]) (by omega) (by omega) (by omega) (fun e he1 he2 => RD_in ⟨fun _ => ⟨by omega, he1⟩, Or.inr (Or.inr (Or.inl ⟨po, m', ?_, rfl⟩))⟩)
            have := R1 e (fun x x0 x1 => he2 x (by omega) x1)
            rw [qw] at this
            exact this
          · obtain ⟨i1, u1, f1, w', m', R1⟩ := X
            refine fin0 k w' (1 + m') i1 (fun x hx => by rw [u1 x (by omega), qr]) f1 (fun e he => RD_in ⟨fun z => ?_, Or.inr (Or.inr (Or.inl ⟨po, m', ?_, rfl⟩))⟩)
            · unfold Flt at f1; omega
            · have := R1 e (fun x x0 => he x (by omega))
              rw [qw] at this
              exact this
        exact ⟨fun z => ⟨fun y => by omega, fun _ => go⟩, fun z => absurd z nlf⟩
      · intro nl np
        have f := flt (fun z => by unfold lfO at z; omega) np
        refine ⟨fun z => ⟨fun _ => ?_, fun y => absurd rfl y⟩, fun z => ⟨fun y => ⟨fun _ => ?_, fun y => absurd rfl y⟩, fun y => by omega⟩⟩
        · rw [cod g2 I2]; exact ⟨by omega, by omega, f⟩
        · rw [cod g2 I2]; exact ⟨by omega, by omega, f⟩
    · -- a match
      have pT := inT (by omega)
      refine V_Reader_readMatch_0 ⟨by unfold r32; omega, by omega, ih (p + 1) sc g2 (d - 1 - 1) _ (by omega) (by omega) (by omega) s0 (by omega) (by omega) I2 (by omega) (by omega) (by omega) (by omega) (fun r1 k S1 => ⟨fun _ => ?_, fun z => ?_⟩) (fun k X1 => ⟨fun z => absurd rfl z, fun _ => ?_⟩)⟩
      · have S1' := S1
        obtain ⟨i1, ⟨b1, b2⟩, ⟨x1, x2⟩, u1, m', e1, l1, t1, R1⟩ := S1'
        have lk := len k i1
        have eBk : bA (k (a + 1)) (k a 2) = Bh h0 a := by rw [row k i1, lk]
        rw [cod k i1]
        refine ⟨by omega, by omega, c_codeB sz1 (by omega) ?_⟩
        rw [eBk, cod k i1]
        refine ⟨fun c => ⟨by unfold r32; omega, ?_⟩, fun c => ⟨by omega, by omega, fun g3 e3 g4 e4 => ?_⟩⟩
        · have rT := bA_lt (b := h0 (a + 1)) (n := h0 a 2) (p := r1) (by show Bh h0 a r1 ≠ -1; omega)
          refine cases (h0 a 2 - (r1 + 1)).toNat.succ (r1 + 1) 0 _ k _ (by omega) (by omega) (by omega) (by omega) (by omega) i1 x1 x2 (by omega) (by omega) (fun r k2 S2 => ?_) (fun k2 X2 => ?_)
          · obtain ⟨i2, ⟨b3, b4⟩, ⟨x3, x4⟩, u2, f, m2, e2', l2', t2, R2⟩ := S2
            rw [cod k2 i2]
            refine ⟨by omega, by omega, fin1 k2 r (1 + m' + m2) i2 (by omega) b4 x3 x4 (fun x hx => by rw [u2 x (by omega), u1 x (by omega), qr]) (by omega) (by omega) (by omega) (fun e he1 he2 => RD_in ⟨fun _ => ⟨by omega, he1⟩, Or.inr (Or.inr (Or.inr (Or.inr ⟨c77, r1, k 91 2, m', ?_, Or.inr (Or.inr ⟨by omega, c, f, m2, R2 e (fun x x0 x1 => he2 x (by omega) x1), rfl⟩)⟩)))⟩)⟩
            have := R1 e (fun x x0 x1 => by rw [he2 x x0 (by omega), u2 x (by omega)])
            rw [qw] at this
            exact this
          · obtain ⟨i2, u2, f2, f, w', m2, R2⟩ := X2
            rw [cod k2 i2]
            refine ⟨by omega, by omega, fin0 k2 w' (1 + m' + m2) i2 (fun x hx => by rw [u2 x (by omega), u1 x (by omega), qr]) f2 (fun e he => RD_in ⟨fun z => ?_, Or.inr (Or.inr (Or.inr (Or.inr ⟨c77, r1, k 91 2, m', ?_, Or.inr (Or.inr ⟨by omega, c, f, m2, R2 e (fun x x0 => he x (by omega)), rfl⟩)⟩)))⟩)⟩
            · unfold Flt at f2; omega
            · have := R1 e (fun x x0 x1 => by rw [he x x0, u2 x (by omega)])
              rw [qw] at this
              exact this
        · have e44 : g4 a 4 = r1 := by rw [e4, up2_ni (by decide), e3, up2_eq]
          have e45 : g4 a 5 = 1 := by rw [e4, up2_eq]
          have o4 : ∀ x i, ¬ (x = a ∧ i = 4) → ¬ (x = a ∧ i = 5) → g4 x i = k x i := fun x i p q => by rw [e4, up2_ext q, e3, up2_ext p]
          have I4 : RdI h0 g4 a := fun x i p1 p2 p3 => by rw [o4 x i (by omega) (by omega)]; exact i1 x i p1 p2 p3
          rw [cod g4 I4]
          refine ⟨by omega, by omega, fin0 g4 0 0 I4 (fun x hx => by rw [o4 _ _ (by omega) (by omega), u1 x (by omega), qr]) ⟨by omega, by omega, Or.inl e45⟩ (fun e he => RD_in ⟨fun z => by omega, Or.inr (Or.inr (Or.inr (Or.inr ⟨c77, r1, k 91 2, m', ?_, Or.inr (Or.inl ⟨by omega, c, by omega⟩)⟩)))⟩)⟩
          have := R1 e (fun x x0 x1 => by rw [he x x0, o4 _ _ (by omega) (by omega)])
          rw [qw] at this
          exact this
      · have := S1.2.1; omega
      · obtain ⟨i1, u1, f1, w', m', R1⟩ := X1
        rw [cod k i1]
        refine ⟨by omega, by omega, fin0 k w' m' i1 (fun x hx => by rw [u1 x (by omega), qr]) f1 (fun e he => RD_in ⟨fun z => ?_, Or.inr (Or.inr (Or.inr (Or.inr ⟨c77, _, w', m', ?_, Or.inl ⟨?_, rfl⟩⟩)))⟩)⟩
        · unfold Flt at f1; omega
        · have := R1 e (fun x x0 => he x x0)
          rw [qw] at this
          exact this
        · unfold Flt at f1; omega
end
