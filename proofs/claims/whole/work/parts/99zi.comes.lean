section
/-! comes -/
def AdS (h : HP) (S : Sx) (mu : Int → Nat) (t : Tm) (k : Int) : Prop := Sat (Snd S (sgI (h (41 + 2 * k + 1)) (h (41 + 2 * k) 1) mu (h (41 + 2 * k) 2)) t)
def AdI (h g : HP) (T R : Int) (tm : Int → Tm) (S : Sx) (V : Vx) : Prop := CV g T R tm S V ∧ ExB T h g ∧ g T 13 = h T 13 ∧ (∀ a i, a < T - 3 ∨ T + 24 < a ∨ (a = T - 3 ∧ i ≠ 5) → g a i = h a i)
theorem AdI_refl {h : HP} {T R : Int} {tm : Int → Tm} {S : Sx} {V : Vx} (C : CV h T R tm S V) : AdI h h T R tm S V := ⟨C, ExB_refl T h, rfl, fun _ _ _ => rfl⟩
theorem c_admits {d : Nat} {h : HP} {T R fm wo y : Int} {tm : Int → Tm} {S : Sx} {V : Vx} {mu : Int → Nat} {Q : PQ} (hd : 20 < d) (C : CV h T R tm S V) (F : FrN V mu) (h15 : h T 15 < 32) (D : DcR h) (O : DcO h) (hr : h T 13 + 24 ≤ R) (y0 : 0 ≤ y) (y1 : y < h T 13)
    (H1 : ∀ k, 0 ≤ k → k < h 36 4 → h (41 + 2 * k) 4 = fm → bAnd wo (bShl 1 k) = 0 → AdS h S mu (tm y) k → (∀ k', 0 ≤ k' → k' < k → h (41 + 2 * k') 4 = fm → bAnd wo (bShl 1 k') = 0 → ¬ AdS h S mu (tm y) k') → ∀ g, AdI h g T R tm S V → Q 1 g)
    (H0 : (∀ k, 0 ≤ k → k < h 36 4 → h (41 + 2 * k) 4 = fm → bAnd wo (bShl 1 k) = 0 → ¬ AdS h S mu (tm y) k) → ∀ g, AdI h g T R tm S V → Q 0 g) :
    Go d M_World_admits 0 [(20, T - 3), (14, 36), (0, fm), (0, wo), (0, y), (2, 0), (2, 0), (2, 0)] [] h Q := by
  have l0 := CV_L0 C
  have hT := l0.2.2.2.2
  have tr := TR_le hT
  have hTT : T = 5 ∨ T = 96 := by rcases hT with z | z <;> omega
  have dd := D.1
  -- done
  have yes : ∀ (g : HP) (k : Int) (w7 : AV), Q 1 g → Go d M_World_admits 6 [(20, T - 3), (14, 36), (0, fm), (0, wo), (0, y), (0, 1), (0, k), w7] [] g Q := fun g k w7 q => W_World_admits_6 hT ⟨fun _ => ⟨Or.inr rfl, q⟩, fun _ => ⟨fun _ => ⟨Or.inr rfl, q⟩, fun z => absurd z (by decide)⟩⟩
  have loop : ∀ k, 0 ≤ k → k ≤ h 36 4 → (∀ k', 0 ≤ k' → k' < k → h (41 + 2 * k') 4 = fm → bAnd wo (bShl 1 k') = 0 → ¬ AdS h S mu (tm y) k') → ∀ (g : HP) (w7 : AV), AdI h g T R tm S V → Go d M_World_admits 6 [(20, T - 3), (14, 36), (0, fm), (0, wo), (0, y), (0, 0), (0, k), w7] [] g Q := by
    intro k k0 k1
    refine up_loop (P := fun k => (∀ k', 0 ≤ k' → k' < k → h (41 + 2 * k') 4 = fm → bAnd wo (bShl 1 k') = 0 → ¬ AdS h S mu (tm y) k') → ∀ (g : HP) (w7 : AV), AdI h g T R tm S V → Go d M_World_admits 6 [(20, T - 3), (14, 36), (0, fm), (0, wo), (0, y), (0, 0), (0, k), w7] [] g Q) k1 ?_ ?_
    · intro no g w7 I
      have e4 : g 36 4 = h 36 4 := I.2.2.2 36 4 (by omega)
      exact W_World_admits_6 hT ⟨fun _ => ⟨Or.inl rfl, H0 no g I⟩, fun z => by omega⟩
    · intro j j0 j1 ih no g w7 I
      have I0 := I
      obtain ⟨Cg, Xg, g13, og⟩ := I
      have e4 : g 36 4 = h 36 4 := og 36 4 (by omega)
      obtain ⟨sr, _⟩ := D.2.1 j (by omega) j1
      obtain ⟨_, _, _, sl, sp, _⟩ := sr
      have so := O.1 j (by omega) j1
      unfold SgO at so
      have es : ∀ i, g (41 + 2 * j) i = h (41 + 2 * j) i := fun i => og _ _ (by omega)
      have eb : g (41 + 2 * j + 1) = h (41 + 2 * j + 1) := funext fun i => og _ _ (by omega)
      have next : ∀ (g2 : HP) (w : AV), AdI h g2 T R tm S V → (h (41 + 2 * j) 4 = fm → bAnd wo (bShl 1 j) = 0 → ¬ AdS h S mu (tm y) j) → r32 (j + 1) ∧ Go d M_World_admits 6 [(20, T - 3), (14, 36), (0, fm), (0, wo), (0, y), (0, 0), (0, j + 1), w] [] g2 Q := by
        intro g2 w I2 nj
        refine ⟨by unfold r32; omega, ih (fun k' a b c e => ?_) g2 w I2⟩
        by_cases z : k' = j
        · subst z; exact nj c e
        · exact no k' a (by omega) c e
      refine W_World_admits_6 hT ⟨fun z => by omega, fun _ => ⟨fun z => absurd rfl z, fun _ => ⟨by omega, c_consOf (by omega) (fun _ _ => ⟨fun z => by omega, fun _ => ⟨by omega, fun cf => next g _ I0 (fun z => absurd (by rw [es]; exact z) cf), fun cf => ⟨fun cb => next g _ I0 (fun _ z => absurd z cb), fun cb => ⟨by omega, c_open hT (CV_L0 Cg).2.2.2.1 (by rw [Xg.1.2.2]; exact h15) ⟨by omega, ?_⟩⟩⟩⟩⟩) (fun z => by omega)⟩⟩⟩
      rw [es] at cf
      refine c_bpj (mu := mu) (by omega) Cg F (aSZ_cons (by omega) (by omega)) (by omega) (by omega) (by rw [es]; omega) (by rw [es]; omega) (by rw [es]; omega) (by rw [es]; omega) (by rw [es, es, eb]; exact so) (by rw [es]; omega) y0 (by omega) (fun r g2 tm2 X2 _ _ _ o2 cases => ?_)
      rw [es, es, eb] at cases
      have close : ∀ (g2 : HP) (tm2 : Int → Tm) (S2 : Sx) (V2 : Vx) (s0 : Int), CV g2 T R tm2 S2 V2 → XB T (opH g T) tm g2 tm2 → (∀ a i, a < T - 3 ∨ T + 24 < a ∨ (a = T - 3 ∧ i ≠ 5) → g2 a i = g a i) → (∀ g3, AdI h g3 T R tm S V → r32 (j + 1) ∧ Go d M_World_admits 6 [(20, T - 3), (14, 36), (0, fm), (0, wo), (0, y), (0, s0), (0, j + 1), (36, 41 + 2 * j)] [] g3 Q) → Go d M_World_admits 95 [(20, T - 3), (14, 36), (0, fm), (0, wo), (0, y), (0, 0), (0, j), (36, 41 + 2 * j)] [(0, s0)] g2 Q := by
        intro g2 tm2 S2 V2 s0 C2 X2 o2 K
        refine W_World_admits_95 hT ⟨by omega, c_closeV (by omega) Cg (by rw [Xg.1.2.2]; exact h15) X2.1 C2 (fun h' C' X' e13 o' => K h' ⟨C', ?_, by omega, fun a i p => by rw [o' a i (by omega), o2 a i p, og a i p]⟩)⟩
        obtain ⟨cc, Wc, _⟩ := Cg
        exact ExB_trans Wc.1 l0.1 Xg X'
      rcases cases with ⟨sat, r0, C2⟩ | ⟨sat, r5, C2⟩
      · exact ⟨fun z => by omega, fun _ => close g2 tm2 _ _ 1 C2 X2 o2 (fun g3 I3 => ⟨by unfold r32; omega, yes g3 _ _ (H1 j (by omega) j1 cf cb sat no g3 I3)⟩)⟩
      · exact ⟨fun _ => close g2 tm2 _ _ 0 C2 X2 o2 (fun g3 I3 => next g3 _ I3 (fun _ _ => sat)), fun z => absurd r5 z⟩
  exact W_World_admits_0 hT (loop 0 (by omega) dd.1 (fun k' a b => by omega) h _ (AdI_refl C))
theorem bits10 : ∀ a b : Fin 10, bAnd (bXor (bShl 1 (a.val : Int)) (-1)) (bShl 1 (b.val : Int)) = 0 ↔ a.val = b.val := by decide +kernel
theorem bit_one {k j : Int} (k0 : 0 ≤ k) (k1 : k < 10) (j0 : 0 ≤ j) (j1 : j < 10) : bAnd (bXor (bShl 1 k) (-1)) (bShl 1 j) = 0 ↔ j = k := by
  have := bits10 ⟨k.toNat, by omega⟩ ⟨j.toNat, by omega⟩
  have a : ((k.toNat : Nat) : Int) = k := by omega
  have b : ((j.toNat : Nat) : Int) = j := by omega
  dsimp only at this
  rw [a, b] at this
  rw [this]
  omega
/-- what comes leaves -/
def FrC (h h' : HP) : Prop := (∀ a i, (29 < a ∧ a < 135) ∨ a = 136 ∨ (150 < a ∧ a < 158) ∨ 160 < a → h' a i = h a i) ∧ (∀ i, i < 12 ∨ 14 < i → h' 1 i = h 1 i) ∧ (∀ i, i < 14 ∨ 19 < i → h' 135 i = h 135 i)
theorem FrC_of {h h' : HP} (f : FrB h h') : FrC h h' := ⟨fun a i p => f.1 a i (by omega), f.2.1, f.2.2⟩
theorem TxR_fc {h h' : HP} (f : FrC h h') (T : TxR h) : TxR h' := by
  unfold TxR at *
  rw [f.1 30 2 (by omega), f.2.2 33 (by omega), show h' 31 = h 31 from funext fun i => f.1 31 i (by omega), show h' 156 = h 156 from funext fun i => f.1 156 i (by omega)]
  exact T
theorem DcR_fc {h h' : HP} (f : FrC h h') (T : DcR h) : DcR h' := DcR_ag (fun x i p q => f.1 x i (by omega)) (f.2.2 30 (by omega)) (f.2.2 31 (by omega)) T
theorem DcO_fc {h h' : HP} (f : FrC h h') (D : DcR h) (O : DcO h) : DcO h' := DcO_ag (f.1 36 4 (by omega)) (f.1 36 5 (by omega)) (fun x i p q => f.1 x i (by omega)) D O
theorem RnR_fc {h h' : HP} (f : FrC h h') (N : RnR h) : RnR h' := RnR_ag (fun x i p q => f.1 x i (by omega)) (f.2.1 9 (by omega)) (f.2.1 10 (by omega)) (by rw [f.2.2 24 (by omega), f.2.1 11 (by omega)]; exact N.1.2.2.2.2) N
theorem c_famOf {d : Nat} {h : HP} {T R x : Int} {tm : Int → Tm} {S : Sx} {c : Int → Int} {Q : PQ} (hd : 2 < d) (W : CW h T R tm S c) (x0 : 0 ≤ x) (x1 : x < h T 13) (H1 : 3 ≤ h (T + 3) (ldC h T c x) → h (T + 3) (ldC h T c x) ≤ 6 → Q (h (T + 3) (ldC h T c x) - 3) h) (H0 : (h (T + 3) (ldC h T c x) < 3 ∨ 6 < h (T + 3) (ldC h T c x)) → Q (-1) h) : Go d M_World_familyOf 0 [(20, T - 3), (0, x), (2, 0)] [] h Q :=
  W_World_familyOf_0 W.1.1 ⟨by omega, c_headOf (by omega) W.1 x0 x1 ⟨by omega, c_isFam (fun a b => ⟨fun z => absurd z (by decide), fun _ => ⟨by unfold r32; omega, H1 a b⟩⟩) (fun z => ⟨fun _ => H0 z, fun y => absurd rfl y⟩)⟩⟩
theorem c_idxOf {d : Nat} {h : HP} {T R x : Int} {tm : Int → Tm} {S : Sx} {c : Int → Int} {Q : PQ} (hd : 2 < d) (W : CW h T R tm S c) (x0 : 0 ≤ x) (x1 : x < h T 13) (f3 : 3 ≤ h (T + 3) (ldC h T c x)) (f6 : h (T + 3) (ldC h T c x) ≤ 6) (H : 0 ≤ h (T + 4) (ldC h T c x) → h (T + 4) (ldC h T c x) < h T 13 → Q (h (T + 4) (ldC h T c x)) h) : Go d M_World_indexOf 0 [(20, T - 3), (0, x), (2, 0)] [] h Q := by
  have l := (FB_lead W.1).1 x x0 x1
  have a := (W.2.1.1.1 (ldC h T c x) l.1 l.2.1).2.1 (by omega) f6
  have nR := W.1.2.1.2.2
  exact W_World_indexOf_0 W.1.1 ⟨by omega, c_leadOf (by omega) W.1 x0 x1 ⟨⟨l.1, by omega⟩, fun _ => ⟨⟨l.1, by omega⟩, H a.1 (by omega)⟩, fun z => by omega⟩⟩
theorem fresh3 {lo n : Int} {hd bn : Int → Int} {tm : Int → Tm} {V : Vx} (hV : VOk lo n hd bn tm V) (lo0 : 0 ≤ lo) : ∃ mu, FrN V mu := by
  obtain ⟨N, hN⟩ := fresh_ex tm n
  refine ⟨fun v => N + v.toNat, fun v v0 v1 => ?_, fun v w v0 v1 w0 w1 e => ?_⟩
  · rcases Int.lt_or_le (V (N + v.toNat)).1 7 with z | z
    · exact z
    · obtain ⟨x, x0, x1, x7, xe⟩ := hV.2 _ z
      have := hN x (by omega) x1 _ xe
      omega
  · have e : N + v.toNat = N + w.toNat := e
    omega
theorem BIx_same {h h2 : HP} {k : Nat} {tm : Int → Tm} {S : Sx} {V : Vx} {c c' : Int → Int} (ck : CH k h) (b : BR h tm S V c) (q0 : h 1 12 = h 150 0) (q1 : h 1 13 = h 150 1) (q2 : h 1 14 = h 150 2) (W2 : CW h2 5 84 tm S c') (R2 : RW h2 tm S) (X : ExB 5 h h2) (Y : ExN h h2) (e13 : h2 5 13 = h 5 13) (e15 : h2 135 15 = h 135 15) (o1 : ∀ i, 11 < i → i < 15 → h2 1 i = h 1 i) (o2 : ∀ i, h2 150 i = h 150 i) : BIx h2 := by
  have b0 := b
  obtain ⟨W, Rw, hV, ⟨f15, f14, f19, f18, n60, d8⟩, rows⟩ := b
  have x15 : h2 5 15 = h 5 15 := X.1.2.2
  refine ⟨⟨k, CH_step ck b0 X Y⟩, ⟨tm, S, V, c', W2, R2, ?_, ?_, ?_⟩, ?_⟩
  · rw [e13]; exact VOk_rows hV (fun i i0 i1 => ⟨(X.2.1 i i0 i1).1, (X.2.1 i i0 i1).2.2.2⟩)
  · rw [e13, e15, x15, Y.1.1, Y.1.2.2.1, Y.1.2.2.2]; exact ⟨f15, f14, f19, f18, n60, d8⟩
  · rw [e13]
    intro x x0 x1
    have r := X.2.1 x x0 x1
    have s := Y.2.2.2.1 x (by omega)
    rw [r.1, r.2.1, r.2.2.1, r.2.2.2, s.1, s.2.1, s.2.2.1, s.2.2.2]
    exact rows x x0 x1
  · rw [o1 12 (by omega) (by omega), o1 13 (by omega) (by omega), o1 14 (by omega) (by omega), o2, o2, o2]; exact ⟨q0, q1, q2⟩
end
