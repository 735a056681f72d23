section
/-! reading whole texts: both sides -/
theorem c_isTree {d : Nat} {k0 : HP} {B e : Int → Int} {nP : Int → Int} {pp ll : Int → Int → Int} {n sc r w' m : Int} {Q : PQ} (hd : 8 < d) (C : TrC k0 B nP pp ll n) (s0 : 0 ≤ sc) (s1 : sc ≤ 3) (H : RD B e nP pp ll 0 sc n r w' m)
    (H1 : r = n → ∀ g : HP, TrI k0 g → g 135 49 = m → 0 < g 135 48 → g 135 48 ≤ 100 → (∀ R, AgN R g 0 (g 135 48) → NX R B e nP pp 0 0 sc) → Q 1 g)
    (H0 : r ≠ n → ∀ g : HP, TrI k0 g → (r < 0 → r = -(2 * g 135 36 + g 135 37) ∧ 1 ≤ g 135 37 ∧ g 135 37 ≤ 2) → (0 ≤ r → g 135 36 = r ∧ g 135 37 = 1) → Q 0 g) :
    Go d M_Mo_isTree 0 [(22, 135), (0, sc), (2, 0), (2, 0)] [] k0 Q := by
  have n0 := C.2.1
  refine N_Mo_isTree_0 (fun g1 e1 g2 e2 g3 e3 g4 e4 g5 e5 => ⟨by omega, ?_⟩)
  have q35 : g3 135 35 = n := by rw [e3, up2_ni (by decide), e2, up2_ni (by decide), e1, up2_ni (by decide)]; exact n0.1
  rw [q35] at e4
  have u5 : g5 135 56 = 0 := by rw [e5, up2_eq]
  rw [u5]
  refine ⟨⟨by decide, by decide⟩, fun g6 e6 => ?_⟩
  rw [show g6 135 56 = 0 by rw [e6, up2_nc (by decide), u5]]
  refine ⟨⟨by decide, by decide⟩, fun g7 e7 => ?_⟩
  rw [show g7 135 56 = 0 by rw [e7, up2_nc (by decide), e6, up2_nc (by decide), u5]]
  refine ⟨⟨by decide, by decide⟩, fun g8 e8 => ?_⟩
  rw [show g8 135 56 = 0 by rw [e8, up2_nc (by decide), e7, up2_nc (by decide), e6, up2_nc (by decide), u5]]
  refine ⟨⟨by decide, by decide⟩, fun g9 e9 => ?_⟩
  rw [show g9 135 56 = 0 by rw [e9, up2_nc (by decide), e8, up2_nc (by decide), e7, up2_nc (by decide), e6, up2_nc (by decide), u5]]
  refine ⟨⟨by decide, by decide⟩, fun g10 e10 => ?_⟩
  rw [show g10 135 56 = 0 by rw [e10, up2_nc (by decide), e9, up2_nc (by decide), e8, up2_nc (by decide), e7, up2_nc (by decide), e6, up2_nc (by decide), u5]]
  refine ⟨by unfold r32; omega, fun g11 e11 => ?_⟩
  have P := PsR_of u5 e6 e7 e8 e9 e10 e11
  unfold PsR at P
  rw [u5] at P
  obtain ⟨⟨v168, v169, v170, v171, v172, v56⟩, vo⟩ := P
  have o5 : ∀ x i, ¬ (x = 135 ∧ (i = 36 ∨ i = 48 ∨ i = 49 ∨ i = 50 ∨ i = 56)) → g5 x i = k0 x i := fun x i z => by rw [e5, up2_ext (by omega), e4, up2_ext (by omega), e3, up2_ext (by omega), e2, up2_ext (by omega), e1, up2_ext (by omega)]
  have a36 : g11 135 36 = 0 := by rw [vo _ _ (by omega) (by omega), e5, up2_ni (by decide), e4, up2_ni (by decide), e3, up2_ni (by decide), e2, up2_ni (by decide), e1, up2_eq]
  have a48 : g11 135 48 = 0 := by rw [vo _ _ (by omega) (by omega), e5, up2_ni (by decide), e4, up2_ni (by decide), e3, up2_ni (by decide), e2, up2_eq]
  have a49 : g11 135 49 = 0 := by rw [vo _ _ (by omega) (by omega), e5, up2_ni (by decide), e4, up2_ni (by decide), e3, up2_eq]
  have a50 : g11 135 50 = n := by rw [vo _ _ (by omega) (by omega), e5, up2_ni (by decide), e4, up2_eq]
  have I : TrI k0 g11 := fun x i q1 q2 q3 => by rw [vo x i (by omega) (by omega)]; exact o5 x i (by omega)
  refine c_tree (e := e) hd C (n + 1).toNat 0 sc n r w' m 0 g11 _ (by omega) (by omega) (by omega) H ⟨I, ⟨by omega, a36, a50, v170⟩, ⟨by omega, by omega⟩, ⟨by omega, by omega⟩, ⟨by omega, by omega⟩, ⟨by omega, by omega⟩, by omega, by omega⟩ (by omega) (by omega) (by omega) (by omega) s0 (by omega) (fun r0 g P X bd w4 => ?_) (fun r0 g I' er => H0 (by omega) g I' (fun _ => er) (fun z => by omega))
  obtain ⟨i1, ⟨p56, p36, p50, p49⟩, ⟨pn1, pn2⟩, pf, ⟨p168, p169, p170, p172, p171⟩, p165, pl1, pl2, pr⟩ := P
  rw [a48] at pn1 X
  have q56 : g 135 56 = 1 := by omega
  refine N_Mo_isTree_37 ?_
  rw [q56, show (1 : Int) - 1 = 0 by decide]
  refine ⟨fun z => absurd z (by decide), fun _ => ⟨fun z => absurd z (by decide), fun _ => ⟨by unfold r32; omega, ⟨by decide, by decide⟩, fun _ => ⟨⟨by decide, by decide⟩, fun _ => ⟨by unfold r32; omega, fun k1 x1 => ?_⟩, fun z => by omega⟩, fun z => by omega⟩⟩⟩
  have o1 : ∀ x i, ¬ (x = 135 ∧ i = 56) → k1 x i = g x i := fun x i z => by rw [x1, up2_ext z]
  have I1 : TrI k0 k1 := fun x i q1 q2 q3 => by rw [o1 x i (by omega)]; exact i1 x i q1 q2 q3
  have k36 : k1 135 36 = r := by rw [o1 _ _ (by omega)]; exact p36
  have k35 : k1 135 35 = n := by rw [I1 135 35 (by omega) (by omega) (by omega)]; exact n0.1
  have k56 : k1 135 56 = 0 := by rw [x1, up2_eq]
  have k48 : k1 135 48 = g 135 48 := o1 _ _ (by omega)
  refine N_Mo_isTree_37 ?_
  rw [k36, k35]
  refine ⟨fun z => absurd z (by decide), fun _ => ⟨fun _ => ⟨fun z => absurd z (by decide), fun _ => ⟨fun z => ?_, fun z => ⟨by omega, fun k2 x2 => ?_⟩⟩⟩, fun z => by omega⟩⟩
  · refine H1 z k1 I1 (by rw [o1 _ _ (by omega)]; omega) (by omega) (by omega) (fun R A => X R (fun x i x0 x1 i0 i1' nx => ?_))
    rw [A x i x0 x1 i0 (by omega) nx, o1 _ _ (by omega)]
  · exact H0 z k2 (fun x i q1 q2 q3 => by rw [x2, up2_ext (by omega)]; exact I1 x i q1 q2 q3) (fun y => by omega) (fun _ => ⟨by rw [x2, up2_ni (by decide)]; exact k36, by rw [x2, up2_eq]⟩)
theorem CHN_congr {X Y : XR} (h : ∀ p sc w r w' m, X p sc w r w' m → Y p sc w r w' m) {j : Nat} {q sc w r w' m : Int} (H : CHN X j q sc w r w' m) : CHN Y j q sc w r w' m := CHN_mono h _ _ _ _ _ _ _ H
theorem CAS_congr {B : Int → Int} {nP : Int → Int} {pp ll pp' ll' : Int → Int → Int} {X : XR} (h : ∀ j, 0 ≤ j → j < nP 67 → pp' 67 j = pp 67 j ∧ ll' 67 j = ll 67 j) : ∀ (f : Nat) (q sc w r w' m : Int), CAS B nP pp' ll' X f q sc w r w' m → CAS B nP pp ll X f q sc w r w' m := by
  intro f
  induction f with
  | zero => intro q sc w r w' m H; exact H
  | succ f ih =>
    intro q sc w r w' m H
    rcases H with H | ⟨n, H | ⟨ok, H⟩ | ⟨ok, hw, r1, w1, m1, x, H⟩⟩
    · exact Or.inl H
    · exact Or.inr ⟨n, Or.inl H⟩
    · obtain ⟨_, e2⟩ := h (B q - 48) (by have := ok.1; omega) ok.2.2
      rw [e2] at H
      exact Or.inr ⟨n, Or.inr (Or.inl ⟨ok, H⟩)⟩
    · obtain ⟨e1, e2⟩ := h (B q - 48) (by have := ok.1; omega) ok.2.2
      rw [e2] at hw
      rw [e1, e2] at x
      refine Or.inr ⟨n, Or.inr (Or.inr ⟨ok, hw, r1, w1, m1, x, ?_⟩)⟩
      rcases H with H | ⟨a, m2, c, e⟩
      · exact Or.inl H
      · exact Or.inr ⟨a, m2, ih _ _ _ _ _ _ c, e⟩
/-- what is not declared does not matter -/
theorem RD_congr {B e : Int → Int} {nP : Int → Int} {pp ll pp' ll' : Int → Int → Int} (h : ∀ k j, (k = 67 ∨ k = 71) → 0 ≤ j → j < nP k → pp' k j = pp k j ∧ ll' k j = ll k j) {p sc w r w' m : Int} (H : RD B e nP pp' ll' p sc w r w' m) : RD B e nP pp ll p sc w r w' m := by
  refine ⟨RD B e nP pp' ll', fun q s v t v' k H => ?_, H⟩
  obtain ⟨b, H⟩ := RD_out H
  refine ⟨b, ?_⟩
  rcases H with H | H | H | ⟨a, H | ⟨ok, H⟩ | ⟨ok, hw, m1, c, e⟩⟩ | ⟨a, r1, w1, m1, x, H⟩
  · exact Or.inl H
  · exact Or.inr (Or.inl H)
  · exact Or.inr (Or.inr (Or.inl H))
  · exact Or.inr (Or.inr (Or.inr (Or.inl ⟨a, Or.inl H⟩)))
  · obtain ⟨_, e2⟩ := h (B q) (B (q + 1) - 48) a (by have := ok.1; omega) ok.2.2
    rw [e2] at H
    exact Or.inr (Or.inr (Or.inr (Or.inl ⟨a, Or.inr (Or.inl ⟨ok, H⟩)⟩)))
  · obtain ⟨e1, e2⟩ := h (B q) (B (q + 1) - 48) a (by have := ok.1; omega) ok.2.2
    rw [e2] at hw
    rw [e1, e2] at c
    exact Or.inr (Or.inr (Or.inr (Or.inl ⟨a, Or.inr (Or.inr ⟨ok, hw, m1, c, e⟩)⟩)))
  · refine Or.inr (Or.inr (Or.inr (Or.inr ⟨a, r1, w1, m1, x, ?_⟩)))
    rcases H with H | H | ⟨p1, p2, f, m2, c, e⟩
    · exact Or.inl H
    · exact Or.inr (Or.inl H)
    · exact Or.inr (Or.inr ⟨p1, p2, f, m2, CAS_congr (fun j j0 j1 => h 67 j (Or.inl rfl) j0 j1) _ _ _ _ _ _ _ c, e⟩)
/-- the class reads a whole text -/
theorem c_readX {d : Nat} {h : HP} {a sc : Int} {Q : PQ} (hd : 300 < d) (a0 : a = 30 ∨ a = 33) (n0 : 0 ≤ h a 2) (n1 : h a 2 ≤ 100) (D : DcC h) (s0 : 0 ≤ sc) (s1 : sc ≤ 3)
    (H1 : ∀ (g : HP) (w' m : Int), (∀ x i, x ≠ a + 2 → ¬ (x = a ∧ 3 ≤ i ∧ i ≤ 5) → ¬ (x = 91 ∧ (i = 1 ∨ i = 2)) → g x i = h x i) → 0 < h a 2 → g a 3 = m → 1 ≤ m → m ≤ 100 → (∀ e : Int → Int, (∀ q, 0 ≤ q → q < h a 2 → e q = g (a + 2) q) → RDh h a e 0 sc (h a 2) (h a 2) w' m) → Q 1 g)
    (H0 : ∀ (g : HP) (r w' m : Int), (∀ x i, x ≠ a + 2 → ¬ (x = a ∧ 3 ≤ i ∧ i ≤ 5) → ¬ (x = 91 ∧ (i = 1 ∨ i = 2)) → g x i = h x i) → r ≠ h a 2 → (0 ≤ g a 4 ∧ g a 4 ≤ h a 2 ∧ (g a 5 = 1 ∨ g a 5 = 2)) → (r < 0 → r = -(2 * g a 4 + g a 5)) → (0 ≤ r → g a 4 = r ∧ g a 5 = 1) → RDh h a (g (a + 2)) 0 sc (h a 2) r w' m → Q 0 g) :
    Go d M_Reader_readExpression 0 [(15, 91), (11, a), (0, sc), (2, 0)] [] h Q := by
  refine V_Reader_readExpression_0 (fun g1 e1 => ?_)
  have q1 : g1 91 1 = a := by rw [e1, up2_eq]
  rw [q1]
  refine ⟨by omega, fun g2 e2 => ?_⟩
  have q2 : g2 91 1 = a := by rw [e2, up2_nc (by omega), q1]
  have q22 : g2 a 2 = h a 2 := by rw [e2, up2_ni (by decide), e1, up2_nc (by omega)]
  rw [q2, q22]
  refine ⟨by omega, fun g3 e3 => ⟨by omega, ?_⟩⟩
  have o3 : ∀ x i, ¬ (x = 91 ∧ (i = 1 ∨ i = 2)) → ¬ (x = a ∧ i = 3) → g3 x i = h x i := fun x i p q => by rw [e3, up2_ext (by omega), e2, up2_ext q, e1, up2_ext (by omega)]
  have c1 : g3 91 1 = a := by rw [e3, up2_ni (by decide)]; exact q2
  have c2 : g3 91 2 = h a 2 := by rw [e3, up2_eq]
  have c3 : g3 a 3 = 0 := by rw [e3, up2_nc (by omega), e2, up2_eq]
  have ca2 : g3 a 2 = h a 2 := o3 _ _ (by omega) (by omega)
  have D3 : DcC g3 := DcC_ag (fun x i p q => o3 x i (by omega) (by omega)) D
  have eB : Bh g3 a = Bh h a := by unfold Bh; rw [show g3 (a + 1) = h (a + 1) from funext fun i => o3 _ _ (by omega) (by omega), ca2]
  have eN : nPr g3 = nPr h := by funext k; unfold nPr; rw [o3 36 4 (by omega) (by omega), o3 36 5 (by omega) (by omega)]
  have RDe : ∀ (e : Int → Int) (r w' m : Int), RDh g3 a e 0 sc (h a 2) r w' m → RDh h a e 0 sc (h a 2) r w' m := by
    intro e r w' m H
    have cg : ∀ k j, (k = 67 ∨ k = 71) → 0 ≤ j → j < nPr h k → ppr g3 k j = ppr h k j ∧ llr g3 k j = llr h k j := by
      intro k j hk j0 j1
      have dd := D.1
      unfold nPr at j1
      unfold ppr llr
      by_cases z : k = 71
      · rw [if_pos z] at j1
        rw [if_pos z, if_pos z, if_pos z, if_pos z]
        exact ⟨o3 _ _ (by omega) (by omega), o3 _ _ (by omega) (by omega)⟩
      · rw [if_neg z] at j1
        rw [if_neg z, if_neg z, if_neg z, if_neg z]
        exact ⟨o3 _ _ (by omega) (by omega), o3 _ _ (by omega) (by omega)⟩
    have H' : RD (Bh h a) e (nPr h) (ppr g3) (llr g3) 0 sc (h a 2) r w' m := by
      have H : RD (Bh g3 a) e (nPr g3) (ppr g3) (llr g3) 0 sc (h a 2) r w' m := H
      rw [eB, eN] at H
      exact H
    exact RD_congr cg H'
  refine c_read (h0 := g3) a0 c1 (by omega) (by omega) D3 (h a 2 + 1).toNat 0 sc g3 (d - 1) _ (by omega) (by omega) (by omega) s0 (by omega) (by omega) (fun _ _ _ _ _ => rfl) (by omega) (by omega) (by omega) (by omega) (fun r g S => ?_) (fun g X => ?_)
  · obtain ⟨i1, ⟨b1, b2⟩, ⟨x1, x2⟩, u1, m', e1', l1, t1, R1⟩ := S
    have og : ∀ x i, x ≠ a + 2 → ¬ (x = a ∧ 3 ≤ i ∧ i ≤ 5) → ¬ (x = 91 ∧ (i = 1 ∨ i = 2)) → g x i = h x i := fun x i p q r => by rw [i1 x i p q (by omega)]; exact o3 x i r (by omega)
    have g1a : g 91 1 = a := by rw [i1 91 1 (by omega) (by omega) (by omega)]; exact c1
    have R := R1 (g (a + 2)) (fun _ _ _ => rfl)
    rw [c2] at R
    refine ⟨fun z => by omega, fun _ => ?_⟩
    rw [g1a, og a 2 (by omega) (by omega) (by omega)]
    refine ⟨by omega, fun z => ⟨fun y => by omega, fun _ => ?_⟩, fun z => ⟨by omega, by omega, fun k1 y1 k2 y2 => ?_⟩⟩
    · have er : r = h a 2 := by omega
      rw [er, c2] at R1
      exact H1 g _ m' og (by omega) (by omega) l1 (by omega) (fun e he => RDe _ _ _ _ (R1 e he))
    · have ok : ∀ x i, ¬ (x = a ∧ i = 4) → ¬ (x = a ∧ i = 5) → k2 x i = g x i := fun x i p q => by rw [y2, up2_ext q, y1, up2_ext p]
      have k4 : k2 a 4 = r := by rw [y2, up2_ni (by decide), y1, up2_eq]
      have k5 : k2 a 5 = 1 := by rw [y2, up2_eq]
      refine H0 k2 r (g 91 2) m' (fun x i p q t => by rw [ok x i (by omega) (by omega)]; exact og x i p q t) (by omega) ⟨by omega, by omega, Or.inl k5⟩ (fun y => by omega) (fun _ => ⟨k4, k5⟩) ?_
      rw [show k2 (a + 2) = g (a + 2) from funext fun i => ok _ _ (by omega) (by omega)]
      exact RDe _ _ _ _ R
  · obtain ⟨i1, u1, f1, w', m', R1⟩ := X
    have og : ∀ x i, x ≠ a + 2 → ¬ (x = a ∧ 3 ≤ i ∧ i ≤ 5) → ¬ (x = 91 ∧ (i = 1 ∨ i = 2)) → g x i = h x i := fun x i p q r => by rw [i1 x i p q (by omega)]; exact o3 x i r (by omega)
    have R := R1 (g (a + 2)) (fun _ _ => rfl)
    rw [c2] at R
    unfold Flt at f1
    rw [ca2] at f1
    exact ⟨fun _ => ⟨fun _ => H0 g _ w' m' og (by omega) f1 (fun _ => rfl) (fun z => by omega) (RDe _ _ _ _ R), fun z => absurd rfl z⟩, fun z => absurd rfl z⟩
end
