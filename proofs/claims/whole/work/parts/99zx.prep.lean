section
/-! begins: the class -/
noncomputable def pS (k : Int) : Int := rdS (aSCH k) (aSLEN k) (aSLEN k) 3 0
theorem SgN_congr {b b' : Int → Int} {g : HP} {s n c : Int} (S : SgN b g s n c) (n0 : 0 ≤ n) (e : ∀ i, 0 ≤ i → i < n → b' i = b i) : SgN b' g s n c := by
  obtain ⟨s1, s2, s3, s4⟩ := S
  have oc : ∀ c : Int, occ b' c n.toNat = occ b c n.toNat := fun c => occ_congr _ (fun i a d => e i a (by omega))
  exact ⟨s1, s2, by rw [oc, oc, oc]; exact s3, fun i i0 i1 => by rw [e i i0 i1]; exact s4 i i0 i1⟩
theorem bA_congr {b b' : Int → Int} {n : Int} (e : ∀ i, 0 ≤ i → i < n → b' i = b i) : bA b' n = bA b n := by
  funext p
  rcases Classical.em (0 ≤ p ∧ p < n) with z | z
  · rw [bA_in z.1 z.2, bA_in z.1 z.2, e p z.1 z.2]
  · rw [bA_out (by omega), bA_out (by omega)]
theorem c_prepC {d : Nat} {h : HP} {k : Int} {Q : PQ} (hd : 60 < d) (l0 : 0 ≤ aSLEN k) (l1 : aSLEN k ≤ 24) (ok : 0 ≤ pS k) (k0 : 0 ≤ h 36 4) (k1 : h 36 4 < 10) (H : ∀ g : HP, (∀ x i, ¬ (33 ≤ x ∧ x ≤ 35) → x ≠ 41 + 2 * h 36 4 → x ≠ 42 + 2 * h 36 4 → ¬ (x = 36 ∧ i = 4) → g x i = h x i) → SgN (aSCH k) g (41 + 2 * h 36 4) (aSLEN k) (pS k) → g (41 + 2 * h 36 4) 4 = 0 → g 36 4 = h 36 4 + 1 → Q 0 g) : Go d M_BT_prepareConstructor 0 [(21, 1), (60, k)] [] h Q := by
  refine N_BT_prepareConstructor_0 ⟨by omega, c_fill (by omega) l0 (by omega) (fun g1 o1 e2 r1 => ⟨by omega, ?_⟩)⟩
  have q4 : g1 36 4 = h 36 4 := o1 _ _ (by omega) (by omega)
  have eR : rdH g1 33 = pS k := by
    show rdS (g1 34) (g1 33 2) (min (g1 33 2) 24) 3 0 = _
    rw [e2, show min (aSLEN k) 24 = aSLEN k by omega]
    exact rdS_congr (b := aSCH k) (b' := g1 34) 3 0 (by omega) (fun i i0 i1 => r1 i i0 i1)
  refine c_declC (a := 33) (by omega) (Or.inr rfl) (by omega) (by omega) (by omega) (by omega) ?_ (fun z => by omega)
  rw [q4, eR, e2]
  intro _ _ g o S fm e4
  exact H g (fun x i p1 p2 p3 p4 => by rw [o x i p2 (by omega) p4]; exact o1 x i (by omega) (by omega)) (SgN_congr S l0 (fun i i0 i1 => (r1 i i0 i1).symm)) fm e4
theorem c_copy {d : Nat} {h : HP} {s t : Int} {Q : PQ} (st : s + 2 < t) (z1 : aSZ (s + 1) = 100) (z2 : aSZ (s + 2) = 100) (z3 : aSZ (t + 1) = 100) (z4 : aSZ (t + 2) = 100) (n0 : 0 ≤ h s 2) (n1 : h s 2 ≤ 100) (H : ∀ g : HP, (∀ x i, ¬ (x = t ∧ (i = 2 ∨ i = 3)) → x ≠ t + 1 → x ≠ t + 2 → g x i = h x i) → g t 2 = h s 2 → g t 3 = h s 3 → (∀ i, 0 ≤ i → i < h s 2 → g (t + 1) i = h (s + 1) i ∧ g (t + 2) i = h (s + 2) i) → Q 0 g) : Go d M_Code_copyFrom 0 [(11, t), (11, s), (2, 0)] [] h Q := by
  have L : ∀ i, 0 ≤ i → i ≤ h s 2 → ∀ g : HP, (∀ x j, x ≠ t + 1 → x ≠ t + 2 → g x j = h x j) → (∀ j, 0 ≤ j → j < i → g (t + 1) j = h (s + 1) j ∧ g (t + 2) j = h (s + 2) j) → Go d M_Code_copyFrom 2 [(11, t), (11, s), (0, i)] [] g Q := by
    intro i i0 i1
    refine up_loop (P := fun i => ∀ g : HP, (∀ x j, x ≠ t + 1 → x ≠ t + 2 → g x j = h x j) → (∀ j, 0 ≤ j → j < i → g (t + 1) j = h (s + 1) j ∧ g (t + 2) j = h (s + 2) j) → Go d M_Code_copyFrom 2 [(11, t), (11, s), (0, i)] [] g Q) i1 ?_ ?_
    · intro g o r
      have e2 : g s 2 = h s 2 := o _ _ (by omega) (by omega)
      refine V_Code_copyFrom_2 ⟨fun _ g1 x1 g2 x2 => ?_, fun z => by omega⟩
      have e3 : g1 s 3 = h s 3 := by rw [x1, up2_nc (by omega)]; exact o _ _ (by omega) (by omega)
      rw [e3] at x2
      refine H g2 (fun x j p1 p2 p3 => by rw [x2, up2_ext (by omega), x1, up2_ext (by omega)]; exact o x j p2 p3) ?_ (by rw [x2, up2_eq]) (fun j j0 j1 => ?_)
      · rw [x2, up2_ni (by decide), x1, up2_eq, e2]
      · rw [x2, up2_nc (by omega), up2_nc (by omega), x1, up2_nc (by omega), up2_nc (by omega)]
        exact r j j0 j1
    · intro j j0 j1 ih g o r
      have e2 : g s 2 = h s 2 := o _ _ (by omega) (by omega)
      refine V_Code_copyFrom_2 ⟨fun z => by omega, fun _ => ⟨⟨by omega, by omega⟩, ⟨by omega, by omega⟩, fun g3 x3 => ⟨⟨by omega, by omega⟩, ⟨by omega, by omega⟩, fun g4 x4 => ⟨by unfold r32; omega, ih g4 (fun x i p1 p2 => by rw [x4, up2_nc p2, x3, up2_nc p1]; exact o x i p1 p2) (fun i i0' i1' => ?_)⟩⟩⟩⟩
      have a1 : g (s + 1) j = h (s + 1) j := o _ _ (by omega) (by omega)
      have a2 : g3 (s + 2) j = h (s + 2) j := by rw [x3, up2_nc (by omega)]; exact o _ _ (by omega) (by omega)
      rw [a1] at x3
      rw [a2] at x4
      by_cases z : i = j
      · rw [z]
        refine ⟨?_, by rw [x4, up2_eq]⟩
        rw [x4, up2_nc (by omega), x3, up2_eq]
      · have := r i i0' (by omega)
        refine ⟨?_, ?_⟩
        · rw [x4, up2_nc (by omega), x3, up2_ni z]; exact this.1
        · rw [x4, up2_ni z, x3, up2_nc (by omega)]; exact this.2
  exact V_Code_copyFrom_0 (L 0 (by omega) n0 h (fun _ _ _ _ => rfl) (fun j _ _ => by omega))
theorem aSZ_body {k : Int} (k0 : 0 ≤ k) (k1 : k < 6) : aSZ (63 + 5 * k + 1) = 100 ∧ aSZ (63 + 5 * k + 2) = 100 := by
  have : k = 0 ∨ k = 1 ∨ k = 2 ∨ k = 3 ∨ k = 4 ∨ k = 5 := by omega
  rcases this with e | e | e | e | e | e <;> subst e <;> exact ⟨rfl, rfl⟩
theorem c_giveBody {d : Nat} {h : HP} {f s : Int} {Q : PQ} (hd : 0 < d) (s0 : s = 30 ∨ s = 33) (f0 : 0 ≤ f) (f1 : f < h 36 5) (f6 : h 36 5 ≤ 6) (n0 : 0 ≤ h s 2) (n1 : h s 2 ≤ 100) (H : ∀ g : HP, (∀ x i, ¬ (x = 63 + 5 * f ∧ (i = 2 ∨ i = 3)) → x ≠ 63 + 5 * f + 1 → x ≠ 63 + 5 * f + 2 → ¬ (x = 40 ∧ i = f) → g x i = h x i) → g (63 + 5 * f) 2 = h s 2 → g (63 + 5 * f) 3 = h s 3 → (∀ i, 0 ≤ i → i < h s 2 → g (63 + 5 * f + 1) i = h (s + 1) i ∧ g (63 + 5 * f + 2) i = h (s + 2) i) → g 40 f = 1 → Q 0 g) : Go d M_Program_giveBody 0 [(14, 36), (0, f), (11, s)] [] h Q := by
  have sz3 : aSZ (36 + 3) = 6 := rfl
  have sz4 : aSZ (36 + 4) = 6 := rfl
  obtain ⟨zb1, zb2⟩ := aSZ_body f0 (by omega)
  have z1 : aSZ (s + 1) = 100 := by rcases s0 with e | e <;> subst e <;> rfl
  have z2 : aSZ (s + 2) = 100 := by rcases s0 with e | e <;> subst e <;> rfl
  refine V_Program_giveBody_0 ⟨fun z => by omega, fun _ => ⟨fun z => by omega, fun _ => ⟨⟨f0, by rw [sz3]; omega⟩, hd, ?_⟩⟩⟩
  rw [show (36 : Int) + 3 + 24 + 5 * f = 63 + 5 * f by omega]
  refine c_copy (by omega) z1 z2 zb1 zb2 n0 n1 (fun g o e2 e3 r => ⟨⟨f0, by rw [sz4]; omega⟩, fun g2 x2 => ?_⟩)
  have o2 : ∀ x i, ¬ (x = 36 + 4 ∧ i = f) → g2 x i = g x i := fun x i p => by rw [x2, up2_ext p]
  exact H g2 (fun x i p1 p2 p3 p4 => by rw [o2 x i (by omega)]; exact o x i p1 p2 p3) (by rw [o2 _ _ (by omega)]; exact e2) (by rw [o2 _ _ (by omega)]; exact e3) (fun i i0 i1 => by rw [o2 _ _ (by omega), o2 _ _ (by omega)]; exact r i i0 i1) (by rw [x2]; exact up2_eq)
theorem c_prepF {d : Nat} {h : HP} {ks kb : Int} {Q : PQ} (hd : 400 < d) (l0 : 0 ≤ aSLEN ks) (l1 : aSLEN ks ≤ 24) (ok : 0 ≤ pS ks) (m0 : 0 < aSLEN kb) (m1 : aSLEN kb ≤ 100) (D : DcC h) (f1 : h 36 5 < 6)
    (H : ∀ (g : HP) (e : Int → Int) (r w' m : Int), (∀ x i, ¬ (33 ≤ x ∧ x ≤ 35) → x ≠ 91 → ¬ (61 + 5 * h 36 5 ≤ x ∧ x ≤ 65 + 5 * h 36 5) → ¬ (x = 36 ∧ i = 5) → ¬ (x = 40 ∧ i = h 36 5) → g x i = h x i) → SgN (aSCH ks) g (61 + 5 * h 36 5) (aSLEN ks) (pS ks) → g 36 5 = h 36 5 + 1 → RD (bA (aSCH kb) (aSLEN kb)) e (nPr g) (ppr g) (llr g) 0 (pS ks) (aSLEN kb) r w' m → ((r = aSLEN kb ∧ g 40 (h 36 5) = 1 ∧ g (63 + 5 * h 36 5) 2 = aSLEN kb ∧ g (63 + 5 * h 36 5) 3 = m ∧ 1 ≤ m ∧ m ≤ 100 ∧ (∀ i, 0 ≤ i → i < aSLEN kb → g (63 + 5 * h 36 5 + 1) i = aSCH kb i) ∧ e = g (63 + 5 * h 36 5 + 2)) ∨ (r ≠ aSLEN kb ∧ g 40 (h 36 5) = 0)) → Q 0 g) :
    Go d M_BT_prepareFunction 0 [(21, 1), (60, ks), (60, kb), (2, 0), (2, 0)] [] h Q := by
  have D0 := D
  obtain ⟨⟨a0, a1, a3, a4⟩, cs, fs⟩ := D
  refine N_BT_prepareFunction_0 ⟨by omega, c_fill (by omega) l0 (by omega) (fun g1 o1 e2 r1 => ⟨by omega, ?_⟩)⟩
  have q5 : g1 36 5 = h 36 5 := o1 _ _ (by omega) (by omega)
  have eR : rdH g1 33 = pS ks := by
    show rdS (g1 34) (g1 33 2) (min (g1 33 2) 24) 3 0 = _
    rw [e2, show min (aSLEN ks) 24 = aSLEN ks by omega]
    exact rdS_congr (b := aSCH ks) (b' := g1 34) 3 0 (by omega) (fun i i0 i1 => r1 i i0 i1)
  have p3 := rdS_3 (b := aSCH ks) (n := aSLEN ks) (m := aSLEN ks) 3 0 (by omega) (by omega)
  have p3 : pS ks ≤ 3 := p3
  refine c_declF (a := 33) (by omega) (Or.inr rfl) (by omega) (by omega) (by omega) (by omega) ?_ (fun z => by omega)
  rw [q5, eR, e2]
  intro _ _ g2 o2 S2 e40 e5
  refine ⟨fun _ => ?_, fun z => absurd z (by decide)⟩
  rw [e5, show h 36 5 + 1 - 1 = h 36 5 by omega]
  refine ⟨by unfold r32; omega, by omega, c_funcOf (by omega) (fun _ _ => ⟨by omega, ?_⟩) (fun z => by omega)⟩
  refine c_fill (by omega) (by omega) m1 (fun g3 o3 e23 r3 => ⟨fun z => by omega, fun _ => ⟨by omega, by omega, ?_⟩⟩)
  have oh : ∀ x i, ¬ (33 ≤ x ∧ x ≤ 35) → ¬ (61 + 5 * h 36 5 ≤ x ∧ x ≤ 62 + 5 * h 36 5) → ¬ (x = 36 ∧ i = 5) → ¬ (x = 40 ∧ i = h 36 5) → g3 x i = h x i := fun x i p1 p2 p3 p4 => by rw [o3 x i (by omega) (by omega), o2 x i (by omega) (by omega) p3 p4, o1 x i (by omega) (by omega)]
  have S3 : SgN (aSCH ks) g3 (61 + 5 * h 36 5) (aSLEN ks) (pS ks) := by
    obtain ⟨s1, s2, s3, s4⟩ := SgN_congr (b' := aSCH ks) S2 l0 (fun i i0 i1 => (r1 i i0 i1).symm)
    exact ⟨by rw [o3 _ _ (by omega) (by omega)]; exact s1, by rw [o3 _ _ (by omega) (by omega)]; exact s2, by rw [o3 _ _ (by omega) (by omega)]; exact s3, fun i p q => by rw [o3 _ _ (by omega) (by omega)]; exact s4 i p q⟩
  have c365 : g3 36 5 = h 36 5 + 1 := by rw [o3 _ _ (by omega) (by omega)]; exact e5
  have c364 : g3 36 4 = h 36 4 := oh _ _ (by omega) (by omega) (by omega) (by omega)
  have c40 : g3 40 (h 36 5) = 0 := by rw [o3 _ _ (by omega) (by omega)]; exact e40
  rw [show g3 (61 + 5 * h 36 5) 2 = pS ks from S3.2.1]
  have D3 : DcC g3 := by
    refine ⟨⟨by omega, by omega, by omega, by omega⟩, fun k k0 k1 => ?_, fun f f0 f1' => ?_⟩
    · rw [oh _ _ (by omega) (by omega) (by omega) (by omega), oh _ _ (by omega) (by omega) (by omega) (by omega)]; exact cs k k0 (by omega)
    · by_cases z : f = h 36 5
      · subst z
        rw [S3.1, S3.2.1]
        exact ⟨⟨l0, l1⟩, ok, p3⟩
      · rw [oh _ _ (by omega) (by omega) (by omega) (by omega), oh _ _ (by omega) (by omega) (by omega) (by omega)]; exact fs f f0 (by omega)
  have eB : Bh g3 33 = bA (aSCH kb) (aSLEN kb) := by
    show bA (g3 34) (g3 33 2) = _
    rw [e23]
    exact bA_congr r3
  -- the declared ones do not change behind
  have same : ∀ (g : HP) (e : Int → Int) (r w' m : Int), (∀ x i, 35 < x → x < 91 → (x < 63 + 5 * h 36 5 ∨ 65 + 5 * h 36 5 < x) → ¬ (x = 40) → g x i = g3 x i) → RDh g3 33 e 0 (pS ks) (g3 33 2) r w' m → RD (bA (aSCH kb) (aSLEN kb)) e (nPr g) (ppr g) (llr g) 0 (pS ks) (aSLEN kb) r w' m := by
    intro g e r w' m og R
    have R : RD (Bh g3 33) e (nPr g3) (ppr g3) (llr g3) 0 (pS ks) (g3 33 2) r w' m := R
    rw [eB, e23] at R
    have eN : nPr g = nPr g3 := by funext k; unfold nPr; rw [og 36 4 (by omega) (by omega) (by omega) (by omega), og 36 5 (by omega) (by omega) (by omega) (by omega)]
    rw [eN]
    refine RD_congr (fun k j hk j0 j1 => ?_) R
    unfold nPr at j1
    unfold ppr llr
    by_cases z : k = 71
    · rw [if_pos z] at j1
      rw [if_pos z, if_pos z, if_pos z, if_pos z]
      exact ⟨(og _ _ (by omega) (by omega) (by omega) (by omega)).symm, (og _ _ (by omega) (by omega) (by omega) (by omega)).symm⟩
    · rw [if_neg z] at j1
      rw [if_neg z, if_neg z, if_neg z, if_neg z]
      exact ⟨(og _ _ (by omega) (by omega) (by omega) (by omega)).symm, (og _ _ (by omega) (by omega) (by omega) (by omega)).symm⟩
  refine c_readX (a := 33) (by omega) (Or.inr rfl) (by omega) (by omega) D3 ok p3 ?_ ?_
  · intro g4 w' m o4 np e43 l1' l2' R
    have w2 : g4 33 2 = aSLEN kb := by rw [o4 _ _ (by omega) (by omega) (by omega)]; exact e23
    refine ⟨fun z => absurd z (by decide), fun _ => ⟨by omega, ?_⟩⟩
    have c365' : g4 36 5 = h 36 5 + 1 := by rw [o4 _ _ (by omega) (by omega) (by omega)]; exact c365
    refine c_giveBody (by omega) (Or.inr rfl) a3 (by omega) (by omega) (by omega) (by omega) (fun g5 o5 t2 t3 tr t40 => ?_)
    have og : ∀ x i, ¬ (33 ≤ x ∧ x ≤ 35) → x ≠ 91 → ¬ (63 + 5 * h 36 5 ≤ x ∧ x ≤ 65 + 5 * h 36 5) → ¬ (x = 40 ∧ i = h 36 5) → g5 x i = g3 x i := fun x i p1 p2 p3 p4 => by rw [o5 x i (by omega) (by omega) (by omega) p4]; exact o4 x i (by omega) (by omega) (by omega)
    rw [e23] at R
    have R := R (g5 (63 + 5 * h 36 5 + 2)) (fun q q0 q1 => (tr q q0 (by omega)).2)
    refine H g5 (g5 (63 + 5 * h 36 5 + 2)) (aSLEN kb) w' m (fun x i p1 p2 p3 p4 p5 => by rw [og x i p1 p2 (by omega) p5]; exact oh x i p1 (by omega) p4 p5) ?_ (by rw [og _ _ (by omega) (by omega) (by omega) (by omega)]; exact c365) (same g5 (g5 (63 + 5 * h 36 5 + 2)) _ w' m (fun x i p1 p2 p3 p4 => og x i (by omega) (by omega) (by omega) (by omega)) (by rw [e23]; exact R)) (Or.inl ⟨rfl, t40, by rw [t2, w2], by rw [t3, e43], l1', l2', fun i i0 i1 => ?_, rfl⟩)
    · obtain ⟨s1, s2, s3, s4⟩ := S3
      exact ⟨by rw [og _ _ (by omega) (by omega) (by omega) (by omega)]; exact s1, by rw [og _ _ (by omega) (by omega) (by omega) (by omega)]; exact s2, by rw [og _ _ (by omega) (by omega) (by omega) (by omega)]; exact s3, fun i p q => by rw [og _ _ (by omega) (by omega) (by omega) (by omega)]; exact s4 i p q⟩
    · rw [(tr i i0 (by omega)).1, o4 (33 + 1) i (by omega) (by omega) (by omega)]
      exact r3 i i0 i1
  · intro g4 r w' m o4 rn fl f1' f2' R
    refine ⟨fun _ => ?_, fun z => absurd rfl z⟩
    have og : ∀ x i, ¬ (33 ≤ x ∧ x ≤ 35) → x ≠ 91 → g4 x i = g3 x i := fun x i p1 p2 => o4 x i (by omega) (by omega) (by omega)
    refine H g4 (g4 35) r w' m (fun x i p1 p2 p3 p4 p5 => by rw [og x i p1 p2]; exact oh x i p1 (by omega) p4 p5) ?_ (by rw [og _ _ (by omega) (by omega)]; exact c365) (same g4 (g4 35) r w' m (fun x i p1 p2 p3 p4 => og x i (by omega) (by omega)) R) (Or.inr ⟨by rw [← e23]; exact rn, by rw [og _ _ (by omega) (by omega)]; exact c40⟩)
    obtain ⟨s1, s2, s3, s4⟩ := S3
    exact ⟨by rw [og _ _ (by omega) (by omega)]; exact s1, by rw [og _ _ (by omega) (by omega)]; exact s2, by rw [og _ _ (by omega) (by omega)]; exact s3, fun i p q => by rw [og _ _ (by omega) (by omega)]; exact s4 i p q⟩
end
