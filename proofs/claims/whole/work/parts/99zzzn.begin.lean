section
/-! a check begins: no types yet -/
abbrev S0x : Sx := fun _ => True
abbrev V0x : Vx := fun _ => (0, 0)
abbrev mu0 : Int → Nat := fun v => v.toNat
theorem FrN_0 : FrN V0x mu0 := ⟨fun v _ _ => by show (0 : Int) < 7; omega, fun v w v0 v1 w0 w1 e => by have e : v.toNat = w.toNat := e; omega⟩
theorem CV_0 {h : HP} {T R : Int} (hT : TR T R) (e13 : h T 13 = 0) (e14 : h T 14 = 0) (e15 : h T 15 = 0) (tm : Int → Tm) : CV h T R tm S0x V0x := by
  have tr := TR_le hT
  refine ⟨fun x => x, ⟨⟨hT, ⟨rfl, by omega, by omega⟩, rfl, ?_, fun x a b => by omega, fun x a b => by omega, fun x a b => by omega, ⟨fun i a b => by omega, fun m hm x a b => by omega⟩, fun x a b => by omega⟩, ⟨⟨fun x a b => by omega, fun x y a b => by omega⟩, fun x y a b => by omega, fun x y a b => by omega, ⟨fun _ => 0, fun x a b => by omega⟩, fun θ => ⟨fun _ x y a b => by omega, fun _ => trivial⟩, fun x a b => by omega⟩, fun x y a b => by omega, fun x a b => by omega, fun x y a b c => by omega, by omega⟩, ⟨fun x a b => by omega, fun n q => ?_⟩⟩
  · rw [e13, e14, cnt_nil (by omega)]; omega
  · exact absurd q (by show ¬ ((7 : Int) ≤ 0); omega)
theorem MV_0 {h : HP} (lo : 0 ≤ h 135 14) (hi : h 135 14 ≤ 1000) (e15 : h 135 15 = h 135 14) (e16 : h 135 16 = h 135 14) (e17 : h 135 17 = h 135 14) (tm : Int → Tm) : MV h tm S0x V0x := by
  refine ⟨⟨⟨⟨rfl, rfl, lo, by omega, by omega, ⟨fun x a b => by omega, fun x y a b => by omega⟩, fun x a b => by omega, fun i a b => by omega, fun k a b => by omega⟩, ⟨by omega, by omega, by omega, fun e a b => by omega⟩, fun θ => ⟨fun _ e a b => by omega, fun _ => trivial⟩, fun θ => ⟨fun _ x y a b => by omega, fun _ => trivial⟩, fun i j a b => by omega, fun x y a b => by omega⟩, ⟨fun _ => tI, trivial⟩, e16, ?_⟩, ⟨fun x a b => by omega, fun n q => ?_⟩⟩
  · unfold ncl
    rw [cnt_nil (by omega)]
    omega
  · exact absurd q (by show ¬ ((7 : Int) ≤ 0); omega)
theorem k_begin {d : Nat} {h : HP} {A : Int} {Γ : Int → Tm} {Q : PQ} (hd : 10 < d) (a0 : A = 30 ∨ A = 33) (H : ∀ (g : HP) (tm : Int → Tm), KS g tm S0x V0x 0 0 0 A Γ → g 96 13 ≤ 2 → (∀ a i, a < 92 ∨ (92 < a ∧ a < 96) ∨ 109 < a → g a i = h a i) → Q 0 g) : Go d M_Checker_begin 0 [(10, 92), (11, A)] [] h Q := by
  refine V_Checker_begin_0 (fun g1 e1 => ⟨by omega, fun g2 e2 g3 e3 g4 e4 => ⟨by omega, ?_⟩⟩)
  have o4 : ∀ a i, ¬ (a = 92 ∧ i = 7) → ¬ (a = 96 ∧ (i = 13 ∨ i = 14 ∨ i = 15)) → g4 a i = h a i := fun a i p q => by rw [e4, up2_ext (by omega), e3, up2_ext (by omega), e2, up2_ext (by omega), e1, up2_ext (by omega)]
  have f13 : g4 96 13 = 0 := by rw [e4, up2_ext (by omega), e3, up2_ext (by omega), e2, show (92 : Int) + 1 + 3 = 96 by omega, up2_eq]
  have f14 : g4 96 14 = 0 := by rw [e4, up2_ext (by omega), e3, show (92 : Int) + 1 + 3 = 96 by omega, up2_eq]
  have f15 : g4 96 15 = 0 := by rw [e4, show (92 : Int) + 1 + 3 = 96 by omega, up2_eq]
  have f7 : g4 92 7 = A := by rw [e4, up2_ext (by omega), e3, up2_ext (by omega), e2, up2_ext (by omega), e1, up2_eq]
  have C4 : CV g4 96 512 (fun _ => tI) S0x V0x := CV_0 (Or.inr ⟨rfl, rfl⟩) f13 f14 f15 _
  refine c_obtF (T := 96) (R := 512) (t := tI) (by omega) C4 (by omega) (fun z => by omega) (fun z => by omega) (fun _ => rfl) (fun _ => rfl) (by omega) rfl (fun x5 k5 t5 C5 X5 a5 b5 i5 n5 o5 g6 e6 => ⟨by omega, ?_⟩)
  have lc6 : LcC 96 k5 g6 := fun a i p q => by rw [e6, up2_nc (by omega)]
  have C6 := CV_loc lc6 C5
  have f613 : g6 96 13 = k5 96 13 := lc6 96 13 (by omega) (by omega)
  refine c_obtF (T := 96) (R := 512) (t := tB) (by omega) C6 (by omega) (fun z => by omega) (fun z => by omega) (fun _ => rfl) (fun _ => rfl) (by omega) rfl (fun x7 k7 t7 C7 X7 a7 b7 i7 n7 o7 g8 e8 g9 e9 g10 e10 => ?_)
  have o10 : ∀ a i, ¬ (a = 92 ∧ (i = 9 ∨ i = 5 ∨ i = 6)) → g10 a i = k7 a i := fun a i p => by rw [e10, up2_ext (by omega), e9, up2_ext (by omega), e8, up2_ext (by omega)]
  have lc10 : LcC 96 k7 g10 := fun a i p q => o10 a i (by omega)
  have f1013 : g10 96 13 = k7 96 13 := lc10 96 13 (by omega) (by omega)
  have n7' := X7.1.1.1
  have d7 := X7.1.1.2.2
  have d5 := X5.1.1.2.2
  have h8 : g10 92 8 = x5 := by rw [o10 92 8 (by omega), o7 92 8 (by omega), e6, up2_eq]
  have h7 : g10 92 7 = A := by rw [o10 92 7 (by omega), o7 92 7 (by omega), e6, up2_ext (by omega), o5 92 7 (by omega)]; exact f7
  have h9 : g10 92 9 = x7 := by rw [e10, up2_ext (by omega), e9, up2_ext (by omega), e8, up2_eq]
  have h5 : g10 92 5 = 0 := by rw [e10, up2_ext (by omega), e9, up2_eq]
  have h6 : g10 92 6 = 0 := by rw [e10, up2_eq]
  have h15 : g10 96 15 = 0 := by rw [lc10 96 15 (by omega) (by omega), d7, lc6 96 15 (by omega) (by omega), d5]; exact f15
  refine H g10 t7 ⟨CV_loc lc10 C7, h15, ⟨h5, h6, h7, a0⟩, ?_, ?_, by omega, fun i i0 i1 => by omega⟩ (by omega) (fun a i p => ?_)
  · rw [h8, f1013]
    exact ⟨a5, by omega, by rw [X7.2 x5 a5 (by omega)]; exact i5⟩
  · rw [h9, f1013]
    exact ⟨a7, b7, i7⟩
  · rw [o10 a i (by omega), o7 a i (by omega), e6, up2_ext (by omega), o5 a i (by omega)]
    exact o4 a i (by omega) (by omega)
/-- what a body of a function is checked in -/
abbrev Gf (h : HP) (f : Int) : Int → Tm := exG (fun _ => tI) 0 (sgF (sbr h) (llr h) (ppr h) 71 f mu0)
noncomputable abbrev Vf (h : HP) (f : Int) : Vx := nV V0x mu0 (Oc (sbr h 71 f) 0 (llr h 71 f)) (7, 0)
abbrev tf (h : HP) (f : Int) : Tm := sgR' (sbr h) (llr h) (ppr h) 71 f mu0
theorem k_body {d : Nat} {h : HP} {A f r w' : Int} {Q : PQ} (bc : BC h A) (hd : 500 < d) (f0 : 0 ≤ f) (f1 : f < h 36 5) (G : gd h A 0 (ppr h 71 f) (h A 2) r w')
    (H1 : ∀ (g : HP) S' V' t, jj h A 0 (Gf h f) (ppr h 71 f) (some (tf h f)) S0x (Vf h f) 0 0 S' V' t → (∀ a i, a < 92 ∨ 122 < a → g a i = h a i) → Q 1 g)
    (H0 : ∀ (g : HP) k S' V' t, jj h A 0 (Gf h f) (ppr h 71 f) (some (tf h f)) S0x (Vf h f) 0 k S' V' t → k = 10 * g A 4 + g A 5 → (1 ≤ g A 5 ∧ g A 5 ≤ 9 ∧ 0 ≤ g A 4 ∧ g A 4 ≤ 100) → (∀ a i, a < 92 ∨ 122 < a → ¬ (a = A ∧ (i = 4 ∨ i = 5)) → g a i = h a i) → Q 0 g) :
    Go d M_Checker_checkBody 0 [(10, 92), (11, A), (36, 61 + 5 * f)] [] h Q := by
  have a0 := bc.1
  have bn := bc.2.1
  have ce := cel_ok bc (Or.inr rfl) f0 (show f < nPr h 71 from f1)
  have es : cel 71 f = 61 + 5 * f := rfl
  rw [es] at ce
  obtain ⟨⟨c1, c2⟩, csz, cl, cp, cb, ⟨l0, l1⟩, ⟨n0, n3⟩, O⟩ := ce
  refine V_Checker_checkBody_0 ⟨by omega, k_begin (Γ := fun _ => tI) (by omega) a0 (fun g1 t1 K1 m1 o1 => ⟨by omega, ?_⟩)⟩
  have e1 : g1 (61 + 5 * f) 1 = llr h 71 f := (o1 _ 1 (by omega)).trans cl
  have e2 : g1 (61 + 5 * f) 2 = ppr h 71 f := (o1 _ 2 (by omega)).trans cp
  have eb : g1 (61 + 5 * f + 1) = sbr h 71 f := by rw [← cb]; exact funext fun i => o1 _ i (by omega)
  have D1 : g1 96 15 = 0 := K1.2.1
  refine c_build (T := 96) (R := 512) (mu := mu0) (by omega) K1.1 FrN_0 (Or.inl rfl) csz (by omega) (by omega) (by omega) (by omega) (by rw [e1, eb, O]; exact n0) (by omega) (fun g2 I => ?_)
  obtain ⟨t2, C2, X2, tp, St, _, nb, o2⟩ := I
  rw [e1, eb] at C2 tp St
  rw [e1] at nb
  rw [D1] at C2
  rw [show (llr h 71 f - 0).toNat = (llr h 71 f).toNat by omega] at tp St
  have ll : ((skT (sbr h 71 f) (fun v => tV (mu0 v)) (llr h 71 f).toNat 0 []).length : Int) = ppr h 71 f + 1 := sgL_len (mu := mu0) l0 n0 O
  have ll2 : ((sgL (sbr h 71 f) (llr h 71 f) mu0).length : Int) = ppr h 71 f + 1 := ll
  have lg := sgI_get (mu := mu0) l0 n0 O
  have oo : ∀ a i, a < 92 ∨ 122 < a → g2 a i = h a i := fun a i p => (o2 a i (by omega)).trans (o1 a i (by omega))
  have K2 : KS g2 t2 S0x (Vf h f) 0 0 0 A (fun _ => tI) := KS_step K1 C2 X2 (KX_out fun a i p => o2 a i (by omega))
  have g22 : g2 (61 + 5 * f) 2 = ppr h 71 f := (oo _ 2 (by omega)).trans cp
  refine ⟨by omega, by omega, ?_⟩
  rw [g22]
  refine k_ext (n := ppr h 71 f) (L := sgL (sbr h 71 f) (llr h 71 f) mu0) (by omega) n0 ll n3 (by omega) K2 tp St (fun g3 K3 o3 => ⟨by omega, by omega, ?_⟩)
  have g32 : g3 (61 + 5 * f) 2 = ppr h 71 f := (o3 _ 2 (by omega) (by omega)).trans g22
  have tp3 : g3 93 5 = (sgL (sbr h 71 f) (llr h 71 f) mu0).length := (o3 93 5 (by omega) (by omega)).trans tp
  have e13 : g3 96 13 = g2 96 13 := o3 96 13 (by omega) (by omega)
  have e95 : g3 95 = g2 95 := funext fun i => o3 95 i (by omega) (by omega)
  have St3 : StkL (g3 95) 0 (g3 96 13) t2 (sgL (sbr h 71 f) (llr h 71 f) mu0) := by rw [e95, e13]; exact St
  rw [g32]
  have pa : ∀ (W : PQ), (∀ x, 0 ≤ x → x < g3 96 13 → t2 x = tf h f → W x g3) → Go (d - 1) M_World_partAt 0 [(20, 92 + 1), (0, ppr h 71 f), (2, 0)] [] g3 W := by
    intro W K
    have := c_partAt (d := d - 1) (T := 96) (R := 512) (tm := t2) (i := (ppr h 71 f).toNat) (Q := W) (CV_L0 C2).2.2.2.2 tp3 (by omega) St3 lg K
    rw [show (((ppr h 71 f).toNat : Nat) : Int) = ppr h 71 f by omega] at this
    exact this
  refine pa _ (fun x x0 x1 xe => ⟨by omega, ?_⟩)
  have oo3 : ∀ a i, a < 92 ∨ 122 < a → g3 a i = h a i := fun a i p => (o3 a i (by omega) (by omega)).trans (oo a i p)
  rw [show (0 : Int) + ppr h 71 f = ppr h 71 f by omega] at K3
  have kb : KB h g3 A := fun a i p q => oo3 a i (by omega)
  have s : ST h A g3 t2 S0x (Vf h f) 0 (ppr h 71 f) 0 (Gf h f) 26 := ⟨kb, K3, by omega⟩
  refine (k_all bc (h A 2 + 1).toNat).1 0 (ppr h 71 f) (h A 2) r w' 0 0 x 26 g3 t2 S0x (Vf h f) (Gf h f) (d - 1) _ (by omega) (by omega) (by omega) G (by omega) (by omega) (by omega) (by omega) (by omega) (by omega) s x0 x1 (fun g4 t4 S4 V4 u4 j4 s4 X4 k4 => ⟨Or.inr rfl, ?_⟩) (fun g4 k S4 V4 u4 j4 ek b z fo => ⟨Or.inl rfl, ?_⟩)
  · rw [xe] at j4
    exact H1 g4 S4 V4 u4 j4 (fun a i p => (k4 a i (by omega) (by omega) (by omega)).trans (oo3 a i p))
  · rw [xe] at j4
    exact H0 g4 k S4 V4 u4 j4 ek b (fun a i p q => (z a i (by omega) (by omega) (by omega) (by omega) q).trans (oo3 a i p))
end
