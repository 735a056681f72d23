section
/-! prepared sets: every body has its type -/
theorem sC_set {h : HP} {t j : Int} (gd : gdS t) (l : aSCH t (aSLEN t - 1) ≠ 100) (S : SgN (aSCH t) h (41 + 2 * j) (aSLEN t) (pS t)) (α : Int → Tm) : sgT (sbr h 67 j) (llr h 67 j) α = sgT (aSCH t) (aSLEN t) α := by
  have := sgT_set gd l S α
  rw [show 41 + 2 * j + 1 = 42 + 2 * j by omega] at this
  exact this
theorem sF_set {h : HP} {t j : Int} (gd : gdS t) (l : aSCH t (aSLEN t - 1) ≠ 100) (S : SgN (aSCH t) h (61 + 5 * j) (aSLEN t) (pS t)) (α : Int → Tm) : sgT (sbr h 71 j) (llr h 71 j) α = sgT (aSCH t) (aSLEN t) α := by
  have := sgT_set gd l S α
  rw [show 61 + 5 * j + 1 = 62 + 5 * j by omega] at this
  exact this
theorem set_bw {h g0 h2 : HP} {cs : List Int} {fs : List (Int × Int)} (P : PcSt h g0 cs fs) (M : MsS g0 h2 cs.length cs fs) : BdR h2 ∧ h2 36 4 = cs.length ∧ h2 36 5 = fs.length ∧ (∀ (i : Nat) (k : Int), cs[i]? = some k → SgN (aSCH k) h2 (41 + 2 * i) (aSLEN k) (pS k) ∧ h2 (41 + 2 * i) 4 = 0) ∧ (∀ (i : Nat) (kk : Int × Int), fs[i]? = some kk → SgN (aSCH kk.1) h2 (61 + 5 * i) (aSLEN kk.1) (pS kk.1) ∧ (h2 40 i = 1 → bA (h2 (63 + 5 * i + 1)) (h2 (63 + 5 * i) 2) = bA (aSCH kk.2) (aSLEN kk.2))) := by
  have se := (sets_end P M).2.2
  obtain ⟨_, ⟨pa1, pa2⟩, ⟨pb1, pb2⟩, ppc, ppf⟩ := P
  obtain ⟨F, _⟩ := M
  have oc : ∀ x i, x < 135 → h2 x i = g0 x i := fun x i p => F.1 x i (by omega)
  refine ⟨se, (oc _ _ (by omega)).trans pa1, (oc _ _ (by omega)).trans pb1, fun i k ei => ?_, fun i kk ei => ?_⟩
  · have il := get_lt ei
    obtain ⟨_, S, e⟩ := ppc i k ei
    exact ⟨SgN_ag (fun j => oc _ _ (by omega)) (fun j => oc _ _ (by omega)) S, by rw [oc _ _ (by omega)]; exact e⟩
  · have il := get_lt ei
    obtain ⟨_, _, S, e, r, m, _, C⟩ := ppf i kk ei
    refine ⟨SgN_ag (fun j => oc _ _ (by omega)) (fun j => oc _ _ (by omega)) S, fun z => ?_⟩
    rw [oc 40 _ (by omega)] at z
    rcases C with ⟨_, _, t3, _, _, _, t7, _⟩ | ⟨_, t2⟩
    · rw [oc (63 + 5 * (i : Int)) 2 (by omega), t3]
      exact bA_congr (fun q q0 q1 => by rw [oc _ _ (by omega)]; exact t7 q q0 q1)
    · omega
theorem BdR_G {h : HP} {f : Int} {B : Int → Int} {n : Nat} (Bd : BdR h) (f0 : 0 ≤ f) (f1 : f < h 36 5) (e40 : h 40 f = 1) (eB : bA (h (63 + 5 * f + 1)) (h (63 + 5 * f) 2) = B) (en : h (61 + 5 * f) 2 = (n : Int)) : ∃ nP w r w', GD B (h (63 + 5 * f + 2)) nP (ppr h) (llr h) 0 n w r w' := by
  obtain ⟨N, w', m, _, l, _, rd, _⟩ := Bd f f0 f1 e40
  rw [eB, en] at rd
  exact ⟨_, _, _, _, m, rd, by omega⟩
theorem sgv_0 (α : Int → Tm) : sgT (aSCH 0) (aSLEN 0) α = [tI, tI] := rfl
theorem psv_0 : pS 0 = ((1 : Nat) : Int) := by decide +kernel
theorem sgv_1 (α : Int → Tm) : sgT (aSCH 1) (aSLEN 1) α = [tF 3 (tI), tB] := rfl
theorem psv_1 : pS 1 = ((1 : Nat) : Int) := by decide +kernel
theorem sgv_2 (α : Int → Tm) : sgT (aSCH 2) (aSLEN 2) α = [tF 3 (tB), tF 3 (α 0), tF 3 (α 0), α 0] := rfl
theorem psv_2 : pS 2 = ((3 : Nat) : Int) := by decide +kernel
theorem sgv_3 (α : Int → Tm) : sgT (aSCH 3) (aSLEN 3) α = [tF 3 (α 0), tF 3 (α 1), tP (α 0) (α 1)] := rfl
theorem psv_3 : pS 3 = ((2 : Nat) : Int) := by decide +kernel
theorem sgv_4 (α : Int → Tm) : sgT (aSCH 4) (aSLEN 4) α = [tF 3 (tP (α 0) (α 1)), α 0] := rfl
theorem psv_4 : pS 4 = ((1 : Nat) : Int) := by decide +kernel
theorem sgv_5 (α : Int → Tm) : sgT (aSCH 5) (aSLEN 5) α = [tF 3 (α 0), α 0] := rfl
theorem psv_5 : pS 5 = ((1 : Nat) : Int) := by decide +kernel
theorem sgv_7 (α : Int → Tm) : sgT (aSCH 7) (aSLEN 7) α = [tP (α 0) (α 0)] := rfl
theorem psv_7 : pS 7 = ((0 : Nat) : Int) := by decide +kernel
theorem sgv_8 (α : Int → Tm) : sgT (aSCH 8) (aSLEN 8) α = [tF 3 (tP (α 0) (α 1)), α 0, α 1] := rfl
theorem psv_8 : pS 8 = ((2 : Nat) : Int) := by decide +kernel
theorem sgv_10 (α : Int → Tm) : sgT (aSCH 10) (aSLEN 10) α = [tF 3 (tP (α 0) (α 1)), tF 3 (tP (α 1) (α 0))] := rfl
theorem psv_10 : pS 10 = ((1 : Nat) : Int) := by decide +kernel
theorem sgv_12 (α : Int → Tm) : sgT (aSCH 12) (aSLEN 12) α = [tF 3 (tP (α 0) (α 1)), tF 3 (tP (α 1) (α 2)), tF 3 (tP (α 0) (α 2))] := rfl
theorem psv_12 : pS 12 = ((2 : Nat) : Int) := by decide +kernel
theorem sgv_13 (α : Int → Tm) : sgT (aSCH 13) (aSLEN 13) α = [tI] := rfl
theorem psv_13 : pS 13 = ((0 : Nat) : Int) := by decide +kernel
theorem sgv_14 (α : Int → Tm) : sgT (aSCH 14) (aSLEN 14) α = [tI, tF 3 (α 0), tP (tI) (α 0)] := rfl
theorem psv_14 : pS 14 = ((2 : Nat) : Int) := by decide +kernel
theorem sgv_15 (α : Int → Tm) : sgT (aSCH 15) (aSLEN 15) α = [tF 3 (tP (tI) (α 0)), tI] := rfl
theorem psv_15 : pS 15 = ((1 : Nat) : Int) := by decide +kernel
theorem sgv_17 (α : Int → Tm) : sgT (aSCH 17) (aSLEN 17) α = [tF 3 (α 0), tF 3 (α 0), tF 3 (α 0)] := rfl
theorem psv_17 : pS 17 = ((2 : Nat) : Int) := by decide +kernel
theorem bw_s1 {h g0 h2 : HP} (P : PcSt h g0 [0, 1, 2, 3, 4] [(5, 6)]) (M : MsS g0 h2 ((([0, 1, 2, 3, 4] : List Int).length : Nat) : Int) [0, 1, 2, 3, 4] [(5, 6)]) : BdW h2 := by
  obtain ⟨Bd, e4, e5, pc, pf⟩ := set_bw P M
  have e4 : h2 36 4 = 5 := e4
  have e5 : h2 36 5 = 1 := e5
  have c0 : SgN (aSCH 0) h2 (41 + 2 * 0) (aSLEN 0) (pS 0) ∧ h2 (41 + 2 * 0) 4 = 0 := pc 0 0 rfl
  have s0 : ∀ α, sgT (sbr h2 67 0) (llr h2 67 0) α = [tI, tI] := fun α => (sC_set (gdS_of 0 (by decide) (by decide)) (by decide +kernel) c0.1 α).trans (sgv_0 α)
  have p0 : ppr h2 67 0 = ((1 : Nat) : Int) := (c0.1.2.1).trans psv_0
  have c1 : SgN (aSCH 1) h2 (41 + 2 * 1) (aSLEN 1) (pS 1) ∧ h2 (41 + 2 * 1) 4 = 0 := pc 1 1 rfl
  have s1 : ∀ α, sgT (sbr h2 67 1) (llr h2 67 1) α = [tF 3 (tI), tB] := fun α => (sC_set (gdS_of 1 (by decide) (by decide)) (by decide +kernel) c1.1 α).trans (sgv_1 α)
  have p1 : ppr h2 67 1 = ((1 : Nat) : Int) := (c1.1.2.1).trans psv_1
  have c2 : SgN (aSCH 2) h2 (41 + 2 * 2) (aSLEN 2) (pS 2) ∧ h2 (41 + 2 * 2) 4 = 0 := pc 2 2 rfl
  have s2 : ∀ α, sgT (sbr h2 67 2) (llr h2 67 2) α = [tF 3 (tB), tF 3 (α 0), tF 3 (α 0), α 0] := fun α => (sC_set (gdS_of 2 (by decide) (by decide)) (by decide +kernel) c2.1 α).trans (sgv_2 α)
  have p2 : ppr h2 67 2 = ((3 : Nat) : Int) := (c2.1.2.1).trans psv_2
  have c3 : SgN (aSCH 3) h2 (41 + 2 * 3) (aSLEN 3) (pS 3) ∧ h2 (41 + 2 * 3) 4 = 0 := pc 3 3 rfl
  have s3 : ∀ α, sgT (sbr h2 67 3) (llr h2 67 3) α = [tF 3 (α 0), tF 3 (α 1), tP (α 0) (α 1)] := fun α => (sC_set (gdS_of 3 (by decide) (by decide)) (by decide +kernel) c3.1 α).trans (sgv_3 α)
  have p3 : ppr h2 67 3 = ((2 : Nat) : Int) := (c3.1.2.1).trans psv_3
  have c4 : SgN (aSCH 4) h2 (41 + 2 * 4) (aSLEN 4) (pS 4) ∧ h2 (41 + 2 * 4) 4 = 0 := pc 4 4 rfl
  have s4 : ∀ α, sgT (sbr h2 67 4) (llr h2 67 4) α = [tF 3 (tP (α 0) (α 1)), α 0] := fun α => (sC_set (gdS_of 4 (by decide) (by decide)) (by decide +kernel) c4.1 α).trans (sgv_4 α)
  have p4 : ppr h2 67 4 = ((1 : Nat) : Int) := (c4.1.2.1).trans psv_4
  have g0 : SgN (aSCH 5) h2 (61 + 5 * 0) (aSLEN 5) (pS 5) ∧ (h2 40 0 = 1 → bA (h2 (63 + 5 * 0 + 1)) (h2 (63 + 5 * 0) 2) = bA (aSCH 6) (aSLEN 6)) := pf 0 (5, 6) rfl
  have f0 : ∀ α, sgT (sbr h2 71 0) (llr h2 71 0) α = [tF 3 (α 0), α 0] := fun α => (sF_set (gdS_of 5 (by decide) (by decide)) (by decide +kernel) g0.1 α).trans (sgv_5 α)
  have q0 : ppr h2 71 0 = ((1 : Nat) : Int) := (g0.1.2.1).trans psv_5
  intro f z0 z1 e40 α
  rw [e4]
  have z : f = 0 := by omega
  subst z
  obtain ⟨nP, w, r, w', G⟩ := BdR_G Bd z0 z1 e40 (g0.2 e40) q0
  rw [g0.2 e40, sgTI_L (f0 α) q0, f0 α, q0]
  exact w_b1 G p0 p1 p2 p3 p4 q0 s0 s1 s2 s3 s4 f0 α
theorem bw_s2 {h g0 h2 : HP} (P : PcSt h g0 [7] [(8, 9), (10, 11), (12, 9)]) (M : MsS g0 h2 ((([7] : List Int).length : Nat) : Int) [7] [(8, 9), (10, 11), (12, 9)]) : BdW h2 := by
  obtain ⟨Bd, e4, e5, pc, pf⟩ := set_bw P M
  have e4 : h2 36 4 = 1 := e4
  have e5 : h2 36 5 = 3 := e5
  have c0 : SgN (aSCH 7) h2 (41 + 2 * 0) (aSLEN 7) (pS 7) ∧ h2 (41 + 2 * 0) 4 = 0 := pc 0 7 rfl
  have s0 : ∀ α, sgT (sbr h2 67 0) (llr h2 67 0) α = [tP (α 0) (α 0)] := fun α => (sC_set (gdS_of 7 (by decide) (by decide)) (by decide +kernel) c0.1 α).trans (sgv_7 α)
  have p0 : ppr h2 67 0 = ((0 : Nat) : Int) := (c0.1.2.1).trans psv_7
  have g0 : SgN (aSCH 8) h2 (61 + 5 * 0) (aSLEN 8) (pS 8) ∧ (h2 40 0 = 1 → bA (h2 (63 + 5 * 0 + 1)) (h2 (63 + 5 * 0) 2) = bA (aSCH 9) (aSLEN 9)) := pf 0 (8, 9) rfl
  have f0 : ∀ α, sgT (sbr h2 71 0) (llr h2 71 0) α = [tF 3 (tP (α 0) (α 1)), α 0, α 1] := fun α => (sF_set (gdS_of 8 (by decide) (by decide)) (by decide +kernel) g0.1 α).trans (sgv_8 α)
  have q0 : ppr h2 71 0 = ((2 : Nat) : Int) := (g0.1.2.1).trans psv_8
  have g1 : SgN (aSCH 10) h2 (61 + 5 * 1) (aSLEN 10) (pS 10) ∧ (h2 40 1 = 1 → bA (h2 (63 + 5 * 1 + 1)) (h2 (63 + 5 * 1) 2) = bA (aSCH 11) (aSLEN 11)) := pf 1 (10, 11) rfl
  have f1 : ∀ α, sgT (sbr h2 71 1) (llr h2 71 1) α = [tF 3 (tP (α 0) (α 1)), tF 3 (tP (α 1) (α 0))] := fun α => (sF_set (gdS_of 10 (by decide) (by decide)) (by decide +kernel) g1.1 α).trans (sgv_10 α)
  have q1 : ppr h2 71 1 = ((1 : Nat) : Int) := (g1.1.2.1).trans psv_10
  have g2 : SgN (aSCH 12) h2 (61 + 5 * 2) (aSLEN 12) (pS 12) ∧ (h2 40 2 = 1 → bA (h2 (63 + 5 * 2 + 1)) (h2 (63 + 5 * 2) 2) = bA (aSCH 9) (aSLEN 9)) := pf 2 (12, 9) rfl
  have f2 : ∀ α, sgT (sbr h2 71 2) (llr h2 71 2) α = [tF 3 (tP (α 0) (α 1)), tF 3 (tP (α 1) (α 2)), tF 3 (tP (α 0) (α 2))] := fun α => (sF_set (gdS_of 12 (by decide) (by decide)) (by decide +kernel) g2.1 α).trans (sgv_12 α)
  have q2 : ppr h2 71 2 = ((2 : Nat) : Int) := (g2.1.2.1).trans psv_12
  intro f z0 z1 e40 α
  rw [e4]
  have z : f = 0 ∨ f = 1 ∨ f = 2 := by omega
  rcases z with z | z | z <;> subst z
  · obtain ⟨nP, w, r, w', G⟩ := BdR_G Bd z0 z1 e40 (g0.2 e40) q0
    rw [g0.2 e40, sgTI_L (f0 α) q0, f0 α, q0]
    exact w_b2 G p0 s0 α
  · obtain ⟨nP, w, r, w', G⟩ := BdR_G Bd z0 z1 e40 (g1.2 e40) q1
    rw [g1.2 e40, sgTI_L (f1 α) q1, f1 α, q1]
    exact w_b4 G p0 s0 c0.2 α
  · obtain ⟨nP, w, r, w', G⟩ := BdR_G Bd z0 z1 e40 (g2.2 e40) q2
    rw [g2.2 e40, sgTI_L (f2 α) q2, f2 α, q2]
    exact w_b3 G p0 s0 α
theorem bw_s3 {h g0 h2 : HP} (P : PcSt h g0 [13, 14] [(15, 16), (17, 18)]) (M : MsS g0 h2 ((([13, 14] : List Int).length : Nat) : Int) [13, 14] [(15, 16), (17, 18)]) : BdW h2 := by
  obtain ⟨Bd, e4, e5, pc, pf⟩ := set_bw P M
  have e4 : h2 36 4 = 2 := e4
  have e5 : h2 36 5 = 2 := e5
  have c0 : SgN (aSCH 13) h2 (41 + 2 * 0) (aSLEN 13) (pS 13) ∧ h2 (41 + 2 * 0) 4 = 0 := pc 0 13 rfl
  have s0 : ∀ α, sgT (sbr h2 67 0) (llr h2 67 0) α = [tI] := fun α => (sC_set (gdS_of 13 (by decide) (by decide)) (by decide +kernel) c0.1 α).trans (sgv_13 α)
  have p0 : ppr h2 67 0 = ((0 : Nat) : Int) := (c0.1.2.1).trans psv_13
  have c1 : SgN (aSCH 14) h2 (41 + 2 * 1) (aSLEN 14) (pS 14) ∧ h2 (41 + 2 * 1) 4 = 0 := pc 1 14 rfl
  have s1 : ∀ α, sgT (sbr h2 67 1) (llr h2 67 1) α = [tI, tF 3 (α 0), tP (tI) (α 0)] := fun α => (sC_set (gdS_of 14 (by decide) (by decide)) (by decide +kernel) c1.1 α).trans (sgv_14 α)
  have p1 : ppr h2 67 1 = ((2 : Nat) : Int) := (c1.1.2.1).trans psv_14
  have g0 : SgN (aSCH 15) h2 (61 + 5 * 0) (aSLEN 15) (pS 15) ∧ (h2 40 0 = 1 → bA (h2 (63 + 5 * 0 + 1)) (h2 (63 + 5 * 0) 2) = bA (aSCH 16) (aSLEN 16)) := pf 0 (15, 16) rfl
  have f0 : ∀ α, sgT (sbr h2 71 0) (llr h2 71 0) α = [tF 3 (tP (tI) (α 0)), tI] := fun α => (sF_set (gdS_of 15 (by decide) (by decide)) (by decide +kernel) g0.1 α).trans (sgv_15 α)
  have q0 : ppr h2 71 0 = ((1 : Nat) : Int) := (g0.1.2.1).trans psv_15
  have g1 : SgN (aSCH 17) h2 (61 + 5 * 1) (aSLEN 17) (pS 17) ∧ (h2 40 1 = 1 → bA (h2 (63 + 5 * 1 + 1)) (h2 (63 + 5 * 1) 2) = bA (aSCH 18) (aSLEN 18)) := pf 1 (17, 18) rfl
  have f1 : ∀ α, sgT (sbr h2 71 1) (llr h2 71 1) α = [tF 3 (α 0), tF 3 (α 0), tF 3 (α 0)] := fun α => (sF_set (gdS_of 17 (by decide) (by decide)) (by decide +kernel) g1.1 α).trans (sgv_17 α)
  have q1 : ppr h2 71 1 = ((2 : Nat) : Int) := (g1.1.2.1).trans psv_17
  intro f z0 z1 e40 α
  rw [e4]
  have z : f = 0 ∨ f = 1 := by omega
  rcases z with z | z <;> subst z
  · obtain ⟨nP, w, r, w', G⟩ := BdR_G Bd z0 z1 e40 (g0.2 e40) q0
    rw [g0.2 e40, sgTI_L (f0 α) q0, f0 α, q0]
    exact w_b5 G p0 p1 s0 s1 α
  · obtain ⟨nP, w, r, w', G⟩ := BdR_G Bd z0 z1 e40 (g1.2 e40) q1
    rw [g1.2 e40, sgTI_L (f1 α) q1, f1 α, q1]
    exact w_b6 G p0 p1 s0 s1 q1 f1 c0.2 c1.2 α
theorem bw_s0 {h g0 h2 : HP} {cs : List Int} (P : PcSt h g0 cs []) (M : MsS g0 h2 cs.length cs []) : BdW h2 := by
  obtain ⟨_, _, e5, _⟩ := set_bw P M
  have e5 : h2 36 5 = 0 := e5
  intro f z0 z1
  omega
theorem b_begins2 {d : Nat} {h : HP} {k : Int} {R : HP → Prop} (hd : 500 < d) (B : BIx h) (T : TxR h) (D : DcR h) (O : DcO h) (N : RnR h) (Bd : BdR h) (hs : HsR h) (Bw : BdW h) (H : ∀ h2, BIx h2 → TxR h2 → DcR h2 → DcO h2 → RnR h2 → BdR h2 → HsR h2 → BdW h2 → R h2) :
    Go d M_BT_begins 0 [(21, 1), (0, k)] [] h (fun r1 h1 => Go d M_Mo_begins 0 [(22, 135), (0, k), (2, 0), (2, 0)] [] h1 (fun r2 h2 => r1 = r2 ∧ R h2)) := by
  have H' : ∀ h2, BIx h2 → FrB h h2 → R h2 := fun h2 b f => H h2 b (TxR_fr f T) (DcR_fr f D) (DcO_fr f D O) (RnR_fr f N) (BdR_ag (DcR_C D) (fun x i p q => f.1 x i (by omega)) (fun x i p q _ _ => f.1 x i (by omega)) Bd) (fun j j0 j1 => by rw [f.1 136 j (by omega)]; exact hs j j0 j1) (BdW_ag D O (fun x i p q => f.1 x i (by omega)) Bd Bw)
  have bad : ¬ (0 ≤ k ∧ k ≤ 3) → Go d M_BT_begins 9 [(21, 1), (0, k)] [] h (fun r1 h1 => Go d M_Mo_begins 0 [(22, 135), (0, k), (2, 0), (2, 0)] [] h1 (fun r2 h2 => r1 = r2 ∧ R h2)) := by
    intro nb
    refine N_BT_begins_9 ⟨by omega, fun g1 hg1 => ?_⟩
    have rb := fun {d : Nat} (q : 0 < d) => ref_bad (d := d) B H' hg1 q
    exact N_Mo_begins_0 ⟨by omega, c_in (fun a b => absurd ⟨a, b⟩ nb) (fun _ => ⟨fun z => absurd rfl z, fun _ => rb (by omega)⟩)⟩
  have fin : ∀ (g0 h2 : HP) (cs : List Int) (fs : List (Int × Int)), PcSt h g0 cs fs → MsS g0 h2 cs.length cs fs → BdW h2 → R h2 := by
    intro g0 h2 cs fs P M W2
    obtain ⟨e1, e2, e3⟩ := sets_end P M
    have oc := P.1
    have F := M.1
    have o1 : ∀ x i, x < 33 ∨ (91 < x ∧ x < 135) ∨ (135 < x ∧ x < 151) ∨ x = 156 ∨ 172 < x → h2 x i = h x i := fun x i p => by rw [F.1 x i (by omega), oc x i (by omega)]
    have o2 : ∀ i, ¬ (i = 30 ∨ i = 31 ∨ i = 35 ∨ i = 36 ∨ i = 37 ∨ i = 48 ∨ i = 49 ∨ i = 50 ∨ i = 56) → h2 135 i = h 135 i := fun i p => by rw [F.2 i p, oc 135 i (by omega)]
    have oB : ∀ a i, ((2 ≤ a ∧ a < 30) ∨ (135 < a ∧ a < 151)) ∨ (a = 1 ∧ 11 < i ∧ i < 15) ∨ (a = 135 ∧ 13 < i ∧ i < 24) → h2 a i = h a i := by
      intro a i p
      by_cases z : a = 135
      · subst z; exact o2 i (by omega)
      · exact o1 a i (by omega)
    refine H h2 (BIx_out B oB (fun a i p q => oB a i (by omega)) ⟨fun i p q => oB _ _ (by omega), fun a i p q r => oB _ _ (by omega)⟩) ?_ e1 e2 (RnR_ag (fun x i p q => o1 x i (by omega)) (o1 _ _ (by omega)) (o1 _ _ (by omega)) (by rw [o2 24 (by omega), o1 1 11 (by omega)]; exact N.1.2.2.2.2) N) e3 (fun j j0 j1 => by rw [o1 136 j (by omega)]; exact hs j j0 j1) W2
    unfold TxR at *
    rw [o1 30 2 (by omega), o2 33 (by omega), show h2 31 = h 31 from funext fun i => o1 31 i (by omega), show h2 156 = h 156 from funext fun i => o1 156 i (by omega)]
    exact T
  -- the reference comes to a set
  have go : ∀ (g0 : HP) (nc : Int) (st : Nat) (Q : PQ), (∀ x i, x < 33 ∨ 91 < x → g0 x i = h x i) → 0 ≤ k → k ≤ 3 → st < 261 → (∀ i : Fin st, bcN i.val - 1 < k) → k ≤ bcN st - 1 → (∀ h', MsS g0 h' nc [] [] → Go d M_Mo_begins 59 [(22, 135), (0, k), (0, bcN st - 1), (0, st)] [] h' Q) → Go d M_Mo_begins 0 [(22, 135), (0, k), (2, 0), (2, 0)] [] g0 Q := by
    intro g0 nc st Q o k0 k3 st1 lo hi K
    refine N_Mo_begins_0 ⟨by omega, c_in (fun _ _ => ⟨fun _ g2 e2 g3 e3 => ?_, fun z => absurd z (by decide)⟩) (fun z => by omega)⟩
    have o3 : ∀ x i, ¬ (x = 135 ∧ (i = 30 ∨ i = 31)) → g3 x i = g0 x i := fun x i p => by rw [e3, up2_ext (by omega), e2, up2_ext (by omega)]
    have M0 : MsS g0 g3 nc [] [] := ⟨⟨fun x i p => o3 x i (by omega), fun i p => o3 135 i (by omega)⟩, ⟨by rw [e3, up2_ni (by decide), e2, up2_eq]; rfl, by decide⟩, ⟨by rw [e3, up2_eq]; rfl, by decide⟩, fun i k e => (by rw [List.getElem?_nil] at e; cases e), fun i kk e => (by rw [List.getElem?_nil] at e; cases e)⟩
    have h3 : HsR g3 := fun j j0 j1 => by rw [o3 136 j (by omega), o 136 j (by omega)]; exact hs j j0 j1
    exact m_scan (by omega) h3 st1 lo hi (K g3 M0) st 0 (by omega) (by decide) (by decide)
  have start : ∀ g2 : HP, (∀ g1 : HP, g1 = up2 h 36 4 0 → g2 = up2 g1 36 5 0 → PcSt h g2 [] []) := by
    intro g2 g1 e1 e2
    exact ⟨fun x i p => by rw [e2, up2_nc (by omega), e1, up2_nc (by omega)], ⟨by rw [e2, up2_ni (by decide), e1, up2_eq]; rfl, by decide⟩, ⟨by rw [e2, up2_eq]; rfl, by decide⟩, fun i k e => (by rw [List.getElem?_nil] at e; cases e), fun i kk e => (by rw [List.getElem?_nil] at e; cases e)⟩
  have hsg : ∀ g0 cs fs, PcSt h g0 cs fs → HsR g0 := fun g0 cs fs P j j0 j1 => by rw [P.1 136 j (by omega)]; exact hs j j0 j1
  refine N_BT_begins_0 ⟨fun z => bad (by omega), fun k0 => ⟨fun k3 => ⟨by omega, fun g1 e1 g2 e2 => ?_⟩, fun z => bad (by omega)⟩⟩
  have P0 := start g2 g1 e1 e2
  refine ⟨fun n1 => ⟨fun n2 => ⟨fun n3 => ?_, fun y => ?_⟩, fun y => ?_⟩, fun y => ?_⟩
  · have kz : k = 0 := by omega
    subst kz
    refine N_BT_begins_138 (go g2 0 1 _ P0.1 (by decide) (by decide) (by decide) (by decide +kernel) (by decide +kernel) (fun h' M => m_end (by omega) (hsg _ _ _ P0) M (by decide) (Or.inl (by decide +kernel)) ⟨P0.2.1.1, fin g2 h' [] [] P0 M (bw_s0 P0 M)⟩))
  · subst y
    refine ⟨by omega, s_prepC (by omega) P0 (by decide) (gdS_of 13 (by decide) (by decide)) (fun k1 P1 => ?_)⟩
    refine ⟨by omega, s_prepC (by omega) P1 (by decide) (gdS_of 14 (by decide) (by decide)) (fun k2 P2 => ?_)⟩
    refine ⟨by omega, s_prepF (by omega) P2 (by decide) (gdS_of 15 (by decide) (by decide)) (gdB_of 16 (by decide)) (fun k3 P3 => ?_)⟩
    refine ⟨by omega, s_prepF (by omega) P3 (by decide) (gdS_of 17 (by decide) (by decide)) (gdB_of 18 (by decide)) (fun k4 P4 => ?_)⟩
    have PF : PcSt h k4 [13, 14] [(15, 16), (17, 18)] := P4
    have hg := hsg _ _ _ PF
    refine N_BT_begins_138 ?_
    rw [PF.2.1.1]
    refine go k4 ((([13, 14] : List Int).length : Nat) : Int) 181 _ PF.1 (by decide) (by decide) (by decide) (by decide +kernel) (by decide +kernel) (fun h0 M0 => ?_)
    refine m_loopC (fr := 181) (k := 13) (by omega) hg M0 (by decide) (gdS_of 13 (by decide) (by decide)) seg_181 (by decide +kernel) (fun h1 M1 => ?_)
    rw [show ((181 : Nat) : Int) + 1 + aSLEN 13 + 1 = ((185 : Nat) : Int) by decide +kernel]
    refine m_loopC (fr := 185) (k := 14) (by omega) hg M1 (by decide) (gdS_of 14 (by decide) (by decide)) seg_185 (by decide +kernel) (fun h2 M2 => ?_)
    rw [show ((185 : Nat) : Int) + 1 + aSLEN 14 + 1 = ((197 : Nat) : Int) by decide +kernel]
    have N0 : MsS k4 h2 ((([13, 14] : List Int).length : Nat) : Int) [13, 14] [] := M2
    refine m_loopF (fr := 197) (fr2 := 207) (ks := 15) (kb := 16) (by omega) hg PF N0 (by decide) rfl (fun j kk e => by rw [List.getElem?_nil] at e; cases e) seg_197 seg_207 (by decide +kernel) (by decide +kernel) (by decide +kernel) (fun h3 M3 => ?_)
    rw [show ((207 : Nat) : Int) + 1 + aSLEN 16 + 1 = ((215 : Nat) : Int) by decide +kernel]
    have N1 : MsS k4 h3 ((([13, 14] : List Int).length : Nat) : Int) [13, 14] [(15, 16)] := M3
    refine m_loopF (fr := 215) (fr2 := 229) (ks := 17) (kb := 18) (by omega) hg PF N1 (by decide) rfl (fun j kk e => by match j, e with | 0, e => exact e | (j + 1), e => exact absurd e (by intro z; cases z)) seg_215 seg_229 (by decide +kernel) (by decide +kernel) (by decide +kernel) (fun h4 M4 => ?_)
    rw [show ((229 : Nat) : Int) + 1 + aSLEN 18 + 1 = ((253 : Nat) : Int) by decide +kernel]
    have N2 : MsS k4 h4 ((([13, 14] : List Int).length : Nat) : Int) [13, 14] [(15, 16), (17, 18)] := M4
    exact m_end (by omega) hg N2 (by decide) (Or.inl (by decide +kernel)) ⟨rfl, fin _ _ _ _ PF N2 (bw_s3 PF N2)⟩
  · subst y
    refine ⟨by omega, s_prepC (by omega) P0 (by decide) (gdS_of 7 (by decide) (by decide)) (fun k1 P1 => ?_)⟩
    refine ⟨by omega, s_prepF (by omega) P1 (by decide) (gdS_of 8 (by decide) (by decide)) (gdB_of 9 (by decide)) (fun k2 P2 => ?_)⟩
    refine ⟨by omega, s_prepF (by omega) P2 (by decide) (gdS_of 10 (by decide) (by decide)) (gdB_of 11 (by decide)) (fun k3 P3 => ?_)⟩
    refine ⟨by omega, s_prepF (by omega) P3 (by decide) (gdS_of 12 (by decide) (by decide)) (gdB_of 9 (by decide)) (fun k4 P4 => ?_)⟩
    have PF : PcSt h k4 [7] [(8, 9), (10, 11), (12, 9)] := P4
    have hg := hsg _ _ _ PF
    refine N_BT_begins_138 ?_
    rw [PF.2.1.1]
    refine go k4 ((([7] : List Int).length : Nat) : Int) 103 _ PF.1 (by decide) (by decide) (by decide) (by decide +kernel) (by decide +kernel) (fun h0 M0 => ?_)
    refine m_loopC (fr := 103) (k := 7) (by omega) hg M0 (by decide) (gdS_of 7 (by decide) (by decide)) seg_103 (by decide +kernel) (fun h1 M1 => ?_)
    rw [show ((103 : Nat) : Int) + 1 + aSLEN 7 + 1 = ((109 : Nat) : Int) by decide +kernel]
    have N0 : MsS k4 h1 ((([7] : List Int).length : Nat) : Int) [7] [] := M1
    refine m_loopF (fr := 109) (fr2 := 121) (ks := 8) (kb := 9) (by omega) hg PF N0 (by decide) rfl (fun j kk e => by rw [List.getElem?_nil] at e; cases e) seg_109 seg_121 (by decide +kernel) (by decide +kernel) (by decide +kernel) (fun h2 M2 => ?_)
    rw [show ((121 : Nat) : Int) + 1 + aSLEN 9 + 1 = ((129 : Nat) : Int) by decide +kernel]
    have N1 : MsS k4 h2 ((([7] : List Int).length : Nat) : Int) [7] [(8, 9)] := M2
    refine m_loopF (fr := 129) (fr2 := 143) (ks := 10) (kb := 11) (by omega) hg PF N1 (by decide) rfl (fun j kk e => by match j, e with | 0, e => exact e | (j + 1), e => exact absurd e (by intro z; cases z)) seg_129 seg_143 (by decide +kernel) (by decide +kernel) (by decide +kernel) (fun h3 M3 => ?_)
    rw [show ((143 : Nat) : Int) + 1 + aSLEN 11 + 1 = ((152 : Nat) : Int) by decide +kernel]
    have N2 : MsS k4 h3 ((([7] : List Int).length : Nat) : Int) [7] [(8, 9), (10, 11)] := M3
    refine m_loopF (fr := 152) (fr2 := 172) (ks := 12) (kb := 9) (by omega) hg PF N2 (by decide) rfl (fun j kk e => by match j, e with | 0, e => exact e | 1, e => exact e | (j + 2), e => exact absurd e (by intro z; cases z)) seg_152 seg_172 (by decide +kernel) (by decide +kernel) (by decide +kernel) (fun h4 M4 => ?_)
    rw [show ((172 : Nat) : Int) + 1 + aSLEN 9 + 1 = ((180 : Nat) : Int) by decide +kernel]
    have N3 : MsS k4 h4 ((([7] : List Int).length : Nat) : Int) [7] [(8, 9), (10, 11), (12, 9)] := M4
    exact m_end (by omega) hg N3 (by decide) (Or.inl (by decide +kernel)) ⟨rfl, fin _ _ _ _ PF N3 (bw_s2 PF N3)⟩
  · subst y
    refine ⟨by omega, s_prepC (by omega) P0 (by decide) (gdS_of 0 (by decide) (by decide)) (fun k1 P1 => ?_)⟩
    refine ⟨by omega, s_prepC (by omega) P1 (by decide) (gdS_of 1 (by decide) (by decide)) (fun k2 P2 => ?_)⟩
    refine ⟨by omega, s_prepC (by omega) P2 (by decide) (gdS_of 2 (by decide) (by decide)) (fun k3 P3 => ?_)⟩
    refine ⟨by omega, s_prepC (by omega) P3 (by decide) (gdS_of 3 (by decide) (by decide)) (fun k4 P4 => ?_)⟩
    refine ⟨by omega, s_prepC (by omega) P4 (by decide) (gdS_of 4 (by decide) (by decide)) (fun k5 P5 => ?_)⟩
    refine ⟨by omega, s_prepF (by omega) P5 (by decide) (gdS_of 5 (by decide) (by decide)) (gdB_of 6 (by decide)) (fun k6 P6 => ?_)⟩
    have PF : PcSt h k6 [0, 1, 2, 3, 4] [(5, 6)] := P6
    have hg := hsg _ _ _ PF
    refine N_BT_begins_138 ?_
    rw [PF.2.1.1]
    refine go k6 ((([0, 1, 2, 3, 4] : List Int).length : Nat) : Int) 2 _ PF.1 (by decide) (by decide) (by decide) (by decide +kernel) (by decide +kernel) (fun h0 M0 => ?_)
    refine m_loopC (fr := 2) (k := 0) (by omega) hg M0 (by decide) (gdS_of 0 (by decide) (by decide)) seg_2 (by decide +kernel) (fun h1 M1 => ?_)
    rw [show ((2 : Nat) : Int) + 1 + aSLEN 0 + 1 = ((8 : Nat) : Int) by decide +kernel]
    refine m_loopC (fr := 8) (k := 1) (by omega) hg M1 (by decide) (gdS_of 1 (by decide) (by decide)) seg_8 (by decide +kernel) (fun h2 M2 => ?_)
    rw [show ((8 : Nat) : Int) + 1 + aSLEN 1 + 1 = ((16 : Nat) : Int) by decide +kernel]
    refine m_loopC (fr := 16) (k := 2) (by omega) hg M2 (by decide) (gdS_of 2 (by decide) (by decide)) seg_16 (by decide +kernel) (fun h3 M3 => ?_)
    rw [show ((16 : Nat) : Int) + 1 + aSLEN 2 + 1 = ((32 : Nat) : Int) by decide +kernel]
    refine m_loopC (fr := 32) (k := 3) (by omega) hg M3 (by decide) (gdS_of 3 (by decide) (by decide)) seg_32 (by decide +kernel) (fun h4 M4 => ?_)
    rw [show ((32 : Nat) : Int) + 1 + aSLEN 3 + 1 = ((46 : Nat) : Int) by decide +kernel]
    refine m_loopC (fr := 46) (k := 4) (by omega) hg M4 (by decide) (gdS_of 4 (by decide) (by decide)) seg_46 (by decide +kernel) (fun h5 M5 => ?_)
    rw [show ((46 : Nat) : Int) + 1 + aSLEN 4 + 1 = ((56 : Nat) : Int) by decide +kernel]
    have N0 : MsS k6 h5 ((([0, 1, 2, 3, 4] : List Int).length : Nat) : Int) [0, 1, 2, 3, 4] [] := M5
    refine m_loopF (fr := 56) (fr2 := 64) (ks := 5) (kb := 6) (by omega) hg PF N0 (by decide) rfl (fun j kk e => by rw [List.getElem?_nil] at e; cases e) seg_56 seg_64 (by decide +kernel) (by decide +kernel) (by decide +kernel) (fun h6 M6 => ?_)
    rw [show ((64 : Nat) : Int) + 1 + aSLEN 6 + 1 = ((102 : Nat) : Int) by decide +kernel]
    have N1 : MsS k6 h6 ((([0, 1, 2, 3, 4] : List Int).length : Nat) : Int) [0, 1, 2, 3, 4] [(5, 6)] := M6
    exact m_end (by omega) hg N1 (by decide) (Or.inl (by decide +kernel)) ⟨rfl, fin _ _ _ _ PF N1 (bw_s1 PF N1)⟩
end
