section
/-! begins -/
/-- bodies, both sides -/
def BdR (h : HP) : Prop := ∀ f, 0 ≤ f → f < h 36 5 → h 40 f = 1 → ∃ N w' m, (0 ≤ N ∧ N ≤ h 36 5) ∧ (0 < h (63 + 5 * f) 2 ∧ h (63 + 5 * f) 2 ≤ 100) ∧ (∀ i, 0 ≤ i → i < h (63 + 5 * f) 2 → 0 ≤ h (63 + 5 * f + 1) i ∧ h (63 + 5 * f + 1) i ≤ 127) ∧ RD (bA (h (63 + 5 * f + 1)) (h (63 + 5 * f) 2)) (h (63 + 5 * f + 2)) (nPn (h 36 4) N) (ppr h) (llr h) 0 (h (61 + 5 * f) 2) (h (63 + 5 * f) 2) (h (63 + 5 * f) 2) w' m ∧ NX (fun x i => h x (100 * f + i)) (bA (h (63 + 5 * f + 1)) (h (63 + 5 * f) 2)) (h (63 + 5 * f + 2)) (nPn (h 36 4) N) (ppr h) 0 0 (h (61 + 5 * f) 2)
theorem BdR_ag {h h' : HP} (D : DcC h) (o : ∀ x i, 35 < x → x < 91 → h' x i = h x i) (o6 : ∀ x i, 161 ≤ x → x ≤ 166 → 0 ≤ i → i < 600 → h' x i = h x i) (B : BdR h) : BdR h' := by
  have dd := D.1
  have q4 : h' 36 4 = h 36 4 := o _ _ (by omega) (by omega)
  have q5 : h' 36 5 = h 36 5 := o _ _ (by omega) (by omega)
  intro f f0 f1 e40
  rw [q5] at f1
  rw [o 40 f (by omega) (by omega)] at e40
  obtain ⟨N, w', m, a1, a2, a3, R, X⟩ := B f f0 f1 e40
  have cg : ∀ k j, (k = 67 ∨ k = 71) → 0 ≤ j → j < nPn (h 36 4) N k → ppr h k j = ppr h' k j ∧ llr h k j = llr h' k j := by
    intro k j hk j0 j1
    unfold nPn at j1
    unfold ppr llr
    by_cases z : k = 71
    · rw [if_pos z] at j1
      rw [if_pos z, if_pos z, if_pos z, if_pos z]
      exact ⟨(o _ _ (by omega) (by omega)).symm, (o _ _ (by omega) (by omega)).symm⟩
    · rw [if_neg z] at j1
      rw [if_neg z, if_neg z, if_neg z, if_neg z]
      exact ⟨(o _ _ (by omega) (by omega)).symm, (o _ _ (by omega) (by omega)).symm⟩
  rw [q4, q5, o (63 + 5 * f) 2 (by omega) (by omega), o (61 + 5 * f) 2 (by omega) (by omega), show h' (63 + 5 * f + 1) = h (63 + 5 * f + 1) from funext fun i => o _ _ (by omega) (by omega), show h' (63 + 5 * f + 2) = h (63 + 5 * f + 2) from funext fun i => o _ _ (by omega) (by omega)]
  exact ⟨N, w', m, a1, a2, a3, RD_congr cg R, NX_cg (fun x i x0 x1 i0 i1 => o6 x _ x0 x1 (by omega) (by omega)) (fun k j hk j0 j1 => (cg k j hk j0 j1).1.symm) X⟩
theorem SgR_set {h : HP} {a j k : Int} (gd : gdS k) (S : SgN (aSCH k) h a (aSLEN k) (pS k)) (R : RfS h j k) : SgR h a j := ⟨by rw [R.1, S.1], by rw [R.2.1, S.2.1], by rw [R.2.2.1, S.2.2.1], by rw [S.1]; exact ⟨gd.2.1, gd.2.2.1⟩, by rw [S.2.1]; exact ⟨gd.2.2.2, pS_3 k⟩, fun i i0 i1 => by rw [S.1] at i1; rw [R.2.2.2 i i0 i1, S.2.2.2 i i0 i1]⟩
/-- both sides have the same set -/
theorem sets_end {h g0 h2 : HP} {cs : List Int} {fs : List (Int × Int)} (P : PcSt h g0 cs fs) (M : MsS g0 h2 cs.length cs fs) : DcR h2 ∧ DcO h2 ∧ BdR h2 := by
  obtain ⟨_, ⟨pa1, pa2⟩, ⟨pb1, pb2⟩, ppc, ppf⟩ := P
  obtain ⟨F, ⟨a1, a2⟩, ⟨b1, b2⟩, pc, pf⟩ := M
  have oc : ∀ x i, x < 135 → h2 x i = g0 x i := fun x i p => F.1 x i (by omega)
  have e4 : h2 36 4 = cs.length := by rw [oc _ _ (by omega)]; exact pa1
  have e5 : h2 36 5 = fs.length := by rw [oc _ _ (by omega)]; exact pb1
  have gc : ∀ k, 0 ≤ k → k < h2 36 4 → ∃ t, gdS t ∧ SgN (aSCH t) h2 (41 + 2 * k) (aSLEN t) (pS t) ∧ h2 (41 + 2 * k) 4 = 0 ∧ RfS h2 k t ∧ h2 155 k = 0 := by
    intro k k0 k1
    have ei : cs[k.toNat]? = some (cs[k.toNat]'(by omega)) := List.getElem?_eq_getElem (by omega)
    obtain ⟨gk, S, e⟩ := ppc _ _ ei
    obtain ⟨_, rr, e2⟩ := pc _ _ ei
    rw [show ((k.toNat : Nat) : Int) = k by omega] at S e rr e2
    exact ⟨_, gk, SgN_ag (fun j => oc _ _ (by omega)) (fun j => oc _ _ (by omega)) S, by rw [oc _ _ (by omega)]; exact e, rr, e2⟩
  have gf : ∀ f, 0 ≤ f → f < h2 36 5 → ∃ kk : Int × Int, gdS kk.1 ∧ gdB kk.2 ∧ SgN (aSCH kk.1) h2 (61 + 5 * f) (aSLEN kk.1) (pS kk.1) ∧ RfS h2 (10 + f) kk.1 ∧ RfB g0 h2 cs.length f kk ∧ ∃ e r m, BdC g0 cs.length f kk.2 (pS kk.1) e r m := by
    intro f f0 f1
    have ei : fs[f.toNat]? = some (fs[f.toNat]'(by omega)) := List.getElem?_eq_getElem (by omega)
    obtain ⟨gk, gb, S, e⟩ := ppf _ _ ei
    obtain ⟨rr, e2⟩ := pf _ _ ei
    rw [show ((f.toNat : Nat) : Int) = f by omega] at S e rr e2
    exact ⟨_, gk, gb, SgN_ag (fun j => oc _ _ (by omega)) (fun j => oc _ _ (by omega)) S, rr, e2, e⟩
  refine ⟨⟨⟨by omega, by omega, by omega, by omega, by omega, by omega⟩, fun k k0 k1 => ?_, fun f f0 f1 => ?_⟩, ⟨fun k k0 k1 => ?_, fun f f0 f1 => ?_⟩, fun f f0 f1 e40 => ?_⟩
  · obtain ⟨t, gk, S, e, rr, e2⟩ := gc k k0 k1
    exact ⟨SgR_set gk S rr, by rw [e, e2], by rw [e2]; decide, by rw [e2]; decide⟩
  · obtain ⟨kk, gk, gb, S, rr, rb, e, r, m, _, BC⟩ := gf f f0 f1
    refine ⟨SgR_set gk S rr, ?_⟩
    have q40 : h2 40 f = g0 40 f := oc _ _ (by omega)
    have q63 : h2 (63 + 5 * f) 3 = g0 (63 + 5 * f) 3 := oc _ _ (by omega)
    rcases BC with ⟨t1, t2, t3, t4, t5, t6, t7, t8⟩ | ⟨t1, t2⟩
    · exact Or.inr ⟨by rw [q40]; exact t2, by rw [(rb.1 t2).1, q63], by rw [(rb.1 t2).1, t4]; omega⟩
    · exact Or.inl ⟨by rw [q40]; exact t2, rb.2 t2⟩
  · obtain ⟨t, gk, S, e, rr, e2⟩ := gc k k0 k1
    exact SgO_new S rfl
  · obtain ⟨kk, gk, gb, S, rr, rb, e, r, m, _, BC⟩ := gf f f0 f1
    exact SgO_new S rfl
  · obtain ⟨kk, gk, gb, S, rr, rb, e, r, m, ⟨w', R⟩, BC⟩ := gf f f0 f1
    have q40 : h2 40 f = g0 40 f := oc _ _ (by omega)
    rw [q40] at e40
    rcases BC with ⟨t1, t2, t3, t4, t5, t6, t7, t8⟩ | ⟨t1, t2⟩
    · have X := (rb.1 t2).2
      have cg : ∀ k j, (k = 67 ∨ k = 71) → 0 ≤ j → j < nPn (cs.length : Int) (f + 1) k → ppr g0 k j = ppr h2 k j ∧ llr g0 k j = llr h2 k j := by
        intro k j hk j0 j1
        unfold nPn at j1
        unfold ppr llr
        by_cases z : k = 71
        · rw [if_pos z] at j1
          rw [if_pos z, if_pos z, if_pos z, if_pos z]
          exact ⟨(oc _ _ (by omega)).symm, (oc _ _ (by omega)).symm⟩
        · rw [if_neg z] at j1
          rw [if_neg z, if_neg z, if_neg z, if_neg z]
          exact ⟨(oc _ _ (by omega)).symm, (oc _ _ (by omega)).symm⟩
      have q2 : h2 (63 + 5 * f) 2 = aSLEN kk.2 := by rw [oc _ _ (by omega)]; exact t3
      have qb : ∀ i, 0 ≤ i → i < aSLEN kk.2 → h2 (63 + 5 * f + 1) i = aSCH kk.2 i := fun i i0 i1 => by rw [oc _ _ (by omega)]; exact t7 i i0 i1
      have qB : bA (h2 (63 + 5 * f + 1)) (aSLEN kk.2) = bA (aSCH kk.2) (aSLEN kk.2) := bA_congr qb
      have qe : h2 (63 + 5 * f + 2) = e := by rw [t8]; exact funext fun i => oc _ _ (by omega)
      refine ⟨f + 1, w', m, ⟨by omega, by omega⟩, ?_⟩
      rw [q2, qB, qe, e4, show h2 (61 + 5 * f) 2 = pS kk.1 from S.2.1]
      refine ⟨⟨gb.2.1, gb.2.2.1⟩, fun i i0 i1 => by rw [qb i i0 i1]; exact gb.2.2.2 i i0 i1, ?_, ?_⟩
      · rw [t1] at R; exact RD_congr cg R
      · rw [← t8] at X
        exact NX_cg (fun _ _ _ _ _ _ => rfl) (fun k j hk j0 j1 => (cg k j hk j0 j1).1.symm) X
    · omega
theorem gd_all : ∀ k : Fin 19, (k.val = 6 ∨ k.val = 9 ∨ k.val = 11 ∨ k.val = 16 ∨ k.val = 18) ∨ (0 ≤ aSLEN (k.val : Int) ∧ aSLEN (k.val : Int) ≤ 24 ∧ 0 ≤ pS (k.val : Int)) := by decide +kernel
theorem gb_all : ∀ k : Fin 19, 0 < (aSTR (k.val : Int)).length ∧ ∀ i : Fin (aSTR (k.val : Int)).length, 0 ≤ (aSTR (k.val : Int)).getD i.val 0 ∧ (aSTR (k.val : Int)).getD i.val 0 ≤ 127 := by decide +kernel
theorem gdS_of (k : Nat) (h : k < 19) (n : k ≠ 6 ∧ k ≠ 9 ∧ k ≠ 11 ∧ k ≠ 16 ∧ k ≠ 18) : gdS k := by
  have := gd_all ⟨k, h⟩
  dsimp only at this
  rcases this with z | z
  · omega
  · exact ⟨⟨by omega, by omega⟩, z⟩
theorem gdB_of (k : Nat) (h : k < 19) : gdB k := by
  have l := sg_len ⟨k, h⟩
  have b := gb_all ⟨k, h⟩
  dsimp only at l b
  refine ⟨⟨by omega, by omega⟩, by omega, by omega, fun i i0 i1 => ?_⟩
  exact b.2 ⟨i.toNat, by omega⟩
end
