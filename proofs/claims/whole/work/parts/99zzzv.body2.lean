section
/-! the reference reads a text, and checks a body -/
def RdF (h g : HP) : Prop := (∀ x i, ¬ (161 ≤ x ∧ x ≤ 166 ∧ 600 ≤ i) → ¬ (168 ≤ x ∧ x ≤ 172) → x ≠ 157 → ¬ (x = 135 ∧ (i = 33 ∨ i = 35 ∨ i = 36 ∨ i = 37 ∨ i = 48 ∨ i = 49 ∨ i = 50 ∨ i = 56)) → g x i = h x i) ∧ g 135 33 = 0
theorem r_tree {d : Nat} {q0 h1 k2 : HP} {sc r w' m : Int} {Q : PQ} (hd : 8 < d) (rf : ∀ a i, 134 < a → h1 a i = q0 a i) (T : TxR q0) (D : DcR q0) (o2 : ∀ a i, a ≠ 157 → ¬ (a = 135 ∧ i = 33) → ¬ (a = 135 ∧ i = 35) → k2 a i = h1 a i) (e35 : k2 135 35 = q0 30 2) (e33 : k2 135 33 = 0) (r157 : ∀ i, 0 ≤ i → i < q0 30 2 → k2 157 i = h1 156 i) (s0 : 0 ≤ sc) (s1 : sc ≤ 3) (rd : RD (bA (q0 31) (q0 30 2)) (q0 32) (nPr q0) (ppr q0) (llr q0) 0 sc (q0 30 2) r w' m)
    (H1 : r = q0 30 2 → ∀ g : HP, RdF h1 g → g 135 49 = m → 0 < g 135 48 → g 135 48 ≤ 100 → (∀ R, AgN R g 0 (g 135 48) → NX R (bA (q0 31) (q0 30 2)) (q0 32) (nPr q0) (ppr q0) 0 0 sc) → Q 1 g)
    (H0 : r ≠ q0 30 2 → ∀ g : HP, RdF h1 g → (r < 0 → r = -(2 * g 135 36 + g 135 37) ∧ 1 ≤ g 135 37 ∧ g 135 37 ≤ 2) → (0 ≤ r → g 135 36 = r ∧ g 135 37 = 1) → Q 0 g) :
    Go d M_Mo_isTree 0 [(22, 135), (0, sc), (2, 0), (2, 0)] [] k2 Q := by
  have d1 := D.1
  have q1 : ∀ a i, 134 < a → a ≠ 157 → ¬ (a = 135 ∧ i = 33) → ¬ (a = 135 ∧ i = 35) → k2 a i = q0 a i := fun a i p q r s => (o2 a i q r s).trans (rf a i p)
  have C : TrC k2 (bA (q0 31) (q0 30 2)) (nPr q0) (ppr q0) (llr q0) (q0 30 2) := by
    refine ⟨fun q q0' => ?_, ⟨e35, T.1.1, T.1.2.1⟩, ⟨?_, d1.1, d1.2.1⟩, ⟨?_, d1.2.2.2.1, d1.2.2.2.2.1⟩, fun j j0 j1 => ?_, fun j j0 j1 => ?_⟩
    · rcases Int.lt_or_le q (q0 30 2) with l | l
      · have t := T.2 q q0' l
        rw [bA_in q0' l, bA_in q0' l, r157 q q0' l, rf 156 q (by omega), t.1]
        exact ⟨rfl, by omega, t.2.2⟩
      · rw [bA_out (Or.inr l), bA_out (Or.inr l)]
        exact ⟨rfl, by omega, by omega⟩
    · show q0 36 4 = _
      rw [q1 135 30 (by omega) (by omega) (by omega) (by omega)]
      exact d1.2.2.1.symm
    · show q0 36 5 = _
      rw [q1 135 31 (by omega) (by omega) (by omega) (by omega)]
      exact d1.2.2.2.2.2.symm
    · have s := (D.2.1 j j0 j1).1
      rw [q1 153 j (by omega) (by omega) (by omega) (by omega), q1 152 j (by omega) (by omega) (by omega) (by omega)]
      exact ⟨s.2.1.symm, s.1.symm, s.2.2.2.2.1, s.2.2.2.1⟩
    · have s := (D.2.2 j j0 j1).1
      rw [q1 153 _ (by omega) (by omega) (by omega) (by omega), q1 152 _ (by omega) (by omega) (by omega) (by omega)]
      exact ⟨s.2.1.symm, s.1.symm, s.2.2.2.2.1, s.2.2.2.1⟩
  have fr : ∀ g, TrI k2 g → RdF h1 g := fun g I => ⟨fun x i a b c e => (I x i a b (by omega)).trans (o2 x i c (by omega) (by omega)), (I 135 33 (by omega) (by omega) (by omega)).trans e33⟩
  exact c_isTree hd C s0 s1 rd (fun e g I m1 m2 m3 n => H1 e g (fr g I) m1 m2 m3 n) (fun e g I a b => H0 e g (fr g I) a b)
/-- the check of a body: what stands behind it -/
def BfR (h1 g : HP) : Prop := (∀ a i, a < 135 ∨ a = 136 ∨ (149 < a ∧ a < 157) ∨ a = 167 ∨ 178 < a → g a i = h1 a i) ∧ (∀ a i, 161 ≤ a → a ≤ 166 → i < 600 → g a i = h1 a i) ∧ (∀ i, i < 20 ∨ (22 < i ∧ i < 33) ∨ i = 34 ∨ (37 < i ∧ i < 48) ∨ (50 < i ∧ i < 56) ∨ (56 < i ∧ i < 62) ∨ i = 64 ∨ 66 < i → g 135 i = h1 135 i) ∧ LO h1 g ∧ g 135 33 = 0
theorem BfR_of {h1 g0 k1 g : HP} {k3 : HP} (b : h1 135 14 = 0 ∧ h1 135 16 = 0 ∧ h1 135 19 = 0) (R : RdF h1 k3) (o0 : ∀ a i, ¬ (a = 135 ∧ 14 ≤ i ∧ i ≤ 22) → g0 a i = k3 a i) (e0 : g0 135 20 = k3 135 15 ∧ g0 135 21 = k3 135 17 ∧ g0 135 22 = k3 135 18) (qb : QB g0 k1) (lo : LO g0 k1) (o7 : ∀ a i, ¬ (a = 135 ∧ 14 ≤ i ∧ i ≤ 19) → g a i = k1 a i) (e7 : g 135 14 = 0 ∧ g 135 15 = k1 135 20 ∧ g 135 16 = 0 ∧ g 135 17 = k1 135 21 ∧ g 135 18 = k1 135 22 ∧ g 135 19 = 0) : BfR h1 g := by
  have f20 := qb.2 20 (by omega)
  have f21 := qb.2 21 (by omega)
  have f22 := qb.2 22 (by omega)
  have r15 := R.1 135 15 (by omega) (by omega) (by omega) (by omega)
  have r17 := R.1 135 17 (by omega) (by omega) (by omega) (by omega)
  have r18 := R.1 135 18 (by omega) (by omega) (by omega) (by omega)
  refine ⟨fun a i p => ?_, fun a i p q r => ?_, fun i p => ?_, ⟨fun a i p q => ?_, fun a i p q => ?_⟩, ?_⟩
  · rw [o7 a i (by omega), qb.1 a i (by omega), o0 a i (by omega), R.1 a i (by omega) (by omega) (by omega) (by omega)]
  · rw [o7 a i (by omega), qb.1 a i (by omega), o0 a i (by omega), R.1 a i (by omega) (by omega) (by omega) (by omega)]
  · by_cases c : 14 ≤ i ∧ i ≤ 19
    · have : i = 14 ∨ i = 15 ∨ i = 16 ∨ i = 17 ∨ i = 18 ∨ i = 19 := by omega
      rcases this with e | e | e | e | e | e <;> subst e <;> omega
    · rw [o7 135 i (by omega), qb.2 i (by omega), o0 135 i (by omega), R.1 135 i (by omega) (by omega) (by omega) (by omega)]
  · rw [o7 a i (by omega), lo.1 a i p q, o0 a i (by omega), R.1 a i (by omega) (by omega) (by omega) (by omega)]
  · rw [o7 a i (by omega), lo.2 a i p q, o0 a i (by omega), R.1 a i (by omega) (by omega) (by omega) (by omega)]
  · rw [o7 135 33 (by omega), qb.2 33 (by omega), o0 135 33 (by omega)]; exact R.2
theorem r_lets {d : Nat} {h : HP} {f n : Int} {Q : PQ} (f0 : 0 ≤ f) (f1 : f < 6) (n0 : 0 ≤ n) (n3 : n ≤ 3) (hn : h 153 (10 + f) = n) (H : ∀ g : HP, (∀ a i, a ≠ 178 → g a i = h a i) → (∀ i, 0 ≤ i → i < n → g 178 i = h 158 i) → Go d M_Mo_bodies 64 [(22, 135), (0, f), (0, n)] [] g Q) : Go d M_Mo_bodies 64 [(22, 135), (0, f), (0, 0)] [] h Q := by
  have loop : ∀ v, 0 ≤ v → v ≤ n → ∀ g : HP, (∀ a i, a ≠ 178 → g a i = h a i) → (∀ i, 0 ≤ i → i < v → g 178 i = h 158 i) → Go d M_Mo_bodies 64 [(22, 135), (0, f), (0, v)] [] g Q := by
    intro v v0 v1
    refine up_loop (P := fun v => ∀ g : HP, (∀ a i, a ≠ 178 → g a i = h a i) → (∀ i, 0 ≤ i → i < v → g 178 i = h 158 i) → Go d M_Mo_bodies 64 [(22, 135), (0, f), (0, v)] [] g Q) v1 ?_ ?_
    · intro g o e
      exact H g o e
    · intro u u0 u1 ih g o e
      have e1 : g 153 (10 + f) = n := (o 153 _ (by omega)).trans hn
      refine N_Mo_bodies_64 ⟨by unfold r32; omega, by omega, fun z => by omega, fun _ => ⟨by omega, by omega, fun g2 e2 => ⟨by unfold r32; omega, ih g2 (fun a i q => ?_) (fun i i0 i1 => ?_)⟩⟩⟩
      · rw [e2, up2_nc q]; exact o a i q
      · by_cases z : i = u
        · rw [e2, z, up2_eq]; exact o 158 u (by omega)
        · rw [e2, up2_ext (by omega)]; exact e i i0 (by omega)
  exact loop 0 (by omega) n0 h (fun _ _ _ => rfl) (fun i i0 i1 => by omega)
end
