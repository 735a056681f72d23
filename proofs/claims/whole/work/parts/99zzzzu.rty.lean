section
/-! the reference tells a type -/
theorem r_wty {d : Nat} {h : HP} {tm : Int → Tm} {S : Sx} {V : Vx} {v1 : Int} {Q : PQ} (hd : 3 < d) (M : MV h tm S V) : ∀ (k : Nat) (g : HP) (s : List Tm) (p : List Int) (top : Int) (w3 w4 w5 : AV), 200 ≤ k + p.length → k ≤ 200 → top = s.length → top ≤ 201 - k → StP (TyP tm S (h 135 14) (h 135 15)) (g 193) s → OuR g 135 87 192 p → (∀ a i, a ≠ 192 → a ≠ 193 → ¬ (a = 135 ∧ i = 87) → g a i = h a i) → (∀ g' : HP, OuR g' 135 87 192 (p ++ tWr S k s) → (∀ a i, a ≠ 192 → a ≠ 193 → ¬ (a = 135 ∧ i = 87) → g' a i = h a i) → Q 0 g') → Go d M_Mo_tellsType 14 [(22, 135), (0, v1), (0, top), w3, w4, w5] [] g Q := by
  intro k
  induction k with
  | zero =>
    intro g s p top w3 w4 w5 lp _ et tl st ho fr HQ
    have o200 : 200 ≤ g 135 87 := by have := ho.1; omega
    have fin : Q 0 g := HQ g (OuR_pre ho o200 _) fr
    exact N_Mo_tellsType_14 ⟨fun _ => fin, fun _ => ⟨fun _ => fin, fun z => by omega⟩⟩
  | succ k ih =>
    intro g s p top w3 w4 w5 lp kl et tl st ho fr HQ
    cases s with
    | nil =>
      have et : top = 0 := et
      refine N_Mo_tellsType_14 ⟨fun _ => HQ g ?_ fr, fun z => by omega⟩
      rw [tWr_n, List.append_nil]
      exact ho
    | cons t s =>
      have et : top = s.length + 1 := by rw [et]; simp
      refine N_Mo_tellsType_14 ⟨fun z => by omega, fun _ => ⟨fun z => HQ g (OuR_pre ho z _) fr, fun z200 => ⟨by unfold r32; omega, ⟨by omega, by omega⟩, by omega, ?_⟩⟩⟩
      have et1 : top + (-1) = s.length := by omega
      rw [et1]
      obtain ⟨⟨x0, x1, xe⟩, st⟩ := st
      have e14 : g 135 14 = h 135 14 := fr 135 14 (by omega) (by omega) (by omega)
      have e15 : g 135 15 = h 135 15 := fr 135 15 (by omega) (by omega) (by omega)
      have Mg : MV g tm S V := MV_loc ⟨fun i p q => fr 135 i (by omega) (by omega) (by omega), fun a i p q r => fr a i (by omega) (by omega) (by omega)⟩ M
      rw [tWr_c] at HQ
      obtain ⟨a1, a2, a3, a4⟩ := q_lead (x := g 193 s.length) Mg (by omega) (by omega)
      refine ⟨a1, a2, a4, by omega, ?_⟩
      have P := RW_Ptn Mg.1
      have w := (P.1.1 _ a3.1 a3.2).1
      obtain ⟨f1, f2, f3, f4⟩ := q_form (x := g 193 s.length) Mg (by omega) (by omega) rfl
      rw [e14, e15] at f3 f4
      clear a1 a2 P e14 e15
      revert a3 a4 w f1 f2 f3 f4
      generalize g 142 (g 141 (g 193 s.length)) = L
      intro a3 a4 w f1 f2 f3 f4
      have q := tFm_of w.1 xe f1 f2
      have lb := tBy_ne (tFm S t).1
      clear f1 f2
      have leaf : ∀ b : Int, tBy (tFm S t).1 = [b] → tCh (tFm S t) = [] → Go d M_Mo_tellsType 103 [(22, 135), (0, v1), (0, (s.length : Int)), (0, L), (0, g 137 L), (0, 0)] [(0, b), (22, 135)] g Q := by
        intro b eb ec
        refine N_Mo_tellsType_103 ⟨by omega, r_byte ho (fun g2 o2 f2 => ⟨fun _ => ⟨fun _ => ⟨fun _ => ?_, fun z => by omega⟩, fun z => by omega⟩, fun z => by omega⟩)⟩
        refine ih g2 s _ _ _ _ _ (by simp; omega) (by omega) rfl (by omega) (StP_ag (fun i _ _ => f2 193 i (by omega) (by omega)) st) o2 (fun a i p q r => (f2 a i p r).trans (fr a i p q r)) (fun g' o' f' => HQ g' ?_ f')
        rw [eb, ec]
        rw [List.append_assoc] at o'
        exact o'
      refine c_parts (by omega) ⟨fun n0 => ⟨fun n1 => ⟨fun m2 => ⟨fun m1 => ?_, fun m1 => ?_⟩, fun m2 => ?_⟩, fun n1 => ?_⟩, fun n0 => ?_⟩
      · have z : 6 < g 137 L := by
          by_cases z2 : g 137 L = 2
          · exact absurd (ari_2 z2) m2
          · by_cases z3 : g 137 L ≤ 6
            · exact absurd (ari_1 (by omega) z3) m1
            · omega
        rw [ari_0 (Or.inr z)]
        have q7 := q.2 (by omega)
        refine leaf 95 (by rw [q7]; rfl) ?_
        unfold tCh
        rw [if_neg (by omega), if_neg (by omega)]
      · have z : 3 ≤ g 137 L ∧ g 137 L ≤ 6 := by
          unfold ari at m1
          by_cases z2 : g 137 L = 2
          · rw [if_pos z2] at m1; omega
          · rw [if_neg z2] at m1
            by_cases z3 : 3 ≤ g 137 L ∧ g 137 L ≤ 6
            · exact z3
            · rw [if_neg z3] at m1; omega
        rw [m1]
        obtain ⟨q1, q2, _⟩ := q.1 z.2
        have c := f3 (by omega) z.2
        refine N_Mo_tellsType_103 ⟨by omega, r_byte ho (fun g2 o2 f2 => ⟨fun _ => ⟨fun z => absurd rfl z, fun _ => ⟨by unfold r32; omega, by unfold r32; omega, by omega, r_byte o2 (fun g3 o3 f3' => ⟨fun z => by omega, fun _ => ⟨a4, ⟨by omega, by omega⟩, fun g4 e4 => ⟨by unfold r32; omega, ?_⟩⟩⟩)⟩⟩, fun z => by omega⟩)⟩
        have fr3 : ∀ a i, a ≠ 192 → ¬ (a = 135 ∧ i = 87) → g3 a i = g a i := fun a i p q => (f3' a i p q).trans (f2 a i p q)
        have fr4 : ∀ a i, a ≠ 193 → g4 a i = g3 a i := fun a i p => by rw [e4, up2_nc (by omega)]
        refine ih g4 ((tFm S t).2.1 :: s) _ _ _ _ _ (by simp; omega) (by omega) (by simp) (by omega) ⟨?_, StP_ag (fun i i0 i1 => by rw [e4, up2_ext (by omega), fr3 193 i (by omega) (by omega)]) st⟩ (OuR_ag o3 (fr4 _ _ (by omega)) (fun i => fr4 _ _ (by omega))) (fun a i p q r => (fr4 a i q).trans ((fr3 a i p r).trans (fr a i p q r))) (fun g' o' f' => HQ g' ?_ f')
        · rw [e4, up2_eq, fr3 138 L (by omega) (by omega)]
          exact ⟨c.1, c.2, q2 (by omega)⟩
        · have ec : tCh (tFm S t) = [(tFm S t).2.1] := by unfold tCh; rw [if_neg (by omega), if_pos (by omega)]
          rw [ec, q1, tBy_3 z.1 z.2]
          rw [List.append_assoc, List.append_assoc] at o'
          exact o'
      · have z : g 137 L = 2 := by
          unfold ari at m2
          by_cases z2 : g 137 L = 2
          · exact z2
          · rw [if_neg z2] at m2
            by_cases z3 : 3 ≤ g 137 L ∧ g 137 L ≤ 6
            · rw [if_pos z3] at m2; omega
            · rw [if_neg z3] at m2; omega
        rw [m2]
        obtain ⟨q1, q2, q3⟩ := q.1 (by omega)
        have c := f3 (by omega) (by omega)
        have c' := f4 z
        refine N_Mo_tellsType_103 ⟨by omega, r_byte ho (fun g2 o2 f2 => ⟨fun z => absurd rfl z, fun _ => ⟨a4, ⟨by omega, by omega⟩, fun g5 e5 => ⟨by unfold r32; omega, fun _ => ⟨fun z => by omega, fun _ => ⟨a4, ⟨by omega, by omega⟩, fun g6 e6 => ⟨by unfold r32; omega, ?_⟩⟩⟩, fun z => by omega⟩⟩⟩)⟩
        have fr6 : ∀ a i, a ≠ 193 → g6 a i = g2 a i := fun a i p => by rw [e6, up2_nc (by omega), e5, up2_nc (by omega)]
        refine ih g6 ((tFm S t).2.1 :: (tFm S t).2.2 :: s) _ _ _ _ _ (by simp; omega) (by omega) (by simp) (by omega) ⟨?_, ?_, StP_ag (fun i i0 i1 => by rw [e6, up2_ext (by omega), e5, up2_ext (by omega), f2 193 i (by omega) (by omega)]) st⟩ (OuR_ag o2 (fr6 _ _ (by omega)) (fun i => fr6 _ _ (by omega))) (fun a i p q r => (fr6 a i q).trans ((f2 a i p r).trans (fr a i p q r))) (fun g' o' f' => HQ g' ?_ f')
        · rw [show (((tFm S t).2.2 :: s).length : Int) = s.length + 1 by simp, e6, up2_eq, e5, up2_nc (by omega), f2 138 L (by omega) (by omega)]
          exact ⟨c.1, c.2, q2 (by omega)⟩
        · rw [e6, up2_ext (by omega), e5, up2_eq, f2 139 L (by omega) (by omega)]
          exact ⟨c'.1, c'.2, q3 (by omega)⟩
        · have ec : tCh (tFm S t) = [(tFm S t).2.1, (tFm S t).2.2] := by unfold tCh; rw [if_pos (by omega)]
          rw [ec, q1, z]
          rw [List.append_assoc] at o'
          exact o'
      · rw [show ari (g 137 L) = 0 from ari_0 (by omega)]
        have q1 := (q.1 (by omega)).1
        refine leaf 98 (by rw [q1, n1]; rfl) ?_
        unfold tCh
        rw [if_neg (by omega), if_neg (by omega)]
      · rw [show ari (g 137 L) = 0 from ari_0 (by omega)]
        have q1 := (q.1 (by omega)).1
        refine leaf 105 (by rw [q1, n0]; rfl) ?_
        unfold tCh
        rw [if_neg (by omega), if_neg (by omega)]
theorem r_write {d : Nat} {h : HP} {tm : Int → Tm} {S : Sx} {V : Vx} {x : Int} {t : Tm} {Q : PQ} (hd : 3 < d) (M : MV h tm S V) (x0 : h 135 14 ≤ x) (x1 : x < h 135 15) (xe : EqS S (tm x) t) (HQ : ∀ g : HP, OuR g 135 87 192 (tWr S 200 [t]) → (∀ a i, a ≠ 192 → a ≠ 193 → ¬ (a = 135 ∧ i = 87) → g a i = h a i) → Q 0 g) : Go d M_Mo_tellsType 0 [(22, 135), (0, x), (2, 0), (2, 0), (2, 0), (2, 0)] [] h Q := by
  refine N_Mo_tellsType_0 (fun g1 e1 => ⟨⟨by omega, by omega⟩, fun g2 e2 => ?_⟩)
  have o2 : ∀ a i, a ≠ 192 → a ≠ 193 → ¬ (a = 135 ∧ i = 87) → g2 a i = h a i := fun a i p q r => by rw [e2, up2_nc (by omega), e1, up2_ext (by omega)]
  refine r_wty hd M 200 g2 [t] [] 1 _ _ _ (by omega) (by omega) rfl (by omega) ⟨?_, trivial⟩ (OuR_nil ?_) o2 (fun g' o' f' => HQ g' o' f')
  · show TyP tm S (h 135 14) (h 135 15) (g2 193 0) t
    rw [e2, up2_eq]
    exact ⟨x0, x1, xe⟩
  · rw [e2, up2_nc (by omega), e1, up2_eq]
end
