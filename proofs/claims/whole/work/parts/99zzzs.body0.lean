section
/-! the reference's check of a whole text -/
theorem r_check {d : Nat} {q0 g0 h : HP} {A sc r w' z ty : Int} {go : Option Tm} {tm : Int → Tm} {S : Sx} {V : Vx} {Γ : Int → Tm} {S' : Sx} {V' : Vx} {t : Tm} {Q : PQ} (hd : 40 < d) (bd : BD q0 g0 A) (qb : QB g0 h) (lo : LO g0 h) (M : MV h tm S V) (q : h 135 14 = 100 ∧ h 135 18 = 0 ∧ h 135 19 = 16) (ts : ∀ i, 0 ≤ i → i < sc → 100 ≤ h 178 i ∧ h 178 i < h 135 15 ∧ EqS S (tm (h 178 i)) (Γ i)) (m : h 135 15 ≤ 148) (nn : nx q0 g0 A 0 0 sc) (G : gd q0 A 0 sc (q0 A 2) r w') (s0 : 0 ≤ sc) (s1 : sc ≤ 3) (gy : goY h tm S ty go) (J : jj q0 A 0 Γ sc go S V 0 z S' V' t)
    (H1 : z = 0 → ∀ h' tm', QT g0 h' tm' S' V' 0 sc Γ 0 (148 + 4 * r - 3 + 2 * (w' - q0 A 2)) → (100 ≤ h' 135 63 ∧ h' 135 63 < h' 135 15) → EqS S' (tm' (h' 135 63)) t → Q 0 h') (H0 : z ≠ 0 → ∀ h', QF g0 h' z → Q 0 h') : Go d M_Mo_checks 0 [(22, 135), (0, ty)] [] h Q := by
  have bn := bd.1.2.1
  refine N_Mo_checks_0 (fun g1 e1 g2 e2 => ⟨by omega, q_psh (F := 0) (by rw [e2, up2_eq]) (by omega) (by omega) ?_⟩)
  have o2 : ∀ a i, ¬ (a = 135 ∧ (i = 62 ∨ i = 65)) → g2 a i = h a i := fun a i p => by rw [e2, up2_ext (by omega), e1, up2_ext (by omega)]
  have lc : LcM h g2 := ⟨fun i p q => o2 _ _ (by omega), fun a i p q r => o2 _ _ (by omega)⟩
  have T2 : QT g0 g2 tm S V 0 sc Γ 0 148 := by
    refine ⟨QB_trans qb ⟨fun a i p => o2 a i (by omega), fun i p => o2 _ _ (by omega)⟩, LO_trans lo (LcM_LO lc), ⟨MV_loc lc M, ?_, ⟨by rw [e2, up2_eq], by rw [e2, up2_ext (by omega), e1, up2_eq]⟩, fun i i0 i1 => ?_⟩, ?_⟩
    · rw [o2 135 14 (by omega), o2 135 18 (by omega), o2 135 19 (by omega)]; exact q
    · rw [o2 178 i (by omega), o2 135 15 (by omega)]; exact ts i i0 i1
    · rw [o2 135 15 (by omega)]; exact m
  have p1 := @psh_1 g2 0 600 ty
  have op : ∀ a i, a < 173 ∨ 177 < a → ¬ (a = 135 ∧ (i = 62 ∨ i = 63)) → psh g2 0 600 ty a i = g2 a i := fun a i p q => psh_o (by omega) (by omega)
  have T3 := QT_pile T2 op (F' := 0 + 1) p1.2.2.2
  have gy3 : goY (psh g2 0 600 ty) tm S (psh g2 0 600 ty 174 0) go := by
    rw [p1.2.1]
    cases go with
    | none => exact gy
    | some g =>
      refine ⟨?_, gy.2⟩
      rw [op 135 15 (by omega) (by omega), o2 135 15 (by omega)]
      exact gy.1
  refine r_all bd (q0 A 2 + 1).toNat go 0 0 sc (q0 A 2) r w' 0 0 148 z _ tm S V Γ S' V' t d ty Q hd ⟨⟨by omega, by omega⟩, G, ⟨by omega, by omega⟩, ⟨by omega, by omega, by omega⟩, ⟨by omega, Int.le_trans (by omega) (fB_le 0 go).1⟩, by omega⟩ nn T3 (by rw [p1.1]; rfl) p1.2.2.1 gy3 J (fun e h' tm' T' X' q' gr ge sub => ?_) H0
  rw [show (148 : Int) + 4 * (r - 0) - 3 + 2 * (w' - q0 A 2) = 148 + 4 * r - 3 + 2 * (w' - q0 A 2) by omega] at T'
  have e62 := T'.2.2.1.2.2.1.1
  exact N_Mo_checks_18 ⟨fun _ => H1 e h' tm' T' gr ge, fun z => by omega⟩
theorem q_apart {k3 : HP} {P : HP → Prop} (H : ∀ g : HP, (∀ a i, ¬ (a = 135 ∧ 14 ≤ i ∧ i ≤ 22) → g a i = k3 a i) → (g 135 14 = 100 ∧ g 135 15 = 100 ∧ g 135 16 = 100 ∧ g 135 17 = 100 ∧ g 135 18 = 0 ∧ g 135 19 = 16) → (g 135 20 = k3 135 15 ∧ g 135 21 = k3 135 17 ∧ g 135 22 = k3 135 18) → P g) : ∀ g4 : HP, g4 = up2 k3 135 20 (k3 135 15) → ∀ g5 : HP, g5 = up2 g4 135 21 (g4 135 17) → ∀ g6 : HP, g6 = up2 g5 135 22 (g5 135 18) → ∀ g7 : HP, g7 = up2 g6 135 14 100 → ∀ g8 : HP, g8 = up2 g7 135 15 100 → ∀ g9 : HP, g9 = up2 g8 135 16 100 → ∀ g10 : HP, g10 = up2 g9 135 17 100 → ∀ g11 : HP, g11 = up2 g10 135 18 0 → ∀ g12 : HP, g12 = up2 g11 135 19 16 → P g12 := by
  intro g4 e4 g5 e5 g6 e6 g7 e7 g8 e8 g9 e9 g10 e10 g11 e11 g12 e12
  refine H g12 (fun a i p => ?_) ⟨?_, ?_, ?_, ?_, ?_, ?_⟩ ⟨?_, ?_, ?_⟩
  · rw [e12, up2_ext (by omega), e11, up2_ext (by omega), e10, up2_ext (by omega), e9, up2_ext (by omega), e8, up2_ext (by omega), e7, up2_ext (by omega), e6, up2_ext (by omega), e5, up2_ext (by omega), e4, up2_ext (by omega)]
  · rw [e12, up2_ext (by omega), e11, up2_ext (by omega), e10, up2_ext (by omega), e9, up2_ext (by omega), e8, up2_ext (by omega), e7, up2_eq]
  · rw [e12, up2_ext (by omega), e11, up2_ext (by omega), e10, up2_ext (by omega), e9, up2_ext (by omega), e8, up2_eq]
  · rw [e12, up2_ext (by omega), e11, up2_ext (by omega), e10, up2_ext (by omega), e9, up2_eq]
  · rw [e12, up2_ext (by omega), e11, up2_ext (by omega), e10, up2_eq]
  · rw [e12, up2_ext (by omega), e11, up2_eq]
  · rw [e12, up2_eq]
  · rw [e12, up2_ext (by omega), e11, up2_ext (by omega), e10, up2_ext (by omega), e9, up2_ext (by omega), e8, up2_ext (by omega), e7, up2_ext (by omega), e6, up2_ext (by omega), e5, up2_ext (by omega), e4, up2_eq]
  · rw [e12, up2_ext (by omega), e11, up2_ext (by omega), e10, up2_ext (by omega), e9, up2_ext (by omega), e8, up2_ext (by omega), e7, up2_ext (by omega), e6, up2_ext (by omega), e5, up2_eq, e4, up2_ext (by omega)]
  · rw [e12, up2_ext (by omega), e11, up2_ext (by omega), e10, up2_ext (by omega), e9, up2_ext (by omega), e8, up2_ext (by omega), e7, up2_ext (by omega), e6, up2_eq, e5, up2_ext (by omega), e4, up2_ext (by omega)]
theorem q_together {k1 : HP} {P : HP → Prop} (H : ∀ g : HP, (∀ a i, ¬ (a = 135 ∧ 14 ≤ i ∧ i ≤ 19) → g a i = k1 a i) → (g 135 14 = 0 ∧ g 135 15 = k1 135 20 ∧ g 135 16 = 0 ∧ g 135 17 = k1 135 21 ∧ g 135 18 = k1 135 22 ∧ g 135 19 = 0) → P g) : ∀ g2 : HP, g2 = up2 k1 135 14 0 → ∀ g3 : HP, g3 = up2 g2 135 15 (g2 135 20) → ∀ g4 : HP, g4 = up2 g3 135 16 0 → ∀ g5 : HP, g5 = up2 g4 135 17 (g4 135 21) → ∀ g6 : HP, g6 = up2 g5 135 18 (g5 135 22) → ∀ g7 : HP, g7 = up2 g6 135 19 0 → P g7 := by
  intro g2 e2 g3 e3 g4 e4 g5 e5 g6 e6 g7 e7
  refine H g7 (fun a i p => ?_) ⟨?_, ?_, ?_, ?_, ?_, ?_⟩
  · rw [e7, up2_ext (by omega), e6, up2_ext (by omega), e5, up2_ext (by omega), e4, up2_ext (by omega), e3, up2_ext (by omega), e2, up2_ext (by omega)]
  · rw [e7, up2_ext (by omega), e6, up2_ext (by omega), e5, up2_ext (by omega), e4, up2_ext (by omega), e3, up2_ext (by omega), e2, up2_eq]
  · rw [e7, up2_ext (by omega), e6, up2_ext (by omega), e5, up2_ext (by omega), e4, up2_ext (by omega), e3, up2_eq, e2, up2_ext (by omega)]
  · rw [e7, up2_ext (by omega), e6, up2_ext (by omega), e5, up2_ext (by omega), e4, up2_eq]
  · rw [e7, up2_ext (by omega), e6, up2_ext (by omega), e5, up2_eq, e4, up2_ext (by omega), e3, up2_ext (by omega), e2, up2_ext (by omega)]
  · rw [e7, up2_ext (by omega), e6, up2_eq, e5, up2_ext (by omega), e4, up2_ext (by omega), e3, up2_ext (by omega), e2, up2_ext (by omega)]
  · rw [e7, up2_eq]
theorem RW_lo {h g : HP} {tm : Int → Tm} {S : Sx} (R : RW h tm S) (f : ∀ i, 14 ≤ i → i ≤ 17 → g 135 i = h 135 i) (rows : ∀ a x, 137 ≤ a → a ≤ 142 → h 135 14 ≤ x → x < h 135 15 → g a x = h a x) (eqs : ∀ e, h 135 16 ≤ e → e < h 135 17 → g 146 e = h 146 e ∧ g 147 e = h 147 e) : RW g tm S := by
  have q14 := f 14 (by omega) (by omega)
  have q15 := f 15 (by omega) (by omega)
  have q16 := f 16 (by omega) (by omega)
  have q17 := f 17 (by omega) (by omega)
  obtain ⟨⟨⟨_, _, l0, l1, l2, W, dp, mi, sh⟩, ⟨e0, e1, e2, e3⟩, so, rs, clo, un⟩, sa, e16, nc⟩ := R
  have ra : ∀ x, h 135 14 ≤ x → x < h 135 15 → 2 ≤ h 137 x → h 137 x ≤ 6 → h 135 14 ≤ h 138 x ∧ h 138 x < h 135 15 := fun x a b c d => by have := (W.1 x a b).2.1 c d; omega
  have rb : ∀ x, h 135 14 ≤ x → x < h 135 15 → h 137 x = 2 → h 135 14 ≤ h 139 x ∧ h 139 x < h 135 15 := fun x a b c => by have := (W.1 x a b).2.2.1 c; omega
  have mr : ∀ x, h 135 14 ≤ x → x < h 135 15 → h 135 14 ≤ h 141 x ∧ h 141 x < h 135 15 := fun x a b => by have := mi x a b; omega
  have r7 := fun x a b => rows 137 x (by omega) (by omega) a b
  have r8 := fun x a b => rows 138 x (by omega) (by omega) a b
  have r9 := fun x a b => rows 139 x (by omega) (by omega) a b
  have r0 := fun x a b => rows 140 x (by omega) (by omega) a b
  have r1 := fun x a b => rows 141 x (by omega) (by omega) a b
  have r2 := fun x a b => rows 142 x (by omega) (by omega) a b
  refine ⟨⟨⟨rfl, rfl, ?_, ?_, ?_, ⟨?_, ?_⟩, ?_, ?_, ?_⟩, ⟨?_, ?_, ?_, ?_⟩, ?_, ?_, ?_, ?_⟩, sa, ?_, ?_⟩
  · rw [q14]; exact l0
  · rw [q14, q15]; exact l1
  · rw [q15]; exact l2
  · rw [q14, q15]
    intro x a b
    rw [r7 x a b, r8 x a b, r9 x a b]
    exact W.1 x a b
  · rw [q14, q15]
    intro x y a b a' b'
    rw [r7 x a b, r7 y a' b']
    exact W.2 x y a b a' b'
  · rw [q14, q15]
    intro x a b
    rw [r0 x a b]
    exact dp x a b
  · rw [q14, q15]
    intro x a b
    have := mr x a b
    rw [r1 x a b, r1 _ this.1 this.2]
    exact mi x a b
  · rw [q14, q15]
    intro x a b
    have c1 := mr x a b
    have s1 := sh x a b
    rw [r1 x a b, r2 _ c1.1 c1.2, r1 _ s1.1 s1.2.1, r7 _ s1.1 s1.2.1]
    refine ⟨s1.1, s1.2.1, s1.2.2.1, fun j ja jb je => ?_⟩
    rw [r1 j ja jb] at je
    rw [r7 j ja jb]
    exact s1.2.2.2 j ja jb je
  · rw [q16]; exact e0
  · rw [q16, q17]; exact e1
  · rw [q17]; exact e2
  · rw [q14, q15, q16, q17]
    intro e a b
    have := eqs e a b
    rw [this.1, this.2]
    exact e3 e a b
  · intro θ
    rw [so θ]
    unfold SolR
    rw [q16, q17]
    refine ⟨fun k e a b => ?_, fun k e a b => ?_⟩
    · have := eqs e a b
      rw [this.1, this.2]
      exact k e a b
    · have := eqs e a b
      have := k e a b
      rw [(eqs e a b).1, (eqs e a b).2] at this
      exact this
  · intro θ
    rw [rs θ, q14, q15]
    refine ⟨fun k x y a b a' b' e => ?_, fun k x y a b a' b' e => ?_⟩
    · rw [r1 x a b, r1 y a' b'] at e
      exact k x y a b a' b' e
    · exact k x y a b a' b' (by rw [r1 x a b, r1 y a' b']; exact e)
  · rw [q14, q15]
    intro i j a b a' b'
    rw [r7 i a b, r7 j a' b', r1 i a b, r1 j a' b']
    intro e l
    have c := clo i j a b a' b' e l
    rw [c]
    unfold Alk
    rw [r7 i a b, r8 i a b, r8 j a' b', r9 i a b, r9 j a' b']
    refine ⟨fun ⟨u, v⟩ => ⟨fun z => ?_, fun z => ?_⟩, fun ⟨u, v⟩ => ⟨fun z => ?_, fun z => ?_⟩⟩
    · have ri := ra i a b z (by omega)
      have rj := ra j a' b' (by omega) (by omega)
      rw [r1 _ ri.1 ri.2, r1 _ rj.1 rj.2]
      exact u z
    · have ri := rb i a b z
      have rj := rb j a' b' (by omega)
      rw [r1 _ ri.1 ri.2, r1 _ rj.1 rj.2]
      exact v z
    · have ri := ra i a b z (by omega)
      have rj := ra j a' b' (by omega) (by omega)
      have := u z
      rw [r1 _ ri.1 ri.2, r1 _ rj.1 rj.2] at this
      exact this
    · have ri := rb i a b z
      have rj := rb j a' b' (by omega)
      have := v z
      rw [r1 _ ri.1 ri.2, r1 _ rj.1 rj.2] at this
      exact this
  · rw [q14, q15]
    intro x y a b a' b'
    rw [r7 x a b, r7 y a' b', r8 x a b, r8 y a' b', r9 x a b, r9 y a' b']
    exact un x y a b a' b'
  · rw [q16, q14]; exact e16
  · rw [q14, q15, q16, q17]; exact nc
end
