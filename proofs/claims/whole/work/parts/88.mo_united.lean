section
/-! protected variables -/
abbrev Vx : Type := Nat → Int × Int
def Unf (S : Sx) (n : Nat) : Prop := ∀ (k : Int) (a b : Tm), 0 ≤ k → ¬ EqS S (tV n) (mkT k a b)
def RigE (S : Sx) (V : Vx) (n : Nat) : Prop := ∃ m, (V m).1 = 7 ∧ EqS S (tV n) (tV m)
def Prot (S : Sx) (V : Vx) (d : Int) (n : Nat) : Prop := ((V n).1 = 7 ∧ Unf S n) ∨ ((V n).1 = 8 ∧ (V n).2 < d ∧ Unf S n ∧ ¬ RigE S V n)
def Chg (S : Sx) (V : Vx) (n : Nat) : Prop := ((V n).1 = 7 ∧ ¬ Unf S n) ∨ ((V n).1 = 8 ∧ (¬ Unf S n ∨ RigE S V n))
def FixS (S S' : Sx) (V : Vx) (d : Int) : Prop := ∃ n, Prot S V d n ∧ (Chg S' V n ∨ ∃ m, Prot S V d m ∧ ¬ EqS S (tV n) (tV m) ∧ EqS S' (tV n) (tV m))
def VOk (lo hi : Int) (hd dp : Int → Int) (tm : Int → Tm) (V : Vx) : Prop := (∀ x, lo ≤ x → x < hi → 7 ≤ hd x → ∃ n, tm x = tV n ∧ V n = (hd x, dp x)) ∧ (∀ n, 7 ≤ (V n).1 → ∃ x, lo ≤ x ∧ x < hi ∧ 7 ≤ hd x ∧ tm x = tV n)
def Led (lo hi : Int) (hd c L : Int → Int) : Prop := ∀ x, lo ≤ x → x < hi → lo ≤ L x ∧ L x < hi ∧ c (L x) = c x ∧ ∀ j, lo ≤ j → j < hi → c j = c x → rnk (hd (L x)) < rnk (hd j) ∨ (rnk (hd (L x)) = rnk (hd j) ∧ L x ≤ j)
theorem VOk_at {lo hi : Int} {hd dp : Int → Int} {tm : Int → Tm} {V : Vx} (H : VOk lo hi hd dp tm V) {x : Int} (x1 : lo ≤ x) (x2 : x < hi) (h7 : 7 ≤ hd x) {n : Nat} (e : tm x = tV n) : V n = (hd x, dp x) := by
  obtain ⟨m, e1, e2⟩ := H.1 x x1 x2 h7
  rw [e] at e1
  rw [tV_inj e1]
  exact e2
theorem Led_unf {lo hi : Int} {hd fa fb : Int → Int} {tm : Int → Tm} {c L : Int → Int} {S : Sx} (P : Ptn lo hi hd fa fb tm c S) (H : Led lo hi hd c L) {x : Int} (x1 : lo ≤ x) (x2 : x < hi) {n : Nat} (e : tm x = tV n) : Unf S n ↔ 7 ≤ hd (L x) := by
  obtain ⟨l1, l2, l3, l4⟩ := H x x1 x2
  constructor
  · intro u
    rcases Int.lt_or_le (hd (L x)) 7 with w | w
    · have w2 := P.1.1 (L x) l1 l2
      refine absurd ?_ (u (hd (L x)) (tm (fa (L x))) (tm (fb (L x))) w2.1.1)
      rw [← w2.2.2.2.1 (by omega), ← e]
      exact (Ptn_eq P x1 x2 l1 l2).mp l3.symm
    · exact w
  · intro w k a b hk
    rw [← e]
    refine Ptn_unf P x1 x2 (fun y y1 y2 y3 => ?_) hk
    have := l4 y y1 y2 y3.symm
    rw [rnk_v w] at this
    rcases Int.lt_or_le 6 (hd y) with q | q
    · exact q
    · rw [rnk_0 q] at this; omega
theorem Led_rig {lo hi : Int} {hd fa fb dp : Int → Int} {tm : Int → Tm} {c L : Int → Int} {S : Sx} {V : Vx} (P : Ptn lo hi hd fa fb tm c S) (H : Led lo hi hd c L) (hV : VOk lo hi hd dp tm V) {x : Int} (x1 : lo ≤ x) (x2 : x < hi) {n : Nat} (e : tm x = tV n) (h7 : 7 ≤ hd (L x)) : RigE S V n ↔ hd (L x) = 7 := by
  obtain ⟨l1, l2, l3, l4⟩ := H x x1 x2
  constructor
  · rintro ⟨m, m1, m2⟩
    obtain ⟨y, y1, y2, y3, y4⟩ := hV.2 m (by omega)
    have y5 := VOk_at hV y1 y2 y3 y4
    rw [y5] at m1
    have m1 : hd y = 7 := m1
    rw [← e, ← y4] at m2
    have := l4 y y1 y2 ((Ptn_eq P x1 x2 y1 y2).mpr m2).symm
    rw [rnk_v h7, rnk_v y3] at this
    omega
  · intro w
    obtain ⟨m, m1, m2⟩ := hV.1 (L x) l1 l2 h7
    refine ⟨m, by rw [m2]; exact w, ?_⟩
    rw [← e, ← m1]
    exact (Ptn_eq P x1 x2 l1 l2).mp l3.symm
theorem Led_prot {lo hi : Int} {hd fa fb dp : Int → Int} {tm : Int → Tm} {c L : Int → Int} {S : Sx} {V : Vx} {d : Int} (P : Ptn lo hi hd fa fb tm c S) (H : Led lo hi hd c L) (hV : VOk lo hi hd dp tm V) {x : Int} (x1 : lo ≤ x) (x2 : x < hi) (h7 : 7 ≤ hd x) {n : Nat} (e : tm x = tV n) : Prot S V d n ↔ ((hd x = 7 ∧ hd (L x) = 7) ∨ (hd x = 8 ∧ dp x < d ∧ hd (L x) = 8)) := by
  obtain ⟨l1, l2, l3, l4⟩ := H x x1 x2
  have v := VOk_at hV x1 x2 h7 e
  have lx := l4 x x1 x2 rfl
  have b8 := (P.1.1 (L x) l1 l2).1
  have u := Led_unf P H x1 x2 e
  rw [rnk_v h7] at lx
  unfold Prot
  rw [v]
  constructor
  · rintro (⟨p1, p2⟩ | ⟨p1, p2, p3, p4⟩)
    · have p1 : hd x = 7 := p1
      have w := u.mp p2
      rw [rnk_v w] at lx
      exact Or.inl ⟨p1, by omega⟩
    · have w := u.mp p3
      refine Or.inr ⟨p1, p2, ?_⟩
      have t : ¬ hd (L x) = 7 := fun q => p4 ((Led_rig P H hV x1 x2 e w).mpr q)
      omega
  · rintro (⟨p1, p2⟩ | ⟨p1, p2, p3⟩)
    · exact Or.inl ⟨p1, u.mpr (by omega)⟩
    · refine Or.inr ⟨p1, p2, u.mpr (by omega), fun q => ?_⟩
      have := (Led_rig P H hV x1 x2 e (by omega)).mp q
      omega
theorem Led_chg {lo hi : Int} {hd fa fb dp : Int → Int} {tm : Int → Tm} {c L : Int → Int} {S : Sx} {V : Vx} (P : Ptn lo hi hd fa fb tm c S) (H : Led lo hi hd c L) (hV : VOk lo hi hd dp tm V) {x : Int} (x1 : lo ≤ x) (x2 : x < hi) (h7 : 7 ≤ hd x) {n : Nat} (e : tm x = tV n) : Chg S V n ↔ hd (L x) ≠ hd x := by
  obtain ⟨l1, l2, l3, l4⟩ := H x x1 x2
  have v := VOk_at hV x1 x2 h7 e
  have lx := l4 x x1 x2 rfl
  have b8 := (P.1.1 (L x) l1 l2).1
  have c8 := (P.1.1 x x1 x2).1
  have u := Led_unf P H x1 x2 e
  rw [rnk_v h7] at lx
  unfold Chg
  rw [v]
  constructor
  · rintro (⟨p1, p2⟩ | ⟨p1, p2⟩)
    · have p1 : hd x = 7 := p1
      intro w
      exact p2 (u.mpr (by omega))
    · have p1 : hd x = 8 := p1
      intro w
      rcases p2 with p2 | p2
      · exact p2 (u.mpr (by omega))
      · have := (Led_rig P H hV x1 x2 e (by omega)).mp p2
        omega
  · intro w
    rcases Int.lt_or_le (hd x) 8 with q | q
    · refine Or.inl ⟨by show hd x = 7; omega, fun z => ?_⟩
      have z2 := u.mp z
      rw [rnk_v z2] at lx
      omega
    · refine Or.inr ⟨by show hd x = 8; omega, ?_⟩
      rcases Int.lt_or_le (hd (L x)) 7 with z | z
      · left
        intro z2
        have := u.mp z2
        omega
      · right
        exact (Led_rig P H hV x1 x2 e z).mpr (by omega)
theorem RW_Led {h : HP} {tm : Int → Tm} {S : Sx} (H : RW h tm S) : Led (h 135 14) (h 135 15) (h 137) (h 141) (fun x => h 142 (h 141 x)) := fun x x1 x2 => H.1.1.2.2.2.2.2.2.2.2 x x1 x2
theorem RW_iff {h : HP} {tm : Int → Tm} {S S' : Sx} (H : RW h tm S) (e : ∀ θ, S' θ ↔ S θ) : RW h tm S' := by
  obtain ⟨a, b, c, f⟩ := H
  obtain ⟨θ, hθ⟩ := b
  exact ⟨RC_iff a e, ⟨θ, (e θ).mpr hθ⟩, c, by rw [ncl_congr (tm' := tm) (fun _ _ _ => rfl) e]; exact f⟩
noncomputable def fsF (h : HP) (i : Int) : Int := if (h 137 (h 142 (h 141 i)) = 7 ∧ h 137 i = 7) ∨ (h 137 (h 142 (h 141 i)) = 8 ∧ h 137 i = 8 ∧ h 140 i < h 135 18) then h 137 (h 142 (h 141 i)) else 0
theorem setR_up2_comm {h : HP} {a b lo hi i v : Int} {f : Int → Int} (q : a ≠ b) : up2 (setR h a lo hi f) b i v = setR (up2 h b i v) a lo hi f := by
  funext x j
  unfold up2 setR
  by_cases w : x = b ∧ j = i
  · rw [if_pos w, if_neg (by rintro ⟨p, _⟩; exact q (p.symm.trans w.1))]; exact (if_pos w).symm
  · rw [if_neg w]
    by_cases w2 : x = a ∧ lo ≤ j ∧ j < hi
    · rw [if_pos w2, if_pos w2]
    · rw [if_neg w2, if_neg w2]; exact (if_neg w).symm
theorem c_holds {d : Nat} {tm : Int → Tm} {h : HP} {Q : PQ} (hd : 1 < d) (R : RB h (h 135 14) (h 135 15) tm)
    (H : Q 0 (setR (setR h 143 (h 135 14) (h 135 15) (h 141)) 144 (h 135 14) (h 135 15) (fsF h))) : Go d M_Mo_holds 0 [(22, 135), (2, 0), (2, 0), (2, 0)] [] h Q := by
  obtain ⟨_, _, h0, h00, h1, W, hp, M, hs⟩ := R
  generalize hlo : h 135 14 = lo at *
  generalize hhi : h 135 15 = hi at *
  refine N_Mo_holds_0 ?_
  rw [hlo]
  have loop : ∀ w2 w3, Go d M_Mo_holds 5 [(22, 135), (0, lo), w2, w3] [] (setR (setR h 143 lo lo (h 141)) 144 lo lo (fsF h)) Q := by
    refine up_loop (i := lo) (hi := hi) h00 (P := fun i => ∀ w2 w3, Go d M_Mo_holds 5 [(22, 135), (0, i), w2, w3] [] (setR (setR h 143 lo i (h 141)) 144 lo i (fsF h)) Q) ?_ ?_
    · intro w2 w3
      refine N_Mo_holds_5 ⟨fun _ => H, fun w => ?_⟩
      rw [setR_ne (by decide), setR_ne (by decide)] at w
      omega
    · intro i i1 i2 ih w2 w3
      have m := M i i1 i2
      have s := hs i i1 i2
      have eo : ∀ a j, a ≠ 143 → a ≠ 144 → (setR (setR h 143 lo i (h 141)) 144 lo i (fsF h)) a j = h a j := fun a j p q => by rw [setR_ne q, setR_ne p]
      refine N_Mo_holds_5 ?_
      rw [eo 135 15 (by decide) (by decide), hhi, eo 141 i (by decide) (by decide), eo 142 _ (by decide) (by decide), eo 137 _ (by decide) (by decide)]
      have key : ∀ v, v = fsF h i → up2 (up2 (setR (setR h 143 lo i (h 141)) 144 lo i (fsF h)) 143 i (h 141 i)) 144 i v = setR (setR h 143 lo (i + 1) (h 141)) 144 lo (i + 1) (fsF h) := by
        intro v hv
        rw [setR_up2_comm (by decide), setR_snoc i1 rfl, setR_snoc i1 hv]
      have g1r : ∀ g1, g1 = up2 (setR (setR h 143 lo i (h 141)) 144 lo i (fsF h)) 143 i (h 141 i) → g1 137 i = h 137 i ∧ g1 135 18 = h 135 18 ∧ g1 140 i = h 140 i := by
        intro g1 e
        subst e
        rw [up2_nc (by decide), up2_nc (by decide), up2_nc (by decide), eo 137 i (by decide) (by decide), eo 135 18 (by decide) (by decide), eo 140 i (by decide) (by decide)]
        exact ⟨rfl, rfl, rfl⟩
      refine ⟨fun w => by omega, fun _ => ⟨by omega, by omega, ⟨by omega, by omega⟩, ⟨by omega, by omega⟩, ⟨by omega, by omega⟩, ⟨by omega, by omega⟩, ⟨by omega, by omega⟩, ?_⟩⟩
      intro g1 hg1
      obtain ⟨r1, r2, r3⟩ := g1r g1 hg1
      rw [r1, r2, r3]
      have fin : ∀ v, v = fsF h i → ∀ g, g = up2 g1 144 i v → ∀ w2 w3, r32 (i + 1) ∧ Go d M_Mo_holds 5 [(22, 135), (0, i + 1), w2, w3] [] g Q := by
        intro v hv g hg w2 w3
        rw [hg, hg1, key v hv]
        exact ⟨by unfold r32; omega, ih _ _⟩
      refine ⟨fun a => ⟨fun b => ⟨⟨by omega, by omega⟩, fun g hg => fin 0 ?_ g hg _ _⟩, fun b => ⟨⟨by omega, by omega⟩, fun e => ⟨⟨by omega, by omega⟩, fun g hg => fin 0 ?_ g hg _ _⟩, fun e => ⟨⟨by omega, by omega⟩, fun f => ⟨⟨by omega, by omega⟩, fun g hg => fin 0 ?_ g hg _ _⟩, fun f => ⟨⟨by omega, by omega⟩, fun g hg => fin _ ?_ g hg _ _⟩⟩⟩⟩, fun a => ⟨⟨by omega, by omega⟩, fun b => ⟨⟨by omega, by omega⟩, fun g hg => fin _ ?_ g hg _ _⟩, fun b => ⟨fun e => ⟨⟨by omega, by omega⟩, fun g hg => fin 0 ?_ g hg _ _⟩, fun e => by omega⟩⟩⟩
      · unfold fsF; rw [if_neg (by omega)]
      · unfold fsF; rw [if_neg (by omega)]
      · unfold fsF; rw [if_neg (by omega)]
      · unfold fsF; rw [if_pos (by omega)]
      · unfold fsF; rw [if_pos (by omega)]
      · unfold fsF; rw [if_neg (by omega)]
  rw [setR_nil (Int.le_refl _), setR_nil (Int.le_refl _)] at loop
  exact loop _ _
def FixN (k : HP) (lo hi : Int) : Prop := ∃ i, lo ≤ i ∧ i < hi ∧ 0 < k 144 i ∧ (k 137 (k 142 (k 141 i)) ≠ k 144 i ∨ ∃ j, lo ≤ j ∧ j < i ∧ 0 < k 144 j ∧ k 143 i ≠ k 143 j ∧ k 141 i = k 141 j)
theorem c_isFixed {d : Nat} {tm : Int → Tm} {h : HP} {Q : PQ} (hd : 1 < d) (R : RB h (h 135 14) (h 135 15) tm)
    (H1 : FixN h (h 135 14) (h 135 15) → Q 1 h) (H0 : ¬ FixN h (h 135 14) (h 135 15) → Q 0 h) : Go d M_Mo_isFixed 0 [(22, 135), (2, 0), (2, 0), (2, 0)] [] h Q := by
  obtain ⟨_, _, h0, h00, h1, W, hp, M, hs⟩ := R
  generalize hlo : h 135 14 = lo at *
  generalize hhi : h 135 15 = hi at *
  refine N_Mo_isFixed_0 ?_
  rw [hlo]
  have loop : ∀ (is : Int) w3, ((is = 0 ∧ ∀ i, lo ≤ i → i < lo → ¬ (0 < h 144 i ∧ (h 137 (h 142 (h 141 i)) ≠ h 144 i ∨ ∃ j, lo ≤ j ∧ j < i ∧ 0 < h 144 j ∧ h 143 i ≠ h 143 j ∧ h 141 i = h 141 j))) ∨ (is = 1 ∧ FixN h lo hi)) → Go d M_Mo_isFixed 7 [(22, 135), (0, is), (0, lo), w3] [] h Q := by
    refine up_loop (i := lo) (hi := hi) h00 (P := fun n => ∀ (is : Int) w3, ((is = 0 ∧ ∀ i, lo ≤ i → i < n → ¬ (0 < h 144 i ∧ (h 137 (h 142 (h 141 i)) ≠ h 144 i ∨ ∃ j, lo ≤ j ∧ j < i ∧ 0 < h 144 j ∧ h 143 i ≠ h 143 j ∧ h 141 i = h 141 j))) ∨ (is = 1 ∧ FixN h lo hi)) → Go d M_Mo_isFixed 7 [(22, 135), (0, is), (0, n), w3] [] h Q) ?_ ?_
    · intro is w3 q
      refine N_Mo_isFixed_7 ⟨fun _ => ?_, fun w => by omega⟩
      rcases q with ⟨q0, q1⟩ | ⟨q0, q1⟩
      · subst q0
        refine ⟨Or.inl rfl, H0 ?_⟩
        rintro ⟨i, i1, i2, i3, i4⟩
        exact q1 i i1 i2 ⟨i3, i4⟩
      · subst q0; exact ⟨Or.inr rfl, H1 q1⟩
    · intro n n1 n2 ih is w3 q
      have m := M n n1 n2
      have s := hs n n1 n2
      have inner : ∀ (is : Int), ((is = 0 ∧ (∀ i, lo ≤ i → i < n → ¬ (0 < h 144 i ∧ (h 137 (h 142 (h 141 i)) ≠ h 144 i ∨ ∃ j, lo ≤ j ∧ j < i ∧ 0 < h 144 j ∧ h 143 i ≠ h 143 j ∧ h 141 i = h 141 j))) ∧ (0 < h 144 n → h 137 (h 142 (h 141 n)) = h 144 n) ∧ ∀ j, lo ≤ j → j < lo → ¬ (0 < h 144 j ∧ h 143 n ≠ h 143 j ∧ h 141 n = h 141 j)) ∨ (is = 1 ∧ FixN h lo hi)) → Go d M_Mo_isFixed 53 [(22, 135), (0, is), (0, n), (0, lo)] [] h Q := by
        refine up_loop (i := lo) (hi := n) n1 (P := fun t => ∀ (is : Int), ((is = 0 ∧ (∀ i, lo ≤ i → i < n → ¬ (0 < h 144 i ∧ (h 137 (h 142 (h 141 i)) ≠ h 144 i ∨ ∃ j, lo ≤ j ∧ j < i ∧ 0 < h 144 j ∧ h 143 i ≠ h 143 j ∧ h 141 i = h 141 j))) ∧ (0 < h 144 n → h 137 (h 142 (h 141 n)) = h 144 n) ∧ ∀ j, lo ≤ j → j < t → ¬ (0 < h 144 j ∧ h 143 n ≠ h 143 j ∧ h 141 n = h 141 j)) ∨ (is = 1 ∧ FixN h lo hi)) → Go d M_Mo_isFixed 53 [(22, 135), (0, is), (0, n), (0, t)] [] h Q) ?_ ?_
        · intro is q
          refine N_Mo_isFixed_53 ⟨fun _ => ⟨by unfold r32; omega, ih is _ ?_⟩, fun w => by omega⟩
          rcases q with ⟨q0, q1, q2, q3⟩ | q
          · refine Or.inl ⟨q0, fun i i1 i2 => ?_⟩
            by_cases z : i = n
            · subst z
              rintro ⟨z1, z2 | ⟨j, j1, j2, j3⟩⟩
              · exact z2 (q2 z1)
              · exact q3 j j1 j2 j3
            · exact q1 i i1 (by omega)
          · exact Or.inr q
        · intro t t1 t2 ih2 is q
          refine N_Mo_isFixed_53 ⟨fun w => by omega, fun _ => ⟨⟨by omega, by omega⟩, fun w => ⟨by unfold r32; omega, ih is _ ?_⟩, fun w => ⟨fun u => ⟨by unfold r32; omega, ih2 1 ?_⟩, fun u => ⟨⟨by omega, by omega⟩, fun v => ⟨by unfold r32; omega, ih2 0 ?_⟩, fun v => ⟨⟨by omega, by omega⟩, ⟨by omega, by omega⟩, fun z => ⟨by unfold r32; omega, ih2 0 ?_⟩, fun z => ⟨⟨by omega, by omega⟩, ⟨by omega, by omega⟩, fun y => ⟨by unfold r32; omega, ih2 0 ?_⟩, fun y => ⟨by unfold r32; omega, ih2 1 ?_⟩⟩⟩⟩⟩⟩⟩
          · rcases q with ⟨q0, q1, q2, q3⟩ | q
            · refine Or.inl ⟨q0, fun i i1 i2 => ?_⟩
              by_cases z : i = n
              · subst z; exact fun z => by omega
              · exact q1 i i1 (by omega)
            · exact Or.inr q
          · rcases q with ⟨q0, _⟩ | q
            · exact absurd q0 u
            · exact Or.inr ⟨rfl, q.2⟩
          · rcases q with ⟨q0, q1, q2, q3⟩ | ⟨q0, _⟩
            · refine Or.inl ⟨rfl, q1, q2, fun j j1 j2 => ?_⟩
              by_cases z : j = t
              · subst z; exact fun z => by omega
              · exact q3 j j1 (by omega)
            · omega
          · rcases q with ⟨q0, q1, q2, q3⟩ | ⟨q0, _⟩
            · refine Or.inl ⟨rfl, q1, q2, fun j j1 j2 => ?_⟩
              by_cases z' : j = t
              · subst z'; exact fun z' => z'.2.1 z
              · exact q3 j j1 (by omega)
            · omega
          · rcases q with ⟨q0, q1, q2, q3⟩ | ⟨q0, _⟩
            · refine Or.inl ⟨rfl, q1, q2, fun j j1 j2 => ?_⟩
              by_cases z' : j = t
              · subst z'; exact fun z' => y z'.2.2
              · exact q3 j j1 (by omega)
            · omega
          · exact Or.inr ⟨rfl, n, n1, n2, w, Or.inr ⟨t, t1, t2, v, z, y⟩⟩
      refine N_Mo_isFixed_7 ?_
      rw [hhi, hlo]
      refine ⟨fun w => by omega, fun _ => ⟨fun u => inner 1 ?_, fun u => ⟨⟨by omega, by omega⟩, fun v => inner 0 ?_, fun v => ⟨by omega, by omega, ⟨by omega, by omega⟩, ⟨by omega, by omega⟩, ⟨by omega, by omega⟩, ⟨by omega, by omega⟩, fun z => inner 0 ?_, fun z => inner 1 ?_⟩⟩⟩⟩
      · rcases q with ⟨q0, _⟩ | q
        · exact absurd q0 u
        · exact Or.inr ⟨rfl, q.2⟩
      · rcases q with ⟨q0, q1⟩ | ⟨q0, _⟩
        · exact Or.inl ⟨rfl, q1, fun z => by omega, fun j a b => by omega⟩
        · omega
      · rcases q with ⟨q0, q1⟩ | ⟨q0, _⟩
        · exact Or.inl ⟨rfl, q1, fun _ => z, fun j a b => by omega⟩
        · omega
      · exact Or.inr ⟨rfl, n, n1, n2, v, Or.inl z⟩
  exact loop 0 _ (Or.inl ⟨rfl, fun i a b => by omega⟩)
theorem Fix_same {S S' : Sx} {V : Vx} {d : Int} (e : ∀ θ, S' θ ↔ S θ) : ¬ FixS S S' V d := by
  have he : ∀ s t, EqS S' s t ↔ EqS S s t := fun s t => ⟨EqS_sub (fun θ => (e θ).mpr), EqS_sub (fun θ => (e θ).mp)⟩
  have hu : ∀ n, Unf S' n ↔ Unf S n := fun n => ⟨fun q k a b p r => q k a b p ((he _ _).mpr r), fun q k a b p r => q k a b p ((he _ _).mp r)⟩
  have hr : ∀ n, RigE S' V n ↔ RigE S V n := fun n => ⟨fun ⟨m, a, b⟩ => ⟨m, a, (he _ _).mp b⟩, fun ⟨m, a, b⟩ => ⟨m, a, (he _ _).mpr b⟩⟩
  rintro ⟨n, p, q | ⟨m, p2, q1, q2⟩⟩
  · unfold Prot at p
    unfold Chg at q
    rw [hu, hr] at q
    rcases p with ⟨p1, p2⟩ | ⟨p1, p2, p3, p4⟩ <;> rcases q with ⟨q1, q2⟩ | ⟨q1, q2 | q2⟩
    · exact q2 p2
    · omega
    · omega
    · omega
    · exact q2 p3
    · exact p4 q2
  · exact q1 ((he _ _).mp q2)
/-- the rows that tell what was held, against the words -/
theorem Fix_iff {h k : HP} {tm : Int → Tm} {S S' : Sx} {V : Vx} (R : RW h tm S) (R' : RW k tm S') (hV : VOk (h 135 14) (h 135 15) (h 137) (h 140) tm V) (e14 : k 135 14 = h 135 14) (e15 : k 135 15 = h 135 15) (en : ∀ i, i < h 135 15 → k 137 i = h 137 i)
    (e43 : ∀ i, h 135 14 ≤ i → i < h 135 15 → k 143 i = h 141 i ∧ k 144 i = fsF h i) : FixN k (h 135 14) (h 135 15) ↔ FixS S S' V (h 135 18) := by
  have P := RW_Ptn R
  have P' := RW_Ptn R'
  have L := RW_Led R
  have L' := RW_Led R'
  rw [e14, e15] at P' L'
  have hV' : VOk (h 135 14) (h 135 15) (k 137) (h 140) tm V := by
    refine ⟨fun x x1 x2 q => ?_, fun n q => ?_⟩
    · rw [en x x2] at q ⊢; exact hV.1 x x1 x2 q
    · obtain ⟨x, x1, x2, x3, x4⟩ := hV.2 n q
      exact ⟨x, x1, x2, by rw [en x x2]; exact x3, x4⟩
  have fpos : ∀ i, h 135 14 ≤ i → i < h 135 15 → (0 < k 144 i ↔ ((h 137 i = 7 ∧ h 137 (h 142 (h 141 i)) = 7) ∨ (h 137 i = 8 ∧ h 140 i < h 135 18 ∧ h 137 (h 142 (h 141 i)) = 8))) := by
    intro i i1 i2
    rw [(e43 i i1 i2).2]
    unfold fsF
    split <;> omega
  have fval : ∀ i, h 135 14 ≤ i → i < h 135 15 → 0 < k 144 i → k 144 i = h 137 i ∧ 7 ≤ h 137 i := by
    intro i i1 i2
    rw [(e43 i i1 i2).2]
    unfold fsF
    split <;> omega
  have lead' : ∀ i, h 135 14 ≤ i → i < h 135 15 → h 135 14 ≤ k 142 (k 141 i) ∧ k 142 (k 141 i) < h 135 15 := fun i i1 i2 => ⟨(L' i i1 i2).1, (L' i i1 i2).2.1⟩
  constructor
  · rintro ⟨i, i1, i2, i3, i4⟩
    obtain ⟨v1, v2⟩ := fval i i1 i2 i3
    obtain ⟨n, n1, n2⟩ := hV.1 i i1 i2 v2
    refine ⟨n, (Led_prot P L hV i1 i2 v2 n1).mpr ((fpos i i1 i2).mp i3), ?_⟩
    rcases i4 with q | ⟨j, j1, j2, j3, j4, j5⟩
    · left
      refine (Led_chg P' L' hV' i1 i2 (by rw [en i i2]; exact v2) n1).mpr ?_
      rw [v1] at q
      rw [en i i2]
      exact q
    · right
      obtain ⟨w1, w2⟩ := fval j j1 (by omega) j3
      obtain ⟨m, m1, m2⟩ := hV.1 j j1 (by omega) w2
      refine ⟨m, (Led_prot P L hV j1 (by omega) w2 m1).mpr ((fpos j j1 (by omega)).mp j3), ?_, ?_⟩
      · rw [(e43 i i1 i2).1, (e43 j j1 (by omega)).1] at j4
        rw [← n1, ← m1]
        exact fun q => j4 ((Ptn_eq P i1 i2 j1 (by omega)).mpr q)
      · rw [← n1, ← m1]
        exact (Ptn_eq P' i1 i2 j1 (by omega)).mp j5
  · rintro ⟨n, p, q⟩
    have kind : ∀ n, Prot S V (h 135 18) n → 7 ≤ (V n).1 := by
      intro n p
      rcases p with ⟨p, _⟩ | ⟨p, _⟩ <;> omega
    obtain ⟨x, x1, x2, x3, x4⟩ := hV.2 n (kind n p)
    have px := (fpos x x1 x2).mpr ((Led_prot P L hV x1 x2 x3 x4).mp p)
    rcases q with q | ⟨m, p2, q1, q2⟩
    · refine ⟨x, x1, x2, px, Or.inl ?_⟩
      have := (Led_chg P' L' hV' x1 x2 (by rw [en x x2]; exact x3) x4).mp q
      rw [(fval x x1 x2 px).1]
      rw [en x x2] at this
      exact this
    · obtain ⟨y, y1, y2, y3, y4⟩ := hV.2 m (kind m p2)
      have py := (fpos y y1 y2).mpr ((Led_prot P L hV y1 y2 y3 y4).mp p2)
      rw [← x4, ← y4] at q1 q2
      have c1 : h 141 x ≠ h 141 y := fun e => q1 ((Ptn_eq P x1 x2 y1 y2).mp e)
      have c2 : k 141 x = k 141 y := (Ptn_eq P' x1 x2 y1 y2).mpr q2
      rcases Int.lt_trichotomy x y with z | z | z
      · refine ⟨y, y1, y2, py, Or.inr ⟨x, x1, z, px, ?_, c2.symm⟩⟩
        rw [(e43 x x1 x2).1, (e43 y y1 y2).1]
        exact fun e => c1 e.symm
      · subst z; exact absurd rfl c1
      · refine ⟨x, x1, x2, px, Or.inr ⟨y, y1, z, py, ?_, c2⟩⟩
        rw [(e43 x x1 x2).1, (e43 y y1 y2).1]
        exact c1
theorem c_united {d : Nat} {tm : Int → Tm} {S : Sx} {V : Vx} {h : HP} {Q : PQ} {x y : Int} (hd : 7 < d) (R : RW h tm S) (hV : VOk (h 135 14) (h 135 15) (h 137) (h 140) tm V) (hx : h 135 14 ≤ x ∧ x < h 135 15) (hy : h 135 14 ≤ y ∧ y < h 135 15)
    (H1 : Sat (Snd S (tm x) (tm y)) → ¬ FixS S (Snd S (tm x) (tm y)) V (h 135 18) → ∀ h', RW h' tm (Snd S (tm x) (tm y)) → ExM h h' → h' 135 15 = h 135 15 → ∀ r, r = ncl tm S (h 135 14) (h 135 15) - ncl tm (Snd S (tm x) (tm y)) (h 135 14) (h 135 15) → 0 ≤ r → (r = 0 → h' 135 17 = h 135 17 ∧ EqS S (tm x) (tm y)) → (0 < r → h' 135 17 = h 135 17 + 1) → Q r h')
    (H2 : ¬ Sat (Snd S (tm x) (tm y)) → ∀ h', RW h' tm S → ExM h h' → h' 135 15 = h 135 15 → h' 135 17 = h 135 17 → Q (-5) h')
    (H3 : Sat (Snd S (tm x) (tm y)) → FixS S (Snd S (tm x) (tm y)) V (h 135 18) → ∀ h', RW h' tm S → ExM h h' → h' 135 15 = h 135 15 → h' 135 17 = h 135 17 → Q (-6) h') :
    Go d M_Mo_united 0 [(22, 135), (0, x), (0, y), (2, 0)] [] h Q := by
  refine N_Mo_united_0 ⟨by omega, c_holds (by omega) R.1.1 ⟨by omega, ?_⟩⟩
  have ge : ∀ a i, a ≠ 143 → a ≠ 144 → (setR (setR h 143 (h 135 14) (h 135 15) (h 141)) 144 (h 135 14) (h 135 15) (fsF h)) a i = h a i := fun a i p q => by rw [setR_ne q, setR_ne p]
  have g43 : ∀ i, h 135 14 ≤ i → i < h 135 15 → (setR (setR h 143 (h 135 14) (h 135 15) (h 141)) 144 (h 135 14) (h 135 15) (fsF h)) 143 i = h 141 i ∧ (setR (setR h 143 (h 135 14) (h 135 15) (h 141)) 144 (h 135 14) (h 135 15) (fsF h)) 144 i = fsF h i := fun i a b => ⟨by rw [setR_ne (by decide), setR_in a b], setR_in a b⟩
  generalize setR (setR h 143 (h 135 14) (h 135 15) (h 141)) 144 (h 135 14) (h 135 15) (fsF h) = g at *
  have Rg : RW g tm S := RW_scr (fun a i q => ge a i (by omega) (by omega)) R
  have Xg : ExM h g := SmC_ExM ⟨fun a i q => ge a i (by omega) (by omega), fun i _ => ⟨ge _ _ (by decide) (by decide), ge _ _ (by decide) (by decide)⟩⟩
  have f : ∀ i, g 135 i = h 135 i := fun i => ge 135 i (by decide) (by decide)
  refine c_equated (tm := tm) (S := S) (by omega) Rg (by rw [f, f]; exact hx) (by rw [f, f]; exact hy) (fun e => ?_) (fun ne sat k Rk Xk k15 k17 k43 r hr r0 => ?_) (fun ns k Rk Xk k15 k17 => ?_)
  · have iff : ∀ θ, Snd S (tm x) (tm y) θ ↔ S θ := fun θ => ⟨fun q => q.1, fun q => ⟨q, e θ q⟩⟩
    refine ⟨fun _ => H1 ?_ (Fix_same iff) g (RW_iff Rg iff) Xg (f 15) 0 ?_ (Int.le_refl _) (fun _ => ⟨f 17, e⟩) (fun q => absurd q (by decide)), fun q => absurd q (by decide)⟩
    · obtain ⟨θ, q⟩ := R.2.1
      exact ⟨θ, (iff θ).mpr q⟩
    · rw [ncl_congr (tm' := tm) (fun _ _ _ => rfl) iff]; omega
  · rw [f, f] at hr
    have Xhk : ExM h k := ExM_trans Xg Xk
    have a14 : k 135 14 = h 135 14 := Xhk.1 14 (by decide) (by decide)
    have a15 : k 135 15 = h 135 15 := by rw [k15, f]
    have a17 : k 135 17 = h 135 17 + 1 := by rw [k17, f]
    have fi := Fix_iff (k := k) R Rk hV a14 a15 (fun i q => (Xhk.2.2.2.1 i q).1) (fun i q1 q2 => by rw [(k43 i).1, (k43 i).2]; exact g43 i q1 q2)
    refine ⟨fun q => by omega, fun _ => ⟨by omega, c_isFixed (by omega) Rk.1.1 (fun q => ⟨fun z => absurd z (by decide), fun _ => ⟨by omega, ?_⟩⟩) (fun q => ⟨fun _ => ?_, fun z => absurd rfl z⟩)⟩⟩
    · rw [a14, a15] at q
      exact c_unequal (by omega) R Xhk a15 a17 (fun h'' R2 X2 b15 b17 => H3 sat (fi.mp q) h'' R2 X2 b15 b17)
    · rw [a14, a15] at q
      exact H1 sat (fun z => q (fi.mpr z)) k Rk Xhk a15 r hr (by omega) (fun z => by omega) (fun _ => a17)
  · refine ⟨fun _ => H2 ns k Rk (ExM_trans Xg Xk) (by rw [k15, f]) (by rw [k17, f]), fun q => absurd q (by decide)⟩
end
