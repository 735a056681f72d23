section
def upT (tm : Int → Tm) (k : Int) (t : Tm) : Int → Tm := fun x => if x = k then t else tm x
theorem upT_eq {tm : Int → Tm} {k : Int} {t : Tm} : upT tm k t k = t := if_pos rfl
theorem upT_ne {tm : Int → Tm} {k x : Int} {t : Tm} (h : x ≠ k) : upT tm k t x = tm x := if_neg h
/-- a node with this head and these arguments -/
def isN (h : HP) (k a b i : Int) : Prop := h 137 i = k ∧ (2 ≤ k → h 138 i = a) ∧ (k = 2 → h 139 i = b)
theorem c_found {d : Nat} {k a b : Int} {h : HP} {Q : PQ} (hd : 1 < d) (h0 : 0 ≤ h 135 14) (h00 : h 135 14 ≤ h 135 15) (h1 : h 135 15 ≤ 1000) (hk : 0 ≤ k)
    (H1 : k < 7 → ∀ i, h 135 14 ≤ i → i < h 135 15 → isN h k a b i → (∀ j, h 135 14 ≤ j → j < i → ¬ isN h k a b j) → Q i h) (H0 : (7 ≤ k ∨ ∀ i, h 135 14 ≤ i → i < h 135 15 → ¬ isN h k a b i) → Q (-1) h) :
    Go d M_Mo_found 0 [(22, 135), (0, k), (0, a), (0, b), (2, 0), (2, 0), (2, 0), (2, 0)] [] h Q := by
  refine N_Mo_found_0 ⟨by omega, c_parts (by omega) ?_⟩
  have ab := ari_bd k
  have loop : ∀ (r : Int) (w : AV), ((r = -1 ∧ ∀ i, h 135 14 ≤ i → i < h 135 14 → ¬ isN h k a b i) ∨ (k < 7 ∧ h 135 14 ≤ r ∧ r < h 135 15 ∧ isN h k a b r ∧ ∀ j, h 135 14 ≤ j → j < r → ¬ isN h k a b j)) → Go d M_Mo_found 15 [(22, 135), (0, k), (0, a), (0, b), (0, ari k), (0, r), (0, h 135 14), w] [] h Q := by
    refine up_loop (i := h 135 14) (hi := h 135 15) h00 (P := fun n => ∀ (r : Int) (w : AV), ((r = -1 ∧ ∀ i, h 135 14 ≤ i → i < n → ¬ isN h k a b i) ∨ (k < 7 ∧ h 135 14 ≤ r ∧ r < h 135 15 ∧ isN h k a b r ∧ ∀ j, h 135 14 ≤ j → j < r → ¬ isN h k a b j)) → Go d M_Mo_found 15 [(22, 135), (0, k), (0, a), (0, b), (0, ari k), (0, r), (0, n), w] [] h Q) ?_ ?_
    · intro r w q
      refine N_Mo_found_15 ⟨fun _ => ?_, fun w => by omega⟩
      rcases q with ⟨q0, q1⟩ | ⟨z, q0, q1, q2, q3⟩
      · subst q0; exact H0 (Or.inr q1)
      · exact H1 z r q0 q1 q2 q3
    · intro n n1 n2 ih r w q
      have no : ¬ isN h k a b n → r = -1 → ∀ w, Go d M_Mo_found 15 [(22, 135), (0, k), (0, a), (0, b), (0, ari k), (0, r), (0, n + 1), w] [] h Q := by
        intro z zr w
        refine ih r w ?_
        rcases q with ⟨q0, q1⟩ | ⟨z7, q0, q1, q2, q3⟩
        · refine Or.inl ⟨q0, fun i i1 i2 => ?_⟩
          by_cases y : i = n
          · subst y; exact z
          · exact q1 i i1 (by omega)
        · omega
      have yes : k < 7 → isN h k a b n → r = -1 → ∀ w, Go d M_Mo_found 15 [(22, 135), (0, k), (0, a), (0, b), (0, ari k), (0, n), (0, n + 1), w] [] h Q := by
        intro z8 z zr w
        refine ih n w (Or.inr ⟨z8, n1, n2, z, ?_⟩)
        rcases q with ⟨q0, q1⟩ | ⟨z7, q0, q1, q2, q3⟩
        · exact q1
        · omega
      refine N_Mo_found_15 ⟨fun w => by omega, fun _ => ⟨fun z => ?_, fun z => ⟨fun u => ?_, fun u => ⟨⟨by omega, by omega⟩, fun t => ⟨by unfold r32; omega, no (fun y => t y.1) u _⟩, fun t => ⟨fun s => ⟨fun s2 => ⟨by unfold r32; omega, yes z ⟨t, ?_, ?_⟩ u _⟩, fun s2 => by omega⟩, fun s => ⟨⟨by omega, by omega⟩, fun y => ⟨by unfold r32; omega, no (fun x => y (x.2.1 (ari_ge1 (by omega)).1)) u _⟩, fun y => ⟨fun s2 => ⟨by unfold r32; omega, yes z ⟨t, fun _ => y, ?_⟩ u _⟩, fun s2 => ⟨⟨by omega, by omega⟩, fun x => ⟨by unfold r32; omega, no (fun v => x (v.2.2 (ari_ge2 (by omega)))) u _⟩, fun x => ⟨by unfold r32; omega, yes z ⟨t, fun _ => y, fun _ => x⟩ u _⟩⟩⟩⟩⟩⟩⟩⟩⟩
      · rcases q with ⟨q0, q1⟩ | ⟨z7, q0, q1, q2, q3⟩
        · subst q0; exact H0 (Or.inl z)
        · omega
      · rcases q with ⟨q0, q1⟩ | ⟨z7, q0, q1, q2, q3⟩
        · exact absurd q0 u
        · exact H1 z r q0 q1 q2 q3
      · intro p
        rcases Int.lt_or_le k 3 with v | v
        · rw [ari_2 (by omega)] at s; omega
        · rw [ari_1 v (by omega)] at s; omega
      · intro p; rw [ari_2 p] at s; omega
      · intro p; rw [ari_2 p] at s2; omega
  exact loop (-1) _ (Or.inl ⟨rfl, fun i a b => by omega⟩)
theorem c_makes {d : Nat} {k a b : Int} {t : Tm} {tm : Int → Tm} {S : Sx} {h : HP} {Q : PQ} (hd : 5 < d) (R : RW h tm S) (hk : 0 ≤ k ∧ k ≤ 8) (ha : 2 ≤ k → k ≤ 6 → h 135 14 ≤ a ∧ a < h 135 15) (hb : k = 2 → h 135 14 ≤ b ∧ b < h 135 15) (hr : h 135 15 < 1000) (h18 : 0 ≤ h 135 18 ∧ h 135 18 ≤ 99)
    (ht : k ≤ 6 → t = mkT k (tm a) (tm b)) (ht7 : 7 ≤ k → ∃ n, t = tV n ∧ ∀ x, h 135 14 ≤ x → x < h 135 15 → 7 ≤ h 137 x → tm x ≠ tV n)
    (H1 : k < 7 → ∀ i, h 135 14 ≤ i → i < h 135 15 → h 137 i = k → (2 ≤ k → h 138 i = a) → (k = 2 → h 139 i = b) → tm i = t → Q i h)
    (H2 : (k < 7 → ∀ i, h 135 14 ≤ i → i < h 135 15 → ¬ isN h k a b i) → ∀ h', RW h' (upT tm (h 135 15) t) S → ExM h h' → h' 135 15 = h 135 15 + 1 → h' 135 17 = h 135 17 → h' 137 (h 135 15) = k → h' 138 (h 135 15) = a → h' 139 (h 135 15) = b → h' 140 (h 135 15) = h 135 18 → Q (h 135 15) h') :
    Go d M_Mo_makes 0 [(22, 135), (0, k), (0, a), (0, b), (2, 0)] [] h Q := by
  have B := RC_SB R.1
  obtain ⟨⟨b1, b2, b3⟩, W, p, ⟨e0, e1, e2, e3⟩, U⟩ := B
  have tmN : ∀ i, h 135 14 ≤ i → i < h 135 15 → k < 7 → isN h k a b i → tm i = t := by
    intro i i1 i2 k7 q
    rw [(W.1 i i1 i2).2.2.2.1 (by rw [q.1]; omega), ht (by omega), q.1]
    exact mkT_congr hk.1 (fun z => by rw [q.2.1 z]) (fun z => by rw [q.2.2 z])
  refine N_Mo_makes_0 ⟨by omega, c_found (by omega) b1 b2 b3 hk.1 (fun k7 i i1 i2 q _ => ⟨fun z => by omega, fun _ => H1 k7 i i1 i2 q.1 q.2.1 q.2.2 (tmN i i1 i2 k7 q)⟩) (fun q => ⟨fun _ => ⟨⟨by omega, by omega⟩, ?_⟩, fun z => absurd rfl z⟩)⟩
  have none : k < 7 → ∀ i, h 135 14 ≤ i → i < h 135 15 → ¬ isN h k a b i := by
    intro k7
    rcases q with q | q
    · omega
    · exact q
  rintro g2 rfl
  rw [up2_nc (show (135 : Int) ≠ 137 by decide)]
  refine ⟨⟨by omega, by omega⟩, ?_⟩
  rintro g3 rfl
  rw [up2_nc (show (135 : Int) ≠ 138 by decide), up2_nc (show (135 : Int) ≠ 137 by decide)]
  refine ⟨⟨by omega, by omega⟩, ?_⟩
  rintro g4 rfl
  rw [up2_nc (show (135 : Int) ≠ 139 by decide), up2_nc (show (135 : Int) ≠ 138 by decide), up2_nc (show (135 : Int) ≠ 137 by decide), up2_nc (show (135 : Int) ≠ 139 by decide), up2_nc (show (135 : Int) ≠ 138 by decide), up2_nc (show (135 : Int) ≠ 137 by decide)]
  refine ⟨⟨by omega, by omega⟩, ?_⟩
  rintro g5 rfl
  rw [up2_nc (show (135 : Int) ≠ 140 by decide), up2_nc (show (135 : Int) ≠ 139 by decide), up2_nc (show (135 : Int) ≠ 138 by decide), up2_nc (show (135 : Int) ≠ 137 by decide)]
  refine ⟨by unfold r32; omega, ?_⟩
  intro g6 hg6
  have f : ∀ i, i ≠ 15 → g6 135 i = h 135 i := by
    intro i q
    rw [hg6, up2_ni q, up2_nc (by decide), up2_nc (by decide), up2_nc (by decide), up2_nc (by decide)]
  have f15 : g6 135 15 = h 135 15 + 1 := by rw [hg6, up2_eq]
  have row : ∀ x i, i ≠ h 135 15 → x ≠ 135 → g6 x i = h x i := by
    intro x i q z
    rw [hg6, up2_nc z, up2_ni q, up2_ni q, up2_ni q, up2_ni q]
  have oth : ∀ x i, x ≠ 135 → x ≠ 137 → x ≠ 138 → x ≠ 139 → x ≠ 140 → g6 x i = h x i := by
    intro x i q1 q2 q3 q4 q5
    rw [hg6, up2_nc q1, up2_nc q5, up2_nc q4, up2_nc q3, up2_nc q2]
  have n137 : g6 137 (h 135 15) = k := by rw [hg6, up2_nc (by decide), up2_nc (by decide), up2_nc (by decide), up2_nc (by decide), up2_eq]
  have n138 : g6 138 (h 135 15) = a := by rw [hg6, up2_nc (by decide), up2_nc (by decide), up2_nc (by decide), up2_eq]
  have n139 : g6 139 (h 135 15) = b := by rw [hg6, up2_nc (by decide), up2_nc (by decide), up2_eq]
  have n140 : g6 140 (h 135 15) = h 135 18 := by rw [hg6, up2_nc (by decide), up2_eq]
  clear hg6
  have old : ∀ x, x < h 135 15 → g6 137 x = h 137 x ∧ g6 138 x = h 138 x ∧ g6 139 x = h 139 x ∧ g6 140 x = h 140 x := fun x q => ⟨row 137 x (by omega) (by decide), row 138 x (by omega) (by decide), row 139 x (by omega) (by decide), row 140 x (by omega) (by decide)⟩
  have tmo : ∀ x, x < h 135 15 → upT tm (h 135 15) t x = tm x := fun x q => upT_ne (by omega)
  have W6 : Wst (h 135 14) (h 135 15 + 1) (g6 137) (g6 138) (g6 139) (upT tm (h 135 15) t) := by
    constructor
    · intro x x1 x2
      by_cases z : x = h 135 15
      · subst z
        rw [n137, n138, n139, upT_eq]
        refine ⟨hk, ha, hb, fun z => ?_, fun z => ?_⟩
        · refine (ht z).trans ?_
          exact mkT_congr hk.1 (fun v => by rw [tmo a (by have := ha v z; omega)]) (fun v => by rw [tmo b (by have := hb v; omega)])
        · obtain ⟨n, q, _⟩ := ht7 z
          exact ⟨n, q⟩
      · have o := old x (by omega)
        have w := W.1 x x1 (by omega)
        rw [o.1, o.2.1, o.2.2.1, tmo x (by omega)]
        refine ⟨w.1, w.2.1, w.2.2.1, fun v => ?_, w.2.2.2.2⟩
        rw [w.2.2.2.1 v]
        exact mkT_congr w.1.1 (fun u => by rw [tmo _ (by have := w.2.1 u v; omega)]) (fun u => by rw [tmo _ (by have := w.2.2.1 u; omega)])
    · intro x y x1 x2 y1 y2 hx hy e
      by_cases zx : x = h 135 15 <;> by_cases zy : y = h 135 15
      · omega
      · subst zx
        rw [n137] at hx
        rw [(old y (by omega)).1] at hy
        rw [upT_eq, tmo y (by omega)] at e
        obtain ⟨n, q, q2⟩ := ht7 hx
        exact absurd (e.symm.trans q) (q2 y y1 (by omega) hy)
      · subst zy
        rw [n137] at hy
        rw [(old x (by omega)).1] at hx
        rw [upT_eq, tmo x (by omega)] at e
        obtain ⟨n, q, q2⟩ := ht7 hy
        exact absurd (e.trans q) (q2 x x1 (by omega) hx)
      · rw [(old x (by omega)).1] at hx
        rw [(old y (by omega)).1] at hy
        rw [tmo x (by omega), tmo y (by omega)] at e
        exact W.2 x y x1 (by omega) y1 (by omega) hx hy e
  have B6 : SB g6 (upT tm (h 135 15) t) := by
    unfold SB EqIn
    rw [f 14 (by decide), f 16 (by decide), f 17 (by decide), f15]
    refine ⟨⟨b1, by omega, by omega⟩, W6, fun x x1 x2 => ?_, ⟨e0, e1, e2, fun e q1 q2 => ?_⟩, fun x y x1 x2 y1 y2 q1 q2 q3 q4 => ?_⟩
    · by_cases z : x = h 135 15
      · subst z; rw [n140]; exact h18
      · rw [(old x (by omega)).2.2.2]; exact p x x1 (by omega)
    · rw [oth 146 e (by decide) (by decide) (by decide) (by decide) (by decide), oth 147 e (by decide) (by decide) (by decide) (by decide) (by decide)]
      have := e3 e q1 q2
      omega
    · by_cases zx : x = h 135 15 <;> by_cases zy : y = h 135 15
      · omega
      · subst zx
        rw [n137] at q1 q2 q3 q4
        rw [(old y (by omega)).1] at q1
        rw [n138, (old y (by omega)).2.1] at q3
        rw [n139, (old y (by omega)).2.2.1] at q4
        exact absurd ⟨q1.symm, fun z => (q3 z).symm, fun z => (q4 z).symm⟩ (none q2 y y1 (by omega))
      · subst zy
        rw [n137] at q1
        rw [(old x (by omega)).1] at q1 q2 q3 q4
        rw [n138, (old x (by omega)).2.1] at q3
        rw [n139, (old x (by omega)).2.2.1] at q4
        rw [q1] at q2 q3 q4
        exact absurd ⟨q1, q3, q4⟩ (none q2 x x1 (by omega))
      · rw [(old x (by omega)).1] at q1 q2 q3 q4
        rw [(old y (by omega)).1] at q1
        rw [(old x (by omega)).2.1, (old y (by omega)).2.1] at q3
        rw [(old x (by omega)).2.2.1, (old y (by omega)).2.2.1] at q4
        exact U x y x1 (by omega) y1 (by omega) q1 q2 q3 q4
  have S6 : ∀ θ, S θ ↔ SolR g6 (upT tm (h 135 15) t) θ := by
    intro θ
    refine (R.1.2.2.1 θ).trans ?_
    unfold SolR
    rw [f 16 (by decide), f 17 (by decide)]
    have key : ∀ e, h 135 16 ≤ e → e < h 135 17 → upT tm (h 135 15) t (g6 146 e) = tm (h 146 e) ∧ upT tm (h 135 15) t (g6 147 e) = tm (h 147 e) := by
      intro e q1 q2
      have := e3 e q1 q2
      rw [oth 146 e (by decide) (by decide) (by decide) (by decide) (by decide), oth 147 e (by decide) (by decide) (by decide) (by decide) (by decide)]
      exact ⟨tmo _ (by omega), tmo _ (by omega)⟩
    exact ⟨fun q e q1 q2 => by rw [(key e q1 q2).1, (key e q1 q2).2]; exact q e q1 q2, fun q e q1 q2 => by have := q e q1 q2; rw [(key e q1 q2).1, (key e q1 q2).2] at this; exact this⟩
  refine ⟨by omega, c_classedR (by omega) B6 (fun k2 Rk Sk => ?_)⟩
  have k1 : ∀ i, k2 135 i = g6 135 i := fun i => Sk.1 135 i (by decide) (by decide)
  have n15 : k2 135 15 = h 135 15 + 1 := by rw [k1, f15]
  have nc : ncl (upT tm (h 135 15) t) S (h 135 14) (h 135 15 + 1) ≤ ncl tm S (h 135 14) (h 135 15) + 1 := by
    have c0 : ncl (upT tm (h 135 15) t) S (h 135 14) (h 135 15) = ncl tm S (h 135 14) (h 135 15) := ncl_congr (fun x _ q => tmo x q) (fun _ => Iff.rfl)
    rcases Classical.em (∀ y, h 135 14 ≤ y → y < h 135 15 → ¬ EqS S (upT tm (h 135 15) t y) (upT tm (h 135 15) t (h 135 15))) with z | z
    · have := cnt_st (p := fun x => ∀ y, h 135 14 ≤ y → y < x → ¬ EqS S (upT tm (h 135 15) t y) (upT tm (h 135 15) t x)) b2 z
      unfold ncl at *
      omega
    · have := cnt_sf (p := fun x => ∀ y, h 135 14 ≤ y → y < x → ¬ EqS S (upT tm (h 135 15) t y) (upT tm (h 135 15) t x)) b2 z
      unfold ncl at *
      omega
  rw [n15]
  refine ⟨by unfold r32; omega, ?_⟩
  rw [show h 135 15 + 1 - 1 = h 135 15 by omega]
  refine H2 none k2 ⟨RC_iff Rk S6, R.2.1, ?_, ?_⟩ ⟨?_, ?_, ?_, ?_, ?_, ?_, ?_, ?_⟩ n15 (by rw [k1, f 17 (by decide)]) ?_ ?_ ?_ ?_
  · rw [k1, k1, f 16 (by decide), f 14 (by decide)]; exact R.2.2.1
  · rw [n15, k1, k1, k1, f 16 (by decide), f 14 (by decide), f 17 (by decide)]; have := R.2.2.2; omega
  · intro i q _; rw [k1, f i q]
  · omega
  · rw [k1, f 17 (by decide)]; omega
  · intro i q
    rw [Sk.1 137 i (by decide) (by decide), Sk.1 138 i (by decide) (by decide), Sk.1 139 i (by decide) (by decide), Sk.1 140 i (by decide) (by decide)]
    exact old i q
  · intro i q
    rw [Sk.1 146 i (by decide) (by decide), Sk.1 147 i (by decide) (by decide)]
    exact ⟨oth _ _ (by decide) (by decide) (by decide) (by decide) (by decide), oth _ _ (by decide) (by decide) (by decide) (by decide) (by decide)⟩
  · intro i q
    rw [Sk.1 148 i (by decide) (by decide), Sk.1 149 i (by decide) (by decide)]
    exact ⟨oth _ _ (by decide) (by decide) (by decide) (by decide) (by decide), oth _ _ (by decide) (by decide) (by decide) (by decide) (by decide)⟩
  · intro x i q
    rw [Sk.1 x i (by omega) (by omega)]
    exact oth _ _ (by omega) (by omega) (by omega) (by omega) (by omega)
  · intro i q
    have := Sk.2 i (by rw [f 14 (by decide)]; exact q)
    rw [this.1, this.2]
    exact ⟨oth _ _ (by decide) (by decide) (by decide) (by decide) (by decide), oth _ _ (by decide) (by decide) (by decide) (by decide) (by decide)⟩
  · rw [Sk.1 137 _ (by decide) (by decide), n137]
  · rw [Sk.1 138 _ (by decide) (by decide), n138]
  · rw [Sk.1 139 _ (by decide) (by decide), n139]
  · rw [Sk.1 140 _ (by decide) (by decide), n140]
/-! branches -/
def brH (h : HP) : HP := up2 (up2 (up2 h 148 (h 135 19 + h 135 18) (h 135 15)) 149 (h 135 19 + h 135 18) (h 135 17)) 135 18 (h 135 18 + 1)
theorem brH_o {h : HP} {a i : Int} (q1 : a ≠ 148) (q2 : a ≠ 149) (q3 : ¬ (a = 135 ∧ i = 18)) : brH h a i = h a i := by
  unfold brH
  rw [up2_ext q3, up2_nc q2, up2_nc q1]
theorem RW_brH {h : HP} {tm : Int → Tm} {S : Sx} (R : RW h tm S) : RW (brH h) tm S := by
  have f : ∀ i, i ≠ 18 → brH h 135 i = h 135 i := fun i q => brH_o (by decide) (by decide) (fun z => q z.2)
  have r : ∀ a, a ≠ 135 → a ≠ 148 → a ≠ 149 → brH h a = h a := fun a q1 q2 q3 => funext fun i => brH_o q2 q3 (fun z => q1 z.1)
  unfold RW RC RB EqIn SolR at *
  rw [f 14 (by decide), f 15 (by decide), f 16 (by decide), f 17 (by decide), r 137 (by decide) (by decide) (by decide), r 138 (by decide) (by decide) (by decide), r 139 (by decide) (by decide) (by decide), r 140 (by decide) (by decide) (by decide), r 141 (by decide) (by decide) (by decide), r 142 (by decide) (by decide) (by decide), r 146 (by decide) (by decide) (by decide), r 147 (by decide) (by decide) (by decide)]
  exact R
theorem c_branches {d : Nat} {h : HP} {Q : PQ} (h1 : 0 ≤ h 135 19 + h 135 18) (h2 : h 135 19 + h 135 18 < 80) (h18 : 0 ≤ h 135 18 ∧ h 135 18 ≤ 99) (H : Q 0 (brH h)) : Go d M_Mo_branches 0 [(22, 135)] [] h Q := by
  refine N_Mo_branches_0 ⟨by unfold r32; omega, ⟨by omega, by omega⟩, ?_⟩
  rintro g1 rfl
  rw [up2_nc (show (135 : Int) ≠ 148 by decide), up2_nc (show (135 : Int) ≠ 148 by decide), up2_nc (show (135 : Int) ≠ 148 by decide)]
  refine ⟨by unfold r32; omega, ⟨by omega, by omega⟩, ?_⟩
  rintro g2 rfl
  rw [up2_nc (show (135 : Int) ≠ 149 by decide), up2_nc (show (135 : Int) ≠ 148 by decide)]
  refine ⟨by unfold r32; omega, ?_⟩
  rintro g3 rfl
  exact H
theorem c_unbranches {d : Nat} {tm : Int → Tm} {S : Sx} {h0 h : HP} {Q : PQ} (hd : 5 < d) (R : RW h0 tm S) (m1 : 0 ≤ h0 135 19 + h0 135 18) (m2 : h0 135 19 + h0 135 18 < 80) (h18 : 0 ≤ h0 135 18 ∧ h0 135 18 ≤ 99) (X : ExM (brH h0) h) (hh : h 135 15 ≤ 1000)
    (H : ∀ h', RW h' tm S → ExM h0 h' → h' 135 15 = h0 135 15 → h' 135 17 = h0 135 17 → Q (h 135 15 - h0 135 15) h') : Go d M_Mo_unbranches 0 [(22, 135), (2, 0)] [] h Q := by
  obtain ⟨x1, x2, x3, x4, x5, x6, x7, x8⟩ := X
  have f0 : ∀ i, i ≠ 18 → brH h0 135 i = h0 135 i := fun i q => brH_o (by decide) (by decide) (fun z => q z.2)
  have b18 : brH h0 135 18 = h0 135 18 + 1 := up2_eq
  have b148 : brH h0 148 (h0 135 19 + h0 135 18) = h0 135 15 := by unfold brH; rw [up2_nc (by decide), up2_nc (by decide), up2_eq]
  have b149 : brH h0 149 (h0 135 19 + h0 135 18) = h0 135 17 := by unfold brH; rw [up2_nc (by decide), up2_eq]
  have e18 : h 135 18 = h0 135 18 + 1 := by rw [x1 18 (by decide) (by decide), b18]
  have e19 : h 135 19 = h0 135 19 := by rw [x1 19 (by decide) (by decide), f0 19 (by decide)]
  have e14 : h 135 14 = h0 135 14 := by rw [x1 14 (by decide) (by decide), f0 14 (by decide)]
  have e16 : h 135 16 = h0 135 16 := by rw [x1 16 (by decide) (by decide), f0 16 (by decide)]
  have y6 := x6 (h0 135 19 + h0 135 18) (by rw [f0 19 (by decide), b18]; omega)
  rw [b148, b149] at y6
  rw [f0 15 (by decide)] at x2 x4
  rw [f0 17 (by decide)] at x3 x5
  rw [f0 14 (by decide)] at x8
  have B := RC_SB R.1
  obtain ⟨⟨a, b, c⟩, W, p, ⟨e0, e1, e2, e3⟩, U⟩ := B
  refine N_Mo_unbranches_0 ⟨by unfold r32; omega, ?_⟩
  intro g1 hg1
  have q1 : ∀ i, i ≠ 18 → g1 135 i = h 135 i := fun i q => by rw [hg1, up2_ni q]
  have q18 : g1 135 18 = h0 135 18 := by rw [hg1, up2_eq]; omega
  have q2 : ∀ x i, x ≠ 135 → g1 x i = h x i := fun x i q => by rw [hg1, up2_nc q]
  clear hg1
  rw [q18, q1 19 (by decide), q1 15 (by decide), q2 148 _ (by decide), e19, y6.1]
  refine ⟨by unfold r32; omega, ⟨by omega, by omega⟩, by unfold r32; omega, by unfold r32; omega, ⟨by omega, by omega⟩, ?_⟩
  intro g2 hg2
  have r1 : ∀ i, i ≠ 15 → g2 135 i = g1 135 i := fun i q => by rw [hg2, up2_ni q]
  have r15 : g2 135 15 = h0 135 15 := by rw [hg2, up2_eq]
  have r2 : ∀ x i, x ≠ 135 → g2 x i = h x i := fun x i q => by rw [hg2, up2_nc q, q2 x i q]
  clear hg2
  rw [r1 19 (by decide), r1 18 (by decide), q18, q1 19 (by decide), e19, r2 149 _ (by decide), y6.2]
  refine ⟨by unfold r32; omega, ⟨by omega, by omega⟩, ?_⟩
  intro g3 hg3
  have s1 : ∀ i, i ≠ 17 → i ≠ 15 → i ≠ 18 → g3 135 i = h0 135 i := fun i q q' q'' => by rw [hg3, up2_ni q, r1 i q', q1 i q'', x1 i q' q, f0 i q'']
  have s15 : g3 135 15 = h0 135 15 := by rw [hg3, up2_ni (by decide), r15]
  have s17 : g3 135 17 = h0 135 17 := by rw [hg3, up2_eq]
  have s18 : g3 135 18 = h0 135 18 := by rw [hg3, up2_ni (by decide), r1 18 (by decide), q18]
  have s2 : ∀ x i, x ≠ 135 → g3 x i = h x i := fun x i q => by rw [hg3, up2_nc q, r2 x i q]
  clear hg3
  have sAll : ∀ i, g3 135 i = h0 135 i := by
    intro i
    by_cases z1 : i = 17
    · rw [z1, s17]
    · by_cases z2 : i = 15
      · rw [z2, s15]
      · by_cases z3 : i = 18
        · rw [z3, s18]
        · exact s1 i z1 z2 z3
  have n4 : ∀ x, x < h0 135 15 → g3 137 x = h0 137 x ∧ g3 138 x = h0 138 x ∧ g3 139 x = h0 139 x ∧ g3 140 x = h0 140 x := by
    intro x hx
    rw [s2 137 x (by decide), s2 138 x (by decide), s2 139 x (by decide), s2 140 x (by decide)]
    have := x4 x hx
    rw [brH_o (by decide) (by decide) (by omega), brH_o (by decide) (by decide) (by omega), brH_o (by decide) (by decide) (by omega), brH_o (by decide) (by decide) (by omega)] at this
    exact this
  have n5 : ∀ e, e < h0 135 17 → g3 146 e = h0 146 e ∧ g3 147 e = h0 147 e := by
    intro e he
    rw [s2 146 e (by decide), s2 147 e (by decide)]
    have := x5 e he
    rw [brH_o (by decide) (by decide) (by omega), brH_o (by decide) (by decide) (by omega)] at this
    exact this
  have SBg : SB g3 tm := by
    unfold SB EqIn
    rw [sAll 14, sAll 15, sAll 16, sAll 17]
    refine ⟨⟨a, b, c⟩, ⟨fun x q1 q2 => ?_, fun x y q1 q2 q3 q4 q5 q6 q7 => ?_⟩, fun x q1 q2 => ?_, ⟨e0, e1, e2, fun e q1 q2 => ?_⟩, fun x y q1 q2 q3 q4 q5 q6 q7 q8 => ?_⟩
    · obtain ⟨y1, y2, y3, y4⟩ := n4 x q2
      rw [y1, y2, y3]; exact W.1 x q1 q2
    · rw [(n4 x q2).1] at q5
      rw [(n4 y q4).1] at q6
      exact W.2 x y q1 q2 q3 q4 q5 q6 q7
    · rw [(n4 x q2).2.2.2]; exact p x q1 q2
    · rw [(n5 e q2).1, (n5 e q2).2]; exact e3 e q1 q2
    · rw [(n4 x q2).1] at q5 q6 q7 q8
      rw [(n4 y q4).1] at q5
      rw [(n4 x q2).2.1, (n4 y q4).2.1] at q7
      rw [(n4 x q2).2.2.1, (n4 y q4).2.2.1] at q8
      exact U x y q1 q2 q3 q4 q5 q6 q7 q8
  have Se : ∀ θ, S θ ↔ SolR g3 tm θ := by
    intro θ
    refine (R.1.2.2.1 θ).trans ?_
    unfold SolR
    rw [sAll 16, sAll 17]
    exact ⟨fun q e q1 q2 => by rw [(n5 e q2).1, (n5 e q2).2]; exact q e q1 q2, fun q e q1 q2 => by have := q e q1 q2; rw [(n5 e q2).1, (n5 e q2).2] at this; exact this⟩
  refine ⟨by omega, c_classedR (by omega) SBg (fun k Rk Sk => ?_)⟩
  have k1 : ∀ i, k 135 i = h0 135 i := fun i => by rw [Sk.1 135 i (by decide) (by decide), sAll]
  refine H k ⟨RC_iff Rk Se, R.2.1, ?_, ?_⟩ ⟨?_, ?_, ?_, ?_, ?_, ?_, ?_, ?_⟩ (k1 15) (k1 17)
  · rw [k1, k1]; exact R.2.2.1
  · rw [k1, k1, k1, k1]; exact R.2.2.2
  · intro i _ _; exact k1 i
  · rw [k1]; omega
  · rw [k1]; omega
  · intro i q
    rw [Sk.1 137 i (by decide) (by decide), Sk.1 138 i (by decide) (by decide), Sk.1 139 i (by decide) (by decide), Sk.1 140 i (by decide) (by decide)]
    exact n4 i q
  · intro i q
    rw [Sk.1 146 i (by decide) (by decide), Sk.1 147 i (by decide) (by decide)]
    exact n5 i q
  · intro i q
    rw [Sk.1 148 i (by decide) (by decide), Sk.1 149 i (by decide) (by decide), s2 148 i (by decide), s2 149 i (by decide)]
    have := x6 i (by rw [f0 19 (by decide), b18]; omega)
    rw [this.1, this.2]
    unfold brH
    rw [up2_nc (by decide), up2_nc (by decide), up2_ni (by omega), up2_nc (by decide), up2_ni (by omega), up2_nc (by decide)]
    exact ⟨rfl, rfl⟩
  · intro x i q
    rw [Sk.1 x i (by omega) (by omega), s2 x i (by omega), x7 x i q]
    exact brH_o (by omega) (by omega) (by omega)
  · intro i q
    have := Sk.2 i (by rw [sAll]; exact q)
    rw [this.1, this.2, s2 141 i (by decide), s2 142 i (by decide)]
    have := x8 i q
    rw [this.1, this.2]
    exact ⟨brH_o (by decide) (by decide) (by omega), brH_o (by decide) (by decide) (by omega)⟩
end
