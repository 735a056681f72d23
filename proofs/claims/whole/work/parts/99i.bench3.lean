section
theorem c_isFam {d : Nat} {k : Int} {h : HP} {Q : PQ} (H1 : 3 ≤ k → k ≤ 6 → Q 1 h) (H0 : (k < 3 ∨ 6 < k) → Q 0 h) : Go d M_BT_isFamily 0 [(0, k)] [] h Q :=
  V_BT_isFamily_0 ⟨fun w => H0 (Or.inl w), fun w => ⟨fun v => H0 (Or.inr (by omega)), fun v => H1 w (by omega)⟩⟩
theorem c_arity {d : Nat} {k : Int} {h : HP} {Q : PQ} (hd : 0 < d) (H : Q (ari k) h) : Go d M_BT_arityOf 0 [(0, k)] [] h Q := by
  refine V_BT_arityOf_0 ⟨fun w => ⟨hd, c_isFam (fun a b => ⟨fun z => absurd z (by decide), fun _ => ?_⟩) (fun a => ⟨fun _ => ?_, fun z => absurd rfl z⟩)⟩, fun w => ?_⟩
  · rw [ari_1 a b] at H; exact H
  · rw [ari_0 (by omega)] at H; exact H
  · rw [ari_2 w] at H; exact H
theorem c_find {d : Nat} {h : HP} {T R k x y : Int} {Q : PQ} (hT : TR T R) (n0 : 0 ≤ h T 13) (nR : h T 13 ≤ R) (H1 : k < 7 → ∀ i, 0 ≤ i → i < h T 13 → h (T + 3) i = k → h (T + 4) i = x → h (T + 5) i = y → Q i h) (H0 : (7 ≤ k ∨ ∀ i, 0 ≤ i → i < h T 13 → ¬ (h (T + 3) i = k ∧ h (T + 4) i = x ∧ h (T + 5) i = y)) → Q (-1) h) : Go d M_Types_find 0 [(17, T), (0, k), (0, x), (0, y), (2, 0)] [] h Q := by
  have tr := TR_le hT
  refine W_Types_find_0 hT ?_
  have loop : (∀ i, 0 ≤ i → i < 0 → ¬ (h (T + 3) i = k ∧ h (T + 4) i = x ∧ h (T + 5) i = y)) → Go d M_Types_find 3 [(17, T), (0, k), (0, x), (0, y), (0, 0)] [] h Q := by
    refine up_loop (i := 0) (hi := h T 13) n0 (P := fun j => (∀ i, 0 ≤ i → i < j → ¬ (h (T + 3) i = k ∧ h (T + 4) i = x ∧ h (T + 5) i = y)) → Go d M_Types_find 3 [(17, T), (0, k), (0, x), (0, y), (0, j)] [] h Q) ?_ ?_
    · intro no
      exact W_Types_find_3 hT ⟨fun _ => H0 (Or.inr no), fun w => by omega⟩
    · intro j j0 j1 ih no
      have nx : ¬ (h (T + 3) j = k ∧ h (T + 4) j = x ∧ h (T + 5) j = y) → r32 (j + 1) ∧ Go d M_Types_find 3 [(17, T), (0, k), (0, x), (0, y), (0, j + 1)] [] h Q := fun q => ⟨by unfold r32; omega, ih (fun i i0 i1 => by
        by_cases z : i = j
        · rw [z]; exact q
        · exact no i i0 (by omega))⟩
      refine W_Types_find_3 hT ⟨fun w => by omega, fun _ => ⟨fun w => H0 (Or.inl w), fun w => ⟨⟨by omega, by omega⟩, fun z => nx (fun q => z q.1), fun z => ⟨⟨by omega, by omega⟩, fun v => nx (fun q => v q.2.1), fun v => ⟨⟨by omega, by omega⟩, fun u => nx (fun q => u q.2.2), fun u => H1 w j j0 j1 z v u⟩⟩⟩⟩⟩
  exact loop (fun i a b => by omega)
theorem fresh_ex (tm : Int → Tm) (n : Int) : ∃ N : Nat, ∀ x, 0 ≤ x → x < n → ∀ m, tm x = tV m → m < N := by
  rcases Int.lt_or_le n 0 with w | w
  · exact ⟨0, fun x a b => by omega⟩
  · refine up_ind (lo := 0) (P := fun n => ∃ N : Nat, ∀ x, 0 ≤ x → x < n → ∀ m, tm x = tV m → m < N) ⟨0, fun x a b => by omega⟩ ?_ n w
    rintro i i0 ⟨N, hN⟩
    rcases Classical.em (∃ m, tm i = tV m) with ⟨m, hm⟩ | q
    · refine ⟨N + m + 1, fun x a b k hk => ?_⟩
      by_cases z : x = i
      · rw [z, hm] at hk
        have := tV_inj hk
        omega
      · have := hN x a (by omega) k hk
        omega
    · refine ⟨N, fun x a b k hk => ?_⟩
      by_cases z : x = i
      · rw [z] at hk; exact absurd ⟨k, hk⟩ q
      · exact hN x a (by omega) k hk
def upV (V : Vx) (m : Nat) (p : Int × Int) : Vx := fun j => if j = m then p else V j
theorem VOk_new {n k dp : Int} {hd hd' bn bn' : Int → Int} {tm : Int → Tm} {t : Tm} {V : Vx} {m : Nat} (n0 : 0 ≤ n) (hV : VOk 0 n hd bn tm V) (ho : ∀ i, 0 ≤ i → i < n → hd' i = hd i ∧ bn' i = bn i) (hn : hd' n = k ∧ bn' n = dp) (ht : 7 ≤ k → t = tV m) (fr : ∀ x, 0 ≤ x → x < n → tm x ≠ tV m) : ∃ V', VOk 0 (n + 1) hd' bn' (upT tm n t) V' := by
  rcases Int.lt_or_le k 7 with z | z
  · refine ⟨V, fun x x0 x1 x7 => ?_, fun j hj => ?_⟩
    · by_cases y : x = n
      · rw [y, hn.1] at x7; omega
      · obtain ⟨a, b⟩ := ho x x0 (by omega)
        rw [a] at x7 ⊢
        rw [b, upT_ne y]
        exact hV.1 x x0 (by omega) x7
    · obtain ⟨x, x0, x1, x7, xe⟩ := hV.2 j hj
      exact ⟨x, x0, by omega, by rw [(ho x x0 x1).1]; exact x7, by rw [upT_ne (by omega)]; exact xe⟩
  · refine ⟨upV V m (k, dp), fun x x0 x1 x7 => ?_, fun j hj => ?_⟩
    · by_cases y : x = n
      · subst y
        refine ⟨m, by rw [upT_eq]; exact ht z, ?_⟩
        rw [hn.1, hn.2]
        exact if_pos rfl
      · obtain ⟨a, b⟩ := ho x x0 (by omega)
        rw [a] at x7 ⊢
        rw [b, upT_ne y]
        obtain ⟨j, j1, j2⟩ := hV.1 x x0 (by omega) x7
        refine ⟨j, j1, ?_⟩
        rw [← j2]
        exact if_neg (fun e => fr x x0 (by omega) (by rw [j1, e]))
    · by_cases y : j = m
      · exact ⟨n, n0, by omega, by rw [hn.1]; exact z, by rw [upT_eq, y]; exact ht z⟩
      · have hj' : 7 ≤ (V j).1 := by
          have e : upV V m (k, dp) j = V j := if_neg y
          rw [e] at hj
          exact hj
        obtain ⟨x, x0, x1, x7, xe⟩ := hV.2 j hj'
        exact ⟨x, x0, by omega, by rw [(ho x x0 x1).1]; exact x7, by rw [upT_ne (by omega)]; exact xe⟩
/-- both sides have one node more -/
theorem BIx_new {h h1 h2 : HP} {tm : Int → Tm} {t : Tm} {S : Sx} {V : Vx} {c c' : Int → Int} {k : Nat} {hk x y x' y' : Int} {m : Nat} (ck : CH k h) (b : BR h tm S V c) (c0 : h 1 12 = h 150 0) (c1 : h 1 13 = h 150 1) (c2 : h 1 14 = h 150 2) (n59 : h 5 13 < 60) (W1 : CW h1 5 84 (upT tm (h 5 13) t) S c') (X1 : ExC 5 h h1) (e1 : h1 5 13 = h 5 13 + 1) (r3 : h1 (5 + 3) (h 5 13) = hk) (r4 : h1 (5 + 4) (h 5 13) = x') (r5 : h1 (5 + 5) (h 5 13) = y') (r6 : h1 (5 + 6) (h 5 13) = h 5 15)
    (R2 : RW h2 (upT tm (h 5 13) t) S) (X2 : ExM h1 h2) (e2 : h2 135 15 = h 5 13 + 1) (s137 : h2 137 (h 5 13) = hk) (s138 : h2 138 (h 5 13) = x) (s139 : h2 139 (h 5 13) = y) (s140 : h2 140 (h 5 13) = h 5 15) (hx : 2 ≤ hk → hk ≤ 6 → x' = x) (hy : hk = 2 → y' = y) (ht : 7 ≤ hk → t = tV m) (fr : ∀ x, 0 ≤ x → x < h 5 13 → tm x ≠ tV m) : BIx h2 ∧ FrB h h2 := by
  have b' := b
  obtain ⟨W, Rw, hV, ⟨e15, e14, e19, e18, n60, d8⟩, rows⟩ := b
  have n0 := W.1.2.1.2.1
  obtain ⟨x1, x2, x3, x4, x5, x6⟩ := X1
  obtain ⟨y1, y2, y3, y4, y5, y6, y7, y8⟩ := X2
  have m1 : LcM h h1 := ⟨fun i p q => x6 _ _ (by omega), fun a i p q r => x6 _ _ (by omega)⟩
  have l2 : LcC 5 h1 h2 := fun a i p q => y7 a i (by omega)
  have t2 : ∀ i, h2 5 i = h1 5 i := fun i => l2 5 i (by omega) (by omega)
  have EB : ExB 5 h h2 := ExB_loc (LcC_refl 5 _) l2 ⟨x1, x2, x3, x4, x5⟩
  have EN : ExN h h2 := ExN_loc (LcM_symm m1) (LcM_refl _) (ExM_ExN ⟨y1, y2, y3, y4, y5, y6, y7, y8⟩)
  have W2 := CW_loc l2 W1
  have g13 : h2 5 13 = h 5 13 + 1 := by rw [t2, e1]
  have g15 : h2 5 15 = h 5 15 := EB.1.2.2
  have q3 : h2 (5 + 3) (h 5 13) = hk := by rw [l2 _ _ (by omega) (by omega), r3]
  have q4 : h2 (5 + 4) (h 5 13) = x' := by rw [l2 _ _ (by omega) (by omega), r4]
  have q5 : h2 (5 + 5) (h 5 13) = y' := by rw [l2 _ _ (by omega) (by omega), r5]
  have q6 : h2 (5 + 6) (h 5 13) = h 5 15 := by rw [l2 _ _ (by omega) (by omega), r6]
  obtain ⟨V', hV'⟩ := VOk_new (hd' := h2 (5 + 3)) (bn' := h2 (5 + 6)) (t := t) n0 hV (fun i a b => ⟨(EB.2.1 i a b).1, (EB.2.1 i a b).2.2.2⟩) ⟨q3, q6⟩ ht fr
  refine ⟨⟨⟨k, CH_step ck b' EB EN⟩, ⟨upT tm (h 5 13) t, S, V', c', W2, R2, ?_, ?_, ?_⟩, ?_⟩, ⟨fun a i p => ?_, fun i p => ?_, fun i p => ?_⟩⟩
  · rw [g13]; exact hV'
  · rw [g13, g15, e2, EN.1.1, EN.1.2.2.1, EN.1.2.2.2]
    exact ⟨rfl, e14, e19, e18, by omega, d8⟩
  · rw [g13]
    intro z za zb
    by_cases w : z = h 5 13
    · rw [w, q3, q4, q5, q6, s137, s138, s139, s140]
      exact ⟨rfl, rfl, fun a b => (hx a b).symm, fun a => (hy a).symm⟩
    · have r := EB.2.1 z za (by omega)
      have s := EN.2.2.2.1 z (by omega)
      rw [r.1, r.2.1, r.2.2.1, r.2.2.2, s.1, s.2.1, s.2.2.1, s.2.2.2]
      exact rows z za (by omega)
  · rw [y7 1 12 (by omega), y7 1 13 (by omega), y7 1 14 (by omega), y7 150 0 (by omega), y7 150 1 (by omega), y7 150 2 (by omega), x6 1 12 (by omega), x6 1 13 (by omega), x6 1 14 (by omega), x6 150 0 (by omega), x6 150 1 (by omega), x6 150 2 (by omega)]
    exact ⟨c0, c1, c2⟩
  · rw [y7 a i (by omega), x6 a i (by omega)]
  · rw [y7 1 i (by omega), x6 1 i (by omega)]
  · rw [y1 i (by omega) (by omega), x6 135 i (by omega)]
theorem b_made {d : Nat} {h : HP} {k x y : Int} {R : HP → Prop} (hd : 20 < d) (B : BIx h) (H : ∀ h2, BIx h2 → FrB h h2 → R h2) :
    Go d M_BT_made 0 [(21, 1), (0, k), (0, x), (0, y), (2, 0), (2, 0), (2, 0), (2, 0)] [] h (fun r1 h1 => Go d M_Mo_made 0 [(22, 135), (0, k), (0, x), (0, y), (2, 0)] [] h1 (fun r2 h2 => r1 = r2 ∧ R h2)) := by
  have B0 := B
  obtain ⟨⟨kk, ck⟩, ⟨tm, S, V, c, b⟩, c0, c1, c2⟩ := B
  have b' := b
  obtain ⟨W, Rw, hV, ⟨e15, e14, e19, e18, n60, d8⟩, rows⟩ := b
  have n0 := W.1.2.1.2.1
  have hT : TR 5 84 := Or.inl ⟨rfl, rfl⟩
  have hd0 := W.2.2.2.2.2
  have NA := W.2.2.2.1
  -- refused: a wrong argument
  have bad : ¬ (0 ≤ k ∧ k ≤ 8 ∧ (0 < ari k → 0 ≤ x ∧ x < h 5 13) ∧ (1 < ari k → 0 ≤ y ∧ y < h 5 13)) → ∀ g1 : HP, g1 = up2 h 1 12 (w32 (h 1 12 + 1)) → Go d M_Mo_made 0 [(22, 135), (0, k), (0, x), (0, y), (2, 0)] [] g1 (fun r2 h2 => -2 = r2 ∧ R h2) := by
    intro nb g1 hg1
    have f1 : ∀ i, g1 135 i = h 135 i := fun i => by rw [hg1, up2_nc (by decide)]
    have rb := fun {d : Nat} (q : 0 < d) => ref_bad (d := d) B0 H hg1 q
    have f15 := f1 15
    refine N_Mo_made_0 ⟨by omega, c_parts (by omega) ⟨by omega, c_in (fun a b => ⟨fun z => absurd z (by decide), fun _ => ⟨fun z => ?_, fun z => ⟨by omega, c_isType (by omega) (by omega) (by omega) (fun x0 x1 => ⟨fun z => absurd z (by decide), fun _ => ?_⟩) (fun _ => ⟨fun _ => rb (by omega), fun z => absurd rfl z⟩)⟩⟩⟩) (fun a => ⟨fun _ => rb (by omega), fun z => absurd rfl z⟩)⟩⟩
    · exact absurd ⟨a, b, fun q => by omega, fun q => by omega⟩ nb
    · refine N_Mo_made_29 ⟨fun q => absurd ⟨a, b, fun _ => ⟨x0, by omega⟩, fun z => by omega⟩ nb, fun q => ⟨by omega, c_isType (by omega) (by omega) (by omega) (fun y0 y1 => absurd ⟨a, b, fun _ => ⟨x0, by omega⟩, fun _ => ⟨y0, by omega⟩⟩ nb) (fun _ => ⟨fun z => absurd rfl z, fun _ => rb (by omega)⟩)⟩⟩
  -- accepted
  have good : 0 ≤ k → k ≤ 8 → (0 < ari k → 0 ≤ x ∧ x < h 5 13) → (1 < ari k → 0 ≤ y ∧ y < h 5 13) → ∀ x' y', ((0 < ari k ∧ x' = x) ∨ (ari k ≤ 0 ∧ x' = -1)) → ((1 < ari k ∧ y' = y) ∨ (ari k ≤ 1 ∧ y' = -1)) → Go d M_BT_made 87 [(21, 1), (0, k), (0, x), (0, y), (0, ari k), (17, 5), (0, x'), (2, 0)] [(0, y')] h (fun r1 h1 => Go d M_Mo_made 0 [(22, 135), (0, k), (0, x), (0, y), (2, 0)] [] h1 (fun r2 h2 => r1 = r2 ∧ R h2)) := by
    intro k0 k8 hx hy x' y' hx' hy'
    have a2 : 2 ≤ k → k ≤ 6 → 0 < ari k := by
      intro p q
      rcases Int.lt_or_le k 3 with z | z
      · rw [ari_2 (by omega)]; omega
      · rw [ari_1 z q]; omega
    have a3 : k = 2 → 1 < ari k := fun p => by rw [ari_2 p]; omega
    have a4 : (k < 2 ∨ 6 < k) → ari k = 0 := fun p => ari_0 p
    have a5 : k ≠ 2 → ari k ≤ 1 := by
      intro p
      rcases Int.lt_or_le k 3 with z | z
      · rw [ari_0 (by omega)]; omega
      · rcases Int.lt_or_le 6 k with v | v
        · rw [ari_0 (by omega)]; omega
        · rw [ari_1 z v]; omega
    have xx : 2 ≤ k → k ≤ 6 → x' = x := by
      intro p q
      have := a2 p q
      rcases hx' with ⟨_, z⟩ | ⟨z, _⟩
      · exact z
      · omega
    have yy : k = 2 → y' = y := by
      intro p
      have := a3 p
      rcases hy' with ⟨_, z⟩ | ⟨z, _⟩
      · exact z
      · omega
    have nx : (k < 2 ∨ 6 < k) → x' = -1 := by
      intro p
      have := a4 p
      rcases hx' with ⟨z, _⟩ | ⟨_, z⟩
      · omega
      · exact z
    have ny : k ≠ 2 → y' = -1 := by
      intro p
      have := a5 p
      rcases hy' with ⟨z, _⟩ | ⟨_, z⟩
      · omega
      · exact z
    -- the node on both sides
    have nd : ∀ i, 0 ≤ i → i < h 5 13 → k < 7 → ((h (5 + 3) i = k ∧ h (5 + 4) i = x' ∧ h (5 + 5) i = y') ↔ isN h k x y i) := by
      intro i i0 i1 k7
      have r := rows i i0 i1
      have na := NA i i0 i1
      unfold isN
      rw [r.1]
      constructor
      · rintro ⟨q1, q2, q3⟩
        exact ⟨q1, fun z => by rw [r.2.2.1 (by omega) (by omega), q2, xx z (by omega)], fun z => by rw [r.2.2.2 (by omega), q3, yy z]⟩
      · rintro ⟨q1, q2, q3⟩
        refine ⟨q1, ?_, ?_⟩
        · rcases Int.lt_or_le k 2 with z | z
          · rw [nx (Or.inl z)]; exact na.1 (by omega)
          · rw [← r.2.2.1 (by omega) (by omega), q2 z, xx z (by omega)]
        · by_cases z : k = 2
          · rw [← r.2.2.2 (by omega), q3 z, yy z]
          · rw [ny z]; exact na.2 (by omega)
    -- the reference, up to makes
    have ref : ∀ (h1 : HP) (Q : PQ), (∀ i, h1 135 i = h 135 i) → LcM h h1 → ((h 5 13 = 60) → k < 7 ∧ ∃ i, 0 ≤ i ∧ i < h 5 13 ∧ isN h k x y i) → Go (d - 1) M_Mo_makes 0 [(22, 135), (0, k), (0, x), (0, y), (2, 0)] [] h1 Q → Go d M_Mo_made 0 [(22, 135), (0, k), (0, x), (0, y), (2, 0)] [] h1 Q := by
      intro h1 Q f1 m1 hf mk
      have f15 := f1 15
      have f14 := f1 14
      have r7 : Go d M_Mo_made 77 [(22, 135), (0, k), (0, x), (0, y), (0, ari k)] [] h1 Q := N_Mo_made_77 ⟨by omega, mk⟩
      have isn : ∀ i, isN h1 k x y i ↔ isN h k x y i := by
        intro i
        unfold isN
        rw [LcM_row m1 137 (by omega) (by omega) (by omega), LcM_row m1 138 (by omega) (by omega) (by omega), LcM_row m1 139 (by omega) (by omega) (by omega)]
      have fnd : h1 135 15 = 60 → Go (d - 1) M_Mo_found 0 [(22, 135), (0, k), (0, x), (0, y), (2, 0), (2, 0), (2, 0), (2, 0)] [] h1 (fun y1 k1 => (y1 ≠ -1 → Go d M_Mo_made 77 [(22, 135), (0, k), (0, x), (0, y), (0, ari k)] [] k1 Q) ∧ (y1 = -1 → 0 < d ∧ (0 ≤ w32 (-2 - -4) ∧ w32 (-2 - -4) < 3) ∧ (0 ≤ w32 (-2 - -4) ∧ w32 (-2 - -4) < 3) ∧ ∀ g2 : HP, g2 = up2 k1 150 (w32 (-2 - -4)) (w32 (k1 150 (w32 (-2 - -4)) + 1)) → Q (-4) g2)) := by
        intro q
        obtain ⟨k7, i, i0, i1, i2⟩ := hf (by omega)
        refine c_found (by omega) (by omega) (by omega) (by omega) k0 (fun _ j j0 j1 _ _ => ⟨fun _ => r7, fun z => by omega⟩) (fun z => ?_)
        rcases z with z | z
        · omega
        · exact absurd ((isn i).mpr i2) (z i (by omega) (by omega))
      refine N_Mo_made_0 ⟨by omega, c_parts (by omega) ⟨by omega, c_in (fun a b => ⟨fun z => absurd z (by decide), fun _ => ⟨fun z => ?_, fun z => ⟨by omega, c_isType (by omega) (by omega) (by omega) (fun _ _ => ⟨fun z => absurd z (by decide), fun _ => ?_⟩) (fun w => by have := hx z; omega)⟩⟩⟩) (fun a => by omega)⟩⟩
      · exact N_Mo_made_29 ⟨fun _ => ⟨fun _ => r7, fun q => ⟨by omega, fnd q⟩⟩, fun w => by omega⟩
      · exact N_Mo_made_29 ⟨fun _ => ⟨fun _ => r7, fun q => ⟨by omega, fnd q⟩⟩, fun w => ⟨by omega, c_isType (by omega) (by omega) (by omega) (fun _ _ => ⟨fun _ => ⟨fun _ => r7, fun q => ⟨by omega, fnd q⟩⟩, fun z => absurd z (by decide)⟩) (fun v => by have := hy w; omega)⟩⟩
    obtain ⟨N, hN⟩ := fresh_ex tm (h 5 13)
    have tmx : ∃ t : Tm, (k ≤ 6 → t = mkT k (tm x) (tm y)) ∧ (7 ≤ k → t = tV N) := by
      rcases Int.lt_or_le k 7 with z | z
      · exact ⟨mkT k (tm x) (tm y), fun _ => rfl, fun q => by omega⟩
      · exact ⟨tV N, fun q => by omega, fun _ => rfl⟩
    obtain ⟨t, t6, t7⟩ := tmx
    have t6' : k ≤ 6 → t = mkT k (tm x') (tm y') := fun q => by
      rw [t6 q]
      exact mkT_congr k0 (fun z => by rw [xx z q]) (fun z => by rw [yy z])
    have frs : ∀ z, 0 ≤ z → z < h 5 13 → tm z ≠ tV N := fun z z0 z1 e => by have := hN z z0 z1 N e; omega
    -- the class's obtain, then all of the reference
    have both : (h 5 13 = 60 → k < 7 ∧ ∃ i, 0 ≤ i ∧ i < h 5 13 ∧ isN h k x y i) → Go (d - 1) M_Types_obtain 0 [(17, 5), (0, k), (0, x'), (0, y'), (2, 0), (2, 0), (2, 0), (2, 0)] [] h (fun r1 h1 => Go d M_Mo_made 0 [(22, 135), (0, k), (0, x), (0, y), (2, 0)] [] h1 (fun r2 h2 => r1 = r2 ∧ R h2)) := by
      intro hf
      refine c_obtain (T := 5) (R := 84) (t := t) (by omega) W ⟨k0, k8⟩ (fun p q => by rw [xx p q]; exact hx (a2 p q)) (fun p => by rw [yy p]; exact hy (a3 p)) nx ny (by omega) t6' (fun q => ⟨N, t7 q, fun z z0 z1 _ => frs z z0 z1⟩) (fun k7 i i0 i1 i2 i3 i4 i5 => ?_) (fun none h1 c' W1 X1 e1 r3 r4 r5 r6 _ => ?_)
      · have isi := (nd i i0 i1 k7).mp ⟨i2, i3, i4⟩
        refine ref h _ (fun _ => rfl) (LcM_refl h) hf ?_
        refine c_makes (t := t) (by omega) Rw ⟨k0, k8⟩ (fun p q => by have := hx (a2 p q); omega) (fun p => by have := hy (a3 p); omega) (by omega) ⟨by omega, by omega⟩ t6 (fun q => by omega) (fun _ j j0 j1 j2 j3 j4 _ => ⟨?_, H h B0 (FrB_refl h)⟩) (fun no => ?_)
        · have U := RC_SB Rw.1
          exact U.2.2.2.2 i j (by omega) (by omega) j0 j1 (by rw [isi.1, j2]) (by rw [isi.1]; omega) (fun z => by rw [isi.2.1 (by rw [isi.1] at z; exact z), j3 (by rw [isi.1] at z; exact z)]) (fun z => by rw [isi.2.2 (by rw [isi.1] at z; exact z), j4 (by rw [isi.1] at z; exact z)])
        · exact absurd isi (no k7 i (by omega) (by omega))
      · have m1 : LcM h h1 := ⟨fun i p q => X1.2.2.2.2.2 _ _ (by omega), fun a i p q r => X1.2.2.2.2.2 _ _ (by omega)⟩
        have f1 : ∀ i, h1 135 i = h 135 i := fun i => X1.2.2.2.2.2 _ _ (by omega)
        have R1 := RW_loc m1 Rw
        have n59 : h 5 13 < 60 := by
          rcases Int.lt_or_le (h 5 13) 60 with z | z
          · exact z
          · obtain ⟨k7, i, i0, i1, i2⟩ := hf (by omega)
            exact absurd ((nd i i0 i1 k7).mpr i2) (none k7 i i0 i1)
        have isn : ∀ i, isN h1 k x y i ↔ isN h k x y i := by
          intro i
          unfold isN
          rw [LcM_row m1 137 (by omega) (by omega) (by omega), LcM_row m1 138 (by omega) (by omega) (by omega), LcM_row m1 139 (by omega) (by omega) (by omega)]
        have q15 : h1 135 15 = h 5 13 := by rw [f1, e15]
        refine ref h1 _ f1 m1 hf ?_
        refine c_makes (t := t) (by omega) R1 ⟨k0, k8⟩ (fun p q => by have := hx (a2 p q); rw [f1, f1]; omega) (fun p => by have := hy (a3 p); rw [f1, f1]; omega) (by omega) (by rw [f1]; omega) t6 (fun q => ⟨N, t7 q, fun z z0 z1 _ => frs z (by rw [f1] at z0; omega) (by omega)⟩) (fun k7 j j0 j1 j2 j3 j4 _ => ?_) (fun no h2 R2 X2 b15 b17 s1 s2 s3 s4 => ?_)
        · rw [f1] at j0
          exact absurd ((nd j (by omega) (by omega) k7).mpr ((isn j).mp ⟨j2, j3, j4⟩)) (none k7 j (by omega) (by omega))
        · rw [q15] at R2 b15 s1 s2 s3 s4 ⊢
          rw [f1, e18] at s4
          obtain ⟨z1, z2⟩ := BIx_new ck b' c0 c1 c2 n59 W1 X1 e1 r3 r4 r5 r6 R2 X2 b15 s1 s2 s3 s4 xx yy t7 frs
          exact ⟨rfl, H h2 z1 z2⟩
    refine N_BT_made_87 ⟨fun w => ⟨by omega, both (fun q => by omega)⟩, fun w => ⟨by omega, c_find hT n0 (by omega) (fun k7 i i0 i1 i2 i3 i4 => ⟨fun _ => ⟨by omega, both (fun _ => ⟨k7, i, i0, i1, (nd i i0 i1 k7).mp ⟨i2, i3, i4⟩⟩)⟩, fun z => by omega⟩) (fun no => ⟨fun z => absurd rfl z, fun _ => ⟨by omega, ?_⟩⟩)⟩⟩
    intro g1 hg1
    have f1 : ∀ i, g1 135 i = h 135 i := fun i => by rw [hg1, up2_nc (by decide)]
    have rf := fun {d : Nat} (q : 0 < d) => ref_full (d := d) B0 H hg1 q
    have f15 := f1 15
    have f14 := f1 14
    have isn : ∀ i, isN g1 k x y i ↔ isN h k x y i := by
      intro i
      unfold isN
      rw [hg1, up2_nc (show (137 : Int) ≠ 1 by decide), up2_nc (show (138 : Int) ≠ 1 by decide), up2_nc (show (139 : Int) ≠ 1 by decide)]
    have fnd : Go (d - 1) M_Mo_found 0 [(22, 135), (0, k), (0, x), (0, y), (2, 0), (2, 0), (2, 0), (2, 0)] [] g1 (fun y1 k1 => (y1 ≠ -1 → Go d M_Mo_made 77 [(22, 135), (0, k), (0, x), (0, y), (0, ari k)] [] k1 (fun r2 h2 => -4 = r2 ∧ R h2)) ∧ (y1 = -1 → 0 < d ∧ (0 ≤ w32 (-2 - -4) ∧ w32 (-2 - -4) < 3) ∧ (0 ≤ w32 (-2 - -4) ∧ w32 (-2 - -4) < 3) ∧ ∀ g2 : HP, g2 = up2 k1 150 (w32 (-2 - -4)) (w32 (k1 150 (w32 (-2 - -4)) + 1)) → (-4 : Int) = -4 ∧ R g2)) := by
      refine c_found (by omega) (by omega) (by omega) (by omega) k0 (fun k7 j j0 j1 j2 _ => ?_) (fun z => ⟨fun z => absurd rfl z, fun _ => rf (by omega)⟩)
      rcases no with z | z
      · omega
      · exact absurd ((nd j (by omega) (by omega) k7).mpr ((isn j).mp j2)) (z j (by omega) (by omega))
    refine N_Mo_made_0 ⟨by omega, c_parts (by omega) ⟨by omega, c_in (fun a b => ⟨fun z => absurd z (by decide), fun _ => ⟨fun z => ?_, fun z => ⟨by omega, c_isType (by omega) (by omega) (by omega) (fun _ _ => ⟨fun z => absurd z (by decide), fun _ => ?_⟩) (fun w => by have := hx z; omega)⟩⟩⟩) (fun a => by omega)⟩⟩
    · exact N_Mo_made_29 ⟨fun _ => ⟨fun q => by omega, fun q => ⟨by omega, fnd⟩⟩, fun w => by omega⟩
    · exact N_Mo_made_29 ⟨fun _ => ⟨fun q => by omega, fun q => ⟨by omega, fnd⟩⟩, fun w => ⟨by omega, c_isType (by omega) (by omega) (by omega) (fun _ _ => ⟨fun _ => ⟨fun q => by omega, fun q => ⟨by omega, fnd⟩⟩, fun z => absurd z (by decide)⟩) (fun v => by have := hy w; omega)⟩⟩
  -- the class's own road
  have ab := ari_bd k
  have s44 : 0 ≤ k → k ≤ 8 → (0 < ari k → 0 ≤ x ∧ x < h 5 13) → Go d M_BT_made 44 [(21, 1), (0, k), (0, x), (0, y), (0, ari k), (17, 5), (2, 0), (2, 0)] [] h (fun r1 h1 => Go d M_Mo_made 0 [(22, 135), (0, k), (0, x), (0, y), (2, 0)] [] h1 (fun r2 h2 => r1 = r2 ∧ R h2)) := by
    intro k0 k8 hx
    refine N_BT_made_44 ⟨fun w => ⟨fun v => ⟨fun _ => good k0 k8 hx (fun z => by omega) _ _ (Or.inr ⟨v, rfl⟩) (Or.inr ⟨w, rfl⟩), fun z => by omega⟩, fun v => ⟨fun _ => good k0 k8 hx (fun z => by omega) _ _ (Or.inl ⟨v, rfl⟩) (Or.inr ⟨w, rfl⟩), fun z => by omega⟩⟩, fun w => ⟨by omega, c_has hT (fun y0 y1 => ⟨fun _ => ⟨fun v => by omega, fun v => ⟨fun z => by omega, fun _ => good k0 k8 hx (fun _ => ⟨y0, y1⟩) _ _ (Or.inl ⟨v, rfl⟩) (Or.inl ⟨w, rfl⟩)⟩⟩, fun z => absurd z (by decide)⟩) (fun q => ⟨fun z => absurd rfl z, fun _ => ⟨by omega, bad (fun z => ?_)⟩⟩)⟩⟩
    have := z.2.2.2 w
    omega
  refine N_BT_made_0 ⟨fun w => ⟨by omega, bad (fun z => by omega)⟩, fun w => ⟨fun v => ⟨by omega, c_arity (by omega) ⟨fun u => s44 w v (fun z => by omega), fun u => ⟨by omega, c_has hT (fun x0 x1 => ⟨fun z => absurd z (by decide), fun _ => s44 w v (fun _ => ⟨x0, x1⟩)⟩) (fun q => ⟨fun _ => ⟨by omega, bad (fun z => ?_)⟩, fun z => absurd rfl z⟩)⟩⟩⟩, fun v => ⟨by omega, bad (fun z => by omega)⟩⟩⟩
  have := z.2.2.1 u
  omega
end
