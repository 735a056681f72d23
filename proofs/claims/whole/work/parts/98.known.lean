section
/-- a rank of the groups by their leads' arguments -/
theorem CW_rank {h : HP} {T R : Int} {tm : Int → Tm} {S : Sx} {c : Int → Int} (W : CW h T R tm S c) : ∃ rk : Int → Nat, (∀ r, 0 ≤ r → r < h T 13 → c r = r → kA h T c (h T 13) r ≠ -1 → rk (kA h T c (h T 13) r) < rk r) ∧ (∀ r, 0 ≤ r → r < h T 13 → c r = r → kB h T c (h T 13) r ≠ -1 → rk (kB h T c (h T 13) r) < rk r) := by
  obtain ⟨F, ⟨Ws, _, _, ⟨rk, A⟩, _⟩, _, NA, _⟩ := W
  have Ld := (FB_lead F).1
  have Ar := Wst_arg Ws
  refine ⟨rk, fun r r0 r1 cr q => ?_, fun r r0 r1 cr q => ?_⟩
  · obtain ⟨l0, l1, l2, _⟩ := Ld r r0 r1
    unfold ldC at l0 l1 l2
    rw [cr] at l0 l1 l2
    have na := NA _ l0 l1
    have h2 : 2 ≤ h (T + 3) (h (T + 9) r % 1024) ∧ h (T + 3) (h (T + 9) r % 1024) ≤ 6 := by
      rcases Int.lt_or_le (h (T + 3) (h (T + 9) r % 1024)) 2 with z | z
      · refine absurd ?_ q
        unfold kA
        rw [na.1 (Or.inl z)]
        exact c1_out (by omega)
      · rcases Int.lt_or_le 6 (h (T + 3) (h (T + 9) r % 1024)) with v | v
        · refine absurd ?_ q
          unfold kA
          rw [na.1 (Or.inr v)]
          exact c1_out (by omega)
        · exact ⟨z, v⟩
    have a := (Ar _ l0 l1).1 h2.1 h2.2
    have k := (A _ l0 l1 h2.2).1 h2.1
    unfold kA
    rw [c1_in a.1 a.2]
    rw [l2] at k
    exact k
  · obtain ⟨l0, l1, l2, _⟩ := Ld r r0 r1
    unfold ldC at l0 l1 l2
    rw [cr] at l0 l1 l2
    have na := NA _ l0 l1
    have h2 : h (T + 3) (h (T + 9) r % 1024) = 2 := by
      by_cases z : h (T + 3) (h (T + 9) r % 1024) = 2
      · exact z
      · refine absurd ?_ q
        unfold kB
        rw [na.2 z]
        exact c1_out (by omega)
    have a := (Ar _ l0 l1).2 h2
    have k := (A _ l0 l1 (by omega)).2 h2
    unfold kB
    rw [c1_in a.1 a.2]
    rw [l2] at k
    exact k
def hdL (h : HP) (T r : Int) : Int := h (T + 3) (h (T + 9) r % 1024)
theorem c_isKnown {d : Nat} {h : HP} {T R x : Int} {tm : Int → Tm} {S : Sx} {c : Int → Int} {K : Int → Prop} {Q : PQ} (hd : 1 < d) (W : CW h T R tm S c) (x0 : 0 ≤ x) (x1 : x < h T 13)
    (rec : ∀ r, 0 ≤ r → r < h T 13 → c r = r → (K r ↔ (hdL h T r ≠ 8 ∧ (kA h T c (h T 13) r ≠ -1 → K (kA h T c (h T 13) r)) ∧ (kB h T c (h T 13) r ≠ -1 → K (kB h T c (h T 13) r)))))
    (H1 : K (c x) → ∀ g, ScC T h g → (∀ a i, a < T + 14 ∨ T + 18 < a → g a i = h a i) → Q 1 g) (H0 : ¬ K (c x) → ∀ g, ScC T h g → (∀ a i, a < T + 14 ∨ T + 18 < a → g a i = h a i) → Q 0 g) : Go d M_Walk_isKnown 0 [(19, T + 14), (0, x), (2, 0)] [] h Q := by
  obtain ⟨rk, rkA, rkB⟩ := CW_rank W
  have F := W.1
  have Ld := FB_lead F
  have hT := F.1
  have tr := TR_le hT
  have nR := F.2.1.2.2
  have Fr := F.2.2.2.2.1
  refine W_Walk_isKnown_0 hT ⟨by unfold r32; omega, by omega, ?_⟩
  refine c_visit (P := fun r => K (c x) → K r) (by omega) F x0 (by omega) (by omega) (fun y a b q => by rw [show y = x by omega]; exact q) (fun r r0 r1 cr p z q => ((rec r r0 r1 cr).mp (p q)).2.1 z) (fun r r0 r1 cr p z q => ((rec r r0 r1 cr).mp (p q)).2.2 z) (fun g sg og go => ?_) (fun no g _ _ => absurd ⟨rkA, rkB⟩ (no rk))
  obtain ⟨o1, o2, o3, o4⟩ := og
  have g3 : ∀ i, g (T + 3) i = h (T + 3) i := fun i => go _ i (by omega)
  have g9 : ∀ i, g (T + 9) i = h (T + 9) i := fun i => go _ i (by omega)
  have loop : (∀ j, 0 ≤ j → j < 0 → hdL h T (g (T + 18) j) ≠ 8) → Go d M_Walk_isKnown 11 [(19, T + 14), (0, x), (0, 0)] [] g Q := by
    refine up_loop (i := 0) (hi := g (T + 14) 6) o3 (P := fun i => (∀ j, 0 ≤ j → j < i → hdL h T (g (T + 18) j) ≠ 8) → Go d M_Walk_isKnown 11 [(19, T + 14), (0, x), (0, i)] [] g Q) ?_ ?_
    · intro all
      refine W_Walk_isKnown_11 hT ⟨fun _ => H1 ?_ g sg go, fun w => by omega⟩
      have : ∀ (k : Nat) (j : Int), 0 ≤ j → j < g (T + 14) 6 → j.toNat < k → K (g (T + 18) j) := by
        intro k
        induction k with
        | zero => intro j _ _ q; omega
        | succ k ih =>
          intro j j0 j1 q
          obtain ⟨p1, p2, p3, p4, p5⟩ := o1 j j0 j1
          refine (rec _ p1.1 p1.2 p2).mpr ⟨all j j0 j1, fun z => ?_, fun z => ?_⟩
          · rcases p4 with p4 | ⟨j', a, b, e⟩
            · exact absurd p4 z
            · clear p5; rw [← e]; exact ih j' a (by omega) (by omega)
          · rcases p5 with p5 | ⟨j', a, b, e⟩
            · exact absurd p5 z
            · clear p4; rw [← e]; exact ih j' a (by omega) (by omega)
      obtain ⟨j, j0, j1, e⟩ := o2 x (Int.le_refl _) (by omega)
      rw [← e]
      exact this _ j j0 j1 (Nat.lt_succ_self _)
    · intro i i0 i1 ih all
      obtain ⟨p1, p2, p3, p4, p5⟩ := o1 i i0 i1
      have l1 := Ld.2 _ p1.1 p1.2
      have l2 := Ld.1 _ p1.1 p1.2
      unfold ldC at l2
      rw [p2] at l1 l2
      refine W_Walk_isKnown_11 hT ?_
      refine ⟨fun w => by omega, fun _ => ⟨⟨by omega, by omega⟩, by omega, c_leadAt hT (go T 13 (by omega)) nR p1.1 p1.2 (by rw [g9]; exact l1) ?_⟩⟩
      rw [g9, g3]
      refine ⟨⟨by omega, by omega⟩, fun w => ⟨by unfold r32; omega, ih (fun j j0 j1 => ?_)⟩, fun w => H0 (fun q => ?_) g sg go⟩
      · by_cases z : j = i
        · rw [z]; exact w
        · exact all j j0 (by omega)
      · exact ((rec _ p1.1 p1.2 p2).mp (p3 q)).1 w
  exact loop (fun j a b => by omega)
theorem c_deepest {d : Nat} {h : HP} {T R x : Int} {tm : Int → Tm} {S : Sx} {c V : Int → Int} {Q : PQ} (hd : 7 < d) (W : CW h T R tm S c) (x0 : 0 ≤ x) (x1 : x < h T 13)
    (rec : ∀ r, 0 ≤ r → r < h T 13 → c r = r → V r = max (if 7 ≤ hdL h T r then h (T + 6) (h (T + 9) r % 1024) else 0) (max (if kA h T c (h T 13) r ≠ -1 then V (kA h T c (h T 13) r) else 0) (if kB h T c (h T 13) r ≠ -1 then V (kB h T c (h T 13) r) else 0)))
    (H : ∀ g, ScC T h g → (∀ a i, a < T + 14 ∨ T + 18 < a → g a i = h a i) → Q (V (c x)) g) : Go d M_Walk_deepestOf 0 [(19, T + 14), (0, x), (2, 0), (2, 0), (2, 0)] [] h Q := by
  obtain ⟨rk, rkA, rkB⟩ := CW_rank W
  have F := W.1
  have hb := W.2.2.2.2.1
  have Ld := FB_lead F
  have hT := F.1
  have tr := TR_le hT
  have nR := F.2.1.2.2
  have Fr := F.2.2.2.2.1
  have stepA : ∀ r, 0 ≤ r → r < h T 13 → c r = r → kA h T c (h T 13) r ≠ -1 → V (kA h T c (h T 13) r) ≤ V r := by
    intro r r0 r1 cr z
    rw [rec r r0 r1 cr, if_pos z]; omega
  have stepB : ∀ r, 0 ≤ r → r < h T 13 → c r = r → kB h T c (h T 13) r ≠ -1 → V (kB h T c (h T 13) r) ≤ V r := by
    intro r r0 r1 cr z
    rw [rec r r0 r1 cr, if_pos z]; omega
  refine W_Walk_deepestOf_0 hT ⟨by unfold r32; omega, by omega, ?_⟩
  refine c_visit (P := fun r => V r ≤ V (c x)) (by omega) F x0 (by omega) (by omega) (fun y a b => by rw [show y = x by omega]; exact Int.le_refl _) (fun r r0 r1 cr p z => Int.le_trans (stepA r r0 r1 cr z) p) (fun r r0 r1 cr p z => Int.le_trans (stepB r r0 r1 cr z) p) (fun g sg og go => ?_) (fun no g _ _ => absurd ⟨rkA, rkB⟩ (no rk))
  obtain ⟨o1, o2, o3, o4⟩ := og
  have g3 : ∀ i, g (T + 3) i = h (T + 3) i := fun i => go _ i (by omega)
  have g6 : ∀ i, g (T + 6) i = h (T + 6) i := fun i => go _ i (by omega)
  have g9 : ∀ i, g (T + 9) i = h (T + 9) i := fun i => go _ i (by omega)
  have own : ∀ r, 0 ≤ r → r < h T 13 → c r = r → 7 ≤ hdL h T r → h (T + 6) (h (T + 9) r % 1024) ≤ V r := by
    intro r r0 r1 cr z
    rw [rec r r0 r1 cr, if_pos z]; omega
  have vpos : ∀ r, 0 ≤ r → r < h T 13 → c r = r → 0 ≤ V r := by
    intro r r0 r1 cr
    have l2 := Ld.1 r r0 r1
    unfold ldC at l2
    rw [cr] at l2
    have b := hb _ _ l2.1 (Int.le_refl _) l2.2.1
    rw [rec r r0 r1 cr]
    split
    · omega
    · split <;> split <;> omega
  have loop : ∀ m, (0 ≤ m ∧ m ≤ V (c x) ∧ ∀ j, 0 ≤ j → j < 0 → 7 ≤ hdL h T (g (T + 18) j) → h (T + 6) (h (T + 9) (g (T + 18) j) % 1024) ≤ m) → ∀ w4, Go d M_Walk_deepestOf 13 [(19, T + 14), (0, x), (0, m), (0, 0), w4] [] g Q := by
    refine up_loop (i := 0) (hi := g (T + 14) 6) o3 (P := fun i => ∀ m, (0 ≤ m ∧ m ≤ V (c x) ∧ ∀ j, 0 ≤ j → j < i → 7 ≤ hdL h T (g (T + 18) j) → h (T + 6) (h (T + 9) (g (T + 18) j) % 1024) ≤ m) → ∀ w4, Go d M_Walk_deepestOf 13 [(19, T + 14), (0, x), (0, m), (0, i), w4] [] g Q) ?_ ?_
    · rintro m ⟨m0, m1, m2⟩ w4
      refine W_Walk_deepestOf_13 hT ⟨fun _ => ?_, fun w => by omega⟩
      have : ∀ (k : Nat) (j : Int), 0 ≤ j → j < g (T + 14) 6 → j.toNat < k → V (g (T + 18) j) ≤ m := by
        intro k
        induction k with
        | zero => intro j _ _ q; omega
        | succ k ih =>
          intro j j0 j1 q
          obtain ⟨p1, p2, p3, p4, p5⟩ := o1 j j0 j1
          rw [rec _ p1.1 p1.2 p2]
          have q1 : (if 7 ≤ hdL h T (g (T + 18) j) then h (T + 6) (h (T + 9) (g (T + 18) j) % 1024) else 0) ≤ m := by
            split
            · rename_i z; exact m2 j j0 j1 z
            · exact m0
          have q2 : (if kA h T c (h T 13) (g (T + 18) j) ≠ -1 then V (kA h T c (h T 13) (g (T + 18) j)) else 0) ≤ m := by
            split
            · rename_i z
              rcases p4 with p4 | ⟨j', a, b, e⟩
              · exact absurd p4 z
              · clear p5; rw [← e]; exact ih j' a (by omega) (by omega)
            · exact m0
          have q3 : (if kB h T c (h T 13) (g (T + 18) j) ≠ -1 then V (kB h T c (h T 13) (g (T + 18) j)) else 0) ≤ m := by
            split
            · rename_i z
              rcases p5 with p5 | ⟨j', a, b, e⟩
              · exact absurd p5 z
              · clear p4; rw [← e]; exact ih j' a (by omega) (by omega)
            · exact m0
          omega
      obtain ⟨j, j0, j1, e⟩ := o2 x (Int.le_refl _) (by omega)
      have := this _ j j0 j1 (Nat.lt_succ_self _)
      rw [e] at this
      rw [show m = V (c x) by omega]
      exact H g sg go
    · rintro i i0 i1 ih m ⟨m0, m1, m2⟩ w4
      obtain ⟨p1, p2, p3, p4, p5⟩ := o1 i i0 i1
      have l1 := Ld.2 _ p1.1 p1.2
      have l2 := Ld.1 _ p1.1 p1.2
      unfold ldC at l2
      rw [p2] at l1 l2
      refine W_Walk_deepestOf_13 hT ?_
      refine ⟨fun w => by omega, fun _ => ⟨⟨by omega, by omega⟩, by omega, c_leadAt hT (go T 13 (by omega)) nR p1.1 p1.2 (by rw [g9]; exact l1) ?_⟩⟩
      rw [g9, g3, g6]
      refine ⟨⟨by omega, by omega⟩, fun w => ⟨by unfold r32; omega, ih m ⟨m0, m1, fun j j0 j1 z => ?_⟩ _⟩, fun w => ⟨⟨by omega, by omega⟩, by omega, by unfold r32; omega, ih _ ⟨by omega, ?_, fun j j0 j1 z => ?_⟩ _⟩⟩
      · by_cases y : j = i
        · rw [y] at z; unfold hdL at z; omega
        · exact m2 j j0 (by omega) z
      · have := own _ p1.1 p1.2 p2 w
        have : V (g (T + 18) i) ≤ V (c x) := p3
        omega
      · by_cases y : j = i
        · rw [y]; omega
        · have := m2 j j0 (by omega) z
          omega
  have cx := (Fr x x0 x1).2.1
  exact loop 0 ⟨Int.le_refl _, vpos _ cx.1 cx.2 (Frs_cc Fr x0 x1), fun j a b => by omega⟩ _
theorem c_sizeA {d : Nat} {h : HP} {T R n L x : Int} {c : Int → Int} {Q : PQ} (hd : 0 < d) (F : FB h T R n L c) (H : Q (if c1 c n x ≠ -1 then h (T + 19) (c1 c n x) else 0) h) : Go d M_Walk_sizeOfArgument 0 [(19, T + 14), (0, x), (2, 0)] [] h Q := by
  have hT := F.1
  have Fr := F.2.2.2.2.1
  have nR := F.2.1.2.2
  refine W_Walk_sizeOfArgument_0 hT ⟨hd, c_root1 F ⟨fun w => ?_, fun w => ?_⟩⟩
  · rw [if_pos w] at H
    rcases Kid_of Fr x with q | q
    · exact absurd q w
    · exact ⟨⟨q.1, by omega⟩, H⟩
  · rw [if_neg (fun z => z w)] at H; exact H
theorem c_sizeW {d : Nat} {h : HP} {T R x : Int} {tm : Int → Tm} {S : Sx} {c V : Int → Int} {Q : PQ} (hd : 7 < d) (W : CW h T R tm S c) (x0 : 0 ≤ x) (x1 : x < h T 13)
    (rec : ∀ r, 0 ≤ r → r < h T 13 → c r = r → V r = min (1 + (if kA h T c (h T 13) r ≠ -1 then V (kA h T c (h T 13) r) else 0) + (if kB h T c (h T 13) r ≠ -1 then V (kB h T c (h T 13) r) else 0)) 9999)
    (H : ∀ g, ScC T h g → (∀ a i, a < T + 14 ∨ T + 19 < a → g a i = h a i) → Q (V (c x)) g) : Go d M_Walk_sizeOf 0 [(19, T + 14), (0, x), (2, 0), (2, 0), (2, 0)] [] h Q := by
  obtain ⟨rk, rkA, rkB⟩ := CW_rank W
  have F := W.1
  have Ld := FB_lead F
  have hT := F.1
  have tr := TR_le hT
  have nR := F.2.1.2.2
  have Fr := F.2.2.2.2.1
  refine W_Walk_sizeOf_0 hT ⟨by unfold r32; omega, by omega, ?_⟩
  refine c_visit (P := fun _ => True) (by omega) F x0 (by omega) (by omega) (fun _ _ _ => trivial) (fun _ _ _ _ _ _ => trivial) (fun _ _ _ _ _ _ => trivial) (fun g sg og go => ?_) (fun no g _ _ => absurd ⟨rkA, rkB⟩ (no rk))
  obtain ⟨o1, o2, o3, o4⟩ := og
  have bd : ∀ (k : Nat) (j : Int), 0 ≤ j → j < g (T + 14) 6 → j.toNat < k → 1 ≤ V (g (T + 18) j) ∧ V (g (T + 18) j) ≤ 9999 := by
    intro k
    induction k with
    | zero => intro j _ _ q; omega
    | succ k ih =>
      intro j j0 j1 q
      obtain ⟨p1, p2, p3, p4, p5⟩ := o1 j j0 j1
      rw [rec _ p1.1 p1.2 p2]
      have q2 : 0 ≤ (if kA h T c (h T 13) (g (T + 18) j) ≠ -1 then V (kA h T c (h T 13) (g (T + 18) j)) else 0) := by
        split
        · rename_i z
          rcases p4 with p4 | ⟨j', a, b, e⟩
          · exact absurd p4 z
          · clear p5; rw [← e]; have := ih j' a (by omega) (by omega); omega
        · omega
      have q3 : 0 ≤ (if kB h T c (h T 13) (g (T + 18) j) ≠ -1 then V (kB h T c (h T 13) (g (T + 18) j)) else 0) := by
        split
        · rename_i z
          rcases p5 with p5 | ⟨j', a, b, e⟩
          · exact absurd p5 z
          · clear p4; rw [← e]; have := ih j' a (by omega) (by omega); omega
        · omega
      omega
  have loop : ∀ k : HP, (∀ a i, a ≠ T + 19 → k a i = g a i) → (∀ j, 0 ≤ j → j < 0 → k (T + 19) (g (T + 18) j) = V (g (T + 18) j)) → ∀ w3 w4, Go d M_Walk_sizeOf 11 [(19, T + 14), (0, x), (0, 0), w3, w4] [] k Q := by
    refine up_loop (i := 0) (hi := g (T + 14) 6) o3 (P := fun i => ∀ k : HP, (∀ a i, a ≠ T + 19 → k a i = g a i) → (∀ j, 0 ≤ j → j < i → k (T + 19) (g (T + 18) j) = V (g (T + 18) j)) → ∀ w3 w4, Go d M_Walk_sizeOf 11 [(19, T + 14), (0, x), (0, i), w3, w4] [] k Q) ?_ ?_
    · intro k ko kv w3 w4
      have kh : ∀ a i, a < T + 14 ∨ T + 19 < a → k a i = h a i := fun a i q => by rw [ko a i (by omega), go a i (by omega)]
      have Fk : FB k T R (h T 13) (h T 14) c := FB_scr (fun a i q => kh a i (by omega)) F
      refine W_Walk_sizeOf_11 hT ⟨fun _ => ⟨by omega, c_sizeA (by omega) Fk ?_⟩, fun w => by rw [ko _ _ (by omega)] at w; omega⟩
      have cx := (Fr x x0 x1).2.1
      obtain ⟨j, j0, j1, e⟩ := o2 x (Int.le_refl _) (by omega)
      have kj := kv j j0 j1
      rw [c1_in x0 x1, if_pos (by omega), ← e, kj, e]
      exact H k (fun a i q => kh a i (by omega)) kh
    · intro i i0 i1 ih k ko kv w3 w4
      obtain ⟨p1, p2, p3, p4, p5⟩ := o1 i i0 i1
      have kh : ∀ a i, a < T + 14 ∨ T + 19 < a → k a i = h a i := fun a i q => by rw [ko a i (by omega), go a i (by omega)]
      have Fk : FB k T R (h T 13) (h T 14) c := FB_scr (fun a i q => kh a i (by omega)) F
      have l1 := Ld.2 _ p1.1 p1.2
      have l2 := Ld.1 _ p1.1 p1.2
      unfold ldC at l2
      rw [p2] at l1 l2
      have av : (if kA h T c (h T 13) (g (T + 18) i) ≠ -1 then k (T + 19) (kA h T c (h T 13) (g (T + 18) i)) else 0) = (if kA h T c (h T 13) (g (T + 18) i) ≠ -1 then V (kA h T c (h T 13) (g (T + 18) i)) else 0) ∧ 0 ≤ (if kA h T c (h T 13) (g (T + 18) i) ≠ -1 then V (kA h T c (h T 13) (g (T + 18) i)) else 0) ∧ (if kA h T c (h T 13) (g (T + 18) i) ≠ -1 then V (kA h T c (h T 13) (g (T + 18) i)) else 0) ≤ 9999 := by
        split
        · rename_i z
          rcases p4 with p4 | ⟨j', a, b, e⟩
          · exact absurd p4 z
          · clear p5; rw [← e]
            have := bd _ j' a (by omega) (Nat.lt_succ_self _)
            exact ⟨kv j' a b, by omega, by omega⟩
        · omega
      have bv : (if kB h T c (h T 13) (g (T + 18) i) ≠ -1 then k (T + 19) (kB h T c (h T 13) (g (T + 18) i)) else 0) = (if kB h T c (h T 13) (g (T + 18) i) ≠ -1 then V (kB h T c (h T 13) (g (T + 18) i)) else 0) ∧ 0 ≤ (if kB h T c (h T 13) (g (T + 18) i) ≠ -1 then V (kB h T c (h T 13) (g (T + 18) i)) else 0) ∧ (if kB h T c (h T 13) (g (T + 18) i) ≠ -1 then V (kB h T c (h T 13) (g (T + 18) i)) else 0) ≤ 9999 := by
        split
        · rename_i z
          rcases p5 with p5 | ⟨j', a, b, e⟩
          · exact absurd p5 z
          · clear p4; rw [← e]
            have := bd _ j' a (by omega) (Nat.lt_succ_self _)
            exact ⟨kv j' a b, by omega, by omega⟩
        · omega
      refine W_Walk_sizeOf_11 hT ?_
      rw [ko (T + 14) 6 (by omega), ko (T + 18) i (by omega)]
      refine ⟨fun w => by omega, fun _ => ⟨⟨by omega, by omega⟩, by omega, c_leadAt hT (kh T 13 (by omega)) nR p1.1 p1.2 (by rw [kh (T + 9) _ (by omega)]; exact l1) ?_⟩⟩
      rw [kh (T + 9) _ (by omega), kh (T + 4) _ (by omega)]
      refine ⟨⟨by omega, by omega⟩, by omega, c_sizeA (by omega) Fk ?_⟩
      have ea : (if c1 c (h T 13) (h (T + 4) (h (T + 9) (g (T + 18) i) % 1024)) ≠ -1 then k (T + 19) (c1 c (h T 13) (h (T + 4) (h (T + 9) (g (T + 18) i) % 1024))) else 0) = (if kA h T c (h T 13) (g (T + 18) i) ≠ -1 then V (kA h T c (h T 13) (g (T + 18) i)) else 0) := av.1
      rw [ea]
      refine ⟨by unfold r32; omega, ⟨by omega, by omega⟩, by omega, ?_⟩
      rw [kh (T + 5) _ (by omega)]
      refine c_sizeA (by omega) Fk ?_
      have eb : (if c1 c (h T 13) (h (T + 5) (h (T + 9) (g (T + 18) i) % 1024)) ≠ -1 then k (T + 19) (c1 c (h T 13) (h (T + 5) (h (T + 9) (g (T + 18) i) % 1024))) else 0) = (if kB h T c (h T 13) (g (T + 18) i) ≠ -1 then V (kB h T c (h T 13) (g (T + 18) i)) else 0) := bv.1
      rw [eb, ko (T + 18) i (by omega)]
      refine ⟨by unfold r32; omega, ⟨by omega, by omega⟩, by omega, ⟨by omega, by omega⟩, ?_⟩
      intro q e
      refine ⟨by unfold r32; omega, ih q (fun a j z => by rw [e, up2_nc z, ko a j z]) (fun j j0 j1 => ?_) _ _⟩
      rw [← rec _ p1.1 p1.2 p2] at e
      rw [e]
      by_cases z : g (T + 18) j = g (T + 18) i
      · rw [z, up2_eq]
      · rw [up2_ni z]
        refine kv j j0 ?_
        by_cases y : j = i
        · rw [y] at z; exact absurd rfl z
        · omega
  exact loop g (fun _ _ _ => rfl) (fun j a b => by omega) _ _
end
