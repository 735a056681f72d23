section
/-! digest -/
def dgF (f : Int → Int) (i v : Int) : Nat → Int
  | 0 => v
  | n + 1 => dgF f (i + 1) (w64 (w64 (31 * v) + f i)) n
theorem dg_loop {P : Int → Int → Prop} {lo hi : Int} {f : Int → Int} (h1 : ∀ v j, lo ≤ j → j < hi → P (w64 (w64 (31 * v) + f j)) (j + 1) → P v j) : ∀ (n : Nat) (v i : Int), lo ≤ i → i + n = hi → P (dgF f i v n) hi → P v i := by
  intro n
  induction n with
  | zero => intro v i p q r; have : i = hi := by omega
            rw [this]; exact r
  | succ n ih => intro v i p q r; exact h1 v i p (by omega) (ih _ (i + 1) (by omega) (by omega) r)
def gTd (h : HP) (j : Int) : Int := if j < 3 then h 150 j else if j = 3 then h 135 30 else if j = 4 then h 135 31 else h 135 33
noncomputable def gBn (h : HP) (j : Int) : Int := if j = 0 then h 5 13 else if j = 1 then h 5 15 else cnt (fun i => h 141 i = i ∧ h 137 (h 142 i) = 8) 0 (h 5 13)
theorem b_digest {d : Nat} {h : HP} {R : HP → Prop} (hd : 20 < d) (B : BIx h) (T : TxR h) (D : DcR h) (N : RnR h) (H : ∀ h2, BIx h2 → FrB h h2 → R h2) :
    Go d M_BT_digest 0 [(21, 1), (2, 0), (2, 0), (2, 0)] [] h (fun r1 h1 => Go d M_Mo_digest 0 [(22, 135), (2, 0), (2, 0), (2, 0)] [] h1 (fun r2 h2 => r1 = r2 ∧ R h2)) := by
  have done := H h B (FrB_refl h)
  obtain ⟨_, ⟨tm, S, V, c, b⟩, c0, c1, c2⟩ := B
  have b' := b
  obtain ⟨W, Rw, hV, ⟨e15, e14, e19, e18, n60, d8⟩, rows⟩ := b
  have n0 := W.1.2.1.2.1
  have F := W.1
  have M : Mi 0 (h 5 13) (h 141) := by
    have := Rw.1.1.2.2.2.2.2.2.2.1
    rw [e14, e15] at this
    exact this
  have ec : ∀ z u, 0 ≤ z → z < h 5 13 → 0 ≤ u → u < h 5 13 → (c z = c u ↔ h 141 z = h 141 u) := fun z u z0 z1 u0 u1 => (Ptn_eq W.2.1 z0 z1 u0 u1).trans (RW_eq Rw (by omega) (by omega) (by omega) (by omega)).symm
  have low : ∀ x, 0 ≤ x → x < h 5 13 → h (5 + 10) (c x) = h 141 x := by
    intro x x0 x1
    have m := M x x0 x1
    obtain ⟨⟨y, y0, y1, y2, y3⟩, mn⟩ := F.2.2.2.2.2.2.1 x x0 x1
    have y3 : h (5 + 10) (c x) = y := y3
    have a1 : h (5 + 10) (c x) ≤ h 141 x := mn (h 141 x) m.1 (by omega) ((ec _ _ m.1 (by omega) x0 x1).mpr m.2.2)
    have a2 := M y y0 y1
    have a3 := (ec y x y0 y1 x0 x1).mp y2
    omega
  have nn : ∃ n : Nat, (n : Int) = h 5 13 := ⟨(h 5 13).toNat, by omega⟩
  obtain ⟨n, en⟩ := nn
  have rw32 : ∀ j : Int, 0 ≤ j → j < 1000 → r32 (j + 1) := fun j p q => by unfold r32; omega
  -- the reference
  have ref : ∀ r : Int, r = dgF (h 189) 0 (w64 (w64 (31 * dgF (h 141) 0 (dgF (gBn h) 0 (dgF (gTd h) 0 1545 6) 3) n) + h 135 24)) 4 → Go d M_Mo_digest 0 [(22, 135), (2, 0), (2, 0), (2, 0)] [] h (fun r2 h2 => r = r2 ∧ R h2) := by
    intro r hr
    refine N_Mo_digest_0 ?_
    refine dg_loop (P := fun v j => Go d M_Mo_digest 6 [(22, 135), (1, v), (2, 0), (0, j)] [] h (fun r2 h2 => r = r2 ∧ R h2)) (lo := 0) (hi := 6) (f := gTd h) ?_ 6 _ 0 (by decide) (by decide) ?_
    · intro v j j0 j1 ih
      refine N_Mo_digest_6 ⟨fun z => by omega, fun _ => ⟨by omega, N_Mo_toldOf_0 ⟨fun z => ⟨fun u => ⟨fun t => ⟨rw32 _ j0 (by omega), ?_⟩, fun t => ⟨rw32 _ j0 (by omega), ?_⟩⟩, fun u => ⟨rw32 _ j0 (by omega), ?_⟩⟩, fun z => ⟨⟨j0, z⟩, rw32 _ j0 (by omega), ?_⟩⟩⟩⟩
      · rw [show h 135 33 = gTd h j by unfold gTd; rw [if_neg (by omega), if_neg u, if_neg t]]; exact ih
      · rw [show h 135 31 = gTd h j by unfold gTd; rw [if_neg (by omega), if_neg u, if_pos t]]; exact ih
      · rw [show h 135 30 = gTd h j by unfold gTd; rw [if_neg (by omega), if_pos u]]; exact ih
      · rw [show h 150 j = gTd h j by unfold gTd; rw [if_pos z]]; exact ih
    refine N_Mo_digest_6 ⟨fun _ => ?_, fun z => absurd z (by decide)⟩
    refine dg_loop (P := fun v j => Go d M_Mo_digest 33 [(22, 135), (1, v), (2, 0), (0, j)] [] h (fun r2 h2 => r = r2 ∧ R h2)) (lo := 0) (hi := 3) (f := gBn h) ?_ 3 _ 0 (by decide) (by decide) ?_
    · intro v j j0 j1 ih
      refine N_Mo_digest_33 ⟨fun z => by omega, fun _ => ⟨by omega, c_benchM e14 (by omega) (by omega) (BR_sh b') (fun z => ⟨rw32 _ j0 (by omega), ?_⟩) (fun z => ⟨rw32 _ j0 (by omega), ?_⟩) (fun z u => ⟨rw32 _ j0 (by omega), ?_⟩)⟩⟩
      · rw [show h 135 15 = gBn h j by unfold gBn; rw [if_pos z, e15]]; exact ih
      · rw [show h 135 18 = gBn h j by unfold gBn; rw [if_neg (by omega), if_pos z, e18]]; exact ih
      · rw [show cnt (fun i => h 141 i = i ∧ h 137 (h 142 i) = 8) 0 (h 135 15) = gBn h j by unfold gBn; rw [if_neg z, if_neg u, e15]]; exact ih
    refine N_Mo_digest_33 ⟨fun _ => ?_, fun z => absurd z (by decide)⟩
    rw [e14]
    refine dg_loop (P := fun v j => Go d M_Mo_digest 62 [(22, 135), (1, v), (2, 0), (0, j)] [] h (fun r2 h2 => r = r2 ∧ R h2)) (lo := 0) (hi := h 5 13) (f := h 141) ?_ n _ 0 (by decide) (by omega) ?_
    · intro v j j0 j1 ih
      exact N_Mo_digest_62 ⟨fun z => by omega, fun _ => ⟨⟨j0, by omega⟩, rw32 _ j0 (by omega), ih⟩⟩
    refine N_Mo_digest_62 ⟨fun _ => ?_, fun z => by omega⟩
    refine dg_loop (P := fun v j => Go d M_Mo_digest 104 [(22, 135), (1, v), (2, 0), (0, j)] [] h (fun r2 h2 => r = r2 ∧ R h2)) (lo := 0) (hi := 4) (f := h 189) ?_ 4 _ 0 (by decide) (by decide) ?_
    · intro v j j0 j1 ih
      exact N_Mo_digest_104 ⟨fun z => by omega, fun _ => ⟨⟨j0, by omega⟩, rw32 _ j0 (by omega), ih⟩⟩
    exact N_Mo_digest_104 ⟨fun _ => ⟨hr, done⟩, fun z => absurd z (by decide)⟩
  -- the class
  refine N_BT_digest_0 ?_
  generalize hQ : (fun (r1 : Int) (h1 : HP) => Go d M_Mo_digest 0 [(22, 135), (2, 0), (2, 0), (2, 0)] [] h1 (fun r2 h2 => r1 = r2 ∧ R h2)) = Q
  have fin : Q (dgF (h 189) 0 (w64 (w64 (31 * dgF (h 141) 0 (dgF (gBn h) 0 (dgF (gTd h) 0 1545 6) 3) n) + h 135 24)) 4) h := by
    rw [← hQ]; exact ref _ rfl
  clear hQ
  refine dg_loop (P := fun v j => Go d M_BT_digest 6 [(21, 1), (1, v), (2, 0), (0, j)] [] h Q) (lo := 0) (hi := 6) (f := gTd h) ?_ 6 _ 0 (by decide) (by decide) ?_
  · intro v j j0 j1 ih
    have r := rw32 j j0 (by omega)
    refine N_BT_digest_6 ⟨fun z => by omega, fun _ => ⟨by omega, N_BT_told_0 ⟨fun z => ⟨r, ?_⟩, fun _ => ⟨fun z => ⟨r, ?_⟩, fun _ => ⟨fun z => ⟨r, ?_⟩, fun _ => ⟨fun z => ⟨r, ?_⟩, fun _ => ⟨fun z => ⟨r, ?_⟩, fun _ => ⟨fun z => ⟨r, ?_⟩, fun z => by omega⟩⟩⟩⟩⟩⟩⟩⟩
    · rw [show h 1 12 = gTd h j by unfold gTd; rw [if_pos (by omega), c0, z]]; exact ih
    · rw [show h 1 13 = gTd h j by unfold gTd; rw [if_pos (by omega), c1, z]]; exact ih
    · rw [show h 1 14 = gTd h j by unfold gTd; rw [if_pos (by omega), c2, z]]; exact ih
    · rw [show h 36 4 = gTd h j by unfold gTd; rw [if_neg (by omega), if_pos z, D.1.2.2.1]]; exact ih
    · rw [show h 36 5 = gTd h j by unfold gTd; rw [if_neg (by omega), if_neg (by omega), if_pos z, D.1.2.2.2.2.2]]; exact ih
    · rw [show h 30 2 = gTd h j by unfold gTd; rw [if_neg (by omega), if_neg (by omega), if_neg (by omega), T.1.2.2]]; exact ih
  refine N_BT_digest_6 ⟨fun _ => ?_, fun z => absurd z (by decide)⟩
  refine dg_loop (P := fun v j => Go d M_BT_digest 32 [(21, 1), (1, v), (2, 0), (0, j)] [] h Q) (lo := 0) (hi := 3) (f := gBn h) ?_ 3 _ 0 (by decide) (by decide) ?_
  · intro v j j0 j1 ih
    have r := rw32 j j0 (by omega)
    refine N_BT_digest_32 ⟨fun z => by omega, fun _ => ⟨by omega, N_BT_bench_0 ⟨fun z => ⟨r, ?_⟩, fun _ => ⟨fun z => ⟨r, ?_⟩, fun _ => ⟨fun z => ⟨by omega, c_unsolved (by omega) W ⟨r, ?_⟩⟩, fun z => by omega⟩⟩⟩⟩⟩
    · rw [show h 5 13 = gBn h j by unfold gBn; rw [if_pos z]]; exact ih
    · rw [show h 5 15 = gBn h j by unfold gBn; rw [if_neg (by omega), if_pos z]]; exact ih
    · rw [uns_eq b', show cnt (fun i => h 141 i = i ∧ h 137 (h 142 i) = 8) 0 (h 5 13) = gBn h j by unfold gBn; rw [if_neg (by omega), if_neg (by omega)]]; exact ih
  refine N_BT_digest_32 ⟨fun _ => ?_, fun z => absurd z (by decide)⟩
  refine dg_loop (P := fun v j => Go d M_BT_digest 58 [(21, 1), (1, v), (2, 0), (0, j)] [] h Q) (lo := 0) (hi := h 5 13) (f := h 141) ?_ n _ 0 (by decide) (by omega) ?_
  · intro v j j0 j1 ih
    refine N_BT_digest_58 ⟨fun z => by omega, fun _ => ⟨by omega, c_lowestOf (by omega) F j0 j1 ⟨rw32 j j0 (by omega), ?_⟩⟩⟩
    rw [low j j0 j1]; exact ih
  refine N_BT_digest_58 ⟨fun _ => ?_, fun z => by omega⟩
  rw [← N.1.2.2.2.2]
  refine dg_loop (P := fun v j => Go d M_BT_digest 111 [(21, 1), (1, v), (2, 0), (0, j)] [] h Q) (lo := 0) (hi := 4) (f := h 189) ?_ 4 _ 0 (by decide) (by decide) ?_
  · intro v j j0 j1 ih
    have r := rw32 j j0 (by omega)
    refine N_BT_digest_111 ⟨fun z => by omega, fun _ => ⟨by omega, N_BT_ran_0 ⟨fun z => ⟨r, ?_⟩, fun _ => ⟨fun z => ⟨r, ?_⟩, fun _ => ⟨fun z => ⟨r, ?_⟩, fun _ => ⟨fun z => ⟨r, ?_⟩, fun z => by omega⟩⟩⟩⟩⟩⟩
    · rw [show h 1 9 = h 189 j by rw [z, N.1.1]]; exact ih
    · rw [show h 1 10 = h 189 j by rw [z, N.1.2.1]]; exact ih
    · rw [show h 131 1 = h 189 j by rw [z, N.1.2.2.1]]; exact ih
    · rw [show h 133 1 = h 189 j by rw [z, N.1.2.2.2.1]]; exact ih
  exact N_BT_digest_111 ⟨fun _ => fin, fun z => absurd z (by decide)⟩
end
