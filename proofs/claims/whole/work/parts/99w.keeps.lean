section
/-! keepsHeading -/
def c44 (b : Int → Int) : Nat → Int
  | 0 => 0
  | n + 1 => c44 b n + if b n = 44 then 1 else 0
theorem c44_r {b : Int → Int} : ∀ n, 0 ≤ c44 b n ∧ c44 b n ≤ n := by
  intro n
  induction n with
  | zero => rw [c44]; omega
  | succ n ih =>
    rw [c44]
    by_cases e : b n = 44
    · rw [if_pos e]; omega
    · rw [if_neg e]; omega
theorem occ_1 {b : Int → Int} {c : Int} {n : Nat} (e : occ b c n ≠ 0) : 1 = occ b c (n + 1) := by
  by_cases z : b n = c
  · rw [occ_y z]
  · rw [occ_n z]; have := occ_01 (b := b) (c := c) n; omega
theorem occ_0 {b : Int → Int} {c : Int} {n : Nat} (e : occ b c n = 0) (z : b n ≠ c) : 0 = occ b c (n + 1) := by rw [occ_n z, e]
def KpI (h h' : HP) (s n : Int) (N : Nat) : Prop := (∀ x i, x ≠ 151 → x ≠ 152 → x ≠ 153 → h' x i = h x i) ∧ (∀ j, j ≠ s → h' 152 j = h 152 j ∧ h' 153 j = h 153 j) ∧ (∀ i, i < 24 * s ∨ 24 * s + 24 ≤ i → h' 151 i = h 151 i) ∧ h' 152 s = n ∧ h' 153 s = c44 (h 157) N ∧ ∀ i, 0 ≤ i → i < N → h' 151 (24 * s + i) = h 157 i
theorem c_keeps27 {d : Nat} {h : HP} {s n : Int} {Q : PQ} (s0 : 0 ≤ s) (s1 : s < 16) (en : h 135 35 = n) (n1 : n ≤ 24)
    (H : ∀ (N : Nat) (h' k : HP), (N : Int) = n → KpI h h' s n N → k = up2 h' 154 s (occ (h 157) 117 N + occ (h 157) 118 N + occ (h 157) 119 N) → Q 0 k) : ∀ (r N : Nat) (h' : HP), (N : Int) + r = n → KpI h h' s n N →
    Go d M_Mo_keepsHeading 27 [(22, 135), (0, s), (0, occ (h 157) 117 N), (0, occ (h 157) 118 N), (0, occ (h 157) 119 N), (0, N)] [] h' Q := by
  intro r
  induction r with
  | zero =>
    intro N h' e I
    have l : h' 135 35 = n := by rw [I.1 135 35 (by decide) (by decide) (by decide), en]
    have o1 := occ_01 (b := h 157) (c := 117) N
    have o2 := occ_01 (b := h 157) (c := 118) N
    have o3 := occ_01 (b := h 157) (c := 119) N
    have sz : aSZ 154 = 16 := rfl
    have fin : ∀ x y, x = occ (h 157) 117 N → y = occ (h 157) 118 N → Go d M_Mo_keepsHeading 178 [(22, 135), (0, s), (0, occ (h 157) 117 N), (0, occ (h 157) 118 N), (0, occ (h 157) 119 N), (0, N)] [(0, y), (0, x), (0, s), (50, 154)] h' Q := by
      intro x y ex ey
      subst ex ey
      refine N_Mo_keepsHeading_178 ⟨by unfold r32; omega, fun z => ⟨by unfold r32; omega, ⟨s0, by rw [sz]; omega⟩, fun g e1 => H N h' g (by omega) I (by rw [e1, z])⟩, fun z => ⟨by unfold r32; omega, ⟨s0, by rw [sz]; omega⟩, fun g e1 => H N h' g (by omega) I (by rw [e1, show occ (h 157) 119 N = 1 by omega])⟩⟩
    exact N_Mo_keepsHeading_27 ⟨fun _ => ⟨fun a => ⟨fun b => fin 0 0 a.symm b.symm, fun b => fin 0 1 a.symm (by omega)⟩, fun a => ⟨fun b => fin 1 0 (by omega) b.symm, fun b => fin 1 1 (by omega) (by omega)⟩⟩, fun z => by omega⟩
  | succ r ih =>
    intro N h' e I
    have I' := I
    obtain ⟨i1, i2, i3, i4, i5, i6⟩ := I
    have l : h' 135 35 = n := by rw [i1 135 35 (by decide) (by decide) (by decide), en]
    have w : h' 157 = h 157 := funext fun i => i1 157 i (by decide) (by decide) (by decide)
    have cr := c44_r (b := h 157) N
    refine N_Mo_keepsHeading_27 ⟨fun z => by omega, fun _ => ⟨by unfold r32; omega, by unfold r32; omega, ⟨by omega, by omega⟩, ⟨by omega, by omega⟩, fun g1 e1 => ⟨⟨s0, s1⟩, ⟨by omega, by omega⟩, ?_⟩⟩⟩
    rw [w] at e1
    have w1 : g1 157 = h 157 := by rw [← w]; exact funext fun i => by rw [e1, up2_nc (by decide)]
    have q1 : g1 153 s = c44 (h 157) N := by rw [e1, up2_nc (by decide), i5]
    -- the heap behind the step
    have nI : ∀ (g2 : HP) (v : Int), v = c44 (h 157) (N + 1) → g2 = up2 g1 153 s v → KpI h g2 s n (N + 1) := by
      intro g2 v ev e2
      have o : ∀ x i, ¬ (x = 153 ∧ i = s) → ¬ (x = 151 ∧ i = 24 * s + N) → g2 x i = h' x i := fun x i p q => by rw [e2, up2_ext p, e1, up2_ext q]
      refine ⟨fun x i p q t => by rw [o x i (fun u => t u.1) (fun u => p u.1)]; exact i1 x i p q t, fun j p => ⟨by rw [o 152 j (by omega) (by omega)]; exact (i2 j p).1, by rw [o 153 j (by omega) (by omega)]; exact (i2 j p).2⟩, fun i p => by rw [o 151 i (by omega) (by omega)]; exact i3 i p, by rw [o 152 s (by omega) (by omega)]; exact i4, by rw [e2, up2_eq, ev], fun i p q => ?_⟩
      by_cases z : i = (N : Int)
      · rw [z, e2, up2_nc (by decide), e1, up2_eq]
      · rw [o 151 _ (by omega) (by omega)]; exact i6 i p (by omega)
    have st : ∀ (g2 : HP), g2 157 = h 157 → KpI h g2 s n (N + 1) → ∀ x, x = occ (h 157) 117 (N + 1) → Go d M_Mo_keepsHeading 102 [(22, 135), (0, s), (0, occ (h 157) 117 N), (0, occ (h 157) 118 N), (0, occ (h 157) 119 N), (0, N)] [(0, x)] g2 Q := by
      intro g2 w2 I2 x ex
      have lf : ∀ y z, y = occ (h 157) 118 (N + 1) → z = occ (h 157) 119 (N + 1) → r32 ((N : Int) + 1) ∧ Go d M_Mo_keepsHeading 27 [(22, 135), (0, s), (0, x), (0, y), (0, z), (0, (N : Int) + 1)] [] g2 Q := by
        intro y z ey ez
        subst ex ey ez
        exact ⟨by unfold r32; omega, ih (N + 1) g2 (by omega) I2⟩
      refine N_Mo_keepsHeading_102 ?_
      rw [w2]
      have nb : (0 : Int) ≤ N ∧ (N : Int) < 100 := by omega
      exact ⟨fun a => ⟨fun b => lf 1 1 (occ_1 a) (occ_1 b), fun b => ⟨nb, fun c => lf 1 0 (occ_1 a) (occ_0 b c), fun c => lf 1 1 (occ_1 a) (occ_y c).symm⟩⟩, fun a => ⟨nb, fun a' => ⟨fun b => lf 0 1 (occ_0 a a') (occ_1 b), fun b => ⟨nb, fun c => lf 0 0 (occ_0 a a') (occ_0 b c), fun c => lf 0 1 (occ_0 a a') (occ_y c).symm⟩⟩, fun a' => ⟨fun b => lf 1 1 (occ_y a').symm (occ_1 b), fun b => ⟨nb, fun c => lf 1 0 (occ_y a').symm (occ_0 b c), fun c => lf 1 1 (occ_y a').symm (occ_y c).symm⟩⟩⟩⟩
    have go : ∀ (g2 : HP) (v : Int), v = c44 (h 157) (N + 1) → g2 = up2 g1 153 s v → (occ (h 157) 117 N ≠ 0 → Go d M_Mo_keepsHeading 102 [(22, 135), (0, s), (0, occ (h 157) 117 N), (0, occ (h 157) 118 N), (0, occ (h 157) 119 N), (0, N)] [(0, 1)] g2 Q) ∧ (occ (h 157) 117 N = 0 → ((0 : Int) ≤ N ∧ (N : Int) < 100) ∧ (g2 157 N ≠ 117 → Go d M_Mo_keepsHeading 102 [(22, 135), (0, s), (0, occ (h 157) 117 N), (0, occ (h 157) 118 N), (0, occ (h 157) 119 N), (0, N)] [(0, 0)] g2 Q) ∧ (g2 157 N = 117 → Go d M_Mo_keepsHeading 102 [(22, 135), (0, s), (0, occ (h 157) 117 N), (0, occ (h 157) 118 N), (0, occ (h 157) 119 N), (0, N)] [(0, 1)] g2 Q)) := by
      intro g2 v ev e2
      have w2 : g2 157 = h 157 := by rw [← w1]; exact funext fun i => by rw [e2, up2_nc (by decide)]
      have I2 := nI g2 v ev e2
      refine ⟨fun a => st g2 w2 I2 1 (occ_1 a), fun a => ⟨⟨by omega, by omega⟩, fun b => ?_, fun b => ?_⟩⟩
      · rw [w2] at b; exact st g2 w2 I2 0 (occ_0 a b)
      · rw [w2] at b; exact st g2 w2 I2 1 (occ_y b).symm
    rw [w1, q1]
    refine ⟨fun c => ⟨by unfold r32; omega, ⟨s0, s1⟩, fun g2 e2 => go g2 _ ?_ e2⟩, fun c => ⟨by unfold r32; omega, ⟨s0, s1⟩, fun g2 e2 => go g2 _ ?_ e2⟩⟩
    · rw [c44, if_neg c]
    · rw [c44, if_pos c]
end
