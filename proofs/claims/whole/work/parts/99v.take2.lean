section
/-! Signature.take -/
def TkI (h h' : HP) (a g c : Int) (n : Nat) (l : Int) : Prop := (∀ x i, x ≠ g → x ≠ g + 1 → h' x i = h x i) ∧ (∀ i, i ≠ 1 → i ≠ 2 → i ≠ 3 → h' g i = h g i) ∧ h' g 1 = l ∧ h' g 2 = c ∧ ∀ i, 0 ≤ i → i < n → h' (g + 1) i = h (a + 1) i
theorem c_take23 {d : Nat} {h : HP} {a g c l : Int} {Q : PQ} (hd : 8 < d) (sz : aSZ (a + 1) = 100) (sg : aSZ (g + 1) = 24) (ag : a + 1 < g) (n1 : h a 2 ≤ 100) (l0 : l ≤ h a 2) (l1 : l ≤ 24)
    (H : ∀ (N : Nat) (k : HP), (N : Int) = l → TkI h k a g c N l → k g 3 = occ (h (a + 1)) 117 N + occ (h (a + 1)) 118 N + occ (h (a + 1)) 119 N → Q 0 k) : ∀ (r n : Nat) (h' : HP) (w5 : AV), (n : Int) + r = l → TkI h h' a g c n l →
    Go d M_Signature_take 23 [(16, g), (11, a), (0, c), (0, msk (h (a + 1)) n), (0, n), w5] [] h' Q := by
  intro r
  induction r with
  | zero =>
    intro n h' w5 e I
    obtain ⟨i1, i2, i3, i4, i5⟩ := I
    refine V_Signature_take_23 ⟨fun _ => ⟨msk_r n, by omega, fun g1 e1 => ?_⟩, fun z => by omega⟩
    rw [msk_cnt] at e1
    have o : ∀ x i, ¬ (x = g ∧ i = 3) → g1 x i = h' x i := fun x i q => by rw [e1, up2_ext q]
    refine H n g1 (by omega) ⟨fun x i p q => by rw [o x i (fun u => p u.1)]; exact i1 x i p q, fun i p q s => by rw [o g i (fun u => s u.2)]; exact i2 i p q s, by rw [o g 1 (by omega)]; exact i3, by rw [o g 2 (by omega)]; exact i4, fun i p q => by rw [o (g + 1) i (by omega)]; exact i5 i p q⟩ (by rw [e1, up2_eq])
  | succ r ih =>
    intro n h' w5 e I
    have I' := I
    obtain ⟨i1, i2, i3, i4, i5⟩ := I
    have a2 : h' a 2 = h a 2 := i1 a 2 (by omega) (by omega)
    have ab : h' (a + 1) (n : Int) = h (a + 1) (n : Int) := i1 (a + 1) n (by omega) (by omega)
    refine V_Signature_take_23 ⟨fun z => by omega, fun _ => ⟨by omega, c_codeAt sz (by omega) (by omega) (by omega) ⟨⟨by omega, by omega⟩, fun g3 e3 => ?_⟩⟩⟩
    rw [ab] at e3 ⊢
    have o : ∀ x i, ¬ (x = g + 1 ∧ i = (n : Int)) → g3 x i = h' x i := fun x i q => by rw [e3, up2_ext q]
    have I3 : TkI h g3 a g c (n + 1) l := by
      refine ⟨fun x i p q => by rw [o x i (fun u => q u.1)]; exact i1 x i p q, fun i p q s => by rw [o g i (by omega)]; exact i2 i p q s, by rw [o g 1 (by omega)]; exact i3, by rw [o g 2 (by omega)]; exact i4, fun i p q => ?_⟩
      by_cases z : i = (n : Int)
      · rw [z, e3, up2_eq]
      · rw [o (g + 1) i (fun u => z u.2)]; exact i5 i p (by omega)
    have nx : ∀ w, Go d M_Signature_take 23 [(16, g), (11, a), (0, c), (0, msk (h (a + 1)) (n + 1)), (0, (n : Int) + 1), w] [] g3 Q := fun w => ih (n + 1) g3 w (by omega) I3
    have r1 : r32 ((n : Int) + 1) := by unfold r32; omega
    refine ⟨fun z => ⟨r1, ?_⟩, fun z => ⟨fun y => ⟨r1, ?_⟩, fun y => ⟨by unfold r32; omega, r1, ?_⟩⟩⟩
    · rw [msk_no (Or.inl z)]; exact nx _
    · rw [msk_no (Or.inr y)]; exact nx _
    · rw [msk_or z y]; exact nx _
theorem c_take {d : Nat} {h : HP} {a g c : Int} {Q : PQ} (hd : 8 < d) (sz : aSZ (a + 1) = 100) (sg : aSZ (g + 1) = 24) (ag : a + 1 < g) (n0 : 0 ≤ h a 2) (n1 : h a 2 ≤ 100)
    (H : ∀ (N : Nat) (k : HP), (N : Int) = min (h a 2) 24 → TkI h k a g c N (min (h a 2) 24) → k g 3 = occ (h (a + 1)) 117 N + occ (h (a + 1)) 118 N + occ (h (a + 1)) 119 N → Q 0 k) : Go d M_Signature_take 0 [(16, g), (11, a), (0, c), (2, 0), (2, 0), (2, 0)] [] h Q := by
  refine V_Signature_take_0 ⟨by omega, fun g1 e1 g2 e2 => ?_⟩
  have o : ∀ x i, ¬ (x = g ∧ i = 1) → ¬ (x = g ∧ i = 2) → g2 x i = h x i := fun x i p q => by rw [e2, up2_ext q, e1, up2_ext p]
  refine c_take23 (h := h) (l := min (h a 2) 24) hd sz sg ag n1 (by omega) (by omega) H (min (h a 2) 24).toNat 0 g2 _ (by omega) ⟨fun x i p q => o x i (fun u => p u.1) (fun u => p u.1), fun i p q s => o g i (fun u => p u.2) (fun u => q u.2), ?_, by rw [e2, up2_eq], fun i p q => by omega⟩
  rw [e2, up2_ext (by omega), e1, up2_eq]
end
