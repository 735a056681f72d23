section
theorem c_keeps {d : Nat} {h : HP} {s n : Int} {Q : PQ} (s0 : 0 ≤ s) (s1 : s < 16) (en : h 135 35 = n) (n0 : 0 ≤ n) (n1 : n ≤ 24)
    (H : ∀ (N : Nat) (h' k : HP), (N : Int) = n → KpI h h' s n N → k = up2 h' 154 s (occ (h 157) 117 N + occ (h 157) 118 N + occ (h 157) 119 N) → Q 0 k) :
    Go d M_Mo_keepsHeading 0 [(22, 135), (0, s), (2, 0), (2, 0), (2, 0), (2, 0)] [] h Q := by
  refine N_Mo_keepsHeading_0 ⟨⟨s0, s1⟩, fun g1 e1 => ⟨⟨s0, s1⟩, fun g2 e2 => ?_⟩⟩
  have o : ∀ x i, ¬ (x = 152 ∧ i = s) → ¬ (x = 153 ∧ i = s) → g2 x i = h x i := fun x i p q => by rw [e2, up2_ext q, e1, up2_ext p]
  exact c_keeps27 s0 s1 en n1 H n.toNat 0 g2 (by omega) ⟨fun x i p q t => o x i (fun u => q u.1) (fun u => t u.1), fun j p => ⟨o 152 j (fun u => p u.2) (by omega), o 153 j (by omega) (fun u => p u.2)⟩, fun i p => o 151 i (by omega) (by omega), by rw [e2, up2_nc (by decide), e1, up2_eq, en], by rw [e2, up2_eq]; rfl, fun i p q => by omega⟩
theorem rdT_44 {b : Int → Int} : ∀ (N r : Nat) (k p : Int), r ≤ N → 0 ≤ p → 0 ≤ rdT b r k p → ∀ i, p ≤ i → i < rdT b r k p → b i ≠ 44 := by
  intro N
  induction N with
  | zero =>
    intro r k p hr p0 e i i0 i1
    have : r = 0 := by omega
    subst this
    rcases Int.lt_or_le 0 k with hk | hk
    · rw [rdT_e hk] at e; omega
    · rw [rdT_k hk] at i1; omega
  | succ N ih =>
    intro r k p hr p0 e i i0 i1
    rcases Int.lt_or_le 0 k with hk | hk
    · match r, hr, e, i1 with
      | 0, hr, e, i1 => rw [rdT_e hk] at e; omega
      | r + 1, hr, e, i1 =>
        by_cases c1 : b p = 112
        · rw [rdT_p hk c1] at e i1
          by_cases z : i = p
          · rw [z]; omega
          · exact ih r (k + 1) (p + 1) (by omega) (by omega) e i (by omega) i1
        · by_cases c2 : b p = 100
          · match r, hr, e, i1 with
            | 0, hr, e, i1 => rw [rdT_d1 hk c2] at e; omega
            | r + 1, hr, e, i1 =>
              by_cases t : 48 ≤ b (p + 1) ∧ b (p + 1) ≤ 51
              · rw [rdT_d hk c2 t] at e i1
                by_cases z : i = p
                · rw [z]; omega
                · by_cases y : i = p + 1
                  · rw [y]; omega
                  · exact ih r k (p + 2) (by omega) (by omega) e i (by omega) i1
              · rw [rdT_dx hk c2 t] at e; omega
          · by_cases c : b p = 105 ∨ b p = 98 ∨ (117 ≤ b p ∧ b p ≤ 119)
            · rw [rdT_l hk c] at e i1
              by_cases z : i = p
              · rw [z]; omega
              · exact ih r (k - 1) (p + 1) (by omega) (by omega) e i (by omega) i1
            · rw [rdT_x hk c1 c2 c] at e; omega
    · rw [rdT_k hk] at i1; omega
end
