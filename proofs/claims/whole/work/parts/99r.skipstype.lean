section
/-! reading a type: the reference -/
def FrA (h h' : HP) : Prop := ∀ a i, ¬ (a = 135 ∧ i = 36) → h' a i = h a i
theorem FrA_refl (h : HP) : FrA h h := fun _ _ _ => rfl
theorem FrA_up {h h' g : HP} {x : Int} (f : FrA h h') (e : g = up2 h' 135 36 x) : FrA h g ∧ g 135 36 = x := ⟨fun a i p => by rw [e, up2_ext p]; exact f a i p, by rw [e, up2_eq]⟩
theorem c_skipsType {d : Nat} {h0 : HP} {n m : Int} {Q : PQ} (hd : 2 < d) (en : h0 135 35 = n) (n0 : 0 ≤ n) (n1 : n ≤ 100) (m0 : m ≤ n) (m1 : m ≤ 24) (m2 : m = n ∨ m = 24) : ∀ (N r : Nat) (k p : Int) (w2 : AV) (h : HP), r ≤ N → 0 ≤ p → p + r = m → 0 ≤ k → k ≤ 1 + p → FrA h0 h → h 135 36 = p →
    (0 ≤ rdT (h0 157) r k p → ∀ g, FrA h0 g → g 135 36 = rdT (h0 157) r k p → Q 1 g) → (rdT (h0 157) r k p < 0 → ∀ g, FrA h0 g → g 135 36 = -1 - rdT (h0 157) r k p → Q 0 g) →
    Go d M_Mo_skipsType 2 [(22, 135), (0, k), w2] [] h Q := by
  have non : ∀ (h : HP) (k : Int), Q 0 h → Go d M_Mo_skipsType 78 [(22, 135), (0, k), (0, -1)] [] h Q := fun h k H => N_Mo_skipsType_78 ⟨fun _ => ⟨fun _ => ⟨fun z => absurd z (by decide), fun _ => ⟨fun z => absurd z (by decide), fun _ => ⟨by omega, c_in (fun z _ => absurd z (by decide)) (fun _ => ⟨fun _ => H, fun z => absurd rfl z⟩)⟩⟩⟩, fun z => absurd z (by decide)⟩, fun z => absurd z (by decide)⟩
  intro N
  induction N with
  | zero =>
    intro r k p w2 h hr p0 pr k0 k1 f hp H1 H0
    have : r = 0 := by omega
    subst this
    have l : h 135 35 = n := by rw [f 135 35 (by omega), en]
    refine N_Mo_skipsType_2 ⟨fun hk => ?_, fun hk => ?_⟩
    · rw [rdT_k hk] at H1; exact H1 p0 h f hp
    rw [rdT_e hk] at H0
    have q0 := H0 (by omega) h f (by omega)
    exact ⟨fun _ => non h k q0, fun _ => ⟨by omega, N_Mo_byteAt_0 ⟨fun _ => ⟨fun _ => non h k q0, fun z => absurd z (by decide)⟩, fun z => by omega⟩⟩⟩
  | succ N ih =>
    intro r k p w2 h hr p0 pr k0 k1 f hp H1 H0
    have l : h 135 35 = n := by rw [f 135 35 (by omega), en]
    have rw157 : h 157 = h0 157 := funext fun i => f 157 i (by omega)
    refine N_Mo_skipsType_2 ⟨fun hk => ?_, fun hk => ?_⟩
    · rw [rdT_k hk] at H1; exact H1 p0 h f hp
    match r, hr, pr, H1, H0 with
    | 0, hr, pr, H1, H0 =>
      rw [rdT_e hk] at H0
      have q0 := H0 (by omega) h f (by omega)
      exact ⟨fun _ => non h k q0, fun _ => ⟨by omega, N_Mo_byteAt_0 ⟨fun _ => ⟨fun _ => non h k q0, fun z => absurd z (by decide)⟩, fun z => by omega⟩⟩⟩
    | q + 1, hr, pr, H1, H0 =>
      have pm : p < m := by omega
      rw [hp]
      refine ⟨fun z => by omega, fun _ => ⟨by omega, N_Mo_byteAt_0 ⟨fun z => by omega, fun _ => ⟨⟨p0, by omega⟩, ?_⟩⟩⟩⟩
      rw [rw157]
      have c100 : h0 157 p = 100 → rdT (h0 157) (q + 1) k p = -1 - (p + 1) → Go d M_Mo_skipsType 78 [(22, 135), (0, k), (0, h0 157 p)] [] h Q := by
        intro c e
        rw [c]
        refine N_Mo_skipsType_78 ⟨fun z => absurd rfl z, fun _ => ⟨by rw [hp]; unfold r32; omega, fun g hg => ?_⟩⟩
        rw [hp] at hg
        have u := FrA_up f hg
        rw [e] at H0
        exact H0 (by omega) g u.1 (by rw [u.2]; omega)
      refine ⟨fun c2 => N_Mo_skipsType_78 ⟨fun _ => ⟨fun c1 => ?_, fun c1 => ⟨by rw [hp]; unfold r32; omega, fun g hg => ⟨by unfold r32; omega, ?_⟩⟩⟩, fun z => absurd z c2⟩, fun c2 => ?_⟩
      · have lf : (h0 157 p = 105 ∨ h0 157 p = 98 ∨ (117 ≤ h0 157 p ∧ h0 157 p ≤ 119)) → r32 (h 135 36 + 1) ∧ ∀ g : HP, g = up2 h 135 36 (h 135 36 + 1) → r32 (k + -1) ∧ Go d M_Mo_skipsType 2 [(22, 135), (0, k + -1), (0, h0 157 p)] [] g Q := by
          intro c
          rw [hp]
          refine ⟨by unfold r32; omega, fun g hg => ⟨by unfold r32; omega, ?_⟩⟩
          have u := FrA_up f hg
          rw [rdT_l hk c] at H1 H0
          exact ih q (k - 1) (p + 1) _ g (by omega) (by omega) (by omega) (by omega) (by omega) u.1 u.2 H1 H0
        refine ⟨fun c => lf (Or.inl c), fun c3 => ⟨fun c => lf (Or.inr (Or.inl c)), fun c4 => ⟨by omega, c_in (fun x y => ⟨fun z => absurd z (by decide), fun _ => lf (Or.inr (Or.inr ⟨x, y⟩))⟩) (fun x => ⟨fun _ => ?_, fun z => absurd rfl z⟩)⟩⟩⟩
        rw [rdT_x hk c1 c2 (by omega)] at H0
        exact H0 (by omega) h f (by omega)
      · rw [hp] at hg
        have u := FrA_up f hg
        rw [rdT_p hk c1] at H1 H0
        exact ih q (k + 1) (p + 1) _ g (by omega) (by omega) (by omega) (by omega) (by omega) u.1 u.2 H1 H0
      · rw [hp]
        refine ⟨by unfold r32; omega, fun z => ?_, fun z => ⟨by unfold r32; omega, by omega, N_Mo_byteAt_0 ⟨fun y => ⟨by omega, c_in (fun x _ => absurd x (by decide)) (fun _ => ⟨fun _ => ?_, fun x => absurd rfl x⟩)⟩, fun y => ⟨⟨by omega, by omega⟩, by omega, ?_⟩⟩⟩⟩
        · have : q = 0 := by omega
          subst this
          exact c100 c2 (rdT_d1 hk c2)
        · have : q = 0 := by omega
          subst this
          exact c100 c2 (rdT_d1 hk c2)
        · have : ∃ t, q = t + 1 := ⟨q - 1, by omega⟩
          obtain ⟨t, ht⟩ := this
          subst ht
          rw [rw157]
          refine c_in (fun x y => ⟨fun z => absurd z (by decide), fun _ => ⟨by rw [hp]; unfold r32; omega, fun g hg => ?_⟩⟩) (fun x => ⟨fun _ => c100 c2 (rdT_dx hk c2 (by omega)), fun z => absurd rfl z⟩)
          rw [hp] at hg
          have u := FrA_up f hg
          rw [rdT_d hk c2 ⟨x, y⟩] at H1 H0
          exact ih t k (p + 2) _ g (by omega) (by omega) (by omega) (by omega) (by omega) u.1 u.2 H1 H0
end
