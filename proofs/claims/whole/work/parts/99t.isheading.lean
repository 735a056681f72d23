section
/-! reading a signature: the reference -/
theorem c_skipsT {d : Nat} {h0 h : HP} {n m p : Int} {Q : PQ} (hd : 2 < d) (en : h0 135 35 = n) (n0 : 0 ≤ n) (n1 : n ≤ 100) (m0 : m ≤ n) (m1 : m ≤ 24) (m2 : m = n ∨ m = 24) (p0 : 0 ≤ p) (p1 : p ≤ m) (f : FrA h0 h) (hp : h 135 36 = p)
    (H1 : 0 ≤ rdT (h0 157) (m - p).toNat 1 p → ∀ g, FrA h0 g → g 135 36 = rdT (h0 157) (m - p).toNat 1 p → Q 1 g) (H0 : rdT (h0 157) (m - p).toNat 1 p < 0 → ∀ g, FrA h0 g → g 135 36 = -1 - rdT (h0 157) (m - p).toNat 1 p → Q 0 g) :
    Go d M_Mo_skipsType 0 [(22, 135), (2, 0), (2, 0)] [] h Q :=
  N_Mo_skipsType_0 (c_skipsType hd en n0 n1 m0 m1 m2 (m - p).toNat (m - p).toNat 1 p _ h (Nat.le_refl _) p0 (by omega) (by omega) (by omega) f hp H1 H0)
theorem c_skipsSign {d : Nat} {h0 h : HP} {n m p s : Int} {Q : PQ} (hd : 0 < d) (en : h0 135 35 = n) (n1 : n ≤ 100) (m0 : m ≤ n) (m1 : m ≤ 24) (m2 : m = n ∨ m = 24) (s0 : 0 ≤ s) (p0 : 0 ≤ p) (p1 : p ≤ m) (f : FrA h0 h) (hp : h 135 36 = p)
    (H1 : p < m → h0 157 p = s → ∀ g, FrA h0 g → g 135 36 = p + 1 → Q 1 g) (H0 : ¬ (p < m ∧ h0 157 p = s) → ∀ g, FrA h0 g → g 135 36 = p → Q 0 g) :
    Go d M_Mo_skipsSign 0 [(22, 135), (0, s), (2, 0)] [] h Q := by
  have l : h 135 35 = n := by rw [f 135 35 (by omega), en]
  have no : ¬ (p < m ∧ h0 157 p = s) → r32 (h 135 36 + 0) ∧ ∀ g : HP, g = up2 h 135 36 (h 135 36 + 0) → Q 0 g := by
    intro c
    rw [hp]
    exact ⟨by unfold r32; omega, fun g e => H0 c g (FrA_up f e).1 (by rw [(FrA_up f e).2]; omega)⟩
  refine N_Mo_skipsSign_0 ⟨fun z => no (by omega), fun z => ⟨by omega, N_Mo_byteAt_0 ⟨fun y => ⟨fun _ => no (by omega), fun u => ?_⟩, fun y => ⟨⟨by omega, by omega⟩, ?_⟩⟩⟩⟩
  · exfalso; omega
  · rw [show h 157 (h 135 36) = h0 157 p by rw [hp]; exact f 157 p (by omega)]
    refine ⟨fun c => no (fun u => c u.2), fun c => ?_⟩
    rw [hp]
    exact ⟨by unfold r32; omega, fun g e => H1 (by omega) c g (FrA_up f e).1 (FrA_up f e).2⟩
theorem c_isHeading {d : Nat} {h0 : HP} {n m : Int} {Q : PQ} (hd : 4 < d) (en : h0 135 35 = n) (n0 : 0 ≤ n) (n1 : n ≤ 100) (m0 : m ≤ n) (m1 : m ≤ 24) (m2 : m = n ∨ m = 24) : ∀ (j : Nat) (p : Int) (h : HP), j ≤ 3 → 0 ≤ p → p ≤ m → FrA h0 h → h 135 36 = p →
    (0 ≤ rdS (h0 157) n m j p → ∀ g, FrA h0 g → Q 1 g) → (rdS (h0 157) n m j p < 0 → ∀ g, FrA h0 g → g 135 36 = -1 - rdS (h0 157) n m j p → Q 0 g) →
    Go d M_Mo_isHeading 7 [(22, 135), (0, 3 - j)] [] h Q := by
  -- a colon
  have colon : ∀ (j : Nat) (p : Int) (h : HP), j ≤ 3 → 0 ≤ p → p < m → FrA h0 h → h 135 36 = p → h0 157 p = 58 → (0 ≤ rdS (h0 157) n m j p → ∀ g, FrA h0 g → Q 1 g) → (rdS (h0 157) n m j p < 0 → ∀ g, FrA h0 g → g 135 36 = -1 - rdS (h0 157) n m j p → Q 0 g) → r32 (h 135 36 + 1) ∧ ∀ g2 : HP, g2 = up2 h 135 36 (h 135 36 + 1) → 0 < d ∧ Go (d - 1) M_Mo_skipsType 0 [(22, 135), (2, 0), (2, 0)] [] g2 (fun y3 k3 => (y3 = 0 → Q 0 k3) ∧ (y3 ≠ 0 → (k3 135 36 ≠ k3 135 35 → Q 0 k3) ∧ (k3 135 36 = k3 135 35 → Q 1 k3))) := by
    intro j p h hj p0 p1 f hp c H1 H0
    rw [rdS_c p1 c] at H1 H0
    rw [hp]
    refine ⟨by unfold r32; omega, fun g2 e2 => ⟨by omega, c_skipsT (by omega) en n0 n1 m0 m1 m2 (by omega) (by omega) (FrA_up f e2).1 (FrA_up f e2).2 (fun e g fg eg => ⟨fun z => absurd z (by decide), fun _ => ?_⟩) (fun e g fg eg => ⟨fun _ => ?_, fun z => absurd rfl z⟩)⟩⟩
    · have l : g 135 35 = n := by rw [fg 135 35 (by omega), en]
      rw [eg, l]
      refine ⟨fun z => ?_, fun z => ?_⟩
      · have ee : rdE (h0 157) n m (3 - j) p = -1 - rdT (h0 157) (m - (p + 1)).toNat 1 (p + 1) := by unfold rdE; rw [if_neg (by omega), if_neg z]
        rw [ee] at H0
        exact H0 (by omega) g fg (by omega)
      · have ee : rdE (h0 157) n m (3 - j) p = 3 - j := by unfold rdE; rw [if_neg (by omega), if_pos z]
        rw [ee] at H1
        exact H1 (by omega) g fg
    · have ee : rdE (h0 157) n m (3 - j) p = rdT (h0 157) (m - (p + 1)).toNat 1 (p + 1) := by unfold rdE; rw [if_pos e]
      rw [ee] at H0
      exact H0 e g fg eg
  -- all else
  have rest : ∀ (j : Nat) (p : Int) (h : HP), FrA h0 h → h 135 36 = p → 0 ≤ p → p ≤ m → ¬ (p < m ∧ h0 157 p = 58) → Go d M_Mo_isHeading 29 [(22, 135), (0, 3 - j)] [] h Q → Go d M_Mo_isHeading 7 [(22, 135), (0, 3 - j)] [] h Q := by
    intro j p h f hp p0 p1 nc G
    have l : h 135 35 = n := by rw [f 135 35 (by omega), en]
    refine N_Mo_isHeading_7 ⟨fun _ => G, fun z => ⟨by omega, N_Mo_byteAt_0 ⟨fun y => ⟨fun u => absurd u (by decide), fun _ => G⟩, fun y => ⟨⟨by omega, by omega⟩, ?_⟩⟩⟩⟩
    rw [show h 157 (h 135 36) = h0 157 p by rw [hp]; exact f 157 p (by omega)]
    exact ⟨fun c => absurd ⟨by omega, c⟩ nc, fun _ => G⟩
  have head : ∀ (j : Nat) (p : Int) (h : HP), j ≤ 3 → FrA h0 h → h 135 36 = p → 0 ≤ p → p < m → h0 157 p = 58 → (0 ≤ rdS (h0 157) n m j p → ∀ g, FrA h0 g → Q 1 g) → (rdS (h0 157) n m j p < 0 → ∀ g, FrA h0 g → g 135 36 = -1 - rdS (h0 157) n m j p → Q 0 g) → Go d M_Mo_isHeading 7 [(22, 135), (0, 3 - j)] [] h Q := by
    intro j p h hj f hp p0 p1 c H1 H0
    have l : h 135 35 = n := by rw [f 135 35 (by omega), en]
    refine N_Mo_isHeading_7 ⟨fun z => by omega, fun z => ⟨by omega, N_Mo_byteAt_0 ⟨fun y => by omega, fun y => ⟨⟨by omega, by omega⟩, ?_⟩⟩⟩⟩
    rw [show h 157 (h 135 36) = h0 157 p by rw [hp]; exact f 157 p (by omega)]
    exact ⟨fun _ => colon j p h hj p0 p1 f hp c H1 H0, fun u => absurd c u⟩
  intro j
  induction j with
  | zero =>
    intro p h hj p0 p1 f hp H1 H0
    by_cases nc : p < m ∧ h0 157 p = 58
    · exact head 0 p h hj f hp p0 nc.1 nc.2 H1 H0
    · rw [rdS_z nc] at H0
      exact rest 0 p h f hp p0 p1 nc (N_Mo_isHeading_29 ⟨fun _ => H0 (by omega) h f (by omega), fun z => absurd (by decide) z⟩)
  | succ j ih =>
    intro p h hj p0 p1 f hp H1 H0
    by_cases nc : p < m ∧ h0 157 p = 58
    · exact head (j + 1) p h hj f hp p0 nc.1 nc.2 H1 H0
    · rw [rdS_s nc] at H1 H0
      refine rest (j + 1) p h f hp p0 p1 nc (N_Mo_isHeading_29 ⟨fun z => by omega, fun _ => ⟨by omega, c_skipsT (by omega) en n0 n1 m0 m1 m2 p0 p1 f hp (fun e g fg eg => ⟨fun z => absurd z (by decide), fun _ => ⟨by omega, ?_⟩⟩) (fun e g fg eg => ⟨fun _ => ?_, fun z => absurd rfl z⟩)⟩⟩)
      · rw [if_neg (by omega)] at H1 H0
        have lt := rdT_le (b := h0 157) _ (m - p).toNat 1 p (Nat.le_refl _) p0
        refine c_skipsSign (by omega) en n1 m0 m1 m2 (by decide) e (by omega) fg eg (fun y c k fk ek => ⟨fun _ => ⟨by unfold r32; omega, ?_⟩, fun z => absurd z (by decide)⟩) (fun z k fk ek => ⟨fun y => absurd rfl y, fun _ => ?_⟩)
        · rw [if_pos ⟨y, c⟩] at H1 H0
          rw [show (3 : Int) - ((j + 1 : Nat) : Int) + 1 = 3 - j by omega]
          exact ih _ k (by omega) (by omega) (by omega) fk ek H1 H0
        · rw [if_neg z] at H0
          exact H0 (by omega) k fk (by omega)
      · rw [if_pos e] at H0
        exact H0 e g fg eg
end
