section
/-! reading a type: one spec, both readers -/
/-- reads k types from place p on, with r bytes left; answers the place behind, or -1 - the place of the fault -/
def rdT (b : Int → Int) : Nat → Int → Int → Int
  | 0, k, p => if k ≤ 0 then p else -1 - p
  | 1, k, p => if k ≤ 0 then p else if b p = 112 then rdT b 0 (k + 1) (p + 1) else if b p = 100 then -1 - (p + 1) else if b p = 105 ∨ b p = 98 ∨ (117 ≤ b p ∧ b p ≤ 119) then rdT b 0 (k - 1) (p + 1) else -1 - p
  | r + 2, k, p => if k ≤ 0 then p else if b p = 112 then rdT b (r + 1) (k + 1) (p + 1) else if b p = 100 then (if 48 ≤ b (p + 1) ∧ b (p + 1) ≤ 51 then rdT b r k (p + 2) else -1 - (p + 1)) else if b p = 105 ∨ b p = 98 ∨ (117 ≤ b p ∧ b p ≤ 119) then rdT b (r + 1) (k - 1) (p + 1) else -1 - p
theorem rdT_k {b : Int → Int} {r : Nat} {k p : Int} (hk : k ≤ 0) : rdT b r k p = p := by
  match r with
  | 0 => unfold rdT; rw [if_pos hk]
  | 1 => unfold rdT; rw [if_pos hk]
  | r + 2 => unfold rdT; rw [if_pos hk]
theorem rdT_e {b : Int → Int} {k p : Int} (hk : 0 < k) : rdT b 0 k p = -1 - p := by unfold rdT; rw [if_neg (by omega)]
theorem rdT_p {b : Int → Int} {r : Nat} {k p : Int} (hk : 0 < k) (c : b p = 112) : rdT b (r + 1) k p = rdT b r (k + 1) (p + 1) := by
  match r with
  | 0 => show (if k ≤ 0 then p else if b p = 112 then rdT b 0 (k + 1) (p + 1) else _) = _; rw [if_neg (by omega), if_pos c]
  | r + 1 => rw [rdT, if_neg (by omega), if_pos c]
theorem rdT_l {b : Int → Int} {r : Nat} {k p : Int} (hk : 0 < k) (c : b p = 105 ∨ b p = 98 ∨ (117 ≤ b p ∧ b p ≤ 119)) : rdT b (r + 1) k p = rdT b r (k - 1) (p + 1) := by
  match r with
  | 0 => show (if k ≤ 0 then p else if b p = 112 then _ else if b p = 100 then _ else if b p = 105 ∨ b p = 98 ∨ (117 ≤ b p ∧ b p ≤ 119) then rdT b 0 (k - 1) (p + 1) else _) = _; rw [if_neg (by omega), if_neg (by omega), if_neg (by omega), if_pos c]
  | r + 1 => rw [rdT, if_neg (by omega), if_neg (by omega), if_neg (by omega), if_pos c]
theorem rdT_x {b : Int → Int} {r : Nat} {k p : Int} (hk : 0 < k) (c1 : b p ≠ 112) (c2 : b p ≠ 100) (c : ¬ (b p = 105 ∨ b p = 98 ∨ (117 ≤ b p ∧ b p ≤ 119))) : rdT b (r + 1) k p = -1 - p := by
  match r with
  | 0 => rw [rdT, if_neg (by omega), if_neg c1, if_neg c2, if_neg c]
  | r + 1 => rw [rdT, if_neg (by omega), if_neg c1, if_neg c2, if_neg c]
theorem rdT_d1 {b : Int → Int} {k p : Int} (hk : 0 < k) (c : b p = 100) : rdT b 1 k p = -1 - (p + 1) := by rw [rdT, if_neg (by omega), if_neg (by omega), if_pos c]
theorem rdT_d {b : Int → Int} {r : Nat} {k p : Int} (hk : 0 < k) (c : b p = 100) (t : 48 ≤ b (p + 1) ∧ b (p + 1) ≤ 51) : rdT b (r + 2) k p = rdT b r k (p + 2) := by rw [rdT, if_neg (by omega), if_neg (by omega), if_pos c, if_pos t]
theorem rdT_dx {b : Int → Int} {r : Nat} {k p : Int} (hk : 0 < k) (c : b p = 100) (t : ¬ (48 ≤ b (p + 1) ∧ b (p + 1) ≤ 51)) : rdT b (r + 2) k p = -1 - (p + 1) := by rw [rdT, if_neg (by omega), if_neg (by omega), if_pos c, if_neg t]
/-- where it ends -/
theorem rdT_le {b : Int → Int} : ∀ (N r : Nat) (k p : Int), r ≤ N → 0 ≤ p → (p ≤ rdT b r k p ∨ rdT b r k p ≤ -1 - p) ∧ rdT b r k p ≤ p + r ∧ -1 - (p + r) ≤ rdT b r k p := by
  intro N
  induction N with
  | zero =>
    intro r k p hr p0
    have : r = 0 := by omega
    subst this
    rcases Int.lt_or_le 0 k with hk | hk
    · rw [rdT_e hk]; omega
    · rw [rdT_k hk]; omega
  | succ N ih =>
    intro r k p hr p0
    rcases Int.lt_or_le 0 k with hk | hk
    · match r with
      | 0 => rw [rdT_e hk]; omega
      | r + 1 =>
        by_cases c1 : b p = 112
        · rw [rdT_p hk c1]; have := ih r (k + 1) (p + 1) (by omega) (by omega); omega
        · by_cases c2 : b p = 100
          · match r with
            | 0 => rw [rdT_d1 hk c2]; omega
            | r + 1 =>
              by_cases t : 48 ≤ b (p + 1) ∧ b (p + 1) ≤ 51
              · rw [rdT_d hk c2 t]; have := ih r k (p + 2) (by omega) (by omega); omega
              · rw [rdT_dx hk c2 t]; omega
          · by_cases c : b p = 105 ∨ b p = 98 ∨ (117 ≤ b p ∧ b p ≤ 119)
            · rw [rdT_l hk c]; have := ih r (k - 1) (p + 1) (by omega) (by omega); omega
            · rw [rdT_x hk c1 c2 c]; omega
    · rw [rdT_k hk]; omega
theorem c_codeAt {d : Nat} {h : HP} {a p : Int} {Q : PQ} (sz : aSZ (a + 1) = 100) (n1 : h a 2 ≤ 100) (p0 : 0 ≤ p) (p1 : p < h a 2) (H : Q (h (a + 1) p) h) : Go d M_Code_byteAt 0 [(11, a), (0, p)] [] h Q :=
  V_Code_byteAt_0 ⟨fun z => by omega, fun _ => ⟨fun z => by omega, fun _ => ⟨⟨p0, by omega⟩, H⟩⟩⟩
theorem c_readType {d : Nat} {h : HP} {v a m s : Int} {Q : PQ} (hd : 1 < d) (sz : aSZ (a + 1) = 100) (n1 : h a 2 ≤ 100) (m1 : m ≤ h a 2) : ∀ (N r : Nat) (k p : Int) (w6 w7 : AV), r ≤ N → 0 ≤ p → p + r = m → 0 ≤ k → k ≤ 1 + p →
    (0 ≤ rdT (h (a + 1)) r k p → Q (rdT (h (a + 1)) r k p) h) → (rdT (h (a + 1)) r k p < 0 → ∀ g1 : HP, g1 = up2 h a 4 (-1 - rdT (h (a + 1)) r k p) → ∀ g2 : HP, g2 = up2 g1 a 5 1 → Q (-1) g2) →
    Go d M_Reader_readType 6 [(15, v), (11, a), (0, s), (0, m), (0, k), (0, p), w6, w7] [] h Q := by
  have stop : ∀ q : Int, (∀ g1 : HP, g1 = up2 h a 4 (-1 - (-1 - q)) → ∀ g2 : HP, g2 = up2 g1 a 5 1 → Q (-1) g2) → ∀ g1 : HP, g1 = up2 h a 4 q → ∀ g2 : HP, g2 = up2 g1 a 5 1 → Q (-1) g2 := by
    intro q H; rw [show -1 - (-1 - q) = q by omega] at H; exact H
  intro N
  induction N with
  | zero =>
    intro r k p w6 w7 hr p0 pr k0 k1 H1 H0
    have : r = 0 := by omega
    subst this
    refine V_Reader_readType_6 ⟨fun _ => V_Reader_readType_137 ⟨fun hk => ?_, fun hk => ⟨by omega, ?_⟩⟩, fun z => by omega⟩
    · rw [rdT_k hk] at H1; exact H1 p0
    · rw [rdT_e hk] at H0; exact stop p (H0 (by omega))
  | succ N ih =>
    intro r k p w6 w7 hr p0 pr k0 k1 H1 H0
    refine V_Reader_readType_6 ⟨fun z => V_Reader_readType_137 ⟨fun hk => ?_, fun hk => ⟨by omega, ?_⟩⟩, fun z => ⟨fun hk => V_Reader_readType_137 ⟨fun _ => ?_, fun hk => by omega⟩, fun hk => ⟨by omega, c_codeAt sz n1 p0 (by omega) ?_⟩⟩⟩
    · rw [rdT_k hk] at H1; exact H1 p0
    · have : r = 0 := by omega
      subst this
      rw [rdT_e hk] at H0; exact stop p (H0 (by omega))
    · rw [rdT_k hk] at H1; exact H1 p0
    have : ∃ q, r = q + 1 := ⟨r - 1, by omega⟩
    obtain ⟨q, hq⟩ := this
    subst hq
    have lf : (h (a + 1) p = 105 ∨ h (a + 1) p = 98 ∨ (117 ≤ h (a + 1) p ∧ h (a + 1) p ≤ 119)) → ∀ x6 x7, r32 (k + -1) ∧ r32 (p + 1) ∧ Go d M_Reader_readType 6 [(15, v), (11, a), (0, s), (0, m), (0, k + -1), (0, p + 1), x6, x7] [] h Q := by
      intro c x6 x7
      rw [rdT_l hk c] at H1 H0
      exact ⟨by unfold r32; omega, by unfold r32; omega, ih q (k - 1) (p + 1) x6 x7 (by omega) (by omega) (by omega) (by omega) (by omega) H1 H0⟩
    have xf : h (a + 1) p ≠ 112 → h (a + 1) p ≠ 100 → ¬ (h (a + 1) p = 105 ∨ h (a + 1) p = 98 ∨ (117 ≤ h (a + 1) p ∧ h (a + 1) p ≤ 119)) → 0 < d ∧ ∀ g1 : HP, g1 = up2 h a 4 p → ∀ g2 : HP, g2 = up2 g1 a 5 1 → Q (-1) g2 := by
      intro c1 c2 c
      rw [rdT_x hk c1 c2 c] at H0
      exact ⟨by omega, stop p (H0 (by omega))⟩
    refine ⟨fun c1 => ⟨fun c2 => ⟨fun c3 => lf (Or.inl c3) _ _, fun c3 => ⟨fun c4 => lf (Or.inr (Or.inl c4)) _ _, fun c4 => ⟨fun c5 => xf c1 c2 (by omega), fun c5 => ⟨fun c6 => xf c1 c2 (by omega), fun c6 => lf (Or.inr (Or.inr ⟨c5, by omega⟩)) _ _⟩⟩⟩⟩, fun c2 => ⟨by unfold r32; omega, fun e => ?_, fun e => ⟨by omega, ?_⟩⟩⟩, fun c1 => ⟨by unfold r32; omega, by unfold r32; omega, ?_⟩⟩
    · have : q = 0 := by omega
      subst this
      rw [rdT_d1 hk c2] at H0
      exact V_Reader_readType_64 ⟨fun _ => ⟨by omega, stop (p + 1) (H0 (by omega))⟩, fun u => absurd rfl u⟩
    · have : ∃ t, q = t + 1 := ⟨q - 1, by omega⟩
      obtain ⟨t, ht⟩ := this
      subst ht
      have bad : ¬ (48 ≤ h (a + 1) (p + 1) ∧ h (a + 1) (p + 1) ≤ 51) → 0 < d ∧ ∀ g1 : HP, g1 = up2 h a 4 (p + 1) → ∀ g2 : HP, g2 = up2 g1 a 5 1 → Q (-1) g2 := by
        intro c
        rw [rdT_dx hk c2 c] at H0
        exact ⟨by omega, stop (p + 1) (H0 (by omega))⟩
      refine V_Code_digitAt_0 ⟨fun u => by omega, fun _ => ⟨fun u => by omega, fun _ => ⟨⟨by omega, by omega⟩, fun u => V_Reader_readType_64 ⟨fun _ => bad (by omega), fun u => absurd rfl u⟩, fun u => ⟨⟨by omega, by omega⟩, fun y => V_Reader_readType_64 ⟨fun _ => bad (by omega), fun u => absurd rfl u⟩, fun y => ⟨⟨by omega, by omega⟩, by unfold r32; omega, V_Reader_readType_64 ⟨fun x => by omega, fun _ => ⟨fun x => ⟨by unfold r32; omega, ?_⟩, fun x => bad (by omega)⟩⟩⟩⟩⟩⟩⟩
      rw [rdT_d hk c2 ⟨u, by omega⟩] at H1 H0
      rw [show p + 1 + 1 = p + 2 by omega]
      exact ih t k (p + 2) _ _ (by omega) (by omega) (by omega) (by omega) (by omega) H1 H0
    · rw [rdT_p hk c1] at H1 H0
      exact ih q (k + 1) (p + 1) _ _ (by omega) (by omega) (by omega) (by omega) (by omega) H1 H0
end
