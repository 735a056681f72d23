section
/-! the types of a signature: a stack, read from behind -/
def popP : List Tm → List Tm
  | x :: y :: r => tP x y :: r
  | s => s
def popF (k : Int) : List Tm → List Tm
  | x :: r => tF k x :: r
  | [] => []
def actT (b : Int → Int) (θ : Int → Tm) (p : Int) (s : List Tm) : List Tm :=
  if b p = 112 then popP s else if b p = 100 then popF (3 + b (p + 1) - 48) s else if b p = 105 then tI :: s else if b p = 98 then tB :: s else if 117 ≤ b p ∧ b p ≤ 119 then θ (b p - 117) :: s else s
def skT (b : Int → Int) (θ : Int → Tm) : Nat → Int → List Tm → List Tm
  | 0, _, s => s
  | r + 1, p, s => actT b θ p (skT b θ r (p + 1) s)
theorem act_p {b : Int → Int} {θ : Int → Tm} {p : Int} {s : List Tm} (c : b p = 112) : actT b θ p s = popP s := by unfold actT; rw [if_pos c]
theorem act_d {b : Int → Int} {θ : Int → Tm} {p : Int} {s : List Tm} (c : b p = 100) : actT b θ p s = popF (3 + b (p + 1) - 48) s := by unfold actT; rw [if_neg (by omega), if_pos c]
theorem act_i {b : Int → Int} {θ : Int → Tm} {p : Int} {s : List Tm} (c : b p = 105) : actT b θ p s = tI :: s := by unfold actT; rw [if_neg (by omega), if_neg (by omega), if_pos c]
theorem act_b {b : Int → Int} {θ : Int → Tm} {p : Int} {s : List Tm} (c : b p = 98) : actT b θ p s = tB :: s := by unfold actT; rw [if_neg (by omega), if_neg (by omega), if_neg (by omega), if_pos c]
theorem act_v {b : Int → Int} {θ : Int → Tm} {p : Int} {s : List Tm} (c : 117 ≤ b p ∧ b p ≤ 119) : actT b θ p s = θ (b p - 117) :: s := by unfold actT; rw [if_neg (by omega), if_neg (by omega), if_neg (by omega), if_neg (by omega), if_pos c]
theorem act_o {b : Int → Int} {θ : Int → Tm} {p : Int} {s : List Tm} (c1 : b p ≠ 112) (c2 : b p ≠ 100) (c3 : b p ≠ 105) (c4 : b p ≠ 98) (c5 : ¬ (117 ≤ b p ∧ b p ≤ 119)) : actT b θ p s = s := by unfold actT; rw [if_neg c1, if_neg c2, if_neg c3, if_neg c4, if_neg c5]
theorem popP_len {s : List Tm} : (popP s).length ≤ s.length := by
  match s with
  | [] => exact Nat.le_refl _
  | [_] => exact Nat.le_refl _
  | _ :: _ :: r => show (_ :: r).length ≤ (_ :: _ :: r).length; rw [List.length_cons, List.length_cons, List.length_cons]; omega
theorem popF_len {k : Int} {s : List Tm} : (popF k s).length = s.length := by
  match s with
  | [] => rfl
  | _ :: r => rfl
theorem act_len {b : Int → Int} {θ : Int → Tm} {p : Int} {s : List Tm} : (actT b θ p s).length ≤ s.length + 1 := by
  by_cases c1 : b p = 112
  · rw [act_p c1]; have := popP_len (s := s); omega
  · by_cases c2 : b p = 100
    · rw [act_d c2, popF_len]; omega
    · by_cases c3 : b p = 105
      · rw [act_i c3, List.length_cons]; omega
      · by_cases c4 : b p = 98
        · rw [act_b c4, List.length_cons]; omega
        · by_cases c5 : 117 ≤ b p ∧ b p ≤ 119
          · rw [act_v c5, List.length_cons]; omega
          · rw [act_o c1 c2 c3 c4 c5]; omega
theorem sk_len {b : Int → Int} {θ : Int → Tm} {s : List Tm} : ∀ (r : Nat) (p : Int), (skT b θ r p s).length ≤ r + s.length := by
  intro r
  induction r with
  | zero => intro p; show s.length ≤ 0 + s.length; omega
  | succ r ih =>
    intro p
    have := ih (p + 1)
    have := act_len (b := b) (θ := θ) (p := p) (s := skT b θ r (p + 1) s)
    show (actT b θ p (skT b θ r (p + 1) s)).length ≤ _
    omega
theorem sk_st {b : Int → Int} {θ : Int → Tm} {s : List Tm} {p q : Int} (h : p < q) : skT b θ (q - p).toNat p s = actT b θ p (skT b θ (q - (p + 1)).toNat (p + 1) s) := by
  rw [show (q - p).toNat = (q - (p + 1)).toNat + 1 by omega]
  rfl
theorem sk_add {b : Int → Int} {θ : Int → Tm} {s : List Tm} : ∀ (r t : Nat) (p : Int), skT b θ (r + t) p s = skT b θ r p (skT b θ t (p + r) s) := by
  intro r
  induction r with
  | zero => intro t p; rw [Nat.zero_add, show p + ((0 : Nat) : Int) = p by omega]; rfl
  | succ r ih =>
    intro t p
    rw [show r + 1 + t = (r + t) + 1 by omega]
    show actT b θ p (skT b θ (r + t) (p + 1) s) = actT b θ p (skT b θ r (p + 1) _)
    rw [ih, show p + 1 + (r : Int) = p + ((r + 1 : Nat) : Int) by omega]
theorem sk_cut {b : Int → Int} {θ : Int → Tm} {s : List Tm} {p t q : Int} (h1 : p ≤ t) (h2 : t ≤ q) : skT b θ (q - p).toNat p s = skT b θ (t - p).toNat p (skT b θ (q - t).toNat t s) := by
  rw [show (q - p).toNat = (t - p).toNat + (q - t).toNat by omega, sk_add, show p + ((t - p).toNat : Int) = t by omega]
/-- nothing is wanting where a byte is read -/
def Gd (b : Int → Int) (θ : Int → Tm) (s : List Tm) (q i : Int) : Prop := (b i = 112 → 2 ≤ (skT b θ (q - (i + 1)).toNat (i + 1) s).length) ∧ (b i = 100 → 1 ≤ (skT b θ (q - (i + 1)).toNat (i + 1) s).length ∧ 48 ≤ b (i + 1) ∧ b (i + 1) ≤ 51 ∧ i + 1 < q) ∧ (b i = 112 ∨ b i = 100 ∨ b i = 105 ∨ b i = 98 ∨ (117 ≤ b i ∧ b i ≤ 119) ∨ (48 ≤ b i ∧ b i ≤ 51))
theorem rdT_sk {b : Int → Int} {θ : Int → Tm} : ∀ (N r : Nat) (k p : Int), r ≤ N → 0 ≤ p → 0 ≤ k → 0 ≤ rdT b r k p → ∃ l : List Tm, (l.length : Int) = k ∧ ∀ s, skT b θ (rdT b r k p - p).toNat p s = l ++ s ∧ ∀ i, p ≤ i → i < rdT b r k p → Gd b θ s (rdT b r k p) i := by
  intro N
  induction N with
  | zero =>
    intro r k p hr p0 k0 e
    have : r = 0 := by omega
    subst this
    rcases Int.lt_or_le 0 k with hk | hk
    · rw [rdT_e hk] at e; omega
    · rw [rdT_k hk]
      exact ⟨[], by show ((0 : Nat) : Int) = k; omega, fun s => ⟨by rw [show (p - p).toNat = 0 by omega]; rfl, fun i a c => by omega⟩⟩
  | succ N ih =>
    intro r k p hr p0 k0 e
    rcases Int.lt_or_le 0 k with hk | hk
    · match r, hr, e with
      | 0, hr, e => rw [rdT_e hk] at e; omega
      | r + 1, hr, e =>
        by_cases c1 : b p = 112
        · rw [rdT_p hk c1] at e ⊢
          have le := rdT_le (b := b) _ r (k + 1) (p + 1) (Nat.le_refl _) (by omega)
          obtain ⟨l, hl, H⟩ := ih r (k + 1) (p + 1) (by omega) (by omega) (by omega) e
          generalize rdT b r (k + 1) (p + 1) = q at *
          match l, hl, H with
          | [], hl, H => exfalso; have hl : ((0 : Nat) : Int) = k + 1 := hl; omega
          | [x], hl, H => exfalso; have hl : ((1 : Nat) : Int) = k + 1 := hl; omega
          | x :: y :: l, hl, H =>
            refine ⟨tP x y :: l, ?_, fun s => ⟨?_, fun i a c => ?_⟩⟩
            · rw [List.length_cons, List.length_cons] at hl
              rw [List.length_cons]; omega
            · rw [sk_st (by omega), (H s).1, act_p c1]; rfl
            · by_cases z : i = p
              · subst z
                refine ⟨fun _ => ?_, fun w => by omega, Or.inl c1⟩
                rw [(H s).1]
                show 2 ≤ (x :: y :: (l ++ s)).length
                rw [List.length_cons, List.length_cons]; omega
              · exact (H s).2 i (by omega) c
        · by_cases c2 : b p = 100
          · match r, hr, e with
            | 0, hr, e => rw [rdT_d1 hk c2] at e; omega
            | r + 1, hr, e =>
              by_cases t : 48 ≤ b (p + 1) ∧ b (p + 1) ≤ 51
              · rw [rdT_d hk c2 t] at e ⊢
                have le := rdT_le (b := b) _ r k (p + 2) (Nat.le_refl _) (by omega)
                obtain ⟨l, hl, H⟩ := ih r k (p + 2) (by omega) (by omega) (by omega) e
                generalize rdT b r k (p + 2) = q at *
                match l, hl, H with
                | [], hl, H => exfalso; have hl : ((0 : Nat) : Int) = k := hl; omega
                | x :: l, hl, H =>
                  have s1 : ∀ s, skT b θ (q - (p + 1)).toNat (p + 1) s = x :: l ++ s := by
                    intro s
                    rw [sk_st (by omega), show p + 1 + 1 = p + 2 by omega, (H s).1, act_o (by omega) (by omega) (by omega) (by omega) (by omega)]
                  refine ⟨tF (3 + b (p + 1) - 48) x :: l, ?_, fun s => ⟨?_, fun i a c => ?_⟩⟩
                  · rw [List.length_cons] at hl ⊢; exact hl
                  · rw [sk_st (by omega), s1, act_d c2]; rfl
                  · by_cases z : i = p
                    · subst z
                      refine ⟨fun w => by omega, fun _ => ⟨?_, t.1, t.2, by omega⟩, Or.inr (Or.inl c2)⟩
                      rw [s1]
                      show 1 ≤ (x :: (l ++ s)).length
                      rw [List.length_cons]; omega
                    · by_cases y : i = p + 1
                      · subst y
                        exact ⟨fun w => by omega, fun w => by omega, by omega⟩
                      · exact (H s).2 i (by omega) c
              · rw [rdT_dx hk c2 t] at e; omega
          · by_cases c : b p = 105 ∨ b p = 98 ∨ (117 ≤ b p ∧ b p ≤ 119)
            · rw [rdT_l hk c] at e ⊢
              have le := rdT_le (b := b) _ r (k - 1) (p + 1) (Nat.le_refl _) (by omega)
              obtain ⟨l, hl, H⟩ := ih r (k - 1) (p + 1) (by omega) (by omega) (by omega) e
              generalize rdT b r (k - 1) (p + 1) = q at *
              have x : ∃ x, ∀ s, actT b θ p s = x :: s := by
                rcases c with c | c | c
                · exact ⟨tI, fun s => act_i c⟩
                · exact ⟨tB, fun s => act_b c⟩
                · exact ⟨θ (b p - 117), fun s => act_v c⟩
              obtain ⟨x, hx⟩ := x
              refine ⟨x :: l, ?_, fun s => ⟨?_, fun i a d => ?_⟩⟩
              · rw [List.length_cons]; omega
              · rw [sk_st (by omega), (H s).1, hx]; rfl
              · by_cases z : i = p
                · subst z
                  exact ⟨fun w => absurd w c1, fun w => absurd w c2, by omega⟩
                · exact (H s).2 i (by omega) d
            · rw [rdT_x hk c1 c2 c] at e; omega
    · rw [rdT_k hk]
      exact ⟨[], by show ((0 : Nat) : Int) = k; omega, fun s => ⟨by rw [show (p - p).toNat = 0 by omega]; rfl, fun i a c => by omega⟩⟩
/-- one type -/
theorem rdT_one {b : Int → Int} {θ : Int → Tm} {r : Nat} {p : Int} (p0 : 0 ≤ p) (e : 0 ≤ rdT b r 1 p) : ∃ x : Tm, ∀ s, skT b θ (rdT b r 1 p - p).toNat p s = x :: s ∧ ∀ i, p ≤ i → i < rdT b r 1 p → Gd b θ s (rdT b r 1 p) i := by
  obtain ⟨l, hl, H⟩ := rdT_sk (b := b) (θ := θ) r r 1 p (Nat.le_refl _) p0 (by decide) e
  match l, hl, H with
  | [], hl, H => exfalso; have hl : ((0 : Nat) : Int) = 1 := hl; omega
  | [x], hl, H => exact ⟨x, H⟩
  | x :: y :: l, hl, H => exfalso; rw [List.length_cons, List.length_cons] at hl; omega
end
