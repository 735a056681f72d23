section
/-! signatures: what a reading tells; the stack read from behind -/
theorem rdT_congr {b b' : Int → Int} : ∀ (N r : Nat) (k p : Int), r ≤ N → (∀ i, p ≤ i → i < p + r → b' i = b i) → rdT b' r k p = rdT b r k p := by
  intro N
  induction N with
  | zero =>
    intro r k p hr e
    have : r = 0 := by omega
    subst this
    rcases Int.lt_or_le 0 k with hk | hk
    · rw [rdT_e hk, rdT_e hk]
    · rw [rdT_k hk, rdT_k hk]
  | succ N ih =>
    intro r k p hr e
    rcases Int.lt_or_le 0 k with hk | hk
    · match r, hr, e with
      | 0, hr, e => rw [rdT_e hk, rdT_e hk]
      | r + 1, hr, e =>
        have e0 : b' p = b p := e p (by omega) (by omega)
        by_cases c1 : b p = 112
        · rw [rdT_p hk c1, rdT_p (b := b') hk (by rw [e0]; exact c1)]
          exact ih r _ _ (by omega) (fun i a c => e i (by omega) (by omega))
        · by_cases c2 : b p = 100
          · match r, hr, e with
            | 0, hr, e => rw [rdT_d1 hk c2, rdT_d1 (b := b') hk (by rw [e0]; exact c2)]
            | r + 1, hr, e =>
              have e1 : b' (p + 1) = b (p + 1) := e _ (by omega) (by omega)
              by_cases t : 48 ≤ b (p + 1) ∧ b (p + 1) ≤ 51
              · rw [rdT_d hk c2 t, rdT_d (b := b') hk (by rw [e0]; exact c2) (by rw [e1]; exact t)]
                exact ih r _ _ (by omega) (fun i a c => e i (by omega) (by omega))
              · rw [rdT_dx hk c2 t, rdT_dx (b := b') hk (by rw [e0]; exact c2) (by rw [e1]; exact t)]
          · by_cases c : b p = 105 ∨ b p = 98 ∨ (117 ≤ b p ∧ b p ≤ 119)
            · rw [rdT_l hk c, rdT_l (b := b') hk (by rw [e0]; exact c)]
              exact ih r _ _ (by omega) (fun i a c => e i (by omega) (by omega))
            · rw [rdT_x hk c1 c2 c, rdT_x (b := b') hk (by rw [e0]; exact c1) (by rw [e0]; exact c2) (by rw [e0]; exact c)]
    · rw [rdT_k hk, rdT_k hk]
theorem rdS_congr {b b' : Int → Int} {n m : Int} : ∀ (j : Nat) (p : Int), 0 ≤ p → (∀ i, p ≤ i → i < m → b' i = b i) → rdS b' n m j p = rdS b n m j p := by
  have E : ∀ (c p : Int), 0 ≤ p → (∀ i, p ≤ i → i < m → b' i = b i) → rdE b' n m c p = rdE b n m c p := by
    intro c p p0 e
    unfold rdE
    rw [rdT_congr (b := b) (b' := b') _ _ 1 (p + 1) (Nat.le_refl _) (fun i a c => e i (by omega) (by omega))]
  intro j
  induction j with
  | zero =>
    intro p p0 e
    by_cases q : p < m ∧ b p = 58
    · rw [rdS_c q.1 q.2, rdS_c (b := b') q.1 (by rw [e p (by omega) q.1]; exact q.2), E _ p p0 e]
    · rw [rdS_z q, rdS_z (b := b') (fun u => q ⟨u.1, by rw [← e p (by omega) u.1]; exact u.2⟩)]
  | succ j ih =>
    intro p p0 e
    by_cases q : p < m ∧ b p = 58
    · rw [rdS_c q.1 q.2, rdS_c (b := b') q.1 (by rw [e p (by omega) q.1]; exact q.2), E _ p p0 e]
    · rw [rdS_s q, rdS_s (b := b') (fun u => q ⟨u.1, by rw [← e p (by omega) u.1]; exact u.2⟩), rdT_congr (b := b) (b' := b') _ _ 1 p (Nat.le_refl _) (fun i a c => e i (by omega) (by omega))]
      have l := rdT_le (b := b) _ (m - p).toNat 1 p (Nat.le_refl _) p0
      generalize rdT b (m - p).toNat 1 p = t at l
      by_cases c0 : t < 0
      · rw [if_pos c0, if_pos c0]
      · rw [if_neg c0, if_neg c0]
        by_cases y : t < m ∧ b t = 44
        · rw [if_pos y, if_pos ⟨y.1, by rw [e t (by omega) y.1]; exact y.2⟩]
          exact ih (t + 1) (by omega) (fun i a c => e i (by omega) c)
        · rw [if_neg y, if_neg (fun u => y ⟨u.1, by rw [← e t (by omega) u.1]; exact u.2⟩)]
theorem rdE_n {b : Int → Int} {n m c p : Int} (h : 0 ≤ rdE b n m c p) : rdT b (m - (p + 1)).toNat 1 (p + 1) = n ∧ 0 ≤ n ∧ rdE b n m c p = c := by
  unfold rdE at h ⊢
  by_cases c0 : rdT b (m - (p + 1)).toNat 1 (p + 1) < 0
  · rw [if_pos c0] at h; omega
  · rw [if_neg c0] at h ⊢
    by_cases c1 : rdT b (m - (p + 1)).toNat 1 (p + 1) = n
    · rw [if_pos c1]; exact ⟨c1, by omega, rfl⟩
    · rw [if_neg c1] at h; omega
theorem rdS_len {b : Int → Int} {n m : Int} (mn : m ≤ n) : ∀ (j : Nat) (p : Int), 0 ≤ p → 0 ≤ rdS b n m j p → n = m := by
  have E : ∀ (c p : Int), 0 ≤ p → p < m → 0 ≤ rdE b n m c p → n = m := by
    intro c p p0 p1 h
    have l := rdT_le (b := b) _ (m - (p + 1)).toNat 1 (p + 1) (Nat.le_refl _) (by omega)
    have := rdE_n h
    omega
  intro j
  induction j with
  | zero =>
    intro p p0 h
    by_cases q : p < m ∧ b p = 58
    · rw [rdS_c q.1 q.2] at h; exact E _ p p0 q.1 h
    · rw [rdS_z q] at h; omega
  | succ j ih =>
    intro p p0 h
    by_cases q : p < m ∧ b p = 58
    · rw [rdS_c q.1 q.2] at h; exact E _ p p0 q.1 h
    · rw [rdS_s q] at h
      have l := rdT_le (b := b) _ (m - p).toNat 1 p (Nat.le_refl _) p0
      generalize rdT b (m - p).toNat 1 p = t at l h
      by_cases c0 : t < 0
      · rw [if_pos c0] at h; omega
      · rw [if_neg c0] at h
        by_cases y : t < m ∧ b t = 44
        · rw [if_pos y] at h; exact ih (t + 1) (by omega) h
        · rw [if_neg y] at h; omega
theorem c44_seg {b : Int → Int} {p q : Int} (p0 : 0 ≤ p) (pq : p ≤ q) (h : ∀ i, p ≤ i → i < q → b i ≠ 44) : c44 b q.toNat = c44 b p.toNat := by
  have : ∀ i, p ≤ i → i ≤ q → c44 b i.toNat = c44 b p.toNat := by
    refine up_ind (P := fun i => i ≤ q → c44 b i.toNat = c44 b p.toNat) (fun _ => rfl) (fun i i0 ih i1 => ?_)
    rw [show (i + 1).toNat = i.toNat + 1 by omega, c44, show ((i.toNat : Nat) : Int) = i by omega, if_neg (h i i0 (by omega)), ih (by omega)]
    omega
  exact this q pq (by omega)
theorem rdS_44 {b : Int → Int} {n : Int} : ∀ (j : Nat) (p : Int), j ≤ 3 → 0 ≤ p → p ≤ n → 0 ≤ rdS b n n j p → c44 b n.toNat = c44 b p.toNat + (rdS b n n j p - (3 - j)) := by
  have E : ∀ (j : Nat) (p : Int), 0 ≤ p → p < n → b p = 58 → 0 ≤ rdE b n n (3 - j) p → c44 b n.toNat = c44 b p.toNat + (rdE b n n (3 - j) p - (3 - j)) := by
    intro j p p0 p1 c h
    obtain ⟨e1, e2, e3⟩ := rdE_n h
    rw [e3, c44_seg p0 (by omega) (fun i a d => ?_)]
    · omega
    · by_cases z : i = p
      · rw [z]; omega
      · exact rdT_44 _ _ 1 (p + 1) (Nat.le_refl _) (by omega) (by rw [e1]; exact e2) i (by omega) (by rw [e1]; exact d)
  intro j
  induction j with
  | zero =>
    intro p hj p0 p1 h
    by_cases q : p < n ∧ b p = 58
    · rw [rdS_c q.1 q.2] at h ⊢; exact E 0 p p0 q.1 q.2 h
    · rw [rdS_z q] at h; omega
  | succ j ih =>
    intro p hj p0 p1 h
    by_cases q : p < n ∧ b p = 58
    · rw [rdS_c q.1 q.2] at h ⊢; exact E (j + 1) p p0 q.1 q.2 h
    · rw [rdS_s q] at h ⊢
      have l := rdT_le (b := b) _ (n - p).toNat 1 p (Nat.le_refl _) p0
      have x := rdT_44 (b := b) _ (n - p).toNat 1 p (Nat.le_refl _) p0
      generalize rdT b (n - p).toNat 1 p = t at l x h
      by_cases c0 : t < 0
      · rw [if_pos c0] at h; omega
      · rw [if_neg c0] at h ⊢
        by_cases y : t < n ∧ b t = 44
        · rw [if_pos y] at h ⊢
          have e := ih (t + 1) (by omega) (by omega) (by omega) h
          have e2 := c44_seg (b := b) (p := p) (q := t) p0 (by omega) (fun i a d => x (by omega) i a d)
          rw [show (t + 1).toNat = t.toNat + 1 by omega, c44, show ((t.toNat : Nat) : Int) = t by omega, if_pos y.2, e2] at e
          omega
        · rw [if_neg y] at h; omega
theorem rdS_3 {b : Int → Int} {n m : Int} : ∀ (j : Nat) (p : Int), 0 ≤ p → j ≤ 3 → rdS b n m j p ≤ 3 := by
  have E : ∀ (j : Nat) (p : Int), 0 ≤ p → rdE b n m (3 - j) p ≤ 3 := by
    intro j p p0
    rcases Int.lt_or_le (rdE b n m (3 - j) p) 0 with z | z
    · omega
    · have := rdE_n z; omega
  intro j
  induction j with
  | zero =>
    intro p p0 hj
    by_cases q : p < m ∧ b p = 58
    · rw [rdS_c q.1 q.2]; exact E 0 p p0
    · rw [rdS_z q]; omega
  | succ j ih =>
    intro p p0 hj
    by_cases q : p < m ∧ b p = 58
    · rw [rdS_c q.1 q.2]; exact E (j + 1) p p0
    · rw [rdS_s q]
      generalize rdT b (m - p).toNat 1 p = t
      by_cases c0 : t < 0
      · rw [if_pos c0]; omega
      · rw [if_neg c0]
        by_cases y : t < m ∧ b t = 44
        · rw [if_pos y]; exact ih _ (by omega) (by omega)
        · rw [if_neg y]; omega
end
