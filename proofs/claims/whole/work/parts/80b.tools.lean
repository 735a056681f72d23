section
/-! heaps: a row set over a range; counting -/
def setR (h : HP) (a lo hi : Int) (f : Int → Int) : HP := fun a' i => if a' = a ∧ lo ≤ i ∧ i < hi then f i else h a' i
theorem setR_in {h : HP} {a lo hi : Int} {f : Int → Int} {i : Int} (h1 : lo ≤ i) (h2 : i < hi) : setR h a lo hi f a i = f i := if_pos ⟨rfl, h1, h2⟩
theorem setR_ne {h : HP} {a a' lo hi : Int} {f : Int → Int} {i : Int} (q : a' ≠ a) : setR h a lo hi f a' i = h a' i := if_neg (fun w => q w.1)
theorem setR_out {h : HP} {a a' lo hi : Int} {f : Int → Int} {i : Int} (q : i < lo ∨ hi ≤ i) : setR h a lo hi f a' i = h a' i := if_neg (fun w => by have := w.2.1; have := w.2.2; omega)
theorem setR_nil {h : HP} {a lo hi : Int} {f : Int → Int} (q : hi ≤ lo) : setR h a lo hi f = h := by
  funext a' i
  exact setR_out (by omega)
theorem setR_snoc {h : HP} {a lo i v : Int} {f : Int → Int} (q : lo ≤ i) (hv : v = f i) : up2 (setR h a lo i f) a i v = setR h a lo (i + 1) f := by
  funext a' j
  unfold up2 setR
  by_cases w : a' = a ∧ j = i
  · rw [if_pos w, if_pos ⟨w.1, by omega, by omega⟩, w.2, hv]
  · rw [if_neg w]
    by_cases w2 : a' = a ∧ lo ≤ j ∧ j < i
    · rw [if_pos w2, if_pos ⟨w2.1, by omega, by omega⟩]
    · rw [if_neg w2, if_neg]
      rintro ⟨p1, p2, p3⟩
      rcases Int.lt_or_le j i with p | p
      · exact w2 ⟨p1, p2, p⟩
      · exact w ⟨p1, by omega⟩
theorem setR_congr {h : HP} {a lo hi : Int} {f g : Int → Int} (q : ∀ i, lo ≤ i → i < hi → f i = g i) : setR h a lo hi f = setR h a lo hi g := by
  funext a' i
  unfold setR
  by_cases w : a' = a ∧ lo ≤ i ∧ i < hi
  · rw [if_pos w, if_pos w, q i w.2.1 w.2.2]
  · rw [if_neg w, if_neg w]
theorem setR_twice {h : HP} {a lo hi : Int} {f g : Int → Int} : setR (setR h a lo hi f) a lo hi g = setR h a lo hi g := by
  funext a' i
  unfold setR
  by_cases w : a' = a ∧ lo ≤ i ∧ i < hi
  · rw [if_pos w, if_pos w]
  · rw [if_neg w, if_neg w, if_neg w]
theorem setR_id {h : HP} {a lo hi : Int} {f : Int → Int} (q : ∀ i, lo ≤ i → i < hi → f i = h a i) : setR h a lo hi f = h := by
  funext a' i
  unfold setR
  by_cases w : a' = a ∧ lo ≤ i ∧ i < hi
  · rw [if_pos w, w.1, q i w.2.1 w.2.2]
  · rw [if_neg w]
theorem up2_eq {h : HP} {a i v : Int} : up2 h a i v a i = v := if_pos ⟨rfl, rfl⟩
theorem up2_nc {h : HP} {a i v a' i' : Int} (q : a' ≠ a) : up2 h a i v a' i' = h a' i' := if_neg (fun w => q w.1)
theorem up2_ni {h : HP} {a i v a' i' : Int} (q : i' ≠ i) : up2 h a i v a' i' = h a' i' := if_neg (fun w => q w.2)
theorem up2_id {h : HP} {a i v : Int} (q : v = h a i) : up2 h a i v = h := by
  funext a' i'
  unfold up2
  by_cases w : a' = a ∧ i' = i
  · rw [if_pos w, w.1, w.2, q]
  · rw [if_neg w]
noncomputable def cntN (p : Int → Prop) (lo : Int) : Nat → Int
  | 0 => 0
  | k + 1 => cntN p lo k + @ite _ (p (lo + k)) (Classical.propDecidable _) 1 0
noncomputable def cnt (p : Int → Prop) (lo hi : Int) : Int := cntN p lo (hi - lo).toNat
theorem cnt_nil {p : Int → Prop} {lo hi : Int} (h : hi ≤ lo) : cnt p lo hi = 0 := by
  unfold cnt
  rw [show (hi - lo).toNat = 0 by omega]
  rfl
theorem cnt_st {p : Int → Prop} {lo i : Int} (h : lo ≤ i) (hp : p i) : cnt p lo (i + 1) = cnt p lo i + 1 := by
  unfold cnt
  rw [show (i + 1 - lo).toNat = (i - lo).toNat + 1 by omega]
  show cntN p lo (i - lo).toNat + _ = _
  rw [if_pos (by rw [show lo + ((i - lo).toNat : Int) = i by omega]; exact hp)]
theorem cnt_sf {p : Int → Prop} {lo i : Int} (h : lo ≤ i) (hp : ¬ p i) : cnt p lo (i + 1) = cnt p lo i := by
  unfold cnt
  rw [show (i + 1 - lo).toNat = (i - lo).toNat + 1 by omega]
  show cntN p lo (i - lo).toNat + _ = _
  rw [if_neg (by rw [show lo + ((i - lo).toNat : Int) = i by omega]; exact hp)]
  omega
theorem up_ind {lo : Int} {P : Int → Prop} (h0 : P lo) (h1 : ∀ i, lo ≤ i → P i → P (i + 1)) : ∀ i, lo ≤ i → P i := by
  intro i hi
  have : ∀ k : Nat, P (lo + k) := by
    intro k
    induction k with
    | zero => rw [show lo + ((0 : Nat) : Int) = lo by omega]; exact h0
    | succ k ih => rw [show lo + ((k + 1 : Nat) : Int) = (lo + k) + 1 by omega]; exact h1 _ (by omega) ih
  have := this (i - lo).toNat
  rw [show lo + ((i - lo).toNat : Int) = i by omega] at this
  exact this
theorem cnt_congr {p q : Int → Prop} {lo hi : Int} (h : ∀ i, lo ≤ i → i < hi → (p i ↔ q i)) : cnt p lo hi = cnt q lo hi := by
  rcases Int.lt_or_le hi lo with w | w
  · rw [cnt_nil (by omega), cnt_nil (by omega)]
  · revert h
    refine up_ind (lo := lo) (P := fun i => (∀ j, lo ≤ j → j < i → (p j ↔ q j)) → cnt p lo i = cnt q lo i) ?_ ?_ hi w
    · intro _
      rw [cnt_nil (by omega), cnt_nil (by omega)]
    · intro i hi ih h
      have e := ih (fun j a b => h j a (by omega))
      rcases Classical.em (p i) with hp | hp
      · rw [cnt_st hi hp, cnt_st hi ((h i hi (by omega)).mp hp), e]
      · rw [cnt_sf hi hp, cnt_sf hi (fun c => hp ((h i hi (by omega)).mpr c)), e]
theorem cnt_bd {p : Int → Prop} {lo hi : Int} (w : lo ≤ hi) : 0 ≤ cnt p lo hi ∧ cnt p lo hi ≤ hi - lo := by
  refine up_ind (lo := lo) (P := fun i => 0 ≤ cnt p lo i ∧ cnt p lo i ≤ i - lo) ?_ ?_ hi w
  · rw [cnt_nil (by omega)]; omega
  · intro i hi ih
    rcases Classical.em (p i) with hp | hp
    · rw [cnt_st hi hp]; omega
    · rw [cnt_sf hi hp]; omega
theorem cnt_mono {p q : Int → Prop} {lo hi : Int} (h : ∀ i, lo ≤ i → i < hi → p i → q i) : cnt p lo hi ≤ cnt q lo hi := by
  rcases Int.lt_or_le hi lo with w | w
  · rw [cnt_nil (by omega), cnt_nil (by omega)]; omega
  · revert h
    refine up_ind (lo := lo) (P := fun i => (∀ j, lo ≤ j → j < i → p j → q j) → cnt p lo i ≤ cnt q lo i) ?_ ?_ hi w
    · intro _
      rw [cnt_nil (by omega), cnt_nil (by omega)]; omega
    · intro i hi ih h
      have e := ih (fun j a b => h j a (by omega))
      rcases Classical.em (p i) with hp | hp
      · rw [cnt_st hi hp, cnt_st hi (h i hi (by omega) hp)]; omega
      · rw [cnt_sf hi hp]
        rcases Classical.em (q i) with hq | hq
        · rw [cnt_st hi hq]; omega
        · rw [cnt_sf hi hq]; omega
/-- one place fewer -/
theorem cnt_less {p q : Int → Prop} {lo hi g : Int} (h1 : lo ≤ g) (h2 : g < hi) (hp : p g) (hq : ¬ q g) (h : ∀ i, lo ≤ i → i < hi → i ≠ g → (p i ↔ q i)) : cnt p lo hi = cnt q lo hi + 1 := by
  have : ∀ i, g + 1 ≤ i → (∀ j, lo ≤ j → j < i → j ≠ g → (p j ↔ q j)) → cnt p lo i = cnt q lo i + 1 := by
    refine up_ind ?_ ?_
    · intro h
      rw [cnt_st h1 hp, cnt_sf h1 hq, cnt_congr (fun j a b => h j a (by omega) (by omega))]
    · intro i hi ih h
      have e := ih (fun j a b c => h j a (by omega) c)
      rcases Classical.em (p i) with w | w
      · rw [cnt_st (by omega) w, cnt_st (by omega) ((h i (by omega) (by omega) (by omega)).mp w), e]
      · rw [cnt_sf (by omega) w, cnt_sf (by omega) (fun c => w ((h i (by omega) (by omega) (by omega)).mpr c)), e]
  exact this hi (by omega) h
theorem cnt_pos {p : Int → Prop} {lo hi g : Int} (h1 : lo ≤ g) (h2 : g < hi) (hp : p g) : 0 < cnt p lo hi := by
  have := cnt_less (p := p) (q := fun i => p i ∧ i ≠ g) h1 h2 hp (fun w => w.2 rfl) (fun i _ _ hi => ⟨fun w => ⟨w, hi⟩, fun w => w.1⟩)
  have := (cnt_bd (p := fun i => p i ∧ i ≠ g) (lo := lo) (hi := hi) (by omega)).1
  omega
/-- a loop that counts up -/
theorem up_loop {P : Int → Prop} {i hi : Int} (hi0 : i ≤ hi) (h0 : P hi) (h1 : ∀ j, i ≤ j → j < hi → P (j + 1) → P j) : P i := by
  have : ∀ k : Nat, i ≤ hi - k → P (hi - k) := by
    intro k
    induction k with
    | zero => intro _; rw [show hi - ((0 : Nat) : Int) = hi by omega]; exact h0
    | succ k ih =>
      intro hk
      refine h1 _ hk (by omega) ?_
      rw [show hi - ((k + 1 : Nat) : Int) + 1 = hi - k by omega]
      exact ih (by omega)
  have := this (hi - i).toNat (by omega)
  rw [show hi - ((hi - i).toNat : Int) = i by omega] at this
  exact this
end
