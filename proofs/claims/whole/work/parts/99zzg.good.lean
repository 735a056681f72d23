section
/-! an expression that was read without a fault -/
def GD (B e : Int → Int) (nP : Int → Int) (pp ll : Int → Int → Int) (p sc w r w' : Int) : Prop := ∃ m, RD B e nP pp ll p sc w r w' m ∧ 0 ≤ r
def GC (X : Int → Int → Int → Int → Int → Prop) : Nat → Int → Int → Int → Int → Int → Prop
  | 0, q, _, w, r, w' => r = q ∧ w' = w
  | j + 1, q, sc, w, r, w' => ∃ r1 w1, X q sc w r1 w1 ∧ GC X j r1 sc w1 r w'
def GK (B : Int → Int) (nP : Int → Int) (pp ll : Int → Int → Int) (X : Int → Int → Int → Int → Int → Prop) : Nat → Int → Int → Int → Int → Int → Prop
  | 0, _, _, _, _, _ => False
  | f + 1, q, sc, w, r, w' => (B q = 125 ∧ r = q + 1 ∧ w' = w) ∨ (B q ≠ 125 ∧ okD B nP 67 q ∧ w + ll 67 (B q - 48) ≤ 240 ∧ ∃ r1 w1, X (q + 1) (sc + pp 67 (B q - 48)) (w + ll 67 (B q - 48)) r1 w1 ∧ GK B nP pp ll X f r1 sc w1 r w')
theorem GC_of {B e : Int → Int} {nP : Int → Int} {pp ll : Int → Int → Int} : ∀ (j : Nat) (q sc w r w' m : Int), 0 ≤ r → CHN (RD B e nP pp ll) j q sc w r w' m → GC (GD B e nP pp ll) j q sc w r w' := by
  intro j
  induction j with
  | zero => intro q sc w r w' m _ H; exact ⟨H.1, H.2.1⟩
  | succ j ih =>
    intro q sc w r w' m r0 H
    obtain ⟨r1, w1, m1, x, H | ⟨a, m2, c, _⟩⟩ := H
    · omega
    · exact ⟨r1, w1, ⟨m1, x, a⟩, ih _ _ _ _ _ _ r0 c⟩
theorem GK_of {B e : Int → Int} {nP : Int → Int} {pp ll : Int → Int → Int} : ∀ (f : Nat) (q sc w r w' m : Int), 0 ≤ q → 0 ≤ r → CAS B nP pp ll (RD B e nP pp ll) f q sc w r w' m → GK B nP pp ll (GD B e nP pp ll) f q sc w r w' := by
  intro f
  induction f with
  | zero => intro q sc w r w' m _ _ H; exact H
  | succ f ih =>
    intro q sc w r w' m q0 r0 H
    rcases H with H | ⟨n, H | H | ⟨ok, hw, r1, w1, m1, x, H | ⟨a, m2, c, _⟩⟩⟩
    · exact Or.inl ⟨H.1, H.2.1, H.2.2.1⟩
    · have := H.2; omega
    · have := H.2.2; omega
    · omega
    · exact Or.inr ⟨n, ok, hw, r1, w1, ⟨m1, x, a⟩, ih _ _ _ _ _ _ a r0 c⟩
theorem GD_e {B e : Int → Int} {nP : Int → Int} {pp ll : Int → Int → Int} {p sc w r w' : Int} (G : GD B e nP pp ll p sc w r w') : p < r ∧ e p = r := by
  obtain ⟨m, H, r0⟩ := G
  exact (RD_out H).1 r0
theorem GD_leaf {B e : Int → Int} {nP : Int → Int} {pp ll : Int → Int → Int} {p sc w r w' : Int} (G : GD B e nP pp ll p sc w r w') (l : lfO (B p) sc) : r = p + 1 ∧ w' = w := by
  obtain ⟨m, H, r0⟩ := G
  have q := RD_leaf (RD_out H) l
  exact ⟨q.1, q.2.1⟩
theorem GD_op {B e : Int → Int} {nP : Int → Int} {pp ll : Int → Int → Int} {p sc w r w' : Int} (G : GD B e nP pp ll p sc w r w') {j : Nat} (hj : pO (B p) = (j : Int) + 1) : GC (GD B e nP pp ll) (j + 1) (p + 1) sc w r w' := by
  obtain ⟨m, H, r0⟩ := G
  obtain ⟨m1, c, _⟩ := RD_op (RD_out H) (by omega)
  rw [show (pO (B p)).toNat = j + 1 by omega] at c
  exact GC_of _ _ _ _ _ _ _ r0 c
theorem GD_sign {B e : Int → Int} {nP : Int → Int} {pp ll : Int → Int → Int} {p sc w r w' : Int} (G : GD B e nP pp ll p sc w r w') (p0 : 0 ≤ p) (cs : B p = 67 ∨ B p = 71) : okD B nP (B p) (p + 1) ∧ w + ll (B p) (B (p + 1) - 48) ≤ 240 ∧ GC (GD B e nP pp ll) (pp (B p) (B (p + 1) - 48)).toNat (p + 2) sc (w + ll (B p) (B (p + 1) - 48)) r w' := by
  obtain ⟨m, H, r0⟩ := G
  rcases RD_sign (RD_out H) cs with z | z | ⟨ok, hw, m1, c, _⟩
  · have := z.2; omega
  · have := z.2.2; omega
  · exact ⟨ok, hw, GC_of _ _ _ _ _ _ _ r0 c⟩
theorem GD_match {B e : Int → Int} {nP : Int → Int} {pp ll : Int → Int → Int} {p sc w r w' : Int} (G : GD B e nP pp ll p sc w r w') (p0 : 0 ≤ p) (c : B p = 77) : ∃ r1 w1, GD B e nP pp ll (p + 1) sc w r1 w1 ∧ B r1 = 123 ∧ ∃ f, GK B nP pp ll (GD B e nP pp ll) f (r1 + 1) sc w1 r w' := by
  obtain ⟨m, H, r0⟩ := G
  obtain ⟨r1, w1, m1, x, z | z | ⟨a, b, f, m2, k, _⟩⟩ := RD_match (RD_out H) c
  · omega
  · have := z.2.2; omega
  · exact ⟨r1, w1, ⟨m1, x, a⟩, b, f, GK_of _ _ _ _ _ _ _ (by omega) r0 k⟩
/-- what may stand where an expression was read -/
theorem GD_kind {B e : Int → Int} {nP : Int → Int} {pp ll : Int → Int → Int} {p sc w r w' : Int} (G : GD B e nP pp ll p sc w r w') (p0 : 0 ≤ p) : lfO (B p) sc ∨ 0 < pO (B p) ∨ B p = 67 ∨ B p = 71 ∨ B p = 77 := by
  obtain ⟨m, H, r0⟩ := G
  rcases Classical.em (lfO (B p) sc) with l | l
  · exact Or.inl l
  · have z := pO_r (B p)
    by_cases a : pO (B p) = 0
    · by_cases c : B p = 67 ∨ B p = 71 ∨ B p = 77
      · exact Or.inr (Or.inr c)
      · have := RD_bad (RD_out H) l a (by omega) (by omega) (by omega)
        omega
    · exact Or.inr (Or.inl (by omega))
theorem GD_n {b e : Int → Int} {n : Int} {nP : Int → Int} {pp ll : Int → Int → Int} {p sc w r w' : Int} (G : GD (bA b n) e nP pp ll p sc w r w') (p0 : 0 ≤ p) : p < n := by
  have k := GD_kind G p0
  refine (bA_lt (b := b) (n := n) (p := p) (fun z => ?_)).2
  rw [z] at k
  rcases k with k | k | k
  · exact (lfO_ne k).1 rfl
  · exact absurd k (by decide)
  · omega
theorem GC_w {n : Int} {X : Int → Int → Int → Int → Int → Prop} (F : Prop) (q0 : Int) (hX : ∀ q sc w r w', q0 ≤ q → X q sc w r w' → q < r ∧ r ≤ n ∧ w ≤ w' ∧ (w ≤ 240 → w' ≤ 240)) : ∀ (j : Nat) (q sc w r w' : Int), q0 ≤ q → q ≤ n → GC X j q sc w r w' → q ≤ r ∧ r ≤ n ∧ w ≤ w' ∧ (w ≤ 240 → w' ≤ 240) := by
  intro j
  induction j with
  | zero => intro q sc w r w' _ qn H; have := H.1; have := H.2; omega
  | succ j ih =>
    intro q sc w r w' q1 qn H
    obtain ⟨r1, w1, x, c⟩ := H
    have a := hX _ _ _ _ _ q1 x
    have b := ih _ _ _ _ _ (by omega) a.2.1 c
    omega
theorem GK_w {B : Int → Int} {nP : Int → Int} {pp ll : Int → Int → Int} {n : Int} {X : Int → Int → Int → Int → Int → Prop} (q0 : Int) (hB : ∀ q, 0 ≤ q → B q = 125 → q < n) (q00 : 0 ≤ q0) (hl : ∀ j, 0 ≤ j → j < nP 67 → 0 ≤ ll 67 j) (hX : ∀ q sc w r w', q0 ≤ q → X q sc w r w' → q < r ∧ r ≤ n ∧ w ≤ w' ∧ (w ≤ 240 → w' ≤ 240)) : ∀ (f : Nat) (q sc w r w' : Int), q0 ≤ q → GK B nP pp ll X f q sc w r w' → q < r ∧ r ≤ n ∧ w ≤ w' ∧ (w ≤ 240 → w' ≤ 240) := by
  intro f
  induction f with
  | zero => intro q sc w r w' _ H; exact absurd H (fun z => z)
  | succ f ih =>
    intro q sc w r w' q1 H
    rcases H with ⟨a, b, c⟩ | ⟨_, ok, hw, r1, w1, x, k⟩
    · have := hB q (by omega) a; omega
    · have a := hX _ _ _ _ _ (by omega) x
      have b := ih _ _ _ _ _ (by omega) k
      have l := hl (B q - 48) (by have := ok.1; omega) ok.2.2
      omega
theorem GD_w {b e : Int → Int} {n : Int} {nP : Int → Int} {pp ll : Int → Int → Int} (hl : ∀ k j, (k = 67 ∨ k = 71) → 0 ≤ j → j < nP k → 0 ≤ ll k j) : ∀ (N : Nat) (p sc w r w' : Int), 0 ≤ p → n - p ≤ N → GD (bA b n) e nP pp ll p sc w r w' → p < r ∧ r ≤ n ∧ w ≤ w' ∧ (w ≤ 240 → w' ≤ 240) := by
  intro N
  induction N with
  | zero => intro p sc w r w' p0 hN G; have := GD_n G p0; omega
  | succ N ih =>
    intro p sc w r w' p0 hN G
    have pn := GD_n G p0
    have pe := (GD_e G).1
    have hX : ∀ q sc w r w', p + 1 ≤ q → GD (bA b n) e nP pp ll q sc w r w' → q < r ∧ r ≤ n ∧ w ≤ w' ∧ (w ≤ 240 → w' ≤ 240) := fun q sc w r w' q1 x => ih q sc w r w' (by omega) (by omega) x
    rcases GD_kind G p0 with k | k | k | k | k
    · have := GD_leaf G k; omega
    · obtain ⟨j, hj⟩ : ∃ j : Nat, pO (bA b n p) = (j : Int) + 1 := ⟨(pO (bA b n p) - 1).toNat, by omega⟩
      have := GC_w (n := n) True (p + 1) hX _ _ _ _ _ _ (Int.le_refl _) (by omega) (GD_op G hj)
      omega
    · obtain ⟨ok, hw, c⟩ := GD_sign G p0 (Or.inl k)
      have l := hl _ (bA b n (p + 1) - 48) (Or.inl k) (by have := ok.1; omega) ok.2.2
      have z := (bA_lt (b := b) (n := n) (p := p + 1) (by have := ok.1; omega)).2
      have := GC_w (n := n) True (p + 1) hX _ _ _ _ _ _ (by omega) (by omega) c
      omega
    · obtain ⟨ok, hw, c⟩ := GD_sign G p0 (Or.inr k)
      have l := hl _ (bA b n (p + 1) - 48) (Or.inr k) (by have := ok.1; omega) ok.2.2
      have z := (bA_lt (b := b) (n := n) (p := p + 1) (by have := ok.1; omega)).2
      have := GC_w (n := n) True (p + 1) hX _ _ _ _ _ _ (by omega) (by omega) c
      omega
    · obtain ⟨r1, w1, g1, _, f, c⟩ := GD_match G p0 k
      have a := hX _ _ _ _ _ (Int.le_refl _) g1
      have := GK_w (n := n) (p + 1) (fun q q0 z => (bA_lt (b := b) (n := n) (p := q) (by omega)).2) (by omega) (fun j => hl 67 j (Or.inl rfl)) hX _ _ _ _ _ _ (by omega) c
      omega
end
