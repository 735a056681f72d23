section
/-! declaring: both sides -/
theorem aSZ_cons {k : Int} (k0 : 0 ≤ k) (k1 : k < 10) : aSZ (41 + 2 * k + 1) = 24 := by
  have : k = 0 ∨ k = 1 ∨ k = 2 ∨ k = 3 ∨ k = 4 ∨ k = 5 ∨ k = 6 ∨ k = 7 ∨ k = 8 ∨ k = 9 := by omega
  rcases this with e | e | e | e | e | e | e | e | e | e <;> subst e <;> rfl
theorem aSZ_func {k : Int} (k0 : 0 ≤ k) (k1 : k < 6) : aSZ (61 + 5 * k + 1) = 24 := by
  have : k = 0 ∨ k = 1 ∨ k = 2 ∨ k = 3 ∨ k = 4 ∨ k = 5 := by omega
  rcases this with e | e | e | e | e | e <;> subst e <;> rfl
theorem c_takes {d : Nat} {h : HP} {n : Int} {Q : PQ} (en : h 135 33 = n) (n0 : 0 ≤ n) (n1 : n ≤ 100) (H : ∀ g : HP, (∀ a i, a ≠ 157 → ¬ (a = 135 ∧ i = 33) → ¬ (a = 135 ∧ i = 35) → g a i = h a i) → g 135 35 = n → g 135 33 = 0 → (∀ i, 0 ≤ i → i < n → g 157 i = h 156 i) → Q 0 g) : Go d M_Mo_takesText 0 [(22, 135), (2, 0)] [] h Q := by
  have L : ∀ i, 0 ≤ i → i ≤ n → ∀ h' : HP, (∀ a j, a ≠ 157 → h' a j = h a j) → (∀ j, 0 ≤ j → j < i → h' 157 j = h 156 j) → Go d M_Mo_takesText 2 [(22, 135), (0, i)] [] h' Q := by
    intro i i0 i1
    refine up_loop (P := fun i => ∀ h' : HP, (∀ a j, a ≠ 157 → h' a j = h a j) → (∀ j, 0 ≤ j → j < i → h' 157 j = h 156 j) → Go d M_Mo_takesText 2 [(22, 135), (0, i)] [] h' Q) i1 ?_ ?_
    · intro h' o r
      have e33 : h' 135 33 = n := by rw [o 135 33 (by decide), en]
      refine N_Mo_takesText_2 ⟨fun _ g1 e1 g2 e2 => ?_, fun z => by omega⟩
      refine H g2 (fun a j p q s => ?_) ?_ ?_ (fun j j0 j1 => ?_)
      · rw [e2, up2_ext q, e1, up2_ext s]; exact o a j p
      · rw [e2, up2_ni (by decide), e1, up2_eq]; exact e33
      · rw [e2, up2_eq]
      · rw [e2, up2_nc (by decide), e1, up2_nc (by decide)]; exact r j j0 j1
    · intro j j0 j1 ih h' o r
      have e33 : h' 135 33 = n := by rw [o 135 33 (by decide), en]
      refine N_Mo_takesText_2 ⟨fun z => by omega, fun _ => ⟨⟨by omega, by omega⟩, ⟨by omega, by omega⟩, fun g e => ⟨by unfold r32; omega, ih g ?_ ?_⟩⟩⟩
      · intro a k p; rw [e, up2_nc p]; exact o a k p
      · intro k k0 k1
        by_cases z : k = j
        · rw [z, e, up2_eq]; exact o 156 j (by decide)
        · rw [e, up2_ni z]; exact r k k0 (by omega)
  exact N_Mo_takesText_0 (L 0 (by omega) n0 h (fun _ _ _ => rfl) (fun j _ _ => by omega))
/-- what a signature's cells hold, once it is kept -/
def SgN (b : Int → Int) (g : HP) (s n c : Int) : Prop := g s 1 = n ∧ g s 2 = c ∧ g s 3 = occ b 117 n.toNat + occ b 118 n.toNat + occ b 119 n.toNat ∧ ∀ i, 0 ≤ i → i < n → g (s + 1) i = b i
abbrev rdH (h : HP) (a : Int) : Int := rdS (h (a + 1)) (h a 2) (min (h a 2) 24) 3 0
theorem c_readSig0 {d : Nat} {h : HP} {v a m g : Int} {Q : PQ} (hd : 3 < d) (sz : aSZ (a + 1) = 100) (n0 : 0 ≤ h a 2) (n1 : h a 2 ≤ 100) (m1 : m ≤ h a 2) (m0 : 0 ≤ m)
    (H1 : 0 ≤ rdS (h (a + 1)) (h a 2) m 3 0 → g ≠ 0 ∧ Go (d - 1) M_Signature_take 0 [(16, g), (11, a), (0, rdS (h (a + 1)) (h a 2) m 3 0), (2, 0), (2, 0), (2, 0)] [] h (fun _ k => Q 1 k)) (H0 : rdS (h (a + 1)) (h a 2) m 3 0 < 0 → ∀ g1 : HP, g1 = up2 h a 4 (-1 - rdS (h (a + 1)) (h a 2) m 3 0) → ∀ g2 : HP, g2 = up2 g1 a 5 1 → Q 0 g2) :
    Go d M_Reader_readSignature 16 [(15, v), (11, a), (36, g), (0, m), (0, 0), (0, 0)] [] h Q := by
  have G := c_readSig (v := v) (g := g) (Q := Q) hd sz n0 n1 m1 m0 3 0 (by omega) (by omega) m0 H1 H0
  rw [show (3 : Int) - ((3 : Nat) : Int) = 0 by omega] at G
  exact G
theorem c_isHead0 {d : Nat} {h0 : HP} {n m : Int} {Q : PQ} (hd : 4 < d) (en : h0 135 35 = n) (n0 : 0 ≤ n) (n1 : n ≤ 100) (m0 : m ≤ n) (m1 : m ≤ 24) (m2 : m = n ∨ m = 24) (hp : h0 135 36 = 0)
    (H1 : 0 ≤ rdS (h0 157) n m 3 0 → ∀ g, FrA h0 g → Q 1 g) (H0 : rdS (h0 157) n m 3 0 < 0 → ∀ g, FrA h0 g → g 135 36 = -1 - rdS (h0 157) n m 3 0 → Q 0 g) : Go d M_Mo_isHeading 7 [(22, 135), (0, 0)] [] h0 Q := by
  have G := c_isHeading (Q := Q) hd en n0 n1 m0 m1 m2 3 0 h0 (by omega) (by omega) (by omega) (FrA_refl h0) hp H1 H0
  rw [show (3 : Int) - ((3 : Nat) : Int) = 0 by omega] at G
  exact G
theorem c_readS {d : Nat} {h : HP} {a s : Int} {Q : PQ} (hd : 12 < d) (sz : aSZ (a + 1) = 100) (sg : aSZ (s + 1) = 24) (ag : a + 1 < s) (a0 : 0 < a) (n0 : 0 ≤ h a 2) (n1 : h a 2 ≤ 100)
    (H1 : 0 ≤ rdH h a → h a 2 ≤ 24 → ∀ g : HP, (∀ x i, x ≠ s → x ≠ s + 1 → g x i = h x i) → (∀ i, i ≠ 1 → i ≠ 2 → i ≠ 3 → g s i = h s i) → SgN (h (a + 1)) g s (h a 2) (rdH h a) → Q 1 g)
    (H0 : rdH h a < 0 → ∀ g : HP, (∀ x i, ¬ (x = a ∧ i = 4) → ¬ (x = a ∧ i = 5) → g x i = h x i) → g a 4 = -1 - rdH h a → g a 5 = 1 → Q 0 g) :
    Go d M_Reader_readSignature 0 [(15, 91), (11, a), (36, s), (2, 0), (2, 0), (2, 0)] [] h Q := by
  refine V_Reader_readSignature_0 ⟨by omega, c_readSig0 (by omega) sz n0 n1 (by omega) (by omega) ?_ ?_⟩
  · intro e
    have ln := rdS_len (b := h (a + 1)) (n := h a 2) (m := min (h a 2) 24) (by omega) 3 0 (by omega) e
    refine ⟨by omega, c_take (by omega) sz sg ag n0 n1 (fun N k hN I o3 => ?_)⟩
    obtain ⟨i1, i2, i3, i4, i5⟩ := I
    have eN : N = (h a 2).toNat := by omega
    rw [eN] at o3
    refine H1 e (by omega) k i1 i2 ⟨by rw [i3]; omega, i4, o3, fun i p q => by have := i5 i.toNat (by omega) (by omega); rw [show ((i.toNat : Nat) : Int) = i by omega] at this; exact this⟩
  · intro e g1 e1 g2 e2
    refine H0 e g2 (fun x i p q => by rw [e2, up2_ext q, e1, up2_ext p]) ?_ (by rw [e2, up2_eq])
    rw [e2, up2_ni (by decide), e1, up2_eq]
theorem c_declC {d : Nat} {h : HP} {a fam : Int} {Q : PQ} (hd : 20 < d) (a0 : a = 30 ∨ a = 33) (n0 : 0 ≤ h a 2) (n1 : h a 2 ≤ 100) (k0 : 0 ≤ h 36 4) (k1 : h 36 4 < 10)
    (H1 : 0 ≤ rdH h a → h a 2 ≤ 24 → ∀ g : HP, (∀ x i, x ≠ 41 + 2 * h 36 4 → x ≠ 41 + 2 * h 36 4 + 1 → ¬ (x = 36 ∧ i = 4) → g x i = h x i) → SgN (h (a + 1)) g (41 + 2 * h 36 4) (h a 2) (rdH h a) → g (41 + 2 * h 36 4) 4 = fam → g 36 4 = h 36 4 + 1 → Q 1 g)
    (H0 : rdH h a < 0 → ∀ g : HP, (∀ x i, ¬ (x = a ∧ i = 4) → ¬ (x = a ∧ i = 5) → g x i = h x i) → g a 4 = -1 - rdH h a → g a 5 = 1 → Q 0 g) :
    Go d M_BT_declareConstructor 0 [(21, 1), (11, a), (0, fam), (2, 0)] [] h Q := by
  have sz : aSZ (a + 1) = 100 := by rcases a0 with e | e <;> subst e <;> rfl
  have sz1 : aSZ (36 + 1) = 10 := rfl
  have sg := aSZ_cons k0 k1
  refine N_BT_declareConstructor_0 ⟨by omega, V_Program_nextConstructor_0 ⟨fun z => by omega, fun _ => ⟨⟨k0, by rw [sz1]; exact k1⟩, ?_⟩⟩⟩
  rw [show (36 : Int) + 1 + 4 + 2 * h 36 4 = 41 + 2 * h 36 4 by omega]
  refine ⟨fun z => by omega, fun _ => ⟨by omega, c_readS (by omega) sz sg (by omega) (by omega) n0 n1 (fun e ln g o o2 S => ⟨fun _ => ⟨by omega, fun g3 e3 => ?_⟩, fun z => absurd z (by decide)⟩) (fun e g o e4 e5 => ⟨fun z => absurd rfl z, fun _ => H0 e g o e4 e5⟩)⟩⟩
  have q3 : g3 36 4 = h 36 4 := by rw [e3, up2_nc (by omega)]; exact o 36 4 (by omega) (by omega)
  rw [q3]
  refine ⟨by unfold r32; omega, fun g4 e4 => ?_⟩
  have w : ∀ x i, ¬ (x = 36 ∧ i = 4) → ¬ (x = 41 + 2 * h 36 4 ∧ i = 4) → g4 x i = g x i := fun x i p q => by rw [e4, up2_ext p, e3, up2_ext q]
  refine H1 e ln g4 (fun x i p q r => by rw [w x i r (fun u => p u.1)]; exact o x i p q) ?_ ?_ (by rw [e4, up2_eq])
  · obtain ⟨s1, s2, s3, s4⟩ := S
    exact ⟨by rw [w _ 1 (by omega) (by omega)]; exact s1, by rw [w _ 2 (by omega) (by omega)]; exact s2, by rw [w _ 3 (by omega) (by omega)]; exact s3, fun i p q => by rw [w _ i (by omega) (by omega)]; exact s4 i p q⟩
  · rw [e4, up2_nc (by omega), e3, up2_eq]
theorem c_declF {d : Nat} {h : HP} {a : Int} {Q : PQ} (hd : 20 < d) (a0 : a = 30 ∨ a = 33) (n0 : 0 ≤ h a 2) (n1 : h a 2 ≤ 100) (k0 : 0 ≤ h 36 5) (k1 : h 36 5 < 6)
    (H1 : 0 ≤ rdH h a → h a 2 ≤ 24 → ∀ g : HP, (∀ x i, x ≠ 61 + 5 * h 36 5 → x ≠ 61 + 5 * h 36 5 + 1 → ¬ (x = 36 ∧ i = 5) → ¬ (x = 40 ∧ i = h 36 5) → g x i = h x i) → SgN (h (a + 1)) g (61 + 5 * h 36 5) (h a 2) (rdH h a) → g 40 (h 36 5) = 0 → g 36 5 = h 36 5 + 1 → Q 1 g)
    (H0 : rdH h a < 0 → ∀ g : HP, (∀ x i, ¬ (x = a ∧ i = 4) → ¬ (x = a ∧ i = 5) → g x i = h x i) → g a 4 = -1 - rdH h a → g a 5 = 1 → Q 0 g) :
    Go d M_BT_declareFunction 0 [(21, 1), (11, a), (2, 0)] [] h Q := by
  have sz : aSZ (a + 1) = 100 := by rcases a0 with e | e <;> subst e <;> rfl
  have sz1 : aSZ (36 + 2) = 6 := rfl
  have sz4 : aSZ (36 + 4) = 6 := rfl
  have sg := aSZ_func k0 k1
  refine N_BT_declareFunction_0 ⟨by omega, V_Program_nextFunction_0 ⟨fun z => by omega, fun _ => ⟨⟨k0, by rw [sz1]; exact k1⟩, ?_⟩⟩⟩
  rw [show (36 : Int) + 2 + 23 + 5 * h 36 5 = 61 + 5 * h 36 5 by omega]
  refine ⟨fun z => by omega, fun _ => ⟨by omega, c_readS (by omega) sz sg (by omega) (by omega) n0 n1 (fun e ln g o o2 S => ⟨fun _ => ⟨by omega, ?_⟩, fun z => absurd z (by decide)⟩) (fun e g o e4 e5 => ⟨fun z => absurd rfl z, fun _ => H0 e g o e4 e5⟩)⟩⟩
  have q5 : g 36 5 = h 36 5 := o 36 5 (by omega) (by omega)
  refine V_Program_addFunction_0 ⟨fun z => by omega, fun _ => ⟨⟨by omega, by rw [sz4]; omega⟩, fun g3 e3 => ?_⟩⟩
  rw [q5] at e3
  have q3 : g3 36 5 = h 36 5 := by rw [e3, up2_nc (by omega)]; exact q5
  rw [q3]
  refine ⟨by unfold r32; omega, fun g4 e4 => ?_⟩
  have w : ∀ x i, ¬ (x = 36 ∧ i = 5) → ¬ (x = 40 ∧ i = h 36 5) → g4 x i = g x i := fun x i p q => by rw [e4, up2_ext p, e3]; exact up2_ext q
  refine H1 e ln g4 (fun x i p q r t => by rw [w x i r t]; exact o x i p q) ?_ ?_ (by rw [e4, up2_eq])
  · obtain ⟨s1, s2, s3, s4⟩ := S
    exact ⟨by rw [w _ 1 (by omega) (by omega)]; exact s1, by rw [w _ 2 (by omega) (by omega)]; exact s2, by rw [w _ 3 (by omega) (by omega)]; exact s3, fun i p q => by rw [w _ i (by omega) (by omega)]; exact s4 i p q⟩
  · rw [e4, up2_nc (by omega), e3]; exact up2_eq
/-- the reference keeps the line as a heading -/
def KpN (b : Int → Int) (h g : HP) (s n c : Int) : Prop := (∀ x i, x ≠ 151 → x ≠ 152 → x ≠ 153 → x ≠ 154 → g x i = h x i) ∧ (∀ j, j ≠ s → g 152 j = h 152 j ∧ g 153 j = h 153 j ∧ g 154 j = h 154 j) ∧ (∀ i, i < 24 * s ∨ 24 * s + 24 ≤ i → g 151 i = h 151 i) ∧ g 152 s = n ∧ g 153 s = c ∧ g 154 s = occ b 117 n.toNat + occ b 118 n.toNat + occ b 119 n.toNat ∧ ∀ i, 0 ≤ i → i < n → g 151 (24 * s + i) = b i
theorem c_keepsN {d : Nat} {h : HP} {s n c : Int} {Q : PQ} (s0 : 0 ≤ s) (s1 : s < 16) (en : h 135 35 = n) (n0 : 0 ≤ n) (n1 : n ≤ 24) (hc : 0 ≤ c) (e : rdS (h 157) n n 3 0 = c) (H : ∀ g, KpN (h 157) h g s n c → Q 0 g) : Go d M_Mo_keepsHeading 0 [(22, 135), (0, s), (2, 0), (2, 0), (2, 0), (2, 0)] [] h Q := by
  refine c_keeps s0 s1 en n0 n1 (fun N h' k hN I ek => H k ?_)
  obtain ⟨i1, i2, i3, i4, i5, i6⟩ := I
  have eN : N = n.toNat := by omega
  have c4 := rdS_44 (b := h 157) (n := n) 3 0 (by omega) (by omega) n0 (by omega)
  rw [show (0 : Int).toNat = 0 from rfl, c44, e] at c4
  rw [eN] at i5 ek
  refine ⟨fun x i p q r t => by rw [ek, up2_nc t]; exact i1 x i p q r, fun j p => ⟨by rw [ek, up2_nc (by decide)]; exact (i2 j p).1, by rw [ek, up2_nc (by decide)]; exact (i2 j p).2, by rw [ek, up2_ni p]; exact i1 154 j (by decide) (by decide) (by decide)⟩, fun i p => by rw [ek, up2_nc (by decide)]; exact i3 i p, by rw [ek, up2_nc (by decide)]; exact i4, ?_, by rw [ek, up2_eq], fun i p q => by have := i6 i.toNat (by omega) (by omega); rw [show ((i.toNat : Nat) : Int) = i by omega] at this; rw [ek, up2_nc (by decide)]; exact this⟩
  rw [ek, up2_nc (by decide), i5, c4]
  omega
end
