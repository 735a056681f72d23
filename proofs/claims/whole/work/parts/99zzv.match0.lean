section
/-! a match -/
theorem bitsA : ∀ a b : Fin 10, bAnd (bShl 1 (a.val : Int)) (bShl 1 (b.val : Int)) = 0 ↔ a.val ≠ b.val := by decide +kernel
theorem bit_or {v k j : Int} (k0 : 0 ≤ k) (k1 : k < 10) (j0 : 0 ≤ j) (j1 : j < 10) : bAnd (bOr v (bShl 1 k)) (bShl 1 j) = 0 ↔ bAnd v (bShl 1 j) = 0 ∧ j ≠ k := by
  have t : ∀ a : Int32, a.toInt = 0 ↔ a = 0 := fun a => ⟨fun q => Int32.toInt_inj.1 q, fun q => by rw [q]; rfl⟩
  have e : bAnd (bOr v (bShl 1 k)) (bShl 1 j) = 0 ↔ bAnd v (bShl 1 j) = 0 ∧ bAnd (bShl 1 k) (bShl 1 j) = 0 := by
    unfold bAnd bOr
    rw [Int32.ofInt_toInt]
    generalize Int32.ofInt v = x
    generalize Int32.ofInt (bShl 1 k) = y
    generalize Int32.ofInt (bShl 1 j) = z
    have ds : (x ||| y) &&& z = (x &&& z) ||| (y &&& z) := Int32.toBitVec_inj.1 BitVec.and_or_distrib_right
    rw [t, t, t, ds, Int32.or_eq_zero_iff]
  rw [e]
  have b := bitsA ⟨k.toNat, by omega⟩ ⟨j.toNat, by omega⟩
  have ek : ((k.toNat : Nat) : Int) = k := by omega
  have ej : ((j.toNat : Nat) : Int) = j := by omega
  dsimp only at b
  rw [ek, ej] at b
  rw [b]
  exact ⟨fun ⟨p, q⟩ => ⟨p, by omega⟩, fun ⟨p, q⟩ => ⟨p, by omega⟩⟩
theorem bit_no {j : Int} (j0 : 0 ≤ j) (j1 : j < 10) : bAnd 0 (bShl 1 j) = 0 := by
  unfold bAnd
  generalize Int32.ofInt (bShl 1 j) = z
  have : Int32.ofInt 0 &&& z = 0 := Int32.toBitVec_inj.1 (show (0 : BitVec 32) &&& z.toBitVec = 0 from BitVec.zero_and)
  rw [this]
  rfl
theorem DcR_kb {h0 h : HP} {A : Int} (a0 : A = 30 ∨ A = 33) (kb : KB h0 h A) (D : DcR h0) : DcR h := by
  have o : ∀ x i, (35 < x ∧ x < 92) ∨ 123 < x → h x i = h0 x i := fun x i p => kb x i (by omega) (by omega)
  obtain ⟨a, b, c⟩ := D
  refine ⟨?_, fun k k0 k1 => ?_, fun k k0 k1 => ?_⟩
  · rw [o 36 4 (by omega), o 36 5 (by omega), o 135 30 (by omega), o 135 31 (by omega)]; exact a
  · rw [o 36 4 (by omega)] at k1
    obtain ⟨s, t⟩ := b k k0 k1
    refine ⟨SgR_keep s (fun i => o _ _ (by omega)) (fun i => o _ _ (by omega)) (o _ _ (by omega)) (o _ _ (by omega)) (o _ _ (by omega)) (fun i _ _ => o _ _ (by omega)), ?_⟩
    rw [o 155 k (by omega), o (41 + 2 * k) 4 (by omega)]
    exact t
  · rw [o 36 5 (by omega)] at k1
    obtain ⟨s, t⟩ := c k k0 k1
    refine ⟨SgR_keep s (fun i => o _ _ (by omega)) (fun i => o _ _ (by omega)) (o _ _ (by omega)) (o _ _ (by omega)) (o _ _ (by omega)) (fun i _ _ => o _ _ (by omega)), ?_⟩
    rw [o 40 k (by omega), o 167 k (by omega), o (63 + 5 * k) 3 (by omega)]
    exact t
theorem DcO_kb {h0 h : HP} {A : Int} (a0 : A = 30 ∨ A = 33) (kb : KB h0 h A) (D : DcR h0) (O : DcO h0) : DcO h := by
  have o : ∀ x i, (35 < x ∧ x < 92) ∨ 123 < x → h x i = h0 x i := fun x i p => kb x i (by omega) (by omega)
  have sg : ∀ x, 41 ≤ x → x < 91 → SgO h0 x → SgO h x := by
    intro x p q s
    unfold SgO at *
    rw [o x 1 (by omega), o x 2 (by omega), show h (x + 1) = h0 (x + 1) from funext fun i => o (x + 1) i (by omega)]
    exact s
  have e4 := o 36 4 (by omega)
  have e5 := o 36 5 (by omega)
  have := D.1
  exact ⟨fun k k0 k1 => sg _ (by omega) (by omega) (O.1 k k0 (by omega)), fun k k0 k1 => sg _ (by omega) (by omega) (O.2 k k0 (by omega))⟩
abbrev mj (h0 : HP) (seen : Int → Prop) (k : Int) (a : Tm) (S : Sx) (mu : Int → Nat) (j : Int) : Prop := msJ (h0 36 4) (sbr h0) (llr h0) (ppr h0) (fun j => h0 (41 + 2 * j) 4) seen k a S mu j
theorem k_admits {d : Nat} {h0 h : HP} {A sc hs D m y k wo : Int} {tm : Int → Tm} {S : Sx} {V : Vx} {Γ : Int → Tm} {mu : Int → Nat} {Q : PQ} {seen : Int → Prop} (bc : BC h0 A) (hd : 20 < d) (s : ST h0 A h tm S V D sc hs Γ m) (F : FrN V mu) (hD : D < 32) (hm : m ≤ 488) (y0 : 0 ≤ y) (y1 : y < h 96 13) (hw : ∀ j, 0 ≤ j → j < 10 → (bAnd wo (bShl 1 j) = 0 ↔ ¬ seen j))
    (H1 : (∃ j, mj h0 seen k (tm y) S mu j) → ∀ g, ST h0 A g tm S V D sc hs Γ m → XB 96 h tm g tm → KX h g sc hs → Q 1 g)
    (H0 : (¬ ∃ j, mj h0 seen k (tm y) S mu j) → ∀ g, ST h0 A g tm S V D sc hs Γ m → XB 96 h tm g tm → KX h g sc hs → Q 0 g) :
    Go d M_World_admits 0 [(20, 92 + 1), (14, 92 + (-56)), (0, k - 3), (0, wo), (0, y), (2, 0), (2, 0), (2, 0)] [] h Q := by
  have a0 := bc.1
  have kb := s.1
  have n10 := bc.2.2.1.1
  have e4 : h 36 4 = h0 36 4 := kb 36 4 (by omega) (by omega)
  have ms : ∀ j, 0 ≤ j → j < h0 36 4 → (AdS h S mu (tm y) j ↔ Sat (Snd S (sgR' (sbr h0) (llr h0) (ppr h0) 67 j mu) (tm y))) := by
    intro j j0 j1
    obtain ⟨⟨c1, c2⟩, _, cl, cp, cb, _⟩ := cel_ok bc (Or.inl rfl) j0 (show j < nPr h0 67 from j1)
    have ec : cel 67 j = 41 + 2 * j := rfl
    unfold AdS
    rw [← ec, kb (cel 67 j) 1 (by omega) (by omega), kb (cel 67 j) 2 (by omega) (by omega), show h (cel 67 j + 1) = h0 (cel 67 j + 1) from funext fun i => kb _ i (by omega) (by omega), cl, cp, cb]
  have fmE : ∀ j, 0 ≤ j → j < h0 36 4 → h (41 + 2 * j) 4 = h0 (41 + 2 * j) 4 := fun j j0 j1 => kb _ 4 (by omega) (by omega)
  have fr : ∀ g, AdI h g 96 512 tm S V → ST h0 A g tm S V D sc hs Γ m ∧ XB 96 h tm g tm ∧ KX h g sc hs := by
    intro g I
    obtain ⟨C, X, e13, o⟩ := I
    have xb : XB 96 h tm g tm := ⟨X, fun _ _ _ => rfl⟩
    have kx : KX h g sc hs := KX_out (fun a i p => o a i (by omega))
    exact ⟨ST_step s C xb kx (by have := s.2.2; omega), xb, kx⟩
  refine c_admits (T := 96) (R := 512) (mu := mu) hd s.2.1.1 F (by rw [s.2.1.2.1]; exact hD) (DcR_kb a0 kb bc.2.2.1) (DcO_kb a0 kb bc.2.2.1 bc.2.2.2) (by have := s.2.2; omega) y0 y1 (fun j j0 j1 jf jb ad _ g I => ?_) (fun no g I => ?_)
  · obtain ⟨a, b, c⟩ := fr g I
    refine H1 ⟨j, ⟨j0, by omega⟩, ?_, (hw j j0 (by omega)).1 jb, (ms j j0 (by omega)).1 ad⟩ g a b c
    exact (fmE j j0 (by omega)).symm.trans jf
  · obtain ⟨a, b, c⟩ := fr g I
    refine H0 (fun ⟨j, ⟨j0, j1⟩, jf, js, sa⟩ => no j j0 (by omega) ?_ ((hw j j0 (by omega)).2 js) ((ms j j0 (by omega)).2 sa)) g a b c
    exact (fmE j j0 (by omega)).trans jf
theorem k_flt {h g1 g2 : HP} {A q rs sc hs : Int} {tm : Int → Tm} {S : Sx} {V : Vx} (a0 : A = 30 ∨ A = 33) (C : CV h 96 512 tm S V) (e1 : g1 = up2 h A 4 q) (e2 : g2 = up2 g1 A 5 rs) : g2 A 4 = q ∧ g2 A 5 = rs ∧ KZ h g2 sc hs A ∧ FO h g2 := by
  refine ⟨?_, ?_, fun a i _ _ _ _ u => ?_, FO_loc (h1 := h) (fun a i u v => ?_) (Or.inl ⟨tm, S, V, C, ExB_refl 96 h⟩)⟩
  · rw [e2, up2_ext (by omega), e1, up2_eq]
  · rw [e2, up2_eq]
  · rw [e2, up2_ext (by omega), e1, up2_ext (by omega)]
  · rw [e2, up2_nc (by omega), e1, up2_nc (by omega)]
theorem k_dig {d : Nat} {h0 h : HP} {A q : Int} {Q : PQ} (bc : BC h0 A) (kb : KB h0 h A) (H1 : 48 ≤ bA (h0 (A + 1)) (h0 A 2) q → bA (h0 (A + 1)) (h0 A 2) q ≤ 57 → Q (bA (h0 (A + 1)) (h0 A 2) q - 48) h) (H0 : ¬ (48 ≤ bA (h0 (A + 1)) (h0 A 2) q ∧ bA (h0 (A + 1)) (h0 A 2) q ≤ 57) → Q (-1) h) : Go d M_Code_digitAt 0 [(11, A), (0, q), (2, 0)] [] h Q := by
  obtain ⟨a0, n, _⟩ := bc
  have sz : aSZ (A + 1) = 100 := by rcases a0 with e | e <;> subst e <;> rfl
  have e2 : h A 2 = h0 A 2 := kb A 2 (by omega) (by omega)
  have er : h (A + 1) = h0 (A + 1) := funext fun q => kb _ q (by omega) (by omega)
  refine c_digB sz (by omega) ?_ ?_
  · rw [er, e2]; exact H1
  · rw [er, e2]; exact H0
end
