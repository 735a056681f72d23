section
/-! reading a signature: one spec, both readers -/
def rdE (b : Int → Int) (n m c p : Int) : Int := if rdT b (m - (p + 1)).toNat 1 (p + 1) < 0 then rdT b (m - (p + 1)).toNat 1 (p + 1) else if rdT b (m - (p + 1)).toNat 1 (p + 1) = n then c else -1 - rdT b (m - (p + 1)).toNat 1 (p + 1)
/-- how many parts it carries, or -1 - the place of the fault -/
def rdS (b : Int → Int) (n m : Int) : Nat → Int → Int
  | 0, p => if p < m ∧ b p = 58 then rdE b n m 3 p else -1 - p
  | j + 1, p => if p < m ∧ b p = 58 then rdE b n m (2 - j) p else if rdT b (m - p).toNat 1 p < 0 then rdT b (m - p).toNat 1 p else if rdT b (m - p).toNat 1 p < m ∧ b (rdT b (m - p).toNat 1 p) = 44 then rdS b n m j (rdT b (m - p).toNat 1 p + 1) else -1 - rdT b (m - p).toNat 1 p
theorem rdS_c {b : Int → Int} {n m p : Int} {j : Nat} (q : p < m) (c : b p = 58) : rdS b n m j p = rdE b n m (3 - j) p := by
  match j with
  | 0 => rw [rdS, if_pos ⟨q, c⟩]; rfl
  | j + 1 => rw [rdS, if_pos ⟨q, c⟩, show (3 : Int) - ((j + 1 : Nat) : Int) = 2 - j by omega]
theorem rdS_z {b : Int → Int} {n m p : Int} (q : ¬ (p < m ∧ b p = 58)) : rdS b n m 0 p = -1 - p := by rw [rdS, if_neg q]
theorem rdS_s {b : Int → Int} {n m p : Int} {j : Nat} (q : ¬ (p < m ∧ b p = 58)) : rdS b n m (j + 1) p = if rdT b (m - p).toNat 1 p < 0 then rdT b (m - p).toNat 1 p else if rdT b (m - p).toNat 1 p < m ∧ b (rdT b (m - p).toNat 1 p) = 44 then rdS b n m j (rdT b (m - p).toNat 1 p + 1) else -1 - rdT b (m - p).toNat 1 p := by rw [rdS, if_neg q]
theorem c_stands {d : Nat} {h : HP} {v a m p s : Int} {Q : PQ} (hd : 0 < d) (sz : aSZ (a + 1) = 100) (n1 : h a 2 ≤ 100) (m1 : m ≤ h a 2) (p0 : 0 ≤ p) (H1 : p < m → h (a + 1) p = s → Q 1 h) (H0 : ¬ (p < m ∧ h (a + 1) p = s) → ∀ g1 : HP, g1 = up2 h a 4 p → ∀ g2 : HP, g2 = up2 g1 a 5 1 → Q 0 g2) : Go d M_Reader_stands 0 [(15, v), (11, a), (0, p), (0, m), (0, s)] [] h Q :=
  V_Reader_stands_0 ⟨fun z => ⟨by omega, H0 (by omega)⟩, fun z => ⟨by omega, c_codeAt sz n1 p0 (by omega) ⟨fun y => ⟨by omega, H0 (fun u => y u.2)⟩, fun y => H1 z y⟩⟩⟩
theorem c_readT {d : Nat} {h : HP} {v a m p : Int} {Q : PQ} (hd : 1 < d) (sz : aSZ (a + 1) = 100) (n1 : h a 2 ≤ 100) (m1 : m ≤ h a 2) (p0 : 0 ≤ p) (p1 : p ≤ m)
    (H1 : 0 ≤ rdT (h (a + 1)) (m - p).toNat 1 p → Q (rdT (h (a + 1)) (m - p).toNat 1 p) h) (H0 : rdT (h (a + 1)) (m - p).toNat 1 p < 0 → ∀ g1 : HP, g1 = up2 h a 4 (-1 - rdT (h (a + 1)) (m - p).toNat 1 p) → ∀ g2 : HP, g2 = up2 g1 a 5 1 → Q (-1) g2) :
    Go d M_Reader_readType 0 [(15, v), (11, a), (0, p), (0, m), (2, 0), (2, 0), (2, 0), (2, 0)] [] h Q :=
  V_Reader_readType_0 (c_readType hd sz n1 m1 (m - p).toNat (m - p).toNat 1 p _ _ (Nat.le_refl _) p0 (by omega) (by omega) (by omega) H1 H0)
theorem c_readSig {d : Nat} {h : HP} {v a m g : Int} {Q : PQ} (hd : 3 < d) (sz : aSZ (a + 1) = 100) (n0 : 0 ≤ h a 2) (n1 : h a 2 ≤ 100) (m1 : m ≤ h a 2) (m0 : 0 ≤ m) : ∀ (j : Nat) (p : Int), j ≤ 3 → 0 ≤ p → p ≤ m →
    (0 ≤ rdS (h (a + 1)) (h a 2) m j p → g ≠ 0 ∧ Go (d - 1) M_Signature_take 0 [(16, g), (11, a), (0, rdS (h (a + 1)) (h a 2) m j p), (2, 0), (2, 0), (2, 0)] [] h (fun _ k => Q 1 k)) → (rdS (h (a + 1)) (h a 2) m j p < 0 → ∀ g1 : HP, g1 = up2 h a 4 (-1 - rdS (h (a + 1)) (h a 2) m j p) → ∀ g2 : HP, g2 = up2 g1 a 5 1 → Q 0 g2) →
    Go d M_Reader_readSignature 16 [(15, v), (11, a), (36, g), (0, m), (0, p), (0, 3 - j)] [] h Q := by
  have stop : ∀ q : Int, (∀ g1 : HP, g1 = up2 h a 4 (-1 - (-1 - q)) → ∀ g2 : HP, g2 = up2 g1 a 5 1 → Q 0 g2) → ∀ g1 : HP, g1 = up2 h a 4 q → ∀ g2 : HP, g2 = up2 g1 a 5 1 → Q 0 g2 := by
    intro q H; rw [show -1 - (-1 - q) = q by omega] at H; exact H
  -- the end, behind all parts
  have fin : ∀ (j : Nat) (p : Int), j ≤ 3 → 0 ≤ p → p ≤ m → (0 ≤ rdE (h (a + 1)) (h a 2) m (3 - j) p → p < m → h (a + 1) p = 58 → g ≠ 0 ∧ Go (d - 1) M_Signature_take 0 [(16, g), (11, a), (0, rdE (h (a + 1)) (h a 2) m (3 - j) p), (2, 0), (2, 0), (2, 0)] [] h (fun _ k => Q 1 k)) → (rdE (h (a + 1)) (h a 2) m (3 - j) p < 0 → p < m → h (a + 1) p = 58 → ∀ g1 : HP, g1 = up2 h a 4 (-1 - rdE (h (a + 1)) (h a 2) m (3 - j) p) → ∀ g2 : HP, g2 = up2 g1 a 5 1 → Q 0 g2) → (¬ (p < m ∧ h (a + 1) p = 58) → ∀ g1 : HP, g1 = up2 h a 4 p → ∀ g2 : HP, g2 = up2 g1 a 5 1 → Q 0 g2) → Go d M_Reader_readSignature 73 [(15, v), (11, a), (36, g), (0, m), (0, p), (0, 3 - j)] [] h Q := by
    intro j p hj p0 p1 H1 H0 Hn
    refine V_Reader_readSignature_73 ⟨by omega, c_stands (by omega) sz n1 m1 p0 (fun pm c => ⟨fun _ => ⟨by unfold r32; omega, by omega, c_readT (by omega) sz n1 m1 (by omega) (by omega) (fun e => ⟨fun _ => ⟨fun t => ?_, fun t => ⟨by omega, ?_⟩⟩, fun t => by omega⟩) (fun e => ?_)⟩, fun z => absurd z (by decide)⟩) (fun z g1 e1 g2 e2 => ⟨fun y => absurd rfl y, fun _ => Hn z g1 e1 g2 e2⟩)⟩
    · have l := rdT_le (b := h (a + 1)) _ (m - (p + 1)).toNat 1 (p + 1) (Nat.le_refl _) (by omega)
      have ee : rdE (h (a + 1)) (h a 2) m (3 - j) p = 3 - j := by unfold rdE; rw [if_neg (by omega), if_pos (by omega)]
      rw [ee] at H1
      have := H1 (by omega) pm c
      exact ⟨this.1, by omega, this.2⟩
    · have ee : rdE (h (a + 1)) (h a 2) m (3 - j) p = -1 - rdT (h (a + 1)) (m - (p + 1)).toNat 1 (p + 1) := by unfold rdE; rw [if_neg (by omega), if_neg (by omega)]
      rw [ee] at H0
      exact stop _ (H0 (by omega) pm c)
    · intro g1 e1 g2 e2
      have ee : rdE (h (a + 1)) (h a 2) m (3 - j) p = rdT (h (a + 1)) (m - (p + 1)).toNat 1 (p + 1) := by unfold rdE; rw [if_pos e]
      rw [ee] at H0
      exact ⟨fun y => absurd rfl y, fun _ => H0 e pm c g1 e1 g2 e2⟩
  intro j
  induction j with
  | zero =>
    intro p hj p0 p1 H1 H0
    refine V_Reader_readSignature_16 ⟨fun _ => fin 0 p hj p0 p1 (fun a b c => ?_) (fun a b c => ?_) (fun a => ?_), fun z => by omega⟩
    · rw [rdS_c b c] at H1; exact H1 a
    · rw [rdS_c b c] at H0; exact H0 a
    · rw [rdS_z a] at H0; exact stop p (H0 (by omega))
  | succ j ih =>
    intro p hj p0 p1 H1 H0
    have c58 : p < h a 2 → h (a + 1) p = 58 → Go d M_Reader_readSignature 73 [(15, v), (11, a), (36, g), (0, m), (0, p), (0, 3 - ((j + 1 : Nat) : Int))] [] h Q := by
      intro y c'
      refine fin (j + 1) p hj p0 p1 (fun a b c => ?_) (fun a b c => ?_) (fun a => ?_)
      · rw [rdS_c b c] at H1; exact H1 a
      · rw [rdS_c b c] at H0; exact H0 a
      · have : p = m := by
          by_cases z : p < m
          · exact absurd ⟨z, c'⟩ a
          · omega
        subst this
        rw [rdS_s a, show (p - p).toNat = 0 by omega, rdT_e (by omega), if_pos (by omega)] at H0
        exact stop p (H0 (by omega))
    have go : ¬ (p < m ∧ h (a + 1) p = 58) → 0 < d ∧ Go (d - 1) M_Reader_readType 0 [(15, v), (11, a), (0, p), (0, m), (2, 0), (2, 0), (2, 0), (2, 0)] [] h (fun y2 k2 => (y2 = (-1) → Q 0 k2) ∧ (y2 ≠ (-1) → 0 < d ∧ Go (d - 1) M_Reader_stands 0 [(15, v), (11, a), (0, y2), (0, m), (0, 44)] [] k2 (fun y3 k3 => (y3 ≠ 0 → r32 (y2 + 1) ∧ r32 (3 - ((j + 1 : Nat) : Int) + 1) ∧ Go d M_Reader_readSignature 16 [(15, v), (11, a), (36, g), (0, m), (0, y2 + 1), (0, 3 - ((j + 1 : Nat) : Int) + 1)] [] k3 Q) ∧ (y3 = 0 → Q 0 k3)))) := by
      intro nc
      rw [rdS_s nc] at H1 H0
      refine ⟨by omega, c_readT (by omega) sz n1 m1 p0 p1 (fun e => ⟨fun z => by omega, fun _ => ⟨by omega, ?_⟩⟩) (fun e g1 e1 g2 e2 => ⟨fun _ => ?_, fun z => absurd rfl z⟩)⟩
      · rw [if_neg (by omega)] at H1 H0
        refine c_stands (by omega) sz n1 m1 e (fun y c => ⟨fun _ => ⟨by unfold r32; omega, by unfold r32; omega, ?_⟩, fun z => absurd z (by decide)⟩) (fun z g1 e1 g2 e2 => ⟨fun y => absurd rfl y, fun _ => ?_⟩)
        · rw [if_pos ⟨y, c⟩] at H1 H0
          rw [show (3 : Int) - ((j + 1 : Nat) : Int) + 1 = 3 - j by omega]
          exact ih _ (by omega) (by omega) (by omega) H1 H0
        · rw [if_neg z] at H0
          exact stop _ (H0 (by omega)) g1 e1 g2 e2
      · rw [if_pos e] at H0
        exact H0 e g1 e1 g2 e2
    refine V_Reader_readSignature_16 ⟨fun z => by omega, fun _ => ⟨by omega, V_Code_byteAt_0 ⟨fun z => by omega, fun _ => ⟨fun y => ⟨fun z => absurd z (by decide), fun _ => go (by omega)⟩, fun y => ⟨⟨p0, by omega⟩, fun c => c58 y c, fun c => go (fun u => c u.2)⟩⟩⟩⟩⟩
end
