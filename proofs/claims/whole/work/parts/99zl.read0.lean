section
/-! reading an expression: the class, pieces -/
def RdI (h0 h : HP) (a : Int) : Prop := ∀ x i, x ≠ a + 2 → ¬ (x = a ∧ 3 ≤ i ∧ i ≤ 5) → ¬ (x = 91 ∧ i = 2) → h x i = h0 x i
abbrev Bh (h0 : HP) (a : Int) : Int → Int := bA (h0 (a + 1)) (h0 a 2)
abbrev RDh (h0 : HP) (a : Int) (e : Int → Int) : XR := RD (Bh h0 a) e (nPr h0) (ppr h0) (llr h0)
abbrev CAh (h0 : HP) (a : Int) (e : Int → Int) : Nat → XR := CAS (Bh h0 a) (nPr h0) (ppr h0) (llr h0) (RDh h0 a e)
def RdS (h0 h g : HP) (a p sc r : Int) : Prop := RdI h0 g a ∧ (p < r ∧ r ≤ h0 a 2) ∧ (0 ≤ g 91 2 ∧ g 91 2 ≤ 240) ∧ (∀ q, q < p → g (a + 2) q = h (a + 2) q) ∧ ∃ m, g a 3 = h a 3 + m ∧ 1 ≤ m ∧ m ≤ r - p ∧ ∀ e : Int → Int, (∀ q, p ≤ q → q < r → e q = g (a + 2) q) → RDh h0 a e p sc (h 91 2) r (g 91 2) m
def Flt (h0 g : HP) (a : Int) : Prop := 0 ≤ g a 4 ∧ g a 4 ≤ h0 a 2 ∧ (g a 5 = 1 ∨ g a 5 = 2)
def RdX (h0 h g : HP) (a p sc : Int) : Prop := RdI h0 g a ∧ (∀ q, q < p → g (a + 2) q = h (a + 2) q) ∧ Flt h0 g a ∧ ∃ w' m, ∀ e : Int → Int, (∀ q, p ≤ q → e q = g (a + 2) q) → RDh h0 a e p sc (h 91 2) (-(2 * g a 4 + g a 5)) w' m
def ChS (h0 h g : HP) (a : Int) (j : Nat) (q sc r : Int) : Prop := RdI h0 g a ∧ (q ≤ r ∧ r ≤ h0 a 2) ∧ (0 ≤ g 91 2 ∧ g 91 2 ≤ 240) ∧ (∀ x, x < q → g (a + 2) x = h (a + 2) x) ∧ ∃ m, g a 3 = h a 3 + m ∧ 0 ≤ m ∧ m ≤ r - q ∧ ∀ e : Int → Int, (∀ x, q ≤ x → x < r → e x = g (a + 2) x) → CHN (RDh h0 a e) j q sc (h 91 2) r (g 91 2) m
def ChX (h0 h g : HP) (a : Int) (j : Nat) (q sc : Int) : Prop := RdI h0 g a ∧ (∀ x, x < q → g (a + 2) x = h (a + 2) x) ∧ Flt h0 g a ∧ ∃ w' m, ∀ e : Int → Int, (∀ x, q ≤ x → e x = g (a + 2) x) → CHN (RDh h0 a e) j q sc (h 91 2) (-(2 * g a 4 + g a 5)) w' m
def CaS (h0 h g : HP) (a q sc r : Int) : Prop := RdI h0 g a ∧ (q < r ∧ r ≤ h0 a 2) ∧ (0 ≤ g 91 2 ∧ g 91 2 ≤ 240) ∧ (∀ x, x < q → g (a + 2) x = h (a + 2) x) ∧ ∃ (f : Nat) (m : Int), g a 3 = h a 3 + m ∧ 0 ≤ m ∧ m ≤ r - q ∧ ∀ e : Int → Int, (∀ x, q ≤ x → x < r → e x = g (a + 2) x) → CAh h0 a e f q sc (h 91 2) r (g 91 2) m
def CaX (h0 h g : HP) (a q sc : Int) : Prop := RdI h0 g a ∧ (∀ x, x < q → g (a + 2) x = h (a + 2) x) ∧ Flt h0 g a ∧ ∃ (f : Nat) (w' m : Int), ∀ e : Int → Int, (∀ x, q ≤ x → e x = g (a + 2) x) → CAh h0 a e f q sc (h 91 2) (-(2 * g a 4 + g a 5)) w' m
theorem ChS_nil {h0 h : HP} {a q sc : Int} (I : RdI h0 h a) (q1 : q ≤ h0 a 2) (w0 : 0 ≤ h 91 2) (w1 : h 91 2 ≤ 240) : ChS h0 h h a 0 q sc q := ⟨I, ⟨Int.le_refl _, q1⟩, ⟨w0, w1⟩, fun _ _ => rfl, 0, by omega, by omega, by omega, fun _ _ => ⟨rfl, rfl, rfl⟩⟩
theorem ChS_cons {h0 g k k2 : HP} {a q sc r1 r : Int} {j : Nat} (q0 : 0 ≤ q) (S1 : RdS h0 g k a q sc r1) (S2 : ChS h0 k k2 a j r1 sc r) : ChS h0 g k2 a (j + 1) q sc r := by
  obtain ⟨i1, ⟨b1, b2⟩, w1, u1, m1, e1, l1, t1, R1⟩ := S1
  obtain ⟨i2, ⟨b3, b4⟩, w2, u2, m2, e2, l2, t2, R2⟩ := S2
  refine ⟨i2, ⟨by omega, b4⟩, w2, fun x hx => by rw [u2 x (by omega), u1 x hx], m1 + m2, by omega, by omega, by omega, fun e he => ?_⟩
  exact ⟨r1, k 91 2, m1, R1 e (fun x x0 x1 => by rw [he x x0 (by omega), u2 x x1]), Or.inr ⟨by omega, m2, R2 e (fun x x0 x1 => he x (by omega) x1), rfl⟩⟩
theorem ChX_kid {h0 g k : HP} {a q sc : Int} {j : Nat} (X1 : RdX h0 g k a q sc) : ChX h0 g k a (j + 1) q sc := by
  obtain ⟨i1, u1, f1, w', m, R1⟩ := X1
  refine ⟨i1, u1, f1, w', m, fun e he => ⟨_, w', m, R1 e he, Or.inl ⟨?_, rfl⟩⟩⟩
  unfold Flt at f1
  omega
theorem ChX_cons {h0 g k k2 : HP} {a q sc r1 : Int} {j : Nat} (q0 : 0 ≤ q) (S1 : RdS h0 g k a q sc r1) (X2 : ChX h0 k k2 a j r1 sc) : ChX h0 g k2 a (j + 1) q sc := by
  obtain ⟨i1, ⟨b1, b2⟩, w1, u1, m1, e1, l1, t1, R1⟩ := S1
  obtain ⟨i2, u2, f2, w', m2, R2⟩ := X2
  refine ⟨i2, fun x hx => by rw [u2 x (by omega), u1 x hx], f2, w', m1 + m2, fun e he => ?_⟩
  exact ⟨r1, k 91 2, m1, R1 e (fun x x0 x1 => by rw [he x x0, u2 x x1]), Or.inr ⟨by omega, m2, R2 e (fun x x0 => he x (by omega)), rfl⟩⟩
/-- the end of an expression is noted -/
theorem RdI_note {h0 k g : HP} {a p v : Int} (I : RdI h0 k a) (e : g = up2 k (a + 2) p v) : RdI h0 g a := fun x i p1 p2 p3 => by rw [e, up2_nc p1]; exact I x i p1 p2 p3
theorem c_note {d : Nat} {k : HP} {a p v : Int} {Q : PQ} (sz : aSZ (a + 2) = 100) (p0 : 0 ≤ p) (n1 : k a 2 ≤ 100) (H : ∀ g : HP, (p < k a 2 → g = up2 k (a + 2) p v) → (k a 2 ≤ p → g = k) → Q 0 g) : Go d M_Code_noteEnd 0 [(11, a), (0, p), (0, v)] [] k Q :=
  V_Code_noteEnd_0 ⟨fun z => by omega, fun _ => ⟨fun z => H k (fun y => by omega) (fun _ => rfl), fun z => ⟨⟨p0, by omega⟩, fun g e => H g (fun _ => e) (fun y => by omega)⟩⟩⟩
theorem c_codeB {d : Nat} {h : HP} {a p : Int} {Q : PQ} (sz : aSZ (a + 1) = 100) (n1 : h a 2 ≤ 100) (H : Q (bA (h (a + 1)) (h a 2) p) h) : Go d M_Code_byteAt 0 [(11, a), (0, p)] [] h Q := by
  refine V_Code_byteAt_0 ⟨fun z => ?_, fun z => ⟨fun y => ?_, fun y => ⟨⟨z, by omega⟩, ?_⟩⟩⟩
  · rw [bA_out (by omega)] at H; exact H
  · rw [bA_out (by omega)] at H; exact H
  · rw [bA_in z y] at H; exact H
theorem c_digB {d : Nat} {h : HP} {a p : Int} {Q : PQ} (sz : aSZ (a + 1) = 100) (n1 : h a 2 ≤ 100) (H1 : 48 ≤ bA (h (a + 1)) (h a 2) p → bA (h (a + 1)) (h a 2) p ≤ 57 → Q (bA (h (a + 1)) (h a 2) p - 48) h) (H0 : ¬ (48 ≤ bA (h (a + 1)) (h a 2) p ∧ bA (h (a + 1)) (h a 2) p ≤ 57) → Q (-1) h) : Go d M_Code_digitAt 0 [(11, a), (0, p), (2, 0)] [] h Q := by
  refine V_Code_digitAt_0 ⟨fun z => ?_, fun z => ⟨fun y => ?_, fun y => ?_⟩⟩
  · rw [bA_out (by omega)] at H0; exact H0 (by omega)
  · rw [bA_out (by omega)] at H0; exact H0 (by omega)
  · rw [bA_in z y] at H0 H1
    exact ⟨⟨z, by omega⟩, fun x => H0 (by omega), fun x => ⟨⟨z, by omega⟩, fun u => H0 (by omega), fun u => ⟨⟨z, by omega⟩, by unfold r32; omega, H1 x u⟩⟩⟩
theorem V_Program_calledAt_n {d : Nat} {v0 v1 v2 : Int} {h : HP} {Q : PQ} (H : r32 (v2 + 1) ∧ v1 ≠ 0 ∧ 0 < d ∧ Go (d - 1) M_Code_digitAt 0 [(11, v1), (0, v2 + 1), (2, 0)] [] h (fun y1 k1 => v1 ≠ 0 ∧ 0 < d ∧ Go (d - 1) M_Code_byteAt 0 [(11, v1), (0, v2)] [] k1 (fun y2 k2 => (y2 ≠ 71 → 0 < d ∧ Go (d - 1) M_Program_constructorOf 0 [(14, v0), (0, y1)] [] k2 (fun y3 k3 => Q y3 k3)) ∧ (y2 = 71 → 0 < d ∧ Go (d - 1) M_Program_functionOf 0 [(14, v0), (0, y1)] [] k2 (fun y4 k4 => Q y4 k4))))) : Go d M_Program_calledAt 0 [(14, v0), (31, v1), (0, v2), (2, 0)] [] h Q := am_V (cutS M_Program_calledAt [] []) 300 H
def cel (k j : Int) : Int := if k = 71 then 61 + 5 * j else 41 + 2 * j
/-- the signature that a C or G names -/
theorem c_called {d : Nat} {h : HP} {a p : Int} {Q : PQ} (hd : 3 < d) (a0 : a ≠ 0) (sz : aSZ (a + 1) = 100) (n1 : h a 2 ≤ 100) (D1 : h 36 4 ≤ 10) (D2 : h 36 5 ≤ 6) (p0 : 0 ≤ p) (p1 : p ≤ 100) (hp : bA (h (a + 1)) (h a 2) p = 67 ∨ bA (h (a + 1)) (h a 2) p = 71)
    (H1 : okD (bA (h (a + 1)) (h a 2)) (nPr h) (bA (h (a + 1)) (h a 2) p) (p + 1) → Q (cel (bA (h (a + 1)) (h a 2) p) (bA (h (a + 1)) (h a 2) (p + 1) - 48)) h) (H0 : ¬ okD (bA (h (a + 1)) (h a 2)) (nPr h) (bA (h (a + 1)) (h a 2) p) (p + 1) → Q 0 h) : Go d M_Program_calledAt 0 [(14, 36), (31, a), (0, p), (2, 0)] [] h Q := by
  have no : ¬ (48 ≤ bA (h (a + 1)) (h a 2) (p + 1) ∧ bA (h (a + 1)) (h a 2) (p + 1) ≤ 57) → ¬ okD (bA (h (a + 1)) (h a 2)) (nPr h) (bA (h (a + 1)) (h a 2) p) (p + 1) := fun z u => z ⟨u.1, u.2.1⟩
  refine V_Program_calledAt_n ⟨by unfold r32; omega, a0, by omega, c_digB sz n1 (fun x y => ⟨a0, by omega, c_codeB sz n1 ⟨fun z => ⟨by omega, c_consOf D1 (fun u v => ?_) (fun u => ?_)⟩, fun z => ⟨by omega, c_funcOf D2 (fun u v => ?_) (fun u => ?_)⟩⟩⟩) (fun x => ⟨a0, by omega, c_codeB sz n1 ⟨fun z => ⟨by omega, c_consOf D1 (fun u v => by omega) (fun u => H0 (no x))⟩, fun z => ⟨by omega, c_funcOf D2 (fun u v => by omega) (fun u => H0 (no x))⟩⟩⟩)⟩
  · have := H1 ⟨x, y, by unfold nPr; rw [if_neg z]; exact v⟩
    unfold cel at this
    rw [if_neg z] at this
    exact this
  · refine H0 (fun w => ?_)
    have := w.2.2
    unfold nPr at this
    rw [if_neg z] at this
    omega
  · have := H1 ⟨x, y, by unfold nPr; rw [if_pos z]; exact v⟩
    unfold cel at this
    rw [if_pos z] at this
    exact this
  · refine H0 (fun w => ?_)
    have := w.2.2
    unfold nPr at this
    rw [if_pos z] at this
    omega
theorem c_partsO {d : Nat} {c : Int} {h : HP} {Q : PQ} (H0 : ((48 ≤ c ∧ c ≤ 57) ∨ (97 ≤ c ∧ c ≤ 122) ∨ c = 84 ∨ c = 70) → Q 0 h) (H1 : 0 < pO c → Q (pO c) h) (Hn : ¬ ((48 ≤ c ∧ c ≤ 57) ∨ (97 ≤ c ∧ c ≤ 122) ∨ c = 84 ∨ c = 70) → pO c = 0 → Q (-1) h) : Go d M_BT_partsOf 0 [(0, c)] [] h Q := by
  have two : (c = 43 ∨ c = 45 ∨ c = 60 ∨ c = 61 ∨ c = 80) → Q 2 h := by
    intro z
    have e : pO c = 2 := by unfold pO; rw [if_neg (by omega), if_pos z]
    rw [e] at H1; exact H1 (by decide)
  have three : c = 63 → Q 3 h := by
    intro z
    have e : pO c = 3 := by unfold pO; rw [if_neg (by omega), if_neg (by omega), if_pos z]
    rw [e] at H1; exact H1 (by decide)
  have one : (c = 76 ∨ c = 82) → Q 1 h := by
    intro z
    have e : pO c = 1 := by unfold pO; rw [if_pos z]
    rw [e] at H1; exact H1 (by decide)
  have rest : ¬ ((48 ≤ c ∧ c ≤ 57) ∨ (97 ≤ c ∧ c ≤ 122)) → Go d M_BT_partsOf 24 [(0, c)] [] h Q := by
    intro z
    refine V_BT_partsOf_24 ⟨fun y => H0 (by omega), fun y => ⟨fun x => ⟨fun u => two (by omega), fun u1 => ⟨fun u => two (by omega), fun u2 => ⟨fun u => two (by omega), fun u3 => ⟨fun u => two (by omega), fun u4 => ⟨fun u => three u, fun u5 => ⟨fun u => one (by omega), fun u6 => ⟨fun u => two (by omega), fun u7 => ⟨fun u => one (by omega), fun u8 => Hn (by omega) ?_⟩⟩⟩⟩⟩⟩⟩⟩, fun x => H0 (by omega)⟩⟩
    unfold pO
    rw [if_neg (by omega), if_neg (by omega), if_neg (by omega)]
  exact V_BT_partsOf_0 ⟨fun z => ⟨fun y => rest (by omega), fun y => ⟨fun x => H0 (by omega), fun x => rest (by omega)⟩⟩, fun z => ⟨fun y => H0 (by omega), fun y => ⟨fun x => rest (by omega), fun x => ⟨fun u => H0 (by omega), fun u => rest (by omega)⟩⟩⟩⟩
/-- what is declared, the class's side alone -/
def DcC (h : HP) : Prop := (0 ≤ h 36 4 ∧ h 36 4 ≤ 10 ∧ 0 ≤ h 36 5 ∧ h 36 5 ≤ 6) ∧ (∀ k, 0 ≤ k → k < h 36 4 → (0 ≤ h (41 + 2 * k) 1 ∧ h (41 + 2 * k) 1 ≤ 24) ∧ (0 ≤ h (41 + 2 * k) 2 ∧ h (41 + 2 * k) 2 ≤ 3)) ∧ (∀ f, 0 ≤ f → f < h 36 5 → (0 ≤ h (61 + 5 * f) 1 ∧ h (61 + 5 * f) 1 ≤ 24) ∧ (0 ≤ h (61 + 5 * f) 2 ∧ h (61 + 5 * f) 2 ≤ 3))
theorem DcR_C {h : HP} (D : DcR h) : DcC h := by
  obtain ⟨⟨a0, a1, a2, a3, a4, a5⟩, cs, fs⟩ := D
  refine ⟨⟨a0, a1, a3, a4⟩, fun k k0 k1 => ?_, fun f f0 f1 => ?_⟩
  · have := (cs k k0 k1).1; exact ⟨this.2.2.2.1, this.2.2.2.2.1⟩
  · have := (fs f f0 f1).1; exact ⟨this.2.2.2.1, this.2.2.2.2.1⟩
theorem DcC_ag {h h' : HP} (o : ∀ x i, 35 < x → x < 91 → h' x i = h x i) (D : DcC h) : DcC h' := by
  obtain ⟨a, b, c⟩ := D
  refine ⟨by rw [o 36 4 (by omega) (by omega), o 36 5 (by omega) (by omega)]; exact a, fun k k0 k1 => ?_, fun f f0 f1 => ?_⟩
  · rw [o 36 4 (by omega) (by omega)] at k1
    rw [o _ _ (by omega) (by omega), o _ _ (by omega) (by omega)]; exact b k k0 k1
  · rw [o 36 5 (by omega) (by omega)] at f1
    rw [o _ _ (by omega) (by omega), o _ _ (by omega) (by omega)]; exact c f f0 f1
end
