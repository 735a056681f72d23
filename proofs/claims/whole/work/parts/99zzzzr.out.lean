section
/-! bytes written: what is kept of them, and numbers -/
def OuR (h : HP) (c f row : Int) (p : List Int) : Prop := h c f = min (p.length : Int) 200 ∧ ∀ i : Nat, i < p.length → i < 200 → h row (i : Int) = (p[i]?).getD 0
theorem OuR_put {h g : HP} {c f row x : Int} {p : List Int} (ho : OuR h c f row p) (hn : h c f < 200) (e1 : g c f = h c f + 1) (e2 : g row (h c f) = x) (e3 : ∀ i : Int, i ≠ h c f → g row i = h row i) : OuR g c f row (p ++ [x]) := by
  have l : (p ++ [x]).length = p.length + 1 := by simp
  have e0 : h c f = p.length := by have := ho.1; omega
  refine ⟨by rw [e1, l, e0]; omega, fun i i1 i2 => ?_⟩
  rw [l] at i1
  by_cases z : i = p.length
  · subst z
    rw [← e0, e2]
    simp
  · rw [e3 _ (by omega), ho.2 i (by omega) i2, List.getElem?_append_left (by omega)]
theorem OuR_pre {h : HP} {c f row : Int} {p : List Int} (ho : OuR h c f row p) (hn : 200 ≤ h c f) (q : List Int) : OuR h c f row (p ++ q) := by
  have l : (p ++ q).length = p.length + q.length := by simp
  have e0 := ho.1
  refine ⟨by rw [l]; omega, fun i i1 i2 => ?_⟩
  rw [ho.2 i (by omega) i2, List.getElem?_append_left (by omega)]
theorem OuR_ag {h g : HP} {c f row : Int} {p : List Int} (ho : OuR h c f row p) (e1 : g c f = h c f) (e2 : ∀ i, g row i = h row i) : OuR g c f row p := ⟨e1.trans ho.1, fun i a b => (e2 _).trans (ho.2 i a b)⟩
theorem OuR_bd {h : HP} {c f row : Int} {p : List Int} (ho : OuR h c f row p) : 0 ≤ h c f ∧ h c f ≤ 200 := by have := ho.1; omega
theorem OuR_nil {h : HP} {c f row : Int} (e : h c f = 0) : OuR h c f row [] := ⟨by rw [e]; rfl, fun i a _ => absurd a (Nat.not_lt_zero i)⟩
theorem k_put {d : Nat} {c x : Int} {h : HP} {p : List Int} {Q : PQ} (hc : c = 131 ∨ c = 133) (ho : OuR h c 1 (c + 1) p) (HQ : ∀ g : HP, OuR g c 1 (c + 1) (p ++ [x]) → (∀ a i, a ≠ c → a ≠ c + 1 → g a i = h a i) → Q 0 g) : Go d M_Kept_put 0 [(12, c), (0, x)] [] h Q := by
  have sz : aSZ (c + 1) = 200 := by rcases hc with e | e <;> subst e <;> rfl
  have b := OuR_bd ho
  refine V_Kept_put_0 ⟨fun z => HQ h (OuR_pre ho z _) (fun _ _ _ _ => rfl), fun z => ⟨⟨b.1, by omega⟩, fun g1 e1 => ?_⟩⟩
  have q1 : g1 c 1 = h c 1 := by rw [e1, up2_nc (by omega)]
  refine ⟨by rw [q1]; unfold r32; omega, fun g2 e2 => HQ g2 (OuR_put ho z ?_ ?_ ?_) (fun a i p q => ?_)⟩
  · rw [e2, up2_eq, q1]
  · rw [e2, up2_nc (by omega), e1, up2_eq]
  · intro i hi
    rw [e2, up2_nc (by omega), e1, up2_ext (by omega)]
  · rw [e2, up2_nc (by omega), e1, up2_nc (by omega)]
theorem r_byte {d : Nat} {x : Int} {h : HP} {p : List Int} {Q : PQ} (ho : OuR h 135 87 192 p) (HQ : ∀ g : HP, OuR g 135 87 192 (p ++ [x]) → (∀ a i, a ≠ 192 → ¬ (a = 135 ∧ i = 87) → g a i = h a i) → Q 0 g) : Go d M_Mo_tellsByte 0 [(22, 135), (0, x)] [] h Q := by
  have b := OuR_bd ho
  refine N_Mo_tellsByte_0 ⟨fun z => HQ h (OuR_pre ho z _) (fun _ _ _ _ => rfl), fun z => ⟨⟨b.1, by omega⟩, fun g1 e1 => ?_⟩⟩
  have q1 : g1 135 87 = h 135 87 := by rw [e1, up2_nc (by omega)]
  refine ⟨by rw [q1]; unfold r32; omega, fun g2 e2 => HQ g2 (OuR_put ho z ?_ ?_ ?_) (fun a i p q => ?_)⟩
  · rw [e2, up2_eq, q1]
  · rw [e2, up2_nc (by omega), e1, up2_eq]
  · intro i hi
    rw [e2, up2_nc (by omega), e1, up2_ext (by omega)]
  · rw [e2, up2_ext (by omega), e1, up2_nc (by omega)]
/-! numbers -/
def nUp : Nat → Int → Int → Int
  | 0, _, w => w
  | k + 1, r, w => if w * 10 ≤ r then nUp k r (w * 10) else w
def nDn : Nat → Int → Int → List Int
  | 0, _, _ => []
  | k + 1, r, w => if w ≤ 0 then [] else (48 + r / w % 10) :: nDn k r (w / 10)
def pTen : Nat → Int
  | 0 => 1
  | k + 1 => 10 * pTen k
def bNm (x : Int) : List Int := (if x < 0 then [45] else []) ++ (nDn 11 (lAbs x) (nUp 10 (lAbs x) 1) ++ [46])
theorem lCq (a b : Int) : (0 < lCm a b ↔ b < a) ∧ (lCm a b ≤ 0 ↔ a ≤ b) ∧ (0 ≤ lCm a b ↔ b ≤ a) ∧ (lCm a b < 0 ↔ a < b) := by
  unfold lCm
  by_cases z : b < a
  · rw [if_pos z]; omega
  · rw [if_neg z]
    by_cases y : a = b
    · rw [if_pos y]; omega
    · rw [if_neg y]; omega
theorem dig_rg (r w : Int) : 0 ≤ r / w % 10 ∧ r / w % 10 < 10 := ⟨Int.emod_nonneg _ (by decide), Int.emod_lt_of_pos _ (by decide)⟩
theorem k_dn {d : Nat} {c x v6 r : Int} {Q : PQ} (hd : 8 < d) (hc : c = 131 ∨ c = 133) (r0 : 0 ≤ r) : ∀ (k : Nat) (h : HP) (p : List Int) (w : Int), 0 ≤ w → w < pTen k → OuR h c 1 (c + 1) p → (∀ g : HP, OuR g c 1 (c + 1) (p ++ (nDn k r w ++ [46])) → (∀ a i, a ≠ c → a ≠ c + 1 → g a i = h a i) → Q 0 g) → Go d M_Kept_putNumber 54 [(12, c), (0, x), (1, r), (2, 0), (1, w), (2, 0), (0, v6)] [] h Q := by
  intro k
  induction k with
  | zero =>
    intro h p w w0 w1 ho HQ
    have w1 : w < 1 := w1
    refine V_Kept_putNumber_54 ⟨fun z => ⟨by omega, k_put hc ho (fun g og fr => HQ g og fr)⟩, fun z => ?_⟩
    have := (lCq w 0).1.1 z
    omega
  | succ k ih =>
    intro h p w w0 w1 ho HQ
    have w1 : w < 10 * pTen k := w1
    have dr := dig_rg r w
    refine V_Kept_putNumber_54 ⟨fun z => ⟨by omega, k_put hc ho (fun g og fr => HQ g ?_ fr)⟩, fun z => ?_⟩
    · have := (lCq w 0).2.1.1 z
      show OuR g c 1 (c + 1) (p ++ ((if w ≤ 0 then [] else (48 + r / w % 10) :: nDn k r (w / 10)) ++ [46]))
      rw [if_pos this]
      exact og
    · have wp := (lCq w 0).1.1 z
      refine ⟨⟨r0, wp⟩, ⟨Int.ediv_nonneg r0 (by omega), by decide⟩, by unfold r32; omega, by unfold r32; omega, by omega, k_put hc ho (fun g og fr => ⟨⟨w0, by decide⟩, ih g _ (w / 10) (by omega) (by omega) og (fun g2 o2 f2 => HQ g2 ?_ (fun a i p q => (f2 a i p q).trans (fr a i p q)))⟩)⟩
      show OuR g2 c 1 (c + 1) (p ++ ((if w ≤ 0 then [] else (48 + r / w % 10) :: nDn k r (w / 10)) ++ [46]))
      rw [if_neg (by omega)]
      rw [List.append_assoc] at o2
      exact o2
theorem nUp_bd {r : Int} (r1 : r ≤ 2147483648) : ∀ (k : Nat) (w : Int), 0 < w → w ≤ 2147483648 → 0 < nUp k r w ∧ nUp k r w ≤ 2147483648 := by
  intro k
  induction k with
  | zero => intro w a b; exact ⟨a, b⟩
  | succ k ih =>
    intro w a b
    show 0 < (if w * 10 ≤ r then nUp k r (w * 10) else w) ∧ (if w * 10 ≤ r then nUp k r (w * 10) else w) ≤ 2147483648
    by_cases z : w * 10 ≤ r
    · rw [if_pos z]; exact ih _ (by omega) (by omega)
    · rw [if_neg z]; exact ⟨a, b⟩
theorem k_up {d : Nat} {c x r : Int} {h : HP} {Q : PQ} (r1 : r ≤ 2147483648) (H : ∀ v6, Go d M_Kept_putNumber 54 [(12, c), (0, x), (1, r), (2, 0), (1, nUp 10 r 1), (2, 0), (0, v6)] [] h Q) : ∀ (k : Nat) (w v6 : Int), v6 = 10 - k → k ≤ 10 → 0 < w → w ≤ 2147483648 → nUp k r w = nUp 10 r 1 → Go d M_Kept_putNumber 22 [(12, c), (0, x), (1, r), (2, 0), (1, w), (2, 0), (0, v6)] [] h Q := by
  intro k
  induction k with
  | zero =>
    intro w v6 e _ w0 w1 en
    have en : w = nUp 10 r 1 := en
    refine V_Kept_putNumber_22 ⟨fun _ => ?_, fun z => by omega⟩
    rw [en]
    exact H _
  | succ k ih =>
    intro w v6 e kl w0 w1 en
    have en : (if w * 10 ≤ r then nUp k r (w * 10) else w) = nUp 10 r 1 := en
    refine V_Kept_putNumber_22 ⟨fun z => by omega, fun _ => ⟨by unfold r64; omega, fun z => ?_, fun z => ⟨by unfold r64; omega, by unfold r32; omega, ?_⟩⟩⟩
    · have := (lCq (w * 10) r).1.1 z
      rw [if_neg (by omega)] at en
      rw [en]
      exact H _
    · have := (lCq (w * 10) r).2.1.1 z
      rw [if_pos this] at en
      exact ih (w * 10) (v6 + 1) (by omega) (by omega) (by omega) (by omega) en
theorem k_num {d : Nat} {c x : Int} {h : HP} {p : List Int} {Q : PQ} (hd : 8 < d) (hx : -2147483648 ≤ x ∧ x ≤ 2147483647) (hc : c = 131 ∨ c = 133) (ho : OuR h c 1 (c + 1) p) (HQ : ∀ g : HP, OuR g c 1 (c + 1) (p ++ bNm x) → (∀ a i, a ≠ c → a ≠ c + 1 → g a i = h a i) → Q 0 g) : Go d M_Kept_putNumber 0 [(12, c), (0, x), (2, 0), (2, 0), (2, 0), (2, 0), (2, 0)] [] h Q := by
  have ab : 0 ≤ lAbs x ∧ lAbs x ≤ 2147483648 := by unfold lAbs; split <;> omega
  have nb := nUp_bd ab.2 10 1 (by omega) (by omega)
  have p11 : pTen 11 = 100000000000 := by decide
  refine V_Kept_putNumber_0 ⟨by unfold r64; omega, by omega, fun z => ?_, fun z => ⟨by omega, k_put hc ho (fun g og fr => ?_)⟩⟩
  · refine k_up ab.2 (fun v6 => k_dn hd hc ab.1 11 h p _ (by omega) (by omega) ho (fun g og fr => HQ g ?_ fr)) 10 1 0 (by omega) (by omega) (by omega) (by omega) rfl
    unfold bNm
    rw [if_neg (by omega)]
    exact og
  · refine k_up ab.2 (fun v6 => k_dn hd hc ab.1 11 g (p ++ [45]) _ (by omega) (by omega) og (fun g2 o2 f2 => HQ g2 ?_ (fun a i p q => (f2 a i p q).trans (fr a i p q)))) 10 1 0 (by omega) (by omega) (by omega) (by omega) rfl
    unfold bNm
    rw [if_pos z]
    rw [List.append_assoc] at o2
    exact o2
theorem r_dn {d : Nat} {x r : Int} {Q : PQ} (hd : 8 < d) (r0 : 0 ≤ r) : ∀ (k : Nat) (h : HP) (p : List Int) (w : Int), 0 ≤ w → w < pTen k → OuR h 135 87 192 p → (∀ g : HP, OuR g 135 87 192 (p ++ (nDn k r w ++ [46])) → (∀ a i, a ≠ 192 → ¬ (a = 135 ∧ i = 87) → g a i = h a i) → Q 0 g) → Go d M_Mo_tellsNumber 43 [(22, 135), (0, x), (1, r), (2, 0), (1, w), (2, 0)] [] h Q := by
  intro k
  induction k with
  | zero =>
    intro h p w w0 w1 ho HQ
    have w1 : w < 1 := w1
    refine N_Mo_tellsNumber_43 ⟨fun z => ⟨by omega, r_byte ho (fun g og fr => HQ g og fr)⟩, fun z => ?_⟩
    have := (lCq w 0).1.1 z
    omega
  | succ k ih =>
    intro h p w w0 w1 ho HQ
    have w1 : w < 10 * pTen k := w1
    have dr := dig_rg r w
    refine N_Mo_tellsNumber_43 ⟨fun z => ⟨by omega, r_byte ho (fun g og fr => HQ g ?_ fr)⟩, fun z => ?_⟩
    · have := (lCq w 0).2.1.1 z
      show OuR g 135 87 192 (p ++ ((if w ≤ 0 then [] else (48 + r / w % 10) :: nDn k r (w / 10)) ++ [46]))
      rw [if_pos this]
      exact og
    · have wp := (lCq w 0).1.1 z
      refine ⟨⟨r0, wp⟩, ⟨Int.ediv_nonneg r0 (by omega), by decide⟩, by unfold r32; omega, by unfold r32; omega, by omega, r_byte ho (fun g og fr => ⟨⟨w0, by decide⟩, ih g _ (w / 10) (by omega) (by omega) og (fun g2 o2 f2 => HQ g2 ?_ (fun a i p q => (f2 a i p q).trans (fr a i p q)))⟩)⟩
      show OuR g2 135 87 192 (p ++ ((if w ≤ 0 then [] else (48 + r / w % 10) :: nDn k r (w / 10)) ++ [46]))
      rw [if_neg (by omega)]
      rw [List.append_assoc] at o2
      exact o2
theorem r_up {d : Nat} {x r : Int} {h : HP} {Q : PQ} (r1 : r ≤ 2147483648) (H : Go d M_Mo_tellsNumber 43 [(22, 135), (0, x), (1, r), (2, 0), (1, nUp 10 r 1), (2, 0)] [] h Q) : ∀ (k : Nat) (w : Int), 0 < w → w ≤ 2147483648 → 2147483648 < w * pTen k → nUp k r w = nUp 10 r 1 → Go d M_Mo_tellsNumber 21 [(22, 135), (0, x), (1, r), (2, 0), (1, w), (2, 0)] [] h Q := by
  intro k
  induction k with
  | zero =>
    intro w w0 w1 wk en
    have wk : 2147483648 < w * 1 := wk
    omega
  | succ k ih =>
    intro w w0 w1 wk en
    have en : (if w * 10 ≤ r then nUp k r (w * 10) else w) = nUp 10 r 1 := en
    have wk : 2147483648 < w * (10 * pTen k) := wk
    refine N_Mo_tellsNumber_21 ⟨by unfold r64; omega, fun z => ?_, fun z => ⟨by unfold r64; omega, ?_⟩⟩
    · have := (lCq (w * 10) r).1.1 z
      rw [if_neg (by omega)] at en
      rw [en]
      exact H
    · have := (lCq (w * 10) r).2.1.1 z
      rw [if_pos this] at en
      exact ih (w * 10) (by omega) (by omega) (by rw [Int.mul_assoc]; exact wk) en
theorem r_num {d : Nat} {x : Int} {h : HP} {p : List Int} {Q : PQ} (hd : 8 < d) (hx : -2147483648 ≤ x ∧ x ≤ 2147483647) (ho : OuR h 135 87 192 p) (HQ : ∀ g : HP, OuR g 135 87 192 (p ++ bNm x) → (∀ a i, a ≠ 192 → ¬ (a = 135 ∧ i = 87) → g a i = h a i) → Q 0 g) : Go d M_Mo_tellsNumber 0 [(22, 135), (0, x), (2, 0), (2, 0), (2, 0), (2, 0)] [] h Q := by
  have ab : 0 ≤ lAbs x ∧ lAbs x ≤ 2147483648 := by unfold lAbs; split <;> omega
  have nb := nUp_bd ab.2 10 1 (by omega) (by omega)
  have p11 : pTen 11 = 100000000000 := by decide
  have p10 : (2147483648 : Int) < 1 * pTen 10 := by decide
  refine N_Mo_tellsNumber_0 ⟨fun z => ?_, fun z => ⟨by omega, r_byte ho (fun g og fr => ⟨by unfold r64; omega, ?_⟩)⟩⟩
  · have z := (lCq x 0).2.2.1.1 z
    have e : lAbs x = x := by unfold lAbs; rw [if_neg (by omega)]
    rw [e] at ab nb
    refine r_up ab.2 (r_dn hd ab.1 11 h p _ (by omega) (by omega) ho (fun g og fr => HQ g ?_ fr)) 10 1 (by omega) (by omega) p10 rfl
    unfold bNm
    rw [if_neg (by omega), e]
    exact og
  · have z := (lCq x 0).2.2.2.1 z
    have e : lAbs x = -x := by unfold lAbs; rw [if_pos (by omega)]
    rw [e] at ab nb
    refine r_up ab.2 (r_dn hd ab.1 11 g (p ++ [45]) _ (by omega) (by omega) og (fun g2 o2 f2 => HQ g2 ?_ (fun a i p q => (f2 a i p q).trans (fr a i p q)))) 10 1 (by omega) (by omega) p10 rfl
    unfold bNm
    rw [if_pos z, e]
    rw [List.append_assoc] at o2
    exact o2
end
