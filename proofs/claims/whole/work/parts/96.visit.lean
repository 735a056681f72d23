section
/-! the walk through the groups -/
def sumT (f : Int → Int) : Nat → Int
  | 0 => 0
  | k + 1 => sumT f k + f k
theorem sumT_congr {f g : Int → Int} : ∀ (k : Nat), (∀ i : Int, 0 ≤ i → i < k → f i = g i) → sumT f k = sumT g k
  | 0, _ => rfl
  | k + 1, h => by
    show sumT f k + f k = sumT g k + g k
    rw [sumT_congr k (fun i a b => h i a (by omega)), h k (by omega) (by omega)]
theorem sumT_le {f : Int → Int} : ∀ (k : Nat), (∀ i : Int, 0 ≤ i → i < k → 0 ≤ f i ∧ f i ≤ 2) → 0 ≤ sumT f k ∧ sumT f k ≤ 2 * k
  | 0, _ => ⟨Int.le_refl _, Int.le_refl _⟩
  | k + 1, h => by
    have a := sumT_le k (fun i p q => h i p (by omega))
    have b := h k (by omega) (by omega)
    show 0 ≤ sumT f k + f k ∧ sumT f k + f k ≤ 2 * ((k + 1 : Nat) : Int)
    omega
def VI (n : Int) (c cA cB : Int → Int) (fr to : Int) (P : Int → Prop) (st pa tu od : Int → Int) (w start top m : Int) : Prop :=
  (∀ r, 0 ≤ r → r < n → (st r = 0 ∨ ((st r = 1 ∨ st r = 2) ∧ c r = r ∧ P r))) ∧ (-1 ≤ top ∧ fr ≤ start ∧ start ≤ to ∧ 0 ≤ w) ∧
  (∀ i, 0 ≤ i → i ≤ top → (0 ≤ pa i ∧ pa i < n) ∧ st (pa i) = 1 ∧ (0 ≤ tu i ∧ tu i ≤ 2)) ∧
  (∀ r, 0 ≤ r → r < n → st r = 1 → ∃ i, 0 ≤ i ∧ i ≤ top ∧ pa i = r) ∧
  (∀ i, 0 ≤ i → i < top → (tu i = 1 ∧ pa (i + 1) = cA (pa i)) ∨ (tu i = 2 ∧ pa (i + 1) = cB (pa i))) ∧
  (∀ i, 0 ≤ i → i ≤ top → (1 ≤ tu i → cA (pa i) = -1 ∨ st (cA (pa i)) = 2 ∨ (i < top ∧ tu i = 1)) ∧ (2 ≤ tu i → cB (pa i) = -1 ∨ st (cB (pa i)) = 2 ∨ i < top)) ∧
  (∀ j, 0 ≤ j → j < w → (0 ≤ od j ∧ od j < n) ∧ st (od j) = 2 ∧ (cA (od j) = -1 ∨ ∃ j', 0 ≤ j' ∧ j' < j ∧ od j' = cA (od j)) ∧ (cB (od j) = -1 ∨ ∃ j', 0 ≤ j' ∧ j' < j ∧ od j' = cB (od j))) ∧
  (∀ r, 0 ≤ r → r < n → st r = 2 → ∃ j, 0 ≤ j ∧ j < w ∧ od j = r) ∧
  (∀ x, fr ≤ x → x < start → st (c x) ≠ 0) ∧
  top + 1 = cnt (fun r => st r = 1) 0 n ∧ w = cnt (fun r => st r = 2) 0 n ∧ m = (start - fr) + sumT tu (top + 1).toNat + 3 * w
def Kid (n : Int) (c : Int → Int) (P : Int → Prop) (ch : Int → Int) : Prop := ∀ r, 0 ≤ r → r < n → c r = r → P r → ch r = -1 ∨ (0 ≤ ch r ∧ ch r < n ∧ c (ch r) = ch r ∧ P (ch r))
theorem VI_bd {n : Int} {c cA cB : Int → Int} {fr to : Int} {P : Int → Prop} {st pa tu od : Int → Int} {w start top m : Int} (n0 : 0 ≤ n) (H : VI n c cA cB fr to P st pa tu od w start top m) : w + (top + 1) ≤ n ∧ (∀ r, 0 ≤ r → r < n → st r = 0 → w + (top + 1) < n) ∧ 0 ≤ m ∧ m ≤ (start - fr) + 3 * (w + (top + 1)) := by
  obtain ⟨h1, ⟨h2, h3, h4, h5⟩, h6, h7, h8, h9, h10, h11, h12, h13, h14, h15⟩ := H
  have s := sumT_le (f := tu) (top + 1).toNat (fun i a b => (h6 i a (by omega)).2.2)
  have e : cnt (fun r => st r = 1 ∨ st r = 2) 0 n = (top + 1) + w := by rw [cnt_add (fun i _ _ z => by omega), ← h13, ← h14]
  have b := cnt_bd (p := fun r => st r = 1 ∨ st r = 2) n0
  refine ⟨by omega, fun r r0 r1 z => ?_, by omega, by omega⟩
  have l := cnt_less (p := fun x => (st x = 1 ∨ st x = 2) ∨ x = r) (q := fun x => st x = 1 ∨ st x = 2) r0 r1 (Or.inr rfl) (fun q => by omega) (fun i _ _ hi => ⟨fun q => q.resolve_right hi, fun q => Or.inl q⟩)
  have b2 := cnt_bd (p := fun x => (st x = 1 ∨ st x = 2) ∨ x = r) n0
  omega
/-- the next argument is none, or left already -/
theorem VI_skip {n : Int} {c cA cB : Int → Int} {fr to : Int} {P : Int → Prop} {st pa tu od : Int → Int} {w start top m : Int} (H : VI n c cA cB fr to P st pa tu od w start top m) (ht : 0 ≤ top) (hu : tu top < 2) (hs : (tu top = 0 → cA (pa top) = -1 ∨ st (cA (pa top)) = 2) ∧ (tu top = 1 → cB (pa top) = -1 ∨ st (cB (pa top)) = 2)) : VI n c cA cB fr to P st pa (upf tu top (tu top + 1)) od w start top (m + 1) := by
  obtain ⟨h1, ⟨h2, h3, h4, h5⟩, h6, h7, h8, h9, h10, h11, h12, h13, h14, h15⟩ := H
  have t6 := (h6 top ht (Int.le_refl _)).2.2
  refine ⟨h1, ⟨h2, h3, h4, h5⟩, fun i a b => ?_, h7, fun i a b => ?_, fun i a b => ?_, h10, h11, h12, h13, h14, ?_⟩
  · have := h6 i a b
    by_cases z : i = top
    · rw [z, upf_eq]; rw [z] at this; exact ⟨this.1, this.2.1, by omega⟩
    · rw [upf_ne z]; exact this
  · rw [upf_ne (by omega)]; exact h8 i a b
  · by_cases z : i = top
    · rw [z, upf_eq]
      have o := h9 top ht (Int.le_refl _)
      refine ⟨fun q => ?_, fun q => ?_⟩
      · rcases Int.lt_or_le (tu top) 1 with y | y
        · rcases hs.1 (by omega) with x | x
          · exact Or.inl x
          · exact Or.inr (Or.inl x)
        · rcases o.1 y with x | x | x
          · exact Or.inl x
          · exact Or.inr (Or.inl x)
          · omega
      · rcases hs.2 (by omega) with x | x
        · exact Or.inl x
        · exact Or.inr (Or.inl x)
    · rw [upf_ne z]; exact h9 i a b
  · rw [show (top + 1).toNat = top.toNat + 1 by omega] at h15 ⊢
    have e : sumT (upf tu top (tu top + 1)) (top.toNat + 1) = sumT tu top.toNat + (tu top + 1) := by
      show sumT (upf tu top (tu top + 1)) top.toNat + upf tu top (tu top + 1) (top.toNat : Int) = _
      rw [sumT_congr (g := tu) top.toNat (fun i a b => upf_ne (by omega)), show ((top.toNat : Nat) : Int) = top by omega, upf_eq]
    have e2 : sumT tu (top.toNat + 1) = sumT tu top.toNat + tu top := by
      show sumT tu top.toNat + tu (top.toNat : Int) = _
      rw [show ((top.toNat : Nat) : Int) = top by omega]
    rw [e]
    rw [e2] at h15
    omega
/-- the next argument is entered -/
theorem VI_push {n : Int} {c cA cB : Int → Int} {fr to : Int} {P : Int → Prop} {st pa tu od : Int → Int} {w start top m y : Int} (H : VI n c cA cB fr to P st pa tu od w start top m) (ht : 0 ≤ top) (hu : tu top < 2) (hy : (tu top = 0 → y = cA (pa top)) ∧ (tu top = 1 → y = cB (pa top))) (y0 : 0 ≤ y) (y1 : y < n) (cy : c y = y) (py : P y) (sy : st y = 0) : VI n c cA cB fr to P (upf st y 1) (upf pa (top + 1) y) (upf (upf tu top (tu top + 1)) (top + 1) 0) od w start (top + 1) (m + 1) := by
  obtain ⟨h1, ⟨h2, h3, h4, h5⟩, h6, h7, h8, h9, h10, h11, h12, h13, h14, h15⟩ := H
  have t6 := (h6 top ht (Int.le_refl _)).2.2
  have pne : ∀ i, 0 ≤ i → i ≤ top → pa i ≠ y := fun i a b e => by have := (h6 i a b).2.1; rw [e, sy] at this; omega
  have st1 : ∀ r, r ≠ y → upf st y 1 r = st r := fun r q => upf_ne q
  have sc : ∀ r, st r = 2 → upf st y 1 r = 2 := fun r q => by rw [upf_ne (fun e => by rw [e, sy] at q; omega)]; exact q
  refine ⟨fun r r0 r1 => ?_, ⟨by omega, h3, h4, h5⟩, fun i a b => ?_, fun r r0 r1 q => ?_, fun i a b => ?_, fun i a b => ?_, fun j a b => ?_, fun r r0 r1 q => ?_, fun x a b => ?_, ?_, ?_, ?_⟩
  · by_cases z : r = y
    · rw [z, upf_eq]; exact Or.inr ⟨Or.inl rfl, cy, py⟩
    · rw [upf_ne z]; exact h1 r r0 r1
  · by_cases z : i = top + 1
    · rw [z, upf_eq, upf_eq, upf_eq]; exact ⟨⟨y0, y1⟩, rfl, by omega⟩
    · have := h6 i a (by omega)
      rw [upf_ne z, upf_ne z, upf_ne (pne i a (by omega))]
      refine ⟨this.1, this.2.1, ?_⟩
      by_cases x : i = top
      · rw [x, upf_eq]; omega
      · rw [upf_ne x]; exact this.2.2
  · by_cases z : r = y
    · exact ⟨top + 1, by omega, by omega, by rw [upf_eq, z]⟩
    · rw [upf_ne z] at q
      obtain ⟨i, a, b, e⟩ := h7 r r0 r1 q
      exact ⟨i, a, by omega, by rw [upf_ne (by omega)]; exact e⟩
  · by_cases z : i = top
    · rw [z, upf_eq, upf_ne (show top ≠ top + 1 by omega), upf_ne (show top ≠ top + 1 by omega), upf_eq]
      rcases Int.lt_or_le (tu top) 1 with x | x
      · exact Or.inl ⟨by omega, hy.1 (by omega)⟩
      · exact Or.inr ⟨by omega, hy.2 (by omega)⟩
    · rw [upf_ne (show i + 1 ≠ top + 1 by omega), upf_ne (show i ≠ top + 1 by omega), upf_ne (show i ≠ top + 1 by omega), upf_ne z]
      exact h8 i a (by omega)
  · by_cases z : i = top + 1
    · rw [z, upf_eq]
      exact ⟨fun q => by omega, fun q => by omega⟩
    · rw [upf_ne z, upf_ne z]
      by_cases x : i = top
      · rw [x, upf_eq]
        have o := h9 top ht (Int.le_refl _)
        refine ⟨fun q => ?_, fun q => Or.inr (Or.inr (by omega))⟩
        rcases Int.lt_or_le (tu top) 1 with v | v
        · exact Or.inr (Or.inr ⟨by omega, by omega⟩)
        · rcases o.1 v with u | u | u
          · exact Or.inl u
          · exact Or.inr (Or.inl (sc _ u))
          · omega
      · rw [upf_ne x]
        have o := h9 i a (by omega)
        refine ⟨fun q => ?_, fun q => ?_⟩
        · rcases o.1 q with u | u | u
          · exact Or.inl u
          · exact Or.inr (Or.inl (sc _ u))
          · exact Or.inr (Or.inr ⟨by omega, u.2⟩)
        · rcases o.2 q with u | u | u
          · exact Or.inl u
          · exact Or.inr (Or.inl (sc _ u))
          · exact Or.inr (Or.inr (by omega))
  · have o := h10 j a b
    exact ⟨o.1, sc _ o.2.1, o.2.2⟩
  · by_cases z : r = y
    · rw [z, upf_eq] at q; omega
    · rw [upf_ne z] at q; exact h11 r r0 r1 q
  · by_cases z : c x = y
    · rw [z, upf_eq]; omega
    · rw [upf_ne z]; exact h12 x a b
  · have := cnt_less (p := fun r => upf st y 1 r = 1) (q := fun r => st r = 1) y0 y1 upf_eq (by omega) (fun i _ _ hi => by show upf st y 1 i = 1 ↔ st i = 1; rw [upf_ne hi])
    omega
  · rw [h14]
    refine cnt_congr (fun i _ _ => ?_)
    by_cases z : i = y
    · rw [z, upf_eq, sy]; omega
    · rw [upf_ne z]
  · rw [show (top + 1).toNat = top.toNat + 1 by omega] at h15
    rw [show (top + 1 + 1).toNat = top.toNat + 1 + 1 by omega]
    have e : sumT (upf (upf tu top (tu top + 1)) (top + 1) 0) (top.toNat + 1 + 1) = sumT tu top.toNat + (tu top + 1) := by
      show sumT _ top.toNat + upf (upf tu top (tu top + 1)) (top + 1) 0 (top.toNat : Int) + upf (upf tu top (tu top + 1)) (top + 1) 0 ((top.toNat + 1 : Nat) : Int) = _
      rw [sumT_congr (g := tu) top.toNat (fun i a b => by rw [upf_ne (by omega), upf_ne (by omega)]), show ((top.toNat : Nat) : Int) = top by omega, show ((top.toNat + 1 : Nat) : Int) = top + 1 by omega, upf_eq, upf_ne (by omega), upf_eq]
      omega
    have e2 : sumT tu (top.toNat + 1) = sumT tu top.toNat + tu top := by
      show sumT tu top.toNat + tu (top.toNat : Int) = _
      rw [show ((top.toNat : Nat) : Int) = top by omega]
    rw [e]
    rw [e2] at h15
    omega
/-- a new start: left already, or entered -/
theorem VI_start {n : Int} {c cA cB : Int → Int} {fr to : Int} {P : Int → Prop} {st pa tu od : Int → Int} {w start m : Int} (H : VI n c cA cB fr to P st pa tu od w start (-1) m) (hs : start < to) (hne : st (c start) ≠ 0) : VI n c cA cB fr to P st pa tu od w (start + 1) (-1) (m + 1) := by
  obtain ⟨h1, ⟨h2, h3, h4, h5⟩, h6, h7, h8, h9, h10, h11, h12, h13, h14, h15⟩ := H
  refine ⟨h1, ⟨h2, by omega, by omega, h5⟩, h6, h7, h8, h9, h10, h11, fun x a b => ?_, h13, h14, by omega⟩
  by_cases z : x = start
  · rw [z]; exact hne
  · exact h12 x a (by omega)
theorem VI_first {n : Int} {c cA cB : Int → Int} {fr to : Int} {P : Int → Prop} {st pa tu od : Int → Int} {w start m y : Int} (H : VI n c cA cB fr to P st pa tu od w start (-1) m) (hs : start < to) (ey : y = c start) (y0 : 0 ≤ y) (y1 : y < n) (cy : c y = y) (py : P y) (sy : st y = 0) : VI n c cA cB fr to P (upf st y 1) (upf pa 0 y) (upf tu 0 0) od w (start + 1) 0 (m + 1) := by
  obtain ⟨h1, ⟨h2, h3, h4, h5⟩, h6, h7, h8, h9, h10, h11, h12, h13, h14, h15⟩ := H
  have sc : ∀ r, st r = 2 → upf st y 1 r = 2 := fun r q => by rw [upf_ne (fun e => by rw [e, sy] at q; omega)]; exact q
  refine ⟨fun r r0 r1 => ?_, ⟨by omega, by omega, by omega, h5⟩, fun i a b => ?_, fun r r0 r1 q => ?_, fun i a b => by omega, fun i a b => ?_, fun j a b => ?_, fun r r0 r1 q => ?_, fun x a b => ?_, ?_, ?_, ?_⟩
  · by_cases z : r = y
    · rw [z, upf_eq]; exact Or.inr ⟨Or.inl rfl, cy, py⟩
    · rw [upf_ne z]; exact h1 r r0 r1
  · rw [show i = 0 by omega, upf_eq, upf_eq, upf_eq]; exact ⟨⟨y0, y1⟩, rfl, by omega⟩
  · by_cases z : r = y
    · exact ⟨0, by omega, by omega, by rw [upf_eq, z]⟩
    · rw [upf_ne z] at q
      obtain ⟨i, a, b, e⟩ := h7 r r0 r1 q
      omega
  · rw [show i = 0 by omega, upf_eq]
    exact ⟨fun q => by omega, fun q => by omega⟩
  · have o := h10 j a b
    exact ⟨o.1, sc _ o.2.1, o.2.2⟩
  · by_cases z : r = y
    · rw [z, upf_eq] at q; omega
    · rw [upf_ne z] at q; exact h11 r r0 r1 q
  · by_cases z : c x = y
    · rw [z, upf_eq]; omega
    · rw [upf_ne z]
      by_cases v : x = start
      · rw [v] at z; exact absurd ey.symm z
      · exact h12 x a (by omega)
  · have := cnt_less (p := fun r => upf st y 1 r = 1) (q := fun r => st r = 1) y0 y1 upf_eq (by omega) (fun i _ _ hi => by show upf st y 1 i = 1 ↔ st i = 1; rw [upf_ne hi])
    omega
  · rw [h14]
    refine cnt_congr (fun i _ _ => ?_)
    by_cases z : i = y
    · rw [z, upf_eq, sy]; omega
    · rw [upf_ne z]
  · have e : sumT (upf tu 0 0) (0 + 1 : Int).toNat = 0 := by
      show 0 + upf tu 0 0 ((0 : Nat) : Int) = 0
      rw [show ((0 : Nat) : Int) = 0 from rfl, upf_eq]; omega
    have e2 : sumT tu (-1 + 1 : Int).toNat = 0 := rfl
    rw [e]
    rw [e2] at h15
    omega
/-- a group is left -/
theorem VI_pop {n : Int} {c cA cB : Int → Int} {fr to : Int} {P : Int → Prop} {st pa tu od : Int → Int} {w start top m : Int} (H : VI n c cA cB fr to P st pa tu od w start top m) (ht : 0 ≤ top) (hu : 2 ≤ tu top) (kA : Kid n c P cA) (kB : Kid n c P cB) : VI n c cA cB fr to P (upf st (pa top) 2) pa tu (upf od w (pa top)) (w + 1) start (top - 1) (m + 1) := by
  obtain ⟨h1, ⟨h2, h3, h4, h5⟩, h6, h7, h8, h9, h10, h11, h12, h13, h14, h15⟩ := H
  obtain ⟨⟨p0, p1⟩, p2, p3⟩ := h6 top ht (Int.le_refl _)
  have t9 := h9 top ht (Int.le_refl _)
  have stp : (st (pa top) = 1 ∨ st (pa top) = 2) ∧ c (pa top) = pa top ∧ P (pa top) := by
    rcases h1 (pa top) p0 p1 with q | q
    · omega
    · exact q
  -- the places of the path are apart
  have apart : ∀ i, 0 ≤ i → i < top → pa i ≠ pa top := by
    intro i a b e
    -- count: the groups under way are top + 1, but the path would have fewer
    have : ∀ k : Nat, (k : Int) ≤ top → cnt (fun r => ∃ i, 0 ≤ i ∧ i < (k : Int) ∧ pa i = r) 0 n ≤ k := by
      intro k
      induction k with
      | zero =>
        intro _
        rw [cnt_congr (q := fun _ => False) (fun i _ _ => ⟨fun ⟨j, x, y, _⟩ => by omega, fun z => z.elim⟩)]
        have : cnt (fun _ => False) 0 n = 0 := by
          rcases Int.lt_or_le n 0 with q | q
          · exact cnt_nil (by omega)
          · exact up_ind (lo := 0) (P := fun i => cnt (fun _ => False) 0 i = 0) (cnt_nil (Int.le_refl _)) (fun i hi ih => by rw [cnt_sf (p := fun _ => False) hi (fun w => w), ih]) n q
        omega
      | succ k ih =>
        intro hk
        have ihk := ih (by omega)
        have le : cnt (fun r => ∃ i, 0 ≤ i ∧ i < ((k + 1 : Nat) : Int) ∧ pa i = r) 0 n ≤ cnt (fun r => (∃ i, 0 ≤ i ∧ i < (k : Int) ∧ pa i = r) ∨ r = pa k) 0 n := by
          refine cnt_mono (fun r _ _ => ?_)
          rintro ⟨i, i0, i1, i2⟩
          by_cases z : i = k
          · exact Or.inr (by rw [← i2, z])
          · exact Or.inl ⟨i, i0, by omega, i2⟩
        have l2 : cnt (fun r => (∃ i, 0 ≤ i ∧ i < (k : Int) ∧ pa i = r) ∨ r = pa k) 0 n ≤ cnt (fun r => ∃ i, 0 ≤ i ∧ i < (k : Int) ∧ pa i = r) 0 n + 1 := by
          have hk6 := h6 k (by omega) (by omega)
          rcases Classical.em (∃ i, 0 ≤ i ∧ i < (k : Int) ∧ pa i = pa k) with q | q
          · rw [cnt_congr (q := fun r => ∃ i, 0 ≤ i ∧ i < (k : Int) ∧ pa i = r) (fun r _ _ => ⟨fun z => z.elim id (fun z => by rw [z]; exact q), fun z => Or.inl z⟩)]
            omega
          · have := cnt_less (p := fun r => (∃ i, 0 ≤ i ∧ i < (k : Int) ∧ pa i = r) ∨ r = pa k) (q := fun r => ∃ i, 0 ≤ i ∧ i < (k : Int) ∧ pa i = r) hk6.1.1 hk6.1.2 (Or.inr rfl) q (fun i _ _ hi => ⟨fun z => z.resolve_right hi, fun z => Or.inl z⟩)
            omega
        omega
    have b1 := this top.toNat (by omega)
    rw [show ((top.toNat : Nat) : Int) = top by omega] at b1
    have b2 : cnt (fun r => st r = 1) 0 n ≤ cnt (fun r => ∃ i, 0 ≤ i ∧ i < top ∧ pa i = r) 0 n := by
      refine cnt_mono (fun r r0 r1 q => ?_)
      obtain ⟨j, j0, j1, j2⟩ := h7 r r0 r1 q
      by_cases z : j = top
      · exact ⟨i, a, b, by rw [e, ← j2, z]⟩
      · exact ⟨j, j0, by omega, j2⟩
    omega
  have kA0 := kA (pa top) p0 p1 stp.2.1 stp.2.2
  have kB0 := kB (pa top) p0 p1 stp.2.1 stp.2.2
  refine ⟨fun r r0 r1 => ?_, ⟨by omega, h3, h4, by omega⟩, fun i a b => ?_, fun r r0 r1 q => ?_, fun i a b => h8 i a (by omega), fun i a b => ?_, fun j a b => ?_, fun r r0 r1 q => ?_, fun x a b => ?_, ?_, ?_, ?_⟩
  · by_cases z : r = pa top
    · rw [z, upf_eq]; exact Or.inr ⟨Or.inr rfl, stp.2⟩
    · rw [upf_ne z]; exact h1 r r0 r1
  · rw [upf_ne (apart i a (by omega))]; exact h6 i a (by omega)
  · by_cases z : r = pa top
    · rw [z, upf_eq] at q; omega
    · rw [upf_ne z] at q
      obtain ⟨i, a, b, e⟩ := h7 r r0 r1 q
      refine ⟨i, a, ?_, e⟩
      by_cases v : i = top
      · rw [v] at e; exact absurd e.symm z
      · omega
  · have o := h9 i a (by omega)
    have s2 : ∀ r, st r = 2 → upf st (pa top) 2 r = 2 := fun r q => by rw [upf_ne (fun e => by rw [e] at q; omega)]; exact q
    refine ⟨fun q => ?_, fun q => ?_⟩
    · rcases o.1 q with u | u | u
      · exact Or.inl u
      · exact Or.inr (Or.inl (s2 _ u))
      · by_cases v : i = top - 1
        · rcases h8 i a (by omega) with x | x
          · refine Or.inr (Or.inl ?_)
            rw [← x.2, show i + 1 = top by omega, upf_eq]
          · omega
        · exact Or.inr (Or.inr ⟨by omega, u.2⟩)
    · rcases o.2 q with u | u | u
      · exact Or.inl u
      · exact Or.inr (Or.inl (s2 _ u))
      · by_cases v : i = top - 1
        · rcases h8 i a (by omega) with x | x
          · omega
          · refine Or.inr (Or.inl ?_)
            rw [← x.2, show i + 1 = top by omega, upf_eq]
        · exact Or.inr (Or.inr (by omega))
  · have low : ∀ r, 0 ≤ r → r < n → st r = 2 → ∃ j', 0 ≤ j' ∧ j' < w ∧ upf od w (pa top) j' = r := by
      intro r r0 r1 q
      obtain ⟨j', x0, x1, x2⟩ := h11 r r0 r1 q
      exact ⟨j', x0, x1, by rw [upf_ne (by omega)]; exact x2⟩
    by_cases z : j = w
    · rw [z, upf_eq, upf_eq]
      refine ⟨⟨p0, p1⟩, rfl, ?_, ?_⟩
      · rcases t9.1 (by omega) with u | u | u
        · exact Or.inl u
        · rcases kA0 with v | v
          · exact Or.inl v
          · exact Or.inr (low _ v.1 v.2.1 u)
        · omega
      · rcases t9.2 hu with u | u | u
        · exact Or.inl u
        · rcases kB0 with v | v
          · exact Or.inl v
          · exact Or.inr (low _ v.1 v.2.1 u)
        · omega
    · obtain ⟨o1, o2, o3, o4⟩ := h10 j a (by omega)
      rw [upf_ne z]
      refine ⟨o1, by rw [upf_ne (fun e => by rw [e] at o2; omega)]; exact o2, ?_, ?_⟩
      · rcases o3 with u | ⟨j', x0, x1, x2⟩
        · exact Or.inl u
        · exact Or.inr ⟨j', x0, x1, by rw [upf_ne (by omega)]; exact x2⟩
      · rcases o4 with u | ⟨j', x0, x1, x2⟩
        · exact Or.inl u
        · exact Or.inr ⟨j', x0, x1, by rw [upf_ne (by omega)]; exact x2⟩
  · by_cases z : r = pa top
    · exact ⟨w, h5, by omega, by rw [upf_eq, z]⟩
    · rw [upf_ne z] at q
      obtain ⟨j, x0, x1, x2⟩ := h11 r r0 r1 q
      exact ⟨j, x0, by omega, by rw [upf_ne (by omega)]; exact x2⟩
  · by_cases z : c x = pa top
    · rw [z, upf_eq]; omega
    · rw [upf_ne z]; exact h12 x a b
  · have := cnt_less (p := fun r => st r = 1) (q := fun r => upf st (pa top) 2 r = 1) p0 p1 p2 (by show ¬ upf st (pa top) 2 (pa top) = 1; rw [upf_eq]; omega) (fun i _ _ hi => by show st i = 1 ↔ upf st (pa top) 2 i = 1; rw [upf_ne hi])
    omega
  · have := cnt_less (p := fun r => upf st (pa top) 2 r = 2) (q := fun r => st r = 2) p0 p1 upf_eq (by omega) (fun i _ _ hi => by show upf st (pa top) 2 i = 2 ↔ st i = 2; rw [upf_ne hi])
    omega
  · rw [show (top + 1).toNat = top.toNat + 1 by omega] at h15
    rw [show (top - 1 + 1).toNat = top.toNat by omega]
    have e2 : sumT tu (top.toNat + 1) = sumT tu top.toNat + tu top := by
      show sumT tu top.toNat + tu (top.toNat : Int) = _
      rw [show ((top.toNat : Nat) : Int) = top by omega]
    rw [e2] at h15
    omega
/-- a group under way again: no rank -/
theorem VI_cyc {n : Int} {c cA cB : Int → Int} {fr to : Int} {P : Int → Prop} {st pa tu od : Int → Int} {w start top m y : Int} (H : VI n c cA cB fr to P st pa tu od w start top m) (ht : 0 ≤ top) (hy : (y = cA (pa top)) ∨ (y = cB (pa top))) (y0 : 0 ≤ y) (y1 : y < n) (sy : st y = 1) {rk : Int → Nat} (rA : ∀ r, 0 ≤ r → r < n → c r = r → cA r ≠ -1 → rk (cA r) < rk r) (rB : ∀ r, 0 ≤ r → r < n → c r = r → cB r ≠ -1 → rk (cB r) < rk r) : False := by
  obtain ⟨h1, ⟨h2, h3, h4, h5⟩, h6, h7, h8, h9, h10, h11, h12, h13, h14, h15⟩ := H
  obtain ⟨i, i0, i1, ei⟩ := h7 y y0 y1 sy
  have root : ∀ i, 0 ≤ i → i ≤ top → c (pa i) = pa i := by
    intro i a b
    have q := h6 i a b
    rcases h1 (pa i) q.1.1 q.1.2 with z | z
    · omega
    · exact z.2.1
  have down : ∀ k : Nat, ∀ i, 0 ≤ i → i + k = top → rk (pa top) ≤ rk (pa i) := by
    intro k
    induction k with
    | zero => intro i a b; rw [show i = top by omega]; exact Nat.le_refl _
    | succ k ih =>
      intro i a b
      have q := h6 i a (by omega)
      have q2 := h6 (i + 1) (by omega) (by omega)
      have s := ih (i + 1) (by omega) (by omega)
      rcases h8 i a (by omega) with ⟨_, e⟩ | ⟨_, e⟩
      · have := rA (pa i) q.1.1 q.1.2 (root i a (by omega)) (by rw [← e]; omega)
        rw [← e] at this
        omega
      · have := rB (pa i) q.1.1 q.1.2 (root i a (by omega)) (by rw [← e]; omega)
        rw [← e] at this
        omega
  have d := down (top - i).toNat i i0 (by omega)
  have q := h6 top ht (Int.le_refl _)
  rw [ei] at d
  rcases hy with e | e
  · have := rA (pa top) q.1.1 q.1.2 (root top ht (Int.le_refl _)) (by rw [← e]; omega)
    rw [← e] at this
    omega
  · have := rB (pa top) q.1.1 q.1.2 (root top ht (Int.le_refl _)) (by rw [← e]; omega)
    rw [← e] at this
    omega
end
