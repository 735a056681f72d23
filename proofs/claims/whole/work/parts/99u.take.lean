section
/-! keeping a signature: the class -/
/-- 1 if the letter stands among the first p bytes -/
def occ (b : Int → Int) (c : Int) : Nat → Int
  | 0 => 0
  | n + 1 => if b n = c then 1 else occ b c n
theorem occ_01 {b : Int → Int} {c : Int} : ∀ n, occ b c n = 0 ∨ occ b c n = 1 := by
  intro n
  induction n with
  | zero => exact Or.inl rfl
  | succ n ih =>
    rw [occ]
    by_cases e : b n = c
    · rw [if_pos e]; exact Or.inr rfl
    · rw [if_neg e]; exact ih
theorem occ_y {b : Int → Int} {c : Int} {n : Nat} (e : b n = c) : occ b c (n + 1) = 1 := by rw [occ, if_pos e]
theorem occ_n {b : Int → Int} {c : Int} {n : Nat} (e : b n ≠ c) : occ b c (n + 1) = occ b c n := by rw [occ, if_neg e]
def msk (b : Int → Int) (n : Nat) : Int := occ b 117 n + 2 * occ b 118 n + 4 * occ b 119 n
theorem shl_0 : bShl 1 0 = 1 := by decide +kernel
theorem shl_1 : bShl 1 1 = 2 := by decide +kernel
theorem shl_2 : bShl 1 2 = 4 := by decide +kernel
theorem or_all : ∀ x : Fin 2, ∀ y : Fin 2, ∀ z : Fin 2, bOr ((x.val : Int) + 2 * y.val + 4 * z.val) 1 = 1 + 2 * y.val + 4 * z.val ∧ bOr ((x.val : Int) + 2 * y.val + 4 * z.val) 2 = x.val + 2 * 1 + 4 * z.val ∧ bOr ((x.val : Int) + 2 * y.val + 4 * z.val) 4 = x.val + 2 * y.val + 4 * 1 := by decide +kernel
theorem or_bits {x y z : Int} (hx : x = 0 ∨ x = 1) (hy : y = 0 ∨ y = 1) (hz : z = 0 ∨ z = 1) : bOr (x + 2 * y + 4 * z) 1 = 1 + 2 * y + 4 * z ∧ bOr (x + 2 * y + 4 * z) 2 = x + 2 * 1 + 4 * z ∧ bOr (x + 2 * y + 4 * z) 4 = x + 2 * y + 4 * 1 := by
  rcases hx with rfl | rfl <;> rcases hy with rfl | rfl <;> rcases hz with rfl | rfl
  · exact or_all 0 0 0
  · exact or_all 0 0 1
  · exact or_all 0 1 0
  · exact or_all 0 1 1
  · exact or_all 1 0 0
  · exact or_all 1 0 1
  · exact or_all 1 1 0
  · exact or_all 1 1 1
theorem msk_or {b : Int → Int} {n : Nat} (c0 : 117 ≤ b n) (c1 : b n < 120) : bOr (msk b n) (bShl 1 (b n - 117)) = msk b (n + 1) := by
  have o := or_bits (occ_01 (b := b) (c := 117) n) (occ_01 (b := b) (c := 118) n) (occ_01 (b := b) (c := 119) n)
  have : b n = 117 ∨ b n = 118 ∨ b n = 119 := by omega
  unfold msk
  rcases this with e | e | e
  · rw [occ_y e, occ_n (c := 118) (by omega), occ_n (c := 119) (by omega), e, show (117 : Int) - 117 = 0 by decide, shl_0]; exact o.1
  · rw [occ_y e, occ_n (c := 117) (by omega), occ_n (c := 119) (by omega), e, show (118 : Int) - 117 = 1 by decide, shl_1]; exact o.2.1
  · rw [occ_y e, occ_n (c := 117) (by omega), occ_n (c := 118) (by omega), e, show (119 : Int) - 117 = 2 by decide, shl_2]; exact o.2.2
theorem msk_no {b : Int → Int} {n : Nat} (c : b n < 117 ∨ 120 ≤ b n) : msk b n = msk b (n + 1) := by
  unfold msk
  rw [occ_n (c := 117) (by omega), occ_n (c := 118) (by omega), occ_n (c := 119) (by omega)]
theorem msk_r {b : Int → Int} (n : Nat) : 0 ≤ msk b n ∧ msk b n < 8 := by
  have := occ_01 (b := b) (c := 117) n
  have := occ_01 (b := b) (c := 118) n
  have := occ_01 (b := b) (c := 119) n
  unfold msk; omega
theorem msk_cnt {b : Int → Int} (n : Nat) : bCnt (msk b n) = occ b 117 n + occ b 118 n + occ b 119 n := by
  unfold msk
  rcases occ_01 (b := b) (c := 117) n with x | x <;> rcases occ_01 (b := b) (c := 118) n with y | y <;> rcases occ_01 (b := b) (c := 119) n with z | z <;> rw [x, y, z] <;> rfl
end
