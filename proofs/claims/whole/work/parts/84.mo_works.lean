section
def wth (what hd dp a b : Int) : Int := if what = 0 then 1 else if what = 1 then (if hd = 8 ∨ (0 < ari hd ∧ a = 1) ∨ (1 < ari hd ∧ b = 1) then 1 else 2) else if what = 2 then min 9999 (1 + (if 0 < ari hd then a else 0) + (if 1 < ari hd then b else 0)) else (if 7 ≤ hd then dp + 1 else max (if 0 < ari hd then a else 1) (if 1 < ari hd then b else 1))
theorem ari_bd (k : Int) : 0 ≤ ari k ∧ ari k ≤ 2 := by
  unfold ari
  split
  · omega
  · split <;> omega
theorem wth_bd {what hd dp a b : Int} (ha : 1 ≤ a ∧ a ≤ 10000) (hb : 1 ≤ b ∧ b ≤ 10000) (hp : 0 ≤ dp ∧ dp ≤ 99) : 1 ≤ wth what hd dp a b ∧ wth what hd dp a b ≤ 10000 := by
  unfold wth
  split
  · omega
  · split
    · split <;> omega
    · split
      · split <;> split <;> omega
      · split
        · omega
        · split <;> split <;> omega
theorem c_worth {d : Nat} {what x a b : Int} {h : HP} {Q : PQ} (hd : 1 < d) (hx : 0 ≤ x ∧ x < 1000) (ha : 1 ≤ a ∧ a ≤ 10000) (hb : 1 ≤ b ∧ b ≤ 10000) (hp : 0 ≤ h 140 x ∧ h 140 x ≤ 99)
    (H : Q (wth what (h 137 x) (h 140 x) a b) h) : Go d M_Mo_worth 0 [(22, 135), (0, what), (0, x), (0, a), (0, b), (2, 0), (2, 0), (2, 0), (2, 0)] [] h Q := by
  refine N_Mo_worth_0 ⟨hx, by omega, c_parts (by omega) ?_⟩
  have ab := ari_bd (h 137 x)
  unfold wth at H
  refine ⟨fun w => ?_, fun w => ⟨fun w1 => ⟨fun v => ?_, fun v => ⟨fun u => N_Mo_worth_63 ⟨fun t => ?_, fun t => ⟨fun z => by omega, fun z => by omega⟩⟩, fun u => ⟨fun z => ?_, fun z => N_Mo_worth_63 ⟨fun t => ?_, fun t => ⟨fun y => ?_, fun y => ?_⟩⟩⟩⟩⟩, fun w1 => ⟨fun w2 => ⟨fun u => ⟨fun t => ?_, fun t => by omega⟩, fun u => ⟨by unfold r32; omega, fun t => ?_, fun t => ?_⟩⟩, fun w2 => ⟨fun u => ?_, fun u => ?_⟩⟩⟩⟩
  · rw [if_pos w] at H; exact H
  · rw [if_neg w, if_pos w1, if_pos (Or.inl v)] at H; exact H
  · rw [if_neg w, if_pos w1, if_neg (by omega)] at H; exact H
  · rw [if_neg w, if_pos w1, if_pos (by omega)] at H; exact H
  · rw [if_neg w, if_pos w1, if_neg (by omega)] at H; exact H
  · rw [if_neg w, if_pos w1, if_neg (by omega)] at H; exact H
  · rw [if_neg w, if_pos w1, if_pos (by omega)] at H; exact H
  · rw [if_neg w, if_neg w1, if_pos w2, if_neg (by omega), if_neg (by omega)] at H
    refine N_Mo_worth_105 ⟨by unfold r32; omega, fun z => H, fun z => by omega⟩
  · rw [if_neg w, if_neg w1, if_pos w2, if_pos (by omega), if_neg (by omega)] at H
    refine N_Mo_worth_105 ⟨by unfold r32; omega, fun z => ?_, fun z => ?_⟩
    · rw [show min 9999 (1 + a + 0) = 1 + a + 0 by omega] at H; exact H
    · rw [show min 9999 (1 + a + 0) = 9999 by omega] at H; exact H
  · rw [if_neg w, if_neg w1, if_pos w2, if_pos (by omega), if_pos (by omega)] at H
    refine N_Mo_worth_105 ⟨by unfold r32; omega, fun z => ?_, fun z => ?_⟩
    · rw [show min 9999 (1 + a + b) = 1 + a + b by omega] at H; exact H
    · rw [show min 9999 (1 + a + b) = 9999 by omega] at H; exact H
  · rw [if_neg w, if_neg w1, if_neg w2] at H
    refine N_Mo_worth_135 ⟨fun z => ⟨fun y => ?_, fun y => ⟨hx, by unfold r32; omega, ?_⟩⟩, fun z => by omega⟩
    · rw [if_neg (by omega), if_neg (by omega), if_neg (by omega)] at H; exact H
    · rw [if_pos y] at H; exact H
  · rw [if_neg w, if_neg w1, if_neg w2] at H
    refine N_Mo_worth_135 ⟨fun z => ⟨fun y => ?_, fun y => ⟨hx, by unfold r32; omega, ?_⟩⟩, fun z => ⟨fun t => ⟨fun y => ?_, fun y => ⟨hx, by unfold r32; omega, ?_⟩⟩, fun t => ⟨fun y => ?_, fun y => ⟨hx, by unfold r32; omega, ?_⟩⟩⟩⟩
    · rw [if_neg (by omega), if_pos (by omega), if_neg (by omega), show max a 1 = a by omega] at H; exact H
    · rw [if_pos y] at H; exact H
    · rw [if_neg (by omega), if_pos (by omega), if_pos (by omega), show max a b = a by omega] at H; exact H
    · rw [if_pos y] at H; exact H
    · rw [if_neg (by omega), if_pos (by omega), if_pos (by omega), show max a b = b by omega] at H; exact H
    · rw [if_pos y] at H; exact H
/-- the reference's types as they stand: nodes, groups, forms -/
def RB (h : HP) (lo hi : Int) (tm : Int → Tm) : Prop := h 135 14 = lo ∧ h 135 15 = hi ∧ 0 ≤ lo ∧ lo ≤ hi ∧ hi ≤ 1000 ∧ Wst lo hi (h 137) (h 138) (h 139) tm ∧ (∀ x, lo ≤ x → x < hi → 0 ≤ h 140 x ∧ h 140 x ≤ 99) ∧ Mi lo hi (h 141) ∧ ShpF lo hi (h 141) (h 137) (h 142)
/-- the number of arguments of a group's form, their groups' values -/
def pA1 (h : HP) (v : Int → Int) (k : Int) : Int := if 0 < ari (h 137 (h 142 k)) then v (h 141 (h 138 (h 142 k))) else 1
def pB1 (h : HP) (v : Int → Int) (k : Int) : Int := if 1 < ari (h 137 (h 142 k)) then v (h 141 (h 139 (h 142 k))) else 1
def WkI (h : HP) (lo hi what : Int) (v : Int → Int) (rk : Int → Nat) (T : Nat) : Prop := (∀ k, lo ≤ k → k < hi → 0 ≤ v k ∧ v k ≤ 10000 ∧ rk k < T) ∧ (∀ k, lo ≤ k → k < hi → v k ≠ 0 → h 141 k = k ∧ pA1 h v k ≠ 0 ∧ pB1 h v k ≠ 0 ∧ v k = wth what (h 137 (h 142 k)) (h 140 (h 142 k)) (pA1 h v k) (pB1 h v k) ∧ (0 < ari (h 137 (h 142 k)) → rk (h 141 (h 138 (h 142 k))) < rk k) ∧ (1 < ari (h 137 (h 142 k)) → rk (h 141 (h 139 (h 142 k))) < rk k))
end
