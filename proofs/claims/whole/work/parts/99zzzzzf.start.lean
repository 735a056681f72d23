section
/-! the heap behind the constructors -/
noncomputable def hp0 (L : Nat) (X : Nat → Int32) : HP := fun a i => if a = 136 then hsL.getD i.toNat 0 else if a = -1 then (X i.toNat).toInt else if a = -2 then (L : Int) else 0
theorem hp0_0 {L : Nat} {X : Nat → Int32} {a i : Int} (h : 0 ≤ a) (n : a ≠ 136) : hp0 L X a i = 0 := by
  unfold hp0
  rw [if_neg n, if_neg (by omega), if_neg (by omega)]
theorem hp0_136 {L : Nat} {X : Nat → Int32} {i : Int} : hp0 L X 136 i = hsL.getD i.toNat 0 := by
  unfold hp0
  rw [if_pos rfl]
theorem INV_0 (L : Nat) (X : Nat → Int32) : INV (hp0 L X) := by
  have z : ∀ a i, 0 ≤ a → a ≠ 136 → hp0 L X a i = 0 := fun a i p q => hp0_0 p q
  have C := CV_0 (h := hp0 L X) (T := 5) (R := 84) (Or.inl ⟨rfl, rfl⟩) (z 5 13 (by omega) (by omega)) (z 5 14 (by omega) (by omega)) (z 5 15 (by omega) (by omega)) (fun _ => tI)
  have e14 := z 135 14 (by omega) (by omega)
  have e15 := z 135 15 (by omega) (by omega)
  have e16 := z 135 16 (by omega) (by omega)
  have e17 := z 135 17 (by omega) (by omega)
  have M := MV_0 (h := hp0 L X) (by omega) (by omega) (by omega) (by omega) (by omega) (fun _ => tI)
  have e513 := z 5 13 (by omega) (by omega)
  have e364 := z 36 4 (by omega) (by omega)
  have e365 := z 36 5 (by omega) (by omega)
  obtain ⟨c, W, V⟩ := C
  refine ⟨⟨⟨0, z 5 15 (by omega) (by omega)⟩, ⟨_, _, _, c, W, M.1, V, ⟨?_, ?_, ?_, ?_, ?_, ?_⟩, fun x x0 x1 => by omega⟩, ?_, ?_, ?_⟩, ⟨⟨?_, ?_, ?_⟩, fun i i0 i1 => ?_⟩, ⟨⟨?_, ?_, ?_, ?_, ?_, ?_⟩, fun k k0 k1 => by omega, fun k k0 k1 => by omega⟩, ⟨fun k k0 k1 => by omega, fun k k0 k1 => by omega⟩, ⟨⟨?_, ?_, ?_, ?_, ?_⟩, ⟨?_, ?_, ?_, ?_⟩, fun i i0 i1 => ?_, fun i i0 i1 => ?_⟩, fun f f0 f1 => by omega, fun j j0 j1 => hp0_136, fun f f0 f1 => by omega⟩
  · rw [z 135 15 (by omega) (by omega), e513]
  · exact e14
  · exact z 135 19 (by omega) (by omega)
  · rw [z 135 18 (by omega) (by omega), z 5 15 (by omega) (by omega)]
  · omega
  · rw [z 5 15 (by omega) (by omega)]; decide
  · rw [z 1 12 (by omega) (by omega), z 150 0 (by omega) (by omega)]
  · rw [z 1 13 (by omega) (by omega), z 150 1 (by omega) (by omega)]
  · rw [z 1 14 (by omega) (by omega), z 150 2 (by omega) (by omega)]
  · rw [z 30 2 (by omega) (by omega)]; decide
  · rw [z 30 2 (by omega) (by omega)]; decide
  · rw [z 30 2 (by omega) (by omega), z 135 33 (by omega) (by omega)]
  · rw [z 30 2 (by omega) (by omega)] at i1; omega
  · omega
  · omega
  · rw [z 135 30 (by omega) (by omega), e364]
  · omega
  · omega
  · rw [z 135 31 (by omega) (by omega), e365]
  · rw [z 189 0 (by omega) (by omega), z 1 9 (by omega) (by omega)]
  · rw [z 189 1 (by omega) (by omega), z 1 10 (by omega) (by omega)]
  · rw [z 189 2 (by omega) (by omega), z 131 1 (by omega) (by omega)]
  · rw [z 189 3 (by omega) (by omega), z 133 1 (by omega) (by omega)]
  · rw [z 135 24 (by omega) (by omega), z 1 11 (by omega) (by omega)]
  · rw [z 131 1 (by omega) (by omega)]; decide
  · rw [z 131 1 (by omega) (by omega)]; decide
  · rw [z 133 1 (by omega) (by omega)]; decide
  · rw [z 133 1 (by omega) (by omega)]; decide
  · rw [z 131 1 (by omega) (by omega)] at i1; omega
  · rw [z 133 1 (by omega) (by omega)] at i1; omega
theorem hsL_r : ∀ i : Fin 30, r64 (hsL.getD i.val 0) := by unfold r64; decide +kernel
theorem wfh_0 {L : Nat} (hL : L ≤ 2048) (X : Nat → Int32) : wfh (hp0 L X) := by
  refine ⟨fun a i n => ?_, fun i => ?_, ?_, ?_⟩
  · unfold hp0
    rw [if_neg n]
    by_cases z : a = -1
    · rw [if_pos z]; exact r32_of _
    · rw [if_neg z]
      by_cases y : a = -2
      · rw [if_pos y]; unfold r32; omega
      · rw [if_neg y]; unfold r32; omega
  · rw [hp0_136]
    by_cases c : i.toNat < 30
    · exact hsL_r ⟨i.toNat, c⟩
    · have : hsL.getD i.toNat 0 = 0 := by
        rw [List.getD_eq_getElem?_getD, List.getElem?_eq_none (by show 29 ≤ i.toNat; omega)]
        rfl
      rw [this]
      unfold r64
      omega
  · rw [hp0_0 (by omega) (by omega)]
    exact wf_null (by omega)
  · rw [hp0_0 (by omega) (by omega)]
    exact wf_null (by omega)
end
