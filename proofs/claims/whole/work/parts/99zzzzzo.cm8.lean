section
/-! the world behind the constructors is the one of the abstract heap -/
theorem arrV_cg {c : ClassId} {n : Nat} {f g : Nat → Value} (h : ∀ j, j < n → f j = g j) : arrV c n f = arrV c n g := by
  unfold arrV
  congr 1
  refine Array.ext (by simp) (fun i h1 h2 => ?_)
  have hi : i < n := by simpa using h1
  simp [h i hi]
theorem kd_51 : ∀ i : Fin 193, aKD (i.val + 1) = 51 → i.val + 1 = 136 := by decide +kernel
theorem kd_136b : aKD 136 = 51 := by decide +kernel
theorem conv_W {G : SG} {H : Heap} {L : Nat} {X : Nat → Int32} (hP : va_P (gD G) vwCl (cws G (expW 193)) H) : va_P (gD G) vwCl (wsG G (hp0 L X)) H := by
  intro k q hk
  have hk193 : k < 193 := by
    have := (List.getElem?_eq_some_iff.mp hk).1
    unfold wsG at this
    simpa using this
  have e : (wsG G (hp0 L X))[k]? = some (gN G + k, ent G (hp0 L X) (k + 1)) := ws_at G (hp0 L X) (a := k + 1) (by omega) (by omega)
  rw [e] at hk
  cases hk
  have g : (expW 193)[k]? = some (expE (k + 1)) := by
    unfold expW
    rw [List.getElem?_map, List.getElem?_range hk193]
    rfl
  have P := hP k _ (cws_at g)
  have z : ∀ i, k + 1 ≠ 136 → hp0 L X ((k + 1 : Nat) : Int) i = 0 := fun i n => hp0_0 (by omega) (by omega)
  unfold ent
  unfold expE at P
  cases c0 : Nat.blt (aKD (k + 1)) 50 with
  | true =>
    rw [c0] at P
    have n136 : k + 1 ≠ 136 := by
      intro e
      rw [e, kd_136b] at c0
      exact absurd c0 (by decide)
    have el : ceFs G (aKD (k + 1) - 10) ((List.range (vN (aKD (k + 1) - 10))).map fun j => bif Nat.beq (fK (aKD (k + 1) - 10) j).1 1 then ((k + 1 : Nat) : Int) + (fK (aKD (k + 1) - 10) j).2.2 else 0) = fVs G (aKD (k + 1) - 10) ((k + 1 : Nat) : Int) (hp0 L X) := by
      unfold ceFs fVs
      refine List.map_congr_left (fun j hj => ?_)
      have hj := List.mem_range.mp hj
      rw [List.getD_eq_getElem?_getD, List.getElem?_map, List.getElem?_range hj, Option.map_some, Option.getD_some]
      unfold ceV fV isRfF
      rw [z j n136]
      cases Nat.beq (fK (aKD (k + 1) - 10) j).1 1 with
      | true => rfl
      | false => rfl
    show va_at _ _ (gN G + k, .inr (aKD (k + 1) - 10, fVs G (aKD (k + 1) - 10) ((k + 1 : Nat) : Int) (hp0 L X))) H
    rw [← el]
    exact P
  | false =>
    rw [c0] at P
    show va_at _ _ (gN G + k, .inl (entA G (hp0 L X) (k + 1) (aKD (k + 1)))) H
    unfold entA
    cases c1 : Nat.beq (aKD (k + 1)) 50 with
    | true =>
      rw [c1] at P
      have n136 : k + 1 ≠ 136 := by
        intro e
        rw [e, kd_136b] at c1
        exact absurd c1 (by decide)
      have ef : (fun j : Nat => Int32.ofInt (hp0 L X ((k + 1 : Nat) : Int) (j : Int))) = fun _ => 0 := funext fun j => by rw [z j n136]; rfl
      show va_at _ _ (gN G + k, .inl (gI G, (aSZn (k + 1)).toNat, .inl fun j : Nat => Int32.ofInt (hp0 L X ((k + 1 : Nat) : Int) (j : Int)))) H
      rw [ef]
      exact P
    | false =>
      rw [c1] at P
      cases c2 : Nat.beq (aKD (k + 1)) 51 with
      | true =>
        have e51 := beq_tt c2
        have e136 := kd_51 ⟨k, hk193⟩ e51
        have e136 : k = 135 := by have : k + 1 = 136 := e136; omega
        subst e136
        have c3 : Nat.beq (aKD (135 + 1)) 52 = false := by rw [e51]; rfl
        rw [c3, c2] at P
        have ef : (fun j : Nat => Int64.ofInt (hp0 L X ((135 + 1 : Nat) : Int) (j : Int))) = fun j : Nat => Int64.ofInt (hsL.getD j 0) := funext fun j => by
          rw [show ((135 + 1 : Nat) : Int) = 136 by rfl, hp0_136, Int.toNat_natCast]
        show va_at _ _ (gN G + 135, .inl (gJ G, (aSZn (135 + 1)).toNat, .inr (.inl fun j : Nat => Int64.ofInt (hp0 L X ((135 + 1 : Nat) : Int) (j : Int))))) H
        rw [ef]
        exact P
      | false =>
        rw [c2] at P
        cases c3 : Nat.beq (aKD (k + 1)) 52 with
        | true =>
          rw [c3] at P
          have n136 : k + 1 ≠ 136 := by
            intro e
            rw [e, kd_136b] at c3
            exact absurd c3 (by decide)
          have ef : (fun j : Nat => Int32.ofInt (hp0 L X ((k + 1 : Nat) : Int) (j : Int))) = fun _ => 0 := funext fun j => by rw [z j n136]; rfl
          show va_at _ _ (gN G + k, .inl (gZ G, (aSZn (k + 1)).toNat, .inl fun j : Nat => Int32.ofInt (hp0 L X ((k + 1 : Nat) : Int) (j : Int)))) H
          rw [ef]
          exact P
        | false =>
          rw [c3] at P
          have oo : ∀ (n : Nat) (h : Nat → Nat), (∀ j, 1 ≤ h j) → ∀ j, j < n → ceO (gN G) (((List.range n).map fun j => ((h j : Nat) : Int)).getD j 0) = some (gN G + (h j - 1)) := by
            intro n h h1 j hj
            rw [List.getD_eq_getElem?_getD, List.getElem?_map, List.getElem?_range hj]
            show ceO (gN G) ((h j : Nat) : Int) = _
            unfold ceO
            have := h1 j
            rw [if_neg (by omega)]
            congr 2
            omega
          have cg : ∀ (C : ClassId) (n : Nat) (f g : Nat → Option Nat), (∀ j, j < n → f j = g j) → va_at (gD G) vwCl (gN G + k, .inl (C, n, .inr (.inr (.inr (.inr f))))) H → va_at (gD G) vwCl (gN G + k, .inl (C, n, .inr (.inr (.inr (.inr g))))) H := by
            intro C n f g hfg Q
            have Q : H[gN G + k]? = some (arrV C n (fun j => va_rf (f j))) := Q
            show H[gN G + k]? = some (arrV C n (fun j => va_rf (g j)))
            rw [Q, arrV_cg (fun j hj => by rw [hfg j hj])]
          cases c4 : Nat.beq (aKD (k + 1)) 53 with
          | true =>
            rw [c4] at P
            refine cg (gS G) _ _ _ (fun j hj => ?_) P
            exact (oo _ (fun j => k + 1 + 4 + 2 * j) (fun j => by omega) j hj).trans (show some (gN G + (k + 1 + 4 + 2 * j - 1)) = some (gN G + (k + 1 + 3 + 2 * j)) by rw [show k + 1 + 4 + 2 * j - 1 = k + 1 + 3 + 2 * j by omega])
          | false =>
            rw [c4] at P
            cases c5 : Nat.beq (aKD (k + 1)) 54 with
            | true =>
              rw [c5] at P
              refine cg (gS G) _ _ _ (fun j hj => ?_) P
              exact (oo _ (fun j => k + 1 + 23 + 5 * j) (fun j => by omega) j hj).trans (show some (gN G + (k + 1 + 23 + 5 * j - 1)) = some (gN G + (k + 1 + 22 + 5 * j)) by rw [show k + 1 + 23 + 5 * j - 1 = k + 1 + 22 + 5 * j by omega])
            | false =>
              rw [c5] at P
              refine cg (gC G) _ _ _ (fun j hj => ?_) P
              exact (oo _ (fun j => k + 1 + 24 + 5 * j) (fun j => by omega) j hj).trans (show some (gN G + (k + 1 + 24 + 5 * j - 1)) = some (gN G + (k + 1 + 23 + 5 * j)) by rw [show k + 1 + 24 + 5 * j - 1 = k + 1 + 23 + 5 * j by omega])
end
