section
/-! begins: the constants -/
def hsL : List Int := [4846336998831607969, 7243621171077994596, 3515257056393900336, 8458202215791629941, 8569155827159282220, 4204633271895138720, 8463587146967650421, 4423530475079033120, 7088980252971014215, 5161352922347919431, 3499070025431642416, 8497098239116852962, 8456031320132887328, 3528436632088583468, 8569155498493361890, 4774334261070732588, 5062597404333633741, 8097913478414342244, 8641213092506319862, 2376644444439142688, 7230993307540562337, 5062564190565907120, 2365209384478054500, 5062599117645571778, 4204626499797342308, 3528436632088565860, 3568759511733524547, 9078020048940528043, 32]
def hbT : List Int := [33, 33, 67, 105, 44, 58, 105, 32, 67, 100, 48, 105, 44, 58, 98, 32, 67, 100, 48, 98, 44, 100, 48, 117, 44, 100, 48, 117, 44, 58, 117, 32, 67, 100, 48, 117, 44, 100, 48, 118, 44, 58, 112, 117, 118, 32, 67, 100, 48, 112, 117, 118, 44, 58, 117, 32, 70, 100, 48, 117, 44, 58, 117, 32, 66, 77, 97, 123, 48, 98, 49, 61, 71, 48, 98, 48, 50, 63, 71, 48, 98, 71, 48, 99, 71, 48, 100, 51, 80, 71, 48, 98, 71, 48, 99, 52, 76, 71, 48, 98, 125, 32, 33, 67, 58, 112, 117, 117, 32, 70, 100, 48, 112, 117, 118, 44, 117, 44, 58, 118, 32, 66, 77, 97, 123, 48, 98, 125, 32, 70, 100, 48, 112, 117, 118, 44, 58, 100, 48, 112, 118, 117, 32, 66, 77, 97, 123, 48, 67, 48, 125, 32, 70, 100, 48, 112, 117, 118, 44, 100, 48, 112, 118, 119, 44, 58, 100, 48, 112, 117, 119, 32, 66, 77, 97, 123, 48, 98, 125, 32, 33, 67, 58, 105, 32, 67, 105, 44, 100, 48, 117, 44, 58, 112, 105, 117, 32, 70, 100, 48, 112, 105, 117, 44, 58, 105, 32, 66, 77, 97, 123, 49, 98, 125, 32, 70, 100, 48, 117, 44, 100, 48, 117, 44, 58, 100, 48, 117, 32, 66, 77, 97, 123, 48, 67, 48, 49, 77, 98, 123, 49, 67, 49, 43, 99, 101, 71, 49, 100, 102, 125, 125, 32, 0, 0, 0, 0, 0, 0, 0, 0]
def HsR (h : HP) : Prop := ∀ j : Int, 0 ≤ j → j < 29 → h 136 j = hsL.getD j.toNat 0
theorem hb_all : ∀ i : Fin 261, lAnd (lShr (hsL.getD (i.val / 9) 0) (7 * ((i.val % 9 : Nat) : Int))) 127 = hbT.getD i.val 0 ∧ 0 ≤ hbT.getD i.val 0 ∧ hbT.getD i.val 0 ≤ 127 := by decide +kernel
theorem c_house {d : Nat} {h : HP} {v : Int} {Q : PQ} (hs : HsR h) (v0 : 0 ≤ v) (v1 : v < 261) (H : Q (hbT.getD v.toNat 0) h) : Go d M_Mo_houseByte 0 [(22, 135), (0, v)] [] h Q := by
  have t := hb_all ⟨v.toNat, by omega⟩
  dsimp only at t
  have e1 : h 136 (v / 9) = hsL.getD (v.toNat / 9) 0 := by
    rw [hs (v / 9) (by omega) (by omega), show (v / 9).toNat = v.toNat / 9 by omega]
  have e2 : ((v.toNat % 9 : Nat) : Int) = v % 9 := by omega
  rw [e2] at t
  refine N_Mo_houseByte_0 ⟨⟨v0, by decide⟩, fun z => by omega, fun z => ⟨⟨v0, by decide⟩, ⟨by omega, z⟩, ⟨v0, by decide⟩, by unfold r32; omega, ?_⟩⟩
  rw [e1, t.1]
  exact ⟨by unfold r32; omega, H⟩
theorem c_fill {d : Nat} {h : HP} {k : Int} {Q : PQ} (hd : 12 < d) (l0 : 0 ≤ aSLEN k) (l1 : aSLEN k ≤ 100) (H : ∀ g : HP, (∀ x i, x ≠ 34 → ¬ (x = 33 ∧ i = 2) → g x i = h x i) → g 33 2 = aSLEN k → (∀ i, 0 ≤ i → i < aSLEN k → g 34 i = aSCH k i) → Q 0 g) : Go d M_Code_fill 0 [(11, 33), (60, k), (2, 0)] [] h Q := by
  have sz : aSZ (33 + 1) = 100 := rfl
  have L : ∀ i, 0 ≤ i → i ≤ aSLEN k → ∀ g : HP, (∀ x j, x ≠ 34 → ¬ (x = 33 ∧ j = 2) → g x j = h x j) → g 33 2 = i → (∀ j, 0 ≤ j → j < i → g 34 j = aSCH k j) → Go d M_Code_fill 6 [(11, 33), (60, k), (0, i)] [] g Q := by
    intro i i0 i1
    refine up_loop (P := fun i => ∀ g : HP, (∀ x j, x ≠ 34 → ¬ (x = 33 ∧ j = 2) → g x j = h x j) → g 33 2 = i → (∀ j, 0 ≤ j → j < i → g 34 j = aSCH k j) → Go d M_Code_fill 6 [(11, 33), (60, k), (0, i)] [] g Q) i1 ?_ ?_
    · intro g o e2 r
      exact V_Code_fill_6 ⟨by omega, fun _ => H g o e2 r, fun z => by omega⟩
    · intro j j0 j1 ih g o e2 r
      refine V_Code_fill_6 ⟨by omega, fun z => by omega, fun _ => ⟨⟨by omega, j1⟩, by omega, by omega, V_Code_append_0 ⟨fun z => by omega, fun _ => ⟨⟨by omega, by rw [sz]; omega⟩, fun g1 e1 => ?_⟩⟩⟩⟩
      have q : g1 33 2 = j := by rw [e1, up2_nc (by decide), e2]
      rw [q]
      refine ⟨by unfold r32; omega, fun g2 x2 => ⟨by unfold r32; omega, ih g2 (fun x i p s => ?_) (by rw [x2, up2_eq]) (fun i i0' i1' => ?_)⟩⟩
      · rw [x2, up2_ext s, e1]; exact (up2_nc p).trans (o x i p s)
      · rw [x2, up2_nc (by decide), e1, e2]
        by_cases z : i = j
        · rw [z]; exact up2_eq
        · exact (up2_ni z).trans (r i i0' (by omega))
  refine V_Code_fill_0 ⟨by omega, fun g1 e1 => L 0 (by omega) l0 g1 (fun x i p s => by rw [e1, up2_ext s]) (by rw [e1, up2_eq]) (fun j _ _ => by omega)⟩
/-- a line of the houses is a string of the class -/
def Seg (fr : Nat) (k what : Int) : Prop := hbT.getD fr 0 = what ∧ hbT.getD (fr + 1 + (aSTR k).length) 0 = 32 ∧ ∀ i : Fin (aSTR k).length, hbT.getD (fr + 1 + i.val) 0 = (aSTR k).getD i.val 0 ∧ (aSTR k).getD i.val 0 ≠ 32
theorem sg_len : ∀ k : Fin 19, aSLEN (k.val : Int) = (aSTR (k.val : Int)).length ∧ (aSTR (k.val : Int)).length ≤ 36 := by decide +kernel
/-- the signatures among them -/
theorem sg_ok : ∀ k : Fin 19, (k.val = 6 ∨ k.val = 9 ∨ k.val = 11 ∨ k.val = 16 ∨ k.val = 18) ∨ (aSLEN (k.val : Int) ≤ 24 ∧ 0 ≤ rdS (aSCH (k.val : Int)) (aSLEN (k.val : Int)) (aSLEN (k.val : Int)) 3 0) := by decide +kernel
theorem seg_2 : Seg 2 0 67 := by unfold Seg; decide +kernel
theorem seg_8 : Seg 8 1 67 := by unfold Seg; decide +kernel
theorem seg_16 : Seg 16 2 67 := by unfold Seg; decide +kernel
theorem seg_32 : Seg 32 3 67 := by unfold Seg; decide +kernel
theorem seg_46 : Seg 46 4 67 := by unfold Seg; decide +kernel
theorem seg_56 : Seg 56 5 70 := by unfold Seg; decide +kernel
theorem seg_64 : Seg 64 6 66 := by unfold Seg; decide +kernel
theorem seg_103 : Seg 103 7 67 := by unfold Seg; decide +kernel
theorem seg_109 : Seg 109 8 70 := by unfold Seg; decide +kernel
theorem seg_121 : Seg 121 9 66 := by unfold Seg; decide +kernel
theorem seg_129 : Seg 129 10 70 := by unfold Seg; decide +kernel
theorem seg_143 : Seg 143 11 66 := by unfold Seg; decide +kernel
theorem seg_152 : Seg 152 12 70 := by unfold Seg; decide +kernel
theorem seg_172 : Seg 172 9 66 := by unfold Seg; decide +kernel
theorem seg_181 : Seg 181 13 67 := by unfold Seg; decide +kernel
theorem seg_185 : Seg 185 14 67 := by unfold Seg; decide +kernel
theorem seg_197 : Seg 197 15 70 := by unfold Seg; decide +kernel
theorem seg_207 : Seg 207 16 66 := by unfold Seg; decide +kernel
theorem seg_215 : Seg 215 17 70 := by unfold Seg; decide +kernel
theorem seg_229 : Seg 229 18 66 := by unfold Seg; decide +kernel
end
