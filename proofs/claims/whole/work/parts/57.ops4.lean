/-! fields and arrays -/
theorem ent_congr (G : SG) {h h' : HP} (a : Nat) (e : ∀ i : Int, h a i = h' a i) : ent G h a = ent G h' a := by
  unfold ent entA fVs fV
  simp only [e]
theorem vw_at (c : Nat) (hc : c < 13) : vwCl[c]? = some (vR c, vT c, vN c) := by
  match c, hc with
  | 0, _ => rfl
  | 1, _ => rfl
  | 2, _ => rfl
  | 3, _ => rfl
  | 4, _ => rfl
  | 5, _ => rfl
  | 6, _ => rfl
  | 7, _ => rfl
  | 8, _ => rfl
  | 9, _ => rfl
  | 10, _ => rfl
  | 11, _ => rfl
  | 12, _ => rfl
  | n + 13, h => omega
theorem ty_at (c : Nat) (hc : c < 13) : ∀ k, k < vN c → parseFieldDescriptor (vT c k).2.2.1 = some (vTy c k) := by
  match c, hc with
  | 0, _ => exact tyX0_ok
  | 1, _ => exact tyX1_ok
  | 2, _ => exact tyX2_ok
  | 3, _ => exact tyX3_ok
  | 4, _ => exact tyX4_ok
  | 5, _ => exact tyX5_ok
  | 6, _ => exact tyX6_ok
  | 7, _ => exact tyX7_ok
  | 8, _ => exact tyX8_ok
  | 9, _ => exact tyX9_ok
  | 10, _ => exact tyX10_ok
  | 11, _ => exact tyX11_ok
  | 12, _ => exact tyX12_ok
  | n + 13, h => omega
theorem nm_at (c : Nat) (hc : c < 13) : ∀ a, a < vN c → ∀ b, b < vN c → a ≠ b → (vT c a).2.1 ≠ (vT c b).2.1 := by
  match c, hc with
  | 0, _ => exact nmX0
  | 1, _ => exact nmX1
  | 2, _ => exact nmX2
  | 3, _ => exact nmX3
  | 4, _ => exact nmX4
  | 5, _ => exact nmX5
  | 6, _ => exact nmX6
  | 7, _ => exact nmX7
  | 8, _ => exact nmX8
  | 9, _ => exact nmX9
  | 10, _ => exact nmX10
  | 11, _ => exact nmX11
  | 12, _ => exact nmX12
  | n + 13, h => omega
theorem inU_of {C : String} {T : u_T} {N : Nat} {ps : List Nat} (e : u_ws C T N = ps.filterMap (fun i => tables_1[i]?)) : ∀ w ∈ u_ws C T N, w ∈ TW := by
  intro w hw
  have h1 := hw
  rw [e] at h1
  obtain ⟨i, -, hi⟩ := List.mem_filterMap.mp h1
  refine TW_pos i hi ?_
  obtain ⟨k, -, hk⟩ := List.mem_map.mp hw
  rw [← hk]
  unfold u_lay
  split
  · rfl
  · rfl
theorem in_at (c : Nat) (hc : c < 13) : ∀ w ∈ u_ws (vR c) (vT c) (vN c), w ∈ TW := by
  match c, hc with
  | 0, _ => exact inU_of inU0
  | 1, _ => exact inU_of inU1
  | 2, _ => exact inU_of inU2
  | 3, _ => exact inU_of inU3
  | 4, _ => exact inU_of inU4
  | 5, _ => exact inU_of inU5
  | 6, _ => exact inU_of inU6
  | 7, _ => exact inU_of inU7
  | 8, _ => exact inU_of inU8
  | 9, _ => exact inU_of inU9
  | 10, _ => exact inU_of inU10
  | 11, _ => exact inU_of inU11
  | 12, _ => exact inU_of inU12
  | n + 13, h => omega
/-- the layout, by computation: where the fields of the object n lead -/
noncomputable def layB (n b : Nat) : Bool :=
  match fK (aKD n - 10) b with
  | (md, c, z) => bif Nat.beq md 1 then decide (1 ≤ (n : Int) + z) && Nat.beq (aKD ((n : Int) + z).toNat) c && (Nat.ble 10 c && Nat.blt c 30 || Nat.ble 50 c && Nat.blt c 56)
    else bif Nat.beq md 2 then Nat.beq c 31 && (Nat.beq n 91 && Nat.beq b 1 || Nat.beq n 92 && Nat.beq b 7) else Nat.beq c 0 && !(Nat.beq n 91 && Nat.beq b 1) && !(Nat.beq n 92 && Nat.beq b 7)
theorem lay_all : ((List.range 194).all fun n => bif Nat.ble 10 (aKD n) && Nat.blt (aKD n) 30 then (List.range (vN (aKD n - 10))).all (layB n) else true) = true := by decide +kernel
theorem lay_cl : ((List.range 194).all fun n => bif Nat.ble 10 (aKD n) && Nat.blt (aKD n) 30 then Nat.blt (aKD n) 23 else true) = true := by decide +kernel
theorem lay_at {n c b : Nat} (hk : aKD n = 10 + c) (hc : c < 13) (hb : b < vN c) : layB n b = true := by
  have h1 := kd_lt (a := n) (by omega)
  have h2 := List.all_eq_true.mp lay_all n (List.mem_range.mpr (by omega))
  have e1 : (Nat.ble 10 (aKD n) && Nat.blt (aKD n) 30) = true := by
    rw [Bool.and_eq_true, Nat.blt_eq]
    exact ⟨Nat.ble_eq.mpr (by omega), by omega⟩
  rw [e1] at h2
  have e2 : aKD n - 10 = c := by omega
  rw [cond_true, e2] at h2
  exact List.all_eq_true.mp h2 b (List.mem_range.mpr hb)
/-- an object in the heap -/
theorem ent_obj {G : SG} {h : HP} {n c : Nat} (hk : aKD n = 10 + c) (hc : c < 13) : ent G h n = .inr (c, fVs G c n h) := by
  unfold ent
  have e1 : Nat.blt (aKD n) 50 = true := by rw [Nat.blt_eq]; omega
  have e2 : aKD n - 10 = c := by omega
  rw [e1, e2]
  rfl
theorem fVs_at {G : SG} {h : HP} {c b : Nat} {id : Int} (hb : b < vN c) : (fVs G c id h)[b]? = some (fV G c b id h) := by
  unfold fVs
  rw [List.getElem?_map, List.getElem?_range hb, Option.map_some]
theorem rfv_pos {N : Nat} {k : Int} (h : 1 ≤ k) : rfv N k = .ref (N + (k.toNat - 1)) := by
  unfold rfv
  rw [if_neg (by omega)]
  congr 2
  omega
/-- a receiver -/
theorem am_recv {t c : Nat} {k : Int} {P : Prop} (hc : c < 13) (hw : wfv (t, k)) (H : nnR t c k P) : P ∧ 10 ≤ t ∧ t < 60 ∧ 1 ≤ k ∧ aKD k.toNat = 10 + c := by
  unfold nnR at H
  cases hb : Nat.beq t (10 + c) with
  | true =>
    rw [hb] at H
    have ht := beq_tt hb
    have := hw.2.2.2.1 (show 10 ≤ t by omega) (show t < 30 by omega)
    exact ⟨H, by omega, by omega, this.1, by have h2 := this.2; dsimp only at h2; omega⟩
  | false =>
    rw [hb, cond_false] at H
    obtain ⟨hb2, hk, H⟩ := bif_inv H
    have ht := beq_tt hb2
    rcases hw.2.2.2.2.1 (show 30 ≤ t by omega) (show t < 50 by omega) with h0 | h0
    · exact absurd h0 hk
    · exact ⟨H, by omega, by omega, h0.1, by have h2 := h0.2; dsimp only at h2; omega⟩
theorem wf_ref {t : Nat} {k : Int} (ht : 10 ≤ t ∧ t < 30 ∨ 50 ≤ t ∧ t < 56) (hk : 1 ≤ k) (hd : aKD k.toNat = t) : wfv (t, k) := by
  refine ⟨fun q => ?_, fun q => ?_, fun q => ?_, fun _ _ => ⟨hk, hd⟩, fun q1 q2 => ?_, fun _ _ => ⟨hk, hd⟩⟩
  · have q : t = 0 := q
    omega
  · have q : t = 1 := q
    omega
  · have q : t = 60 := q
    omega
  · have q1 : 30 ≤ t := q1
    have q2 : t < 50 := q2
    omega
theorem natK {k : Int} (h : 1 ≤ k) : ((k.toNat : Nat) : Int) = k := Int.toNat_of_nonneg (by omega)
theorem fV_get {G : SG} {h : HP} {c b : Nat} {k : Int} (hc : c < 13) (hb : b < vN c) (hk : 1 ≤ k) (hd : aKD k.toNat = 10 + c) (hw : wfh h) :
    fV G c b k h = cv G ((fK c b).2.1, bif Nat.beq (fK c b).1 1 then k + (fK c b).2.2 else h k b) ∧ wfv ((fK c b).2.1, bif Nat.beq (fK c b).1 1 then k + (fK c b).2.2 else h k b) := by
  have hl := lay_at hd hc hb
  unfold layB at hl
  have e2 : aKD k.toNat - 10 = c := by omega
  rw [e2] at hl
  unfold fV
  generalize fK c b = q at hl ⊢
  obtain ⟨md, t, z⟩ := q
  dsimp only at hl ⊢
  cases h1 : Nat.beq md 1 with
  | true =>
    rw [h1] at hl
    simp only [cond_true, Bool.and_eq_true, Bool.or_eq_true, decide_eq_true_eq, Nat.blt_eq] at hl ⊢
    rw [natK hk] at hl
    obtain ⟨⟨h2, h3⟩, h4⟩ := hl
    have h3 := beq_tt h3
    have h5 : 10 ≤ t ∧ t < 30 ∨ 50 ≤ t ∧ t < 56 := by
      rcases h4 with ⟨x1, x2⟩ | ⟨x1, x2⟩
      · exact Or.inl ⟨Nat.le_of_ble_eq_true x1, x2⟩
      · exact Or.inr ⟨Nat.le_of_ble_eq_true x1, x2⟩
    exact ⟨(cv_rf (by omega) (by omega)).symm, wf_ref h5 h2 h3⟩
  | false =>
    rw [h1] at hl
    simp only [cond_false] at hl ⊢
    cases h2 : Nat.beq md 2 with
    | true =>
      rw [h2] at hl
      simp only [cond_true, Bool.and_eq_true, Bool.or_eq_true] at hl ⊢
      have ht := beq_tt hl.1
      subst ht
      refine ⟨(cv_rf (by decide) (by decide)).symm, ?_⟩
      rcases hl.2 with ⟨x1, x2⟩ | ⟨x1, x2⟩
      · have y1 := beq_tt x1
        have y2 := beq_tt x2
        have y3 : k = 91 := by omega
        rw [y3, y2]
        exact hw.2.2.1
      · have y1 := beq_tt x1
        have y2 := beq_tt x2
        have y3 : k = 92 := by omega
        rw [y3, y2]
        exact hw.2.2.2
    | false =>
      rw [h2] at hl
      simp only [cond_false, Bool.and_eq_true] at hl ⊢
      have ht := beq_tt hl.1.1
      subst ht
      refine ⟨rfl, wf_int (hw.1 k b ?_)⟩
      intro e
      rw [e] at hd
      have : aKD 136 = 51 := by decide +kernel
      have e3 : (136 : Int).toNat = 136 := rfl
      rw [e3] at hd
      omega
