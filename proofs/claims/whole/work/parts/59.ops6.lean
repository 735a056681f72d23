theorem sz_all : ((List.range 194).all fun n => decide (aSZn n ≤ 4000)) = true := by decide +kernel
theorem ar_all : ((List.range 194).all fun n => bif Nat.beq (aKD n) 53 then (List.range (aSZn n).toNat).all (fun j => Nat.beq (aKD (n + 4 + 2 * j)) 16) else bif Nat.beq (aKD n) 54 then (List.range (aSZn n).toNat).all (fun j => Nat.beq (aKD (n + 23 + 5 * j)) 16) else bif Nat.beq (aKD n) 55 then (List.range (aSZn n).toNat).all (fun j => Nat.beq (aKD (n + 24 + 5 * j)) 11) else true) = true := by decide +kernel
theorem kd_136 : aKD 136 = 51 := by decide +kernel
theorem kd_91 : aKD 91 = 15 := by decide +kernel
theorem kd_92 : aKD 92 = 10 := by decide +kernel
theorem ent_arr {G : SG} {h : HP} {n : Nat} (hk : 50 ≤ aKD n) : ent G h n = .inl (entA G h n (aKD n)) := by
  unfold ent
  have e1 : Nat.blt (aKD n) 50 = false := by
    cases hb : Nat.blt (aKD n) 50 with
    | false => rfl
    | true => rw [Nat.blt_eq] at hb; omega
  rw [e1]
  rfl
theorem ix_of {i : Int} {N : Int} (h : 0 ≤ i ∧ i < N) (hN : N ≤ 4000) : vp_in (Int32.ofInt i) N.toNat ∧ (Int32.ofInt i).toNatClampNeg = i.toNat ∧ ((i.toNat : Nat) : Int) = i := by
  have e : Int32.ofInt i = nI i.toNat := by
    rw [← ofInt_nI, Int.toNat_of_nonneg h.1]
  rw [e]
  exact ⟨vp_in_nI (by omega) (by omega), nI_clamp (by omega), Int.toNat_of_nonneg h.1⟩
/-- an array that is used -/
theorem arr_of {t : Nat} {k : Int} (hw : wfv (t, k)) (ht : 50 ≤ t ∧ t < 56) : 1 ≤ k ∧ aKD k.toNat = t ∧ 1 ≤ k.toNat ∧ k.toNat ≤ 193 ∧ aSZn k.toNat ≤ 4000 ∧ ((k.toNat : Nat) : Int) = k := by
  have h1 := hw.2.2.2.2.2 ht.1 ht.2
  have h2 : aKD k.toNat = t := h1.2
  have h3 := kd_lt (a := k.toNat) (by omega)
  exact ⟨h1.1, h2, h3.1, h3.2, of_decide_eq_true (List.all_eq_true.mp sz_all k.toNat (List.mem_range.mpr (by omega))), natK h1.1⟩
theorem ar_ref {t : Nat} {k i : Int} (hw : wfv (t, k)) (ht : t = 53 ∨ t = 54 ∨ t = 55) (hi : 0 ≤ i ∧ i < aSZ k) : (t = 53 → wfv (16, k + 4 + 2 * i)) ∧ (t = 54 → wfv (16, k + 23 + 5 * i)) ∧ (t = 55 → wfv (11, k + 24 + 5 * i)) := by
  obtain ⟨a1, a2, a3, a4, a5, a6⟩ := arr_of hw (by omega)
  have h1 := List.all_eq_true.mp ar_all k.toNat (List.mem_range.mpr (by omega))
  have hi2 : i < aSZn k.toNat := hi.2
  refine ⟨fun e => ?_, fun e => ?_, fun e => ?_⟩
  · rw [a2, e] at h1
    have h2 := beq_tt (List.all_eq_true.mp h1 i.toNat (List.mem_range.mpr (by omega)))
    exact wf_ref (Or.inl ⟨by decide, by decide⟩) (by omega) (by rw [show (k + 4 + 2 * i).toNat = k.toNat + 4 + 2 * i.toNat by omega]; exact h2)
  · rw [a2, e] at h1
    have h2 := beq_tt (List.all_eq_true.mp h1 i.toNat (List.mem_range.mpr (by omega)))
    exact wf_ref (Or.inl ⟨by decide, by decide⟩) (by omega) (by rw [show (k + 23 + 5 * i).toNat = k.toNat + 23 + 5 * i.toNat by omega]; exact h2)
  · rw [a2, e] at h1
    have h2 := beq_tt (List.all_eq_true.mp h1 i.toNat (List.mem_range.mpr (by omega)))
    exact wf_ref (Or.inl ⟨by decide, by decide⟩) (by omega) (by rw [show (k + 24 + 5 * i).toNat = k.toNat + 24 + 5 * i.toNat by omega]; exact h2)
theorem wfh_st {h : HP} {k i v : Int} (hw : wfh h) (h1 : k ≠ 136) (h2 : k ≠ 91) (h3 : k ≠ 92) (hv : r32 v) : wfh (up2 h k i v) := by
  refine ⟨fun x y hx => ?_, fun y => ?_, ?_, ?_⟩
  · by_cases hxy : x = k ∧ y = i
    · obtain ⟨rfl, rfl⟩ := hxy
      rw [up2_same]; exact hv
    · have : up2 h k i v x y = h x y := by unfold up2; rw [if_neg hxy]
      rw [this]; exact hw.1 x y hx
  · rw [up2_cell (fun e => h1 e.symm)]; exact hw.2.1 y
  · rw [up2_cell (fun e => h2 e.symm)]; exact hw.2.2.1
  · rw [up2_cell (fun e => h3 e.symm)]; exact hw.2.2.2
theorem arr_ne {t : Nat} {k : Int} (hk : aKD k.toNat = t) (ht : t = 50 ∨ t = 52) : k ≠ 136 ∧ k ≠ 91 ∧ k ≠ 92 := by
  refine ⟨fun e => ?_, fun e => ?_, fun e => ?_⟩ <;> rw [e] at hk
  · rw [show (136 : Int).toNat = 136 from rfl, kd_136] at hk; omega
  · rw [show (91 : Int).toNat = 91 from rfl, kd_91] at hk; omega
  · rw [show (92 : Int).toNat = 92 from rfl, kd_92] at hk; omega
section
variable {G : SG} {l : Launch} {d m pc : Nat} {ls st : List AV} {h : HP} {Q : PQ}
theorem sx_iald (hd : decode (aBY m) pc = .ok (.iaload, 1)) (H : pI st fun i st => pA st fun t k st =>
      bif Nat.beq t 50 then (0 ≤ i ∧ i < aSZ k) ∧ SX G l d m (pc + 1) ls ((0, h k i) :: st) h Q
      else bif Nat.beq t 61 then (0 ≤ i ∧ i < h (-2) 0) ∧ SX G l d m (pc + 1) ls ((0, h (-1) i) :: st) h Q else False) : SX G l d m pc ls st h Q := by
  obtain ⟨i, r, rfl, K⟩ := pI_inv H
  obtain ⟨t, k, r, rfl, ht, K⟩ := pA_inv K
  intro p e R s mm args below meth c cells slots Z H0 locs L C hc1 hc2 hR hS hl hs hwh hn hv hret
  have hs1 := (List.forall_mem_cons.mp hs).2
  have hy := (List.forall_mem_cons.mp hs1).1
  have hs2 := (List.forall_mem_cons.mp hs1).2
  cases hb : Nat.beq t 50 with
  | true =>
    rw [hb, cond_true] at K
    have e0 := beq_tt hb
    subst e0
    obtain ⟨a1, a2, a3, a4, a5, a6⟩ := arr_of hy ⟨by decide, by decide⟩
    obtain ⟨b1, b2, b3⟩ := ix_of K.1 a5
    have hne := arr_ne a2 (Or.inl rfl)
    have K2 := K.2 p e R s mm args below meth c cells slots Z H0 locs L C hc1 hc2 hR hS hl (List.forall_mem_cons.mpr ⟨wf_int (hwh.1 k i hne.1), hs2⟩) hwh hn hv hret
    rw [List.map_cons, List.map_cons, cv_rf (t := 50) (by decide) (by decide), rfv_pos a1]
    refine va_iald (n := (aSZn k.toNat).toNat) (f := fun j => Int32.ofInt (h k.toNat j)) C.1 C.2.1 C.2.2.2.2.2.1.1 hR.1 (k.toNat - 1) 0 (by rw [ws_at G h a3 a4, ent_arr (by omega), a2]; rfl) rfl b1 hd ?_
    rw [b2, b3, a6]
    exact K2
  | false =>
    rw [hb, cond_false] at K
    obtain ⟨hb2, K0, K9⟩ := bif_inv K
    have e0 := beq_tt hb2
    subst e0
    have hL := hR.2.2.1
    have hL2 := hR.2.2.2
    obtain ⟨b1, b2, b3⟩ := ix_of (N := (gL G : Int)) (by rw [← hL]; exact K0) (by omega)
    have hx : gX G i.toNat = Int32.ofInt (h (-1) i) := by rw [hR.2.1 i.toNat (by omega), b3]
    have K2 := K9 p e R s mm args below meth c cells slots Z H0 locs L C hc1 hc2 hR hS hl (List.forall_mem_cons.mpr ⟨wf_int (hwh.1 (-1) i (by decide)), hs2⟩) hwh hn hv hret
    have KX := C.2.2.2.2.2.1.2.2
    refine va_sld C.1 C.2.1 KX.1 KX.2.1 (fun q => absurd q (Nat.not_le.mpr KX.2.2.1)) hS b1 hd ?_
    rw [b2, hx]
    exact K2
theorem sx_bald (hd : decode (aBY m) pc = .ok (.baload, 1)) (H : pI st fun i st => pA st fun t k st => bif Nat.beq t 52 then (0 ≤ i ∧ i < aSZ k) ∧ SX G l d m (pc + 1) ls ((0, h k i) :: st) h Q else False) : SX G l d m pc ls st h Q := by
  obtain ⟨i, r, rfl, K⟩ := pI_inv H
  obtain ⟨t, k, r, rfl, ht, K⟩ := pA_inv K
  obtain ⟨hb, K9⟩ := bif_inv K
  intro p e R s mm args below meth c cells slots Z H0 locs L C hc1 hc2 hR hS hl hs hwh hn hv hret
  have hs1 := (List.forall_mem_cons.mp hs).2
  have hy := (List.forall_mem_cons.mp hs1).1
  have hs2 := (List.forall_mem_cons.mp hs1).2
  have e0 := beq_tt hb
  subst e0
  obtain ⟨a1, a2, a3, a4, a5, a6⟩ := arr_of hy ⟨by decide, by decide⟩
  obtain ⟨b1, b2, b3⟩ := ix_of K9.1 a5
  have hne := arr_ne a2 (Or.inr rfl)
  have K2 := K9.2 p e R s mm args below meth c cells slots Z H0 locs L C hc1 hc2 hR hS hl (List.forall_mem_cons.mpr ⟨wf_int (hwh.1 k i hne.1), hs2⟩) hwh hn hv hret
  rw [List.map_cons, List.map_cons, cv_rf (t := 52) (by decide) (by decide), rfv_pos a1]
  refine va_zald (n := (aSZn k.toNat).toNat) (f := fun j => Int32.ofInt (h k.toNat j)) C.1 C.2.1 C.2.2.2.2.2.1.1 hR.1 (k.toNat - 1) 1 (by rw [ws_at G h a3 a4, ent_arr (by omega), a2]; rfl) rfl b1 hd ?_
  rw [b2, b3, a6]
  exact K2
theorem sx_lald (hd : decode (aBY m) pc = .ok (.laload, 1)) (H : pI st fun i st => pA st fun t k st => bif Nat.beq t 51 then (0 ≤ i ∧ i < aSZ k) ∧ SX G l d m (pc + 1) ls ((1, h k i) :: st) h Q else False) : SX G l d m pc ls st h Q := by
  obtain ⟨i, r, rfl, K⟩ := pI_inv H
  obtain ⟨t, k, r, rfl, ht, K⟩ := pA_inv K
  obtain ⟨hb, K9⟩ := bif_inv K
  intro p e R s mm args below meth c cells slots Z H0 locs L C hc1 hc2 hR hS hl hs hwh hn hv hret
  have hs1 := (List.forall_mem_cons.mp hs).2
  have hy := (List.forall_mem_cons.mp hs1).1
  have hs2 := (List.forall_mem_cons.mp hs1).2
  have e0 := beq_tt hb
  subst e0
  obtain ⟨a1, a2, a3, a4, a5, a6⟩ := arr_of hy ⟨by decide, by decide⟩
  obtain ⟨b1, b2, b3⟩ := ix_of K9.1 a5
  have hr64 : r64 (h k i) := by
    by_cases hk : k = 136
    · rw [hk]; exact hwh.2.1 i
    · have := hwh.1 k i hk
      exact ⟨by omega, by omega⟩
  have K2 := K9.2 p e R s mm args below meth c cells slots Z H0 locs L C hc1 hc2 hR hS hl (List.forall_mem_cons.mpr ⟨wf_long hr64, hs2⟩) hwh hn hv hret
  rw [List.map_cons, List.map_cons, cv_rf (t := 51) (by decide) (by decide), rfv_pos a1]
  refine va_lald (n := (aSZn k.toNat).toNat) (f := fun j => Int64.ofInt (h k.toNat j)) C.1 C.2.1 C.2.2.2.2.2.1.1 hR.1 (k.toNat - 1) 2 (by rw [ws_at G h a3 a4, ent_arr (by omega), a2]; rfl) rfl b1 hd ?_
  rw [b2, b3, a6]
  exact K2
theorem sx_aald (hd : decode (aBY m) pc = .ok (.aaload, 1)) (H : pI st fun i st => pA st fun t k st =>
      bif Nat.beq t 53 then (0 ≤ i ∧ i < aSZ k) ∧ SX G l d m (pc + 1) ls ((16, k + 4 + 2 * i) :: st) h Q
      else bif Nat.beq t 54 then (0 ≤ i ∧ i < aSZ k) ∧ SX G l d m (pc + 1) ls ((16, k + 23 + 5 * i) :: st) h Q
      else bif Nat.beq t 55 then (0 ≤ i ∧ i < aSZ k) ∧ SX G l d m (pc + 1) ls ((11, k + 24 + 5 * i) :: st) h Q else False) : SX G l d m pc ls st h Q := by
  obtain ⟨i, r, rfl, K⟩ := pI_inv H
  obtain ⟨t, k, r, rfl, ht, K⟩ := pA_inv K
  intro p e R s mm args below meth c cells slots Z H0 locs L C hc1 hc2 hR hS hl hs hwh hn hv hret
  have hs1 := (List.forall_mem_cons.mp hs).2
  have hy := (List.forall_mem_cons.mp hs1).1
  have hs2 := (List.forall_mem_cons.mp hs1).2
  cases hb : Nat.beq t 53 with
  | true =>
    rw [hb, cond_true] at K
    have e0 := beq_tt hb
    subst e0
    obtain ⟨a1, a2, a3, a4, a5, a6⟩ := arr_of hy ⟨by decide, by decide⟩
    obtain ⟨b1, b2, b3⟩ := ix_of K.1 a5
    have hwf := (ar_ref hy (Or.inl rfl) K.1).1 rfl
    have K2 := K.2 p e R s mm args below meth c cells slots Z H0 locs L C hc1 hc2 hR hS hl (List.forall_mem_cons.mpr ⟨hwf, hs2⟩) hwh hn hv hret
    rw [List.map_cons, cv_rf (t := 16) (by decide) (by decide), rfv_pos (by omega)] at K2
    rw [List.map_cons, List.map_cons, cv_rf (t := 53) (by decide) (by decide), rfv_pos a1]
    refine va_aldq (n := (aSZn k.toNat).toNat) (f := fun j => some (gN G + (k.toNat + 3 + 2 * j))) C.1 C.2.1 C.2.2.2.2.2.1.1 hR.1 (k.toNat - 1) 3 (by rw [ws_at G h a3 a4, ent_arr (by omega), a2]; rfl) rfl b1 hd ?_
    rw [b2]
    have e3 : k.toNat + 3 + 2 * i.toNat = (k + 4 + 2 * i).toNat - 1 := by omega
    rw [e3]
    exact K2
  | false =>
    rw [hb, cond_false] at K
    cases hb2 : Nat.beq t 54 with
    | true =>
      rw [hb2, cond_true] at K
      have e0 := beq_tt hb2
      subst e0
      obtain ⟨a1, a2, a3, a4, a5, a6⟩ := arr_of hy ⟨by decide, by decide⟩
      obtain ⟨b1, b2, b3⟩ := ix_of K.1 a5
      have hwf := (ar_ref hy (Or.inr (Or.inl rfl)) K.1).2.1 rfl
      have K2 := K.2 p e R s mm args below meth c cells slots Z H0 locs L C hc1 hc2 hR hS hl (List.forall_mem_cons.mpr ⟨hwf, hs2⟩) hwh hn hv hret
      rw [List.map_cons, cv_rf (t := 16) (by decide) (by decide), rfv_pos (by omega)] at K2
      rw [List.map_cons, List.map_cons, cv_rf (t := 54) (by decide) (by decide), rfv_pos a1]
      refine va_aldq (n := (aSZn k.toNat).toNat) (f := fun j => some (gN G + (k.toNat + 22 + 5 * j))) C.1 C.2.1 C.2.2.2.2.2.1.1 hR.1 (k.toNat - 1) 3 (by rw [ws_at G h a3 a4, ent_arr (by omega), a2]; rfl) rfl b1 hd ?_
      rw [b2]
      have e3 : k.toNat + 22 + 5 * i.toNat = (k + 23 + 5 * i).toNat - 1 := by omega
      rw [e3]
      exact K2
    | false =>
      rw [hb2, cond_false] at K
      obtain ⟨hb3, K9⟩ := bif_inv K
      have e0 := beq_tt hb3
      subst e0
      obtain ⟨a1, a2, a3, a4, a5, a6⟩ := arr_of hy ⟨by decide, by decide⟩
      obtain ⟨b1, b2, b3⟩ := ix_of K9.1 a5
      have hwf := (ar_ref hy (Or.inr (Or.inr rfl)) K9.1).2.2 rfl
      have K2 := K9.2 p e R s mm args below meth c cells slots Z H0 locs L C hc1 hc2 hR hS hl (List.forall_mem_cons.mpr ⟨hwf, hs2⟩) hwh hn hv hret
      rw [List.map_cons, cv_rf (t := 11) (by decide) (by decide), rfv_pos (by omega)] at K2
      rw [List.map_cons, List.map_cons, cv_rf (t := 55) (by decide) (by decide), rfv_pos a1]
      refine va_aldq (n := (aSZn k.toNat).toNat) (f := fun j => some (gN G + (k.toNat + 23 + 5 * j))) C.1 C.2.1 C.2.2.2.2.2.1.1 hR.1 (k.toNat - 1) 4 (by rw [ws_at G h a3 a4, ent_arr (by omega), a2]; rfl) rfl b1 hd ?_
      rw [b2]
      have e3 : k.toNat + 23 + 5 * i.toNat = (k + 24 + 5 * i).toNat - 1 := by omega
      rw [e3]
      exact K2
theorem sx_alen (hd : decode (aBY m) pc = .ok (.arraylength, 1)) (H : pA st fun t k st => bif Nat.beq t 50 then SX G l d m (pc + 1) ls ((0, aSZ k) :: st) h Q else bif Nat.beq t 61 then SX G l d m (pc + 1) ls ((0, h (-2) 0) :: st) h Q else False) : SX G l d m pc ls st h Q := by
  obtain ⟨t, k, r, rfl, ht, K⟩ := pA_inv H
  intro p e R s mm args below meth c cells slots Z H0 locs L C hc1 hc2 hR hS hl hs hwh hn hv hret
  have hy := (List.forall_mem_cons.mp hs).1
  have hs2 := (List.forall_mem_cons.mp hs).2
  cases hb : Nat.beq t 50 with
  | true =>
    rw [hb, cond_true] at K
    have e0 := beq_tt hb
    subst e0
    obtain ⟨a1, a2, a3, a4, a5, a6⟩ := arr_of hy ⟨by decide, by decide⟩
    have hsz : 0 ≤ aSZn k.toNat := of_decide_eq_true (List.all_eq_true.mp (show ((List.range 194).all fun n => decide (0 ≤ aSZn n)) = true from by decide +kernel) k.toNat (List.mem_range.mpr (by omega)))
    have hr : r32 (aSZ k) := ⟨by show _ ≤ aSZn k.toNat; omega, by show aSZn k.toNat ≤ _; omega⟩
    have K2 := K p e R s mm args below meth c cells slots Z H0 locs L C hc1 hc2 hR hS hl (List.forall_mem_cons.mpr ⟨wf_int hr, hs2⟩) hwh hn hv hret
    rw [List.map_cons, cv_rf (t := 50) (by decide) (by decide), rfv_pos a1]
    refine va_alen C.1 C.2.1 C.2.2.2.2.2.1.1 hR.1 (k.toNat - 1) 0 (by rw [ws_at G h a3 a4, ent_arr (by omega), a2]; rfl) rfl (v := Int32.ofInt (aSZ k)) ?_ hd K2
    show Int32.ofNat (aSZn k.toNat).toNat = Int32.ofInt (aSZn k.toNat)
    conv => rhs; rw [← Int.toNat_of_nonneg hsz]
    rfl
  | false =>
    rw [hb, cond_false] at K
    obtain ⟨hb2, K9⟩ := bif_inv K
    have e0 := beq_tt hb2
    subst e0
    have hL := hR.2.2.1
    have hL2 := hR.2.2.2
    have hr : r32 (h (-2) 0) := by rw [hL]; exact ⟨by omega, by omega⟩
    have K2 := K9 p e R s mm args below meth c cells slots Z H0 locs L C hc1 hc2 hR hS hl (List.forall_mem_cons.mpr ⟨wf_int hr, hs2⟩) hwh hn hv hret
    have KX := C.2.2.2.2.2.1.2.2
    refine va_slen C.1 C.2.1 KX.1 KX.2.1 (fun q => absurd q (Nat.not_le.mpr KX.2.2.1)) hS hd ?_
    rw [hL] at K2
    exact K2
end
