theorem wf_str {z : Int} (h : 0 ≤ z ∧ z < 19) : wfv (60, z) := by
  refine ⟨?_, ?_, fun _ => h, ?_, ?_, ?_⟩ <;> intro q <;> simp at q
  all_goals intro q2
  all_goals simp at q2
theorem sI_all : ∀ i, i < 19 → sIX (i : Nat) = sIXn i := by decide +kernel
section
variable {G : SG} {l : Launch} {d m pc : Nat} {ls st : List AV} {h : HP} {Q : PQ}
theorem sx_ldcs {ix : Nat} {z : Int} (hd : decode (aBY m) pc = .ok (.ldc ix, 2)) (how : aOW m = 11) (hz : 0 ≤ z ∧ z < 19) (hix : ix = sIX z) (H : SX G l d m (pc + 2) ls ((60, z) :: st) h Q) : SX G l d m pc ls st h Q := by
  intro p e R s mm args below meth c cells slots Z H0 locs L C hc1 hc2 hR hS hl hs hwh hn hv hret
  have hK := C.2.2.2.2.2.1.2.2.2.2.2.2
  have e1 : ((z.toNat : Nat) : Int) = z := Int.toNat_of_nonneg hz.1
  have e2 : ix = sIXn z.toNat := by rw [hix, ← sI_all z.toNat (by omega), e1]
  have hown := C.2.2.2.1
  rw [how] at hown
  exact va_ldcS C.1 C.2.1 hown (by rw [e2]; exact hK.1 z.toNat (by omega)) hd (H p e R s mm args below meth c cells slots Z H0 locs L C hc1 hc2 hR hS hl (List.forall_mem_cons.mpr ⟨wf_str hz, hs⟩) hwh hn hv hret)
theorem sx_slen {ix : Nat} (hd : decode (aBY m) pc = .ok (.invokevirtual ix, 3)) (hw : Jvm.Cond.methodLink (vO (aOW m)) ix (jN 14) ∈ TW) (H : pA st fun t k st => r8 st (bif Nat.beq t 60 then 7 < d ∧ SX G l d m (pc + 3) ls ((0, aSLEN k) :: st) h Q else False)) : SX G l d m pc ls st h Q := by
  obtain ⟨t, k, r, rfl, ht, K1⟩ := pA_inv H
  obtain ⟨h8, K2⟩ := r8_inv K1
  obtain ⟨hb, h7, K⟩ := bif_inv K2
  have e0 := beq_tt hb
  subst e0
  intro p e R s mm args below meth c cells slots Z H0 locs L C hc1 hc2 hR hS hl hs hwh hn hv hret
  have hk := (List.forall_mem_cons.mp hs).1.2.2.1 rfl
  have hs2 := (List.forall_mem_cons.mp hs).2
  dsimp only at hk
  have hK := C.2.2.2.2.2.1.2.2.2.2.2.2
  have hCR := C.2.2.2.2.2.2
  have hts := C.2.2.2.2.1
  have e1 : ((k.toNat : Nat) : Int) = k := Int.toNat_of_nonneg hk.1
  have hsl := sL_all k.toNat (by omega)
  rw [e1] at hsl
  refine W.callR (W.runV (C := "java/lang/String") (b := gK G k.toNat) (As := []) (rest := r.map (cv G)) (nL := aNL m) ⟨C.1, C.2.1, C.2.2.1, C.2.2.2.1, hts⟩ (met_LE l G k.toNat (by omega)) ⟨callB_of 0 hts (jg_of jc_LE) rfl rfl rfl (hts _ jv_iS) (hts _ hw) ⟨by decide, by decide, by decide +kernel⟩ ⟨?_, ?_⟩, hts _ jv_mLE, hts _ jv_sLE⟩ ⟨blind_S, vk_recv hK.2.1 (by omega) hS, fun U hU hW => ⟨rfl, StrK_warm hS hU hW hK⟩⟩ rfl rfl hv.1 rfl (lv_room (Nat.le_trans (wrds_sum G r) h8)) hd ⟨hc1, hc2⟩) ?_
  · show 1 + 1 ≤ R.frames
    omega
  · show 8 + (1 + 11) + 64 * 1 ≤ R.locals
    omega
  · rw [e1]
    exact K p e R s mm args below meth c cells slots Z H0 locs L C hc1 hc2 hR hS hl (List.forall_mem_cons.mpr ⟨wf_int ⟨by omega, by omega⟩, hs2⟩) hwh hn hv hret
theorem sx_char {ix : Nat} (hd : decode (aBY m) pc = .ok (.invokevirtual ix, 3)) (hw : Jvm.Cond.methodLink (vO (aOW m)) ix (jN 15) ∈ TW) (H : pI st fun i st => pA st fun t k st => r8 st (bif Nat.beq t 60 then (0 ≤ i ∧ i < aSLEN k) ∧ 7 < d ∧ SX G l d m (pc + 3) ls ((0, aSCH k i) :: st) h Q else False)) : SX G l d m pc ls st h Q := by
  obtain ⟨i, r0, rfl, K0⟩ := pI_inv H
  obtain ⟨t, k, r, rfl, ht, K1⟩ := pA_inv K0
  obtain ⟨h8, K2⟩ := r8_inv K1
  obtain ⟨hb, hik, h7, K⟩ := bif_inv K2
  have e0 := beq_tt hb
  subst e0
  intro p e R s mm args below meth c cells slots Z H0 locs L C hc1 hc2 hR hS hl hs hwh hn hv hret
  have hs1 := (List.forall_mem_cons.mp hs).2
  have hk := (List.forall_mem_cons.mp hs1).1.2.2.1 rfl
  have hs2 := (List.forall_mem_cons.mp hs1).2
  dsimp only at hk
  have hK := C.2.2.2.2.2.1.2.2.2.2.2.2
  have hCR := C.2.2.2.2.2.2
  have hts := C.2.2.2.2.1
  have e1 : ((k.toNat : Nat) : Int) = k := Int.toNat_of_nonneg hk.1
  have e2 : ((i.toNat : Nat) : Int) = i := Int.toNat_of_nonneg hik.1
  have hsl := sL_all k.toNat (by omega)
  rw [e1] at hsl
  have hlt : i.toNat < sLEN.getD k.toNat 0 := by have := hik.2; omega
  have hsb := sB_all k.toNat (by omega) i.toNat hlt
  rw [e1, e2] at hsb
  have hM := met_CA l G k.toNat (by omega) i.toNat hlt
  rw [e1, e2] at hM
  refine W.callR (W.runV (C := "java/lang/String") (b := gK G k.toNat) (As := [.int (nI i.toNat)]) (rest := r.map (cv G)) (nL := aNL m) ⟨C.1, C.2.1, C.2.2.1, C.2.2.2.1, hts⟩ hM ⟨callB_of 1 hts (jg_of jc_CA) rfl rfl rfl (hts _ jv_iS) (hts _ hw) ⟨by decide, by decide, by decide +kernel⟩ ⟨?_, ?_⟩, hts _ jv_mCA, hts _ jv_sCA⟩ ⟨blind_S, vk_recv hK.2.1 (by omega) hS, fun U hU hW => ⟨rfl, StrK_warm hS hU hW hK⟩⟩ rfl rfl hv.1 ?_ (lv_room (Nat.le_trans (wrds_sum G r) h8)) hd ⟨hc1, hc2⟩) ?_
  · show 3 + 1 ≤ R.frames
    omega
  · show 8 + (2 + 11) + 64 * 3 ≤ R.locals
    omega
  · show _ = [Value.int (nI i.toNat)] ++ _
    rw [← ofInt_nI, e2]
    rfl
  · exact K p e R s mm args below meth c cells slots Z H0 locs L C hc1 hc2 hR hS hl (List.forall_mem_cons.mpr ⟨wf_int ⟨by omega, by omega⟩, hs2⟩) hwh hn hv hret
end
