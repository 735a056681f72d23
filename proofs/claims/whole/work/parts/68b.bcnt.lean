theorem jw_bc265 : Jvm.Cond.constant "java/lang/Integer" 265 (1431655765 : Int32) ∈ TW := TW_pos 803 (by decide +kernel) rfl
theorem jw_bc266 : Jvm.Cond.constant "java/lang/Integer" 266 (858993459 : Int32) ∈ TW := TW_pos 804 (by decide +kernel) rfl
theorem jw_bc267 : Jvm.Cond.constant "java/lang/Integer" 267 (252645135 : Int32) ∈ TW := TW_pos 805 (by decide +kernel) rfl
def yBC : MethodName := ⟨"java/lang/Integer", "bitCount", "(I)I"⟩
theorem dBC_0 : decode prog_15_method_49_code 0 = .ok (.iload_n 0, 1) := by decide +kernel
theorem dBC_1 : decode prog_15_method_49_code 1 = .ok (.iload_n 0, 1) := by decide +kernel
theorem dBC_2 : decode prog_15_method_49_code 2 = .ok (.iconst 1, 1) := by decide +kernel
theorem dBC_3 : decode prog_15_method_49_code 3 = .ok (.iushr, 1) := by decide +kernel
theorem dBC_4 : decode prog_15_method_49_code 4 = .ok (.ldc_w 265, 3) := by decide +kernel
theorem dBC_7 : decode prog_15_method_49_code 7 = .ok (.iand, 1) := by decide +kernel
theorem dBC_8 : decode prog_15_method_49_code 8 = .ok (.isub, 1) := by decide +kernel
theorem dBC_9 : decode prog_15_method_49_code 9 = .ok (.istore_n 0, 1) := by decide +kernel
theorem dBC_10 : decode prog_15_method_49_code 10 = .ok (.iload_n 0, 1) := by decide +kernel
theorem dBC_11 : decode prog_15_method_49_code 11 = .ok (.ldc_w 266, 3) := by decide +kernel
theorem dBC_14 : decode prog_15_method_49_code 14 = .ok (.iand, 1) := by decide +kernel
theorem dBC_15 : decode prog_15_method_49_code 15 = .ok (.iload_n 0, 1) := by decide +kernel
theorem dBC_16 : decode prog_15_method_49_code 16 = .ok (.iconst 2, 1) := by decide +kernel
theorem dBC_17 : decode prog_15_method_49_code 17 = .ok (.iushr, 1) := by decide +kernel
theorem dBC_18 : decode prog_15_method_49_code 18 = .ok (.ldc_w 266, 3) := by decide +kernel
theorem dBC_21 : decode prog_15_method_49_code 21 = .ok (.iand, 1) := by decide +kernel
theorem dBC_22 : decode prog_15_method_49_code 22 = .ok (.iadd, 1) := by decide +kernel
theorem dBC_23 : decode prog_15_method_49_code 23 = .ok (.istore_n 0, 1) := by decide +kernel
theorem dBC_24 : decode prog_15_method_49_code 24 = .ok (.iload_n 0, 1) := by decide +kernel
theorem dBC_25 : decode prog_15_method_49_code 25 = .ok (.iload_n 0, 1) := by decide +kernel
theorem dBC_26 : decode prog_15_method_49_code 26 = .ok (.iconst 4, 1) := by decide +kernel
theorem dBC_27 : decode prog_15_method_49_code 27 = .ok (.iushr, 1) := by decide +kernel
theorem dBC_28 : decode prog_15_method_49_code 28 = .ok (.iadd, 1) := by decide +kernel
theorem dBC_29 : decode prog_15_method_49_code 29 = .ok (.ldc_w 267, 3) := by decide +kernel
theorem dBC_32 : decode prog_15_method_49_code 32 = .ok (.iand, 1) := by decide +kernel
theorem dBC_33 : decode prog_15_method_49_code 33 = .ok (.istore_n 0, 1) := by decide +kernel
theorem dBC_34 : decode prog_15_method_49_code 34 = .ok (.iload_n 0, 1) := by decide +kernel
theorem dBC_35 : decode prog_15_method_49_code 35 = .ok (.iload_n 0, 1) := by decide +kernel
theorem dBC_36 : decode prog_15_method_49_code 36 = .ok (.bipush 8, 2) := by decide +kernel
theorem dBC_38 : decode prog_15_method_49_code 38 = .ok (.iushr, 1) := by decide +kernel
theorem dBC_39 : decode prog_15_method_49_code 39 = .ok (.iadd, 1) := by decide +kernel
theorem dBC_40 : decode prog_15_method_49_code 40 = .ok (.istore_n 0, 1) := by decide +kernel
theorem dBC_41 : decode prog_15_method_49_code 41 = .ok (.iload_n 0, 1) := by decide +kernel
theorem dBC_42 : decode prog_15_method_49_code 42 = .ok (.iload_n 0, 1) := by decide +kernel
theorem dBC_43 : decode prog_15_method_49_code 43 = .ok (.bipush 16, 2) := by decide +kernel
theorem dBC_45 : decode prog_15_method_49_code 45 = .ok (.iushr, 1) := by decide +kernel
theorem dBC_46 : decode prog_15_method_49_code 46 = .ok (.iadd, 1) := by decide +kernel
theorem dBC_47 : decode prog_15_method_49_code 47 = .ok (.istore_n 0, 1) := by decide +kernel
theorem dBC_48 : decode prog_15_method_49_code 48 = .ok (.iload_n 0, 1) := by decide +kernel
theorem dBC_49 : decode prog_15_method_49_code 49 = .ok (.bipush 63, 2) := by decide +kernel
theorem dBC_51 : decode prog_15_method_49_code 51 = .ok (.iand, 1) := by decide +kernel
theorem dBC_52 : decode prog_15_method_49_code 52 = .ok (.ireturn, 1) := by decide +kernel
theorem jw_bc : Jvm.Cond.static yBC ∈ TW ∧ Jvm.Cond.initialized "java/lang/Integer" ∈ TW ∧ Jvm.Cond.code yBC prog_15_method_49_code 1 (some .int) ∈ TW := ⟨TW_pos 801 (by decide +kernel) rfl, TW_pos 19 (by decide +kernel) rfl, TW_pos 802 (by decide +kernel) rfl⟩
set_option maxRecDepth 100000 in
set_option maxHeartbeats 4000000 in
theorem met_bc (l : Launch) (x : Int32) (z : Int) (hz : 0 ≤ z ∧ z < 8) (hxz : x = Int32.ofInt z) : Met l yBC (Jvm.Cond.code yBC prog_15_method_49_code 1 (some .int) :: TW) (rmD 0) (fun a _ => a = ([Value.int x] : List Value).toArray) (QcRead (Int32.ofInt (bCnt z))) 0 0 (fun _ => False) := by
  refine Met.ofW (cc := prog_15_method_49_code) (maxL := 1) (ret := some .int) (by decide) rfl ?_
  intro p e s mm args below meth c s₁ B hml hv
  have hts0 : ∀ w ∈ (Jvm.Cond.code yBC prog_15_method_49_code 1 (some .int) :: TW), w.before args s = true := atoms_spec B.pre
  have hts : ∀ w ∈ TW, w.before args s = true := fun w hw => hts0 w (List.mem_cons_of_mem _ hw)
  have hown : s.vm.findClass "java/lang/Integer" = some mm.cls := findClass_of_methodNamed B.named
  have hx := B.exec
  have hb := B.bytes
  have hr := B.returns
  have hlk := B.notSynchronized
  have hl := lv_entry ([.int x]) (n := 1) (Nat.le_of_ble_eq_true rfl)
  rw [hv, lg_entry_eq, ← hv]
  generalize (lg_sl ([.int x]) ++ List.replicate (1 - (lg_sl ([.int x])).length) Slot.unset).toArray = ls at hl ⊢
  have hl : lv_has ls 1 [(0, .int x)] := hl
  refine lv_iload_n hx hb dBC_0 rfl (lv_at hl 0 rfl) ?_
  refine lv_iload_n hx hb dBC_1 rfl (lv_at hl 0 rfl) ?_
  refine lv_iconst (v := 1) hx hb dBC_2 (by decide) ?_
  refine lv_iushr (v := ((x : Int32).toUInt32 >>> ((1 : Int32).toUInt32 &&& Int32.toUInt32 31)).toInt32) hx hb dBC_3 rfl ?_
  refine lv_ldcw (v := 1431655765) hx hb hown (hts _ jw_bc265) dBC_4 ?_
  refine lv_iand hx hb dBC_7 ?_
  refine lv_isub hx hb dBC_8 ?_
  refine lv_topi (fun x1 e_x1 => ?_)
  refine lv_istore_n (lv' := [(0, .int x1)]) hx hb dBC_9 rfl hl (by decide) rfl (fun ls hl => ?_)
  refine lv_iload_n hx hb dBC_10 rfl (lv_at hl 0 rfl) ?_
  refine lv_ldcw (v := 858993459) hx hb hown (hts _ jw_bc266) dBC_11 ?_
  refine lv_iand hx hb dBC_14 ?_
  refine lv_iload_n hx hb dBC_15 rfl (lv_at hl 0 rfl) ?_
  refine lv_iconst (v := 2) hx hb dBC_16 (by decide) ?_
  refine lv_iushr (v := ((x1 : Int32).toUInt32 >>> ((2 : Int32).toUInt32 &&& Int32.toUInt32 31)).toInt32) hx hb dBC_17 rfl ?_
  refine lv_ldcw (v := 858993459) hx hb hown (hts _ jw_bc266) dBC_18 ?_
  refine lv_iand hx hb dBC_21 ?_
  refine lv_iadd hx hb dBC_22 ?_
  refine lv_topi (fun x2 e_x2 => ?_)
  refine lv_istore_n (lv' := [(0, .int x2)]) hx hb dBC_23 rfl hl (by decide) rfl (fun ls hl => ?_)
  refine lv_iload_n hx hb dBC_24 rfl (lv_at hl 0 rfl) ?_
  refine lv_iload_n hx hb dBC_25 rfl (lv_at hl 0 rfl) ?_
  refine lv_iconst (v := 4) hx hb dBC_26 (by decide) ?_
  refine lv_iushr (v := ((x2 : Int32).toUInt32 >>> ((4 : Int32).toUInt32 &&& Int32.toUInt32 31)).toInt32) hx hb dBC_27 rfl ?_
  refine lv_iadd hx hb dBC_28 ?_
  refine lv_ldcw (v := 252645135) hx hb hown (hts _ jw_bc267) dBC_29 ?_
  refine lv_iand hx hb dBC_32 ?_
  refine lv_topi (fun x3 e_x3 => ?_)
  refine lv_istore_n (lv' := [(0, .int x3)]) hx hb dBC_33 rfl hl (by decide) rfl (fun ls hl => ?_)
  refine lv_iload_n hx hb dBC_34 rfl (lv_at hl 0 rfl) ?_
  refine lv_iload_n hx hb dBC_35 rfl (lv_at hl 0 rfl) ?_
  refine lv_bipush (v := 8) hx hb dBC_36 (by decide) ?_
  refine lv_iushr (v := ((x3 : Int32).toUInt32 >>> ((8 : Int32).toUInt32 &&& Int32.toUInt32 31)).toInt32) hx hb dBC_38 rfl ?_
  refine lv_iadd hx hb dBC_39 ?_
  refine lv_topi (fun x4 e_x4 => ?_)
  refine lv_istore_n (lv' := [(0, .int x4)]) hx hb dBC_40 rfl hl (by decide) rfl (fun ls hl => ?_)
  refine lv_iload_n hx hb dBC_41 rfl (lv_at hl 0 rfl) ?_
  refine lv_iload_n hx hb dBC_42 rfl (lv_at hl 0 rfl) ?_
  refine lv_bipush (v := 16) hx hb dBC_43 (by decide) ?_
  refine lv_iushr (v := ((x4 : Int32).toUInt32 >>> ((16 : Int32).toUInt32 &&& Int32.toUInt32 31)).toInt32) hx hb dBC_45 rfl ?_
  refine lv_iadd hx hb dBC_46 ?_
  refine lv_topi (fun x5 e_x5 => ?_)
  refine lv_istore_n (lv' := [(0, .int x5)]) hx hb dBC_47 rfl hl (by decide) rfl (fun ls hl => ?_)
  refine lv_iload_n hx hb dBC_48 rfl (lv_at hl 0 rfl) ?_
  refine lv_bipush (v := 63) hx hb dBC_49 (by decide) ?_
  refine lv_iand hx hb dBC_51 ?_
  have key : (x5 &&& 63 : Int32) = Int32.ofInt (bCnt z) := by
    subst e_x1 e_x2 e_x3 e_x4 e_x5
    subst hxz
    rcases (show z = 0 ∨ z = 1 ∨ z = 2 ∨ z = 3 ∨ z = 4 ∨ z = 5 ∨ z = 6 ∨ z = 7 by omega) with e | e | e | e | e | e | e | e <;> subst e <;> decide +kernel
  exact W.iret hx hb hr (fun t ht hW => ⟨by rw [key], ht⟩) (fun q h => by cases h) dBC_52 hlk
theorem sx_bcnt {G : SG} {l : Launch} {d m pc : Nat} {ls st : List AV} {h : HP} {Q : PQ} {ix : Nat} (hd : decode (aBY m) pc = .ok (.invokestatic ix, 3)) (hw : Jvm.Cond.methodLink (vO (aOW m)) ix yBC ∈ TW) (H : pI st fun x st => r8 st ((0 ≤ x ∧ x < 8) ∧ 7 < d ∧ SX G l d m (pc + 3) ls ((0, bCnt x) :: st) h Q)) : SX G l d m pc ls st h Q := by
  obtain ⟨x, r, rfl, K2⟩ := pI_inv H
  obtain ⟨h8, hx8, h7, K⟩ := r8_inv K2
  intro p e R s mm args below meth c cells slots Z H0 locs L C hc1 hc2 hR hS hl hs hwh hn hv hret
  have hs2 := (List.forall_mem_cons.mp hs).2
  have hCR := C.2.2.2.2.2.2
  have ht := C.2.2.2.2.1
  have hm : r32 (bCnt x) := by
    unfold bCnt
    split
    · exact ⟨by decide, by decide⟩
    · split
      · exact ⟨by decide, by decide⟩
      · split <;> exact ⟨by decide, by decide⟩
  refine W.callR (W.runS (As := [.int (Int32.ofInt x)]) (rest := r.map (cv G)) (nL := aNL m) ⟨C.1, C.2.1, C.2.2.1, C.2.2.2.1, C.2.2.2.2.1⟩ (met_bc l (Int32.ofInt x) x hx8 rfl) ⟨callB_of 1 ht (TW_good (fun w hw => ?_)) rfl rfl rfl (ht _ jw_bc.2.1) (ht _ hw) ⟨by decide, by decide, by decide +kernel⟩ ⟨?_, ?_⟩, ht _ jw_bc.1⟩ ⟨fun a U g mk q => q, fun U _ _ => rfl⟩ rfl rfl hv.1 rfl (lv_room (Nat.le_trans (wrds_sum G r) h8)) hd ⟨hc1, hc2⟩) ?_
  · rcases List.mem_cons.mp hw with e1 | e1
    · rw [e1]; exact jw_bc.2.2
    · exact e1
  · show 0 + 1 ≤ R.frames
    omega
  · show 8 + (1 + 11) + 64 * 0 ≤ R.locals
    omega
  · exact K p e R s mm args below meth c cells slots Z H0 locs L C hc1 hc2 hR hS hl (List.forall_mem_cons.mpr ⟨wf_int hm, hs2⟩) hwh hn hv hret
