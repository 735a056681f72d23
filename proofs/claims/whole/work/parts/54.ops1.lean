theorem cv_rf {G : SG} {t : Nat} {z : Int} (h : 10 ≤ t) (h2 : t < 60) : cv G (t, z) = rfv (gN G) z := by
  unfold cv
  rw [beq_ff (show t ≠ 0 by omega), beq_ff (show t ≠ 1 by omega), beq_ff (show t ≠ 60 by omega), beq_ff (show t ≠ 61 by omega)]
  rfl
theorem wf_null {t : Nat} (h : 30 ≤ t ∧ t < 50) : wfv (t, 0) := by
  refine ⟨?_, ?_, ?_, ?_, fun _ _ => Or.inl rfl, ?_⟩
  all_goals intro q
  all_goals (have q : _ := q)
  · exact absurd q (by show t ≠ 0; omega)
  · exact absurd q (by show t ≠ 1; omega)
  · exact absurd q (by show t ≠ 60; omega)
  · intro q2; exact absurd (show t < 30 from q2) (by omega)
  · intro q2; exact absurd (show 50 ≤ t from q) (by omega)
section
variable {G : SG} {l : Launch} {d m pc : Nat} {ls st : List AV} {h : HP} {Q : PQ}
theorem sx_iconst {n z : Int} (hd : decode (aBY m) pc = .ok (.iconst n, 1)) (hz : Int32.ofInt n = Int32.ofInt z) (hr : r32 z) (H : SX G l d m (pc + 1) ls ((0, z) :: st) h Q) : SX G l d m pc ls st h Q := by
  intro p e R s mm args below meth c cells slots Z H0 locs L C hc1 hc2 hR hS hl hs hw hn hv hret
  refine lv_iconst (v := Int32.ofInt z) C.1 C.2.1 hd hz ?_
  exact H p e R s mm args below meth c cells slots Z H0 locs L C hc1 hc2 hR hS hl (List.forall_mem_cons.mpr ⟨wf_int hr, hs⟩) hw hn hv hret
theorem sx_bipush {n z : Int} (hd : decode (aBY m) pc = .ok (.bipush n, 2)) (hz : (Int8.ofInt n).toInt32 = Int32.ofInt z) (hr : r32 z) (H : SX G l d m (pc + 2) ls ((0, z) :: st) h Q) : SX G l d m pc ls st h Q := by
  intro p e R s mm args below meth c cells slots Z H0 locs L C hc1 hc2 hR hS hl hs hw hn hv hret
  refine lv_bipush (v := Int32.ofInt z) C.1 C.2.1 hd hz ?_
  exact H p e R s mm args below meth c cells slots Z H0 locs L C hc1 hc2 hR hS hl (List.forall_mem_cons.mpr ⟨wf_int hr, hs⟩) hw hn hv hret
theorem sx_sipush {n z : Int} (hd : decode (aBY m) pc = .ok (.sipush n, 3)) (hz : (Int16.ofInt n).toInt32 = Int32.ofInt z) (hr : r32 z) (H : SX G l d m (pc + 3) ls ((0, z) :: st) h Q) : SX G l d m pc ls st h Q := by
  intro p e R s mm args below meth c cells slots Z H0 locs L C hc1 hc2 hR hS hl hs hw hn hv hret
  refine lv_sipush (v := Int32.ofInt z) C.1 C.2.1 hd hz ?_
  exact H p e R s mm args below meth c cells slots Z H0 locs L C hc1 hc2 hR hS hl (List.forall_mem_cons.mpr ⟨wf_int hr, hs⟩) hw hn hv hret
theorem sx_lconst {n : Fin 2} {z : Int} (hd : decode (aBY m) pc = .ok (.lconst n, 1)) (hz : Int64.ofNat n.val = Int64.ofInt z) (hr : r64 z) (H : SX G l d m (pc + 1) ls ((1, z) :: st) h Q) : SX G l d m pc ls st h Q := by
  intro p e R s mm args below meth c cells slots Z H0 locs L C hc1 hc2 hR hS hl hs hw hn hv hret
  refine lv_lconst (v := Int64.ofInt z) C.1 C.2.1 hd hz ?_
  exact H p e R s mm args below meth c cells slots Z H0 locs L C hc1 hc2 hR hS hl (List.forall_mem_cons.mpr ⟨wf_long hr, hs⟩) hw hn hv hret
theorem sx_ldc2 {ix : Nat} {z : Int} (hd : decode (aBY m) pc = .ok (.ldc2_w ix, 3)) (hz : (Jvm.Cond.constantLong (vO (aOW m)) ix (Int64.ofInt z)) ∈ TW) (hr : r64 z) (H : SX G l d m (pc + 3) ls ((1, z) :: st) h Q) : SX G l d m pc ls st h Q := by
  intro p e R s mm args below meth c cells slots Z H0 locs L C hc1 hc2 hR hS hl hs hw hn hv hret
  refine lv_ldc2 (v := Int64.ofInt z) C.1 C.2.1 C.2.2.2.1 (C.2.2.2.2.1 _ hz) hd ?_
  exact H p e R s mm args below meth c cells slots Z H0 locs L C hc1 hc2 hR hS hl (List.forall_mem_cons.mpr ⟨wf_long hr, hs⟩) hw hn hv hret
theorem sx_null {t : Nat} (hd : decode (aBY m) pc = .ok (.aconst_null, 1)) (ht : 30 ≤ t ∧ t < 50) (H : SX G l d m (pc + 1) ls ((t, 0) :: st) h Q) : SX G l d m pc ls st h Q := by
  intro p e R s mm args below meth c cells slots Z H0 locs L C hc1 hc2 hR hS hl hs hw hn hv hret
  refine lv_null C.1 C.2.1 hd ?_
  have hq := H p e R s mm args below meth c cells slots Z H0 locs L C hc1 hc2 hR hS hl (List.forall_mem_cons.mpr ⟨wf_null ht, hs⟩) hw hn hv hret
  rw [List.map_cons, cv_rf (by omega) (by omega)] at hq
  exact hq
theorem sx_iload_n {k : Fin 4} {a : Nat} (hd : decode (aBY m) pc = .ok (.iload_n k, 1)) (hk : (k : Nat) = a) (H : lcI ls a fun v => SX G l d m (pc + 1) ls ((0, v) :: st) h Q) : SX G l d m pc ls st h Q := by
  obtain ⟨v, hq, H⟩ := lcI_inv H
  intro p e R s mm args below meth c cells slots Z H0 locs L C hc1 hc2 hR hS hl hs hw hn hv hret
  refine lv_iload_n C.1 C.2.1 hd hk (hv.2.2 _ _ hq (show (0 : Nat) ≠ 2 by decide)) ?_
  exact H p e R s mm args below meth c cells slots Z H0 locs L C hc1 hc2 hR hS hl (List.forall_mem_cons.mpr ⟨hl _ (List.mem_of_getElem? hq), hs⟩) hw hn hv hret
theorem sx_lload_n {k : Fin 4} {a : Nat} (hd : decode (aBY m) pc = .ok (.lload_n k, 1)) (hk : (k : Nat) = a) (H : lcL ls a fun v => SX G l d m (pc + 1) ls ((1, v) :: st) h Q) : SX G l d m pc ls st h Q := by
  obtain ⟨v, hq, H⟩ := lcL_inv H
  intro p e R s mm args below meth c cells slots Z H0 locs L C hc1 hc2 hR hS hl hs hw hn hv hret
  refine lv_lload_n C.1 C.2.1 hd hk (hv.2.2 _ _ hq (show (1 : Nat) ≠ 2 by decide)) ?_
  exact H p e R s mm args below meth c cells slots Z H0 locs L C hc1 hc2 hR hS hl (List.forall_mem_cons.mpr ⟨hl _ (List.mem_of_getElem? hq), hs⟩) hw hn hv hret
theorem sx_iload {k : Nat} {a : Nat} (hd : decode (aBY m) pc = .ok (.iload k, 2)) (hk : k = a) (H : lcI ls a fun v => SX G l d m (pc + 2) ls ((0, v) :: st) h Q) : SX G l d m pc ls st h Q := by
  subst hk
  obtain ⟨v, hq, H⟩ := lcI_inv H
  intro p e R s mm args below meth c cells slots Z H0 locs L C hc1 hc2 hR hS hl hs hw hn hv hret
  refine lv_iload C.1 C.2.1 hd (hv.2.2 _ _ hq (show (0 : Nat) ≠ 2 by decide)) ?_
  exact H p e R s mm args below meth c cells slots Z H0 locs L C hc1 hc2 hR hS hl (List.forall_mem_cons.mpr ⟨hl _ (List.mem_of_getElem? hq), hs⟩) hw hn hv hret
theorem sx_lload {k : Nat} {a : Nat} (hd : decode (aBY m) pc = .ok (.lload k, 2)) (hk : k = a) (H : lcL ls a fun v => SX G l d m (pc + 2) ls ((1, v) :: st) h Q) : SX G l d m pc ls st h Q := by
  subst hk
  obtain ⟨v, hq, H⟩ := lcL_inv H
  intro p e R s mm args below meth c cells slots Z H0 locs L C hc1 hc2 hR hS hl hs hw hn hv hret
  refine lv_lload C.1 C.2.1 hd (hv.2.2 _ _ hq (show (1 : Nat) ≠ 2 by decide)) ?_
  exact H p e R s mm args below meth c cells slots Z H0 locs L C hc1 hc2 hR hS hl (List.forall_mem_cons.mpr ⟨hl _ (List.mem_of_getElem? hq), hs⟩) hw hn hv hret
theorem sx_aload_n {k : Fin 4} {a : Nat} (hd : decode (aBY m) pc = .ok (.aload_n k, 1)) (hk : (k : Nat) = a) (H : lcA ls a fun t v => SX G l d m (pc + 1) ls ((t, v) :: st) h Q) : SX G l d m pc ls st h Q := by
  obtain ⟨t, v, hq, ht, H⟩ := lcA_inv H
  intro p e R s mm args below meth c cells slots Z H0 locs L C hc1 hc2 hR hS hl hs hw hn hv hret
  have hg := hv.2.2 _ _ hq (by show t ≠ 2; omega)
  have hh := H p e R s mm args below meth c cells slots Z H0 locs L C hc1 hc2 hR hS hl (List.forall_mem_cons.mpr ⟨hl _ (List.mem_of_getElem? hq), hs⟩) hw hn hv hret
  rw [List.map_cons] at hh
  rcases cv_ref (G := G) (z := v) ht with e1 | ⟨b, e1⟩
  · rw [e1] at hg hh
    exact lv_aload_nN C.1 C.2.1 hd hk hg hh
  · rw [e1] at hg hh
    exact lv_aload_n C.1 C.2.1 hd hk hg hh
theorem sx_aload {k : Nat} {a : Nat} (hd : decode (aBY m) pc = .ok (.aload k, 2)) (hk : k = a) (H : lcA ls a fun t v => SX G l d m (pc + 2) ls ((t, v) :: st) h Q) : SX G l d m pc ls st h Q := by
  subst hk
  obtain ⟨t, v, hq, ht, H⟩ := lcA_inv H
  intro p e R s mm args below meth c cells slots Z H0 locs L C hc1 hc2 hR hS hl hs hw hn hv hret
  have hg := hv.2.2 _ _ hq (by show t ≠ 2; omega)
  have hh := H p e R s mm args below meth c cells slots Z H0 locs L C hc1 hc2 hR hS hl (List.forall_mem_cons.mpr ⟨hl _ (List.mem_of_getElem? hq), hs⟩) hw hn hv hret
  rw [List.map_cons] at hh
  rcases cv_ref (G := G) (z := v) ht with e1 | ⟨b, e1⟩
  · rw [e1] at hg hh
    exact lv_aloadN C.1 C.2.1 hd hg hh
  · rw [e1] at hg hh
    exact lv_aload C.1 C.2.1 hd hg hh
theorem sx_istore_n {k : Fin 4} {a : Nat} (hd : decode (aBY m) pc = .ok (.istore_n k, 1)) (hk : (k : Nat) = a) (H : pI st fun v st => bif Nat.blt (a) ls.length then SX G l d m (pc + 1) (stL ls a (0, v)) st h Q else False) : SX G l d m pc ls st h Q := by
  obtain ⟨v, r, rfl, H⟩ := pI_inv H
  obtain ⟨hb, H⟩ := bif_inv H
  have hb := Nat.blt_eq ▸ hb
  intro p e R s mm args below meth c cells slots Z H0 locs L C hc1 hc2 hR hS hl hs hw hn hv hret
  refine lv_istore_n C.1 C.2.1 hd hk (lcs_has hv) (by rw [← hn]; exact hb) rfl (fun L' hL' => ?_)
  exact H p e R s mm args below meth c cells slots Z H0 locs L' C hc1 hc2 hR hS (stL_wf hl (List.forall_mem_cons.mp hs).1) (List.forall_mem_cons.mp hs).2 hw (by rw [stL_len]; exact hn) (lvr_st1 (v := (0, v)) hL') hret
theorem sx_istore {k : Nat} {a : Nat} (hd : decode (aBY m) pc = .ok (.istore k, 2)) (hk : k = a) (H : pI st fun v st => bif Nat.blt (a) ls.length then SX G l d m (pc + 2) (stL ls a (0, v)) st h Q else False) : SX G l d m pc ls st h Q := by
  subst hk
  obtain ⟨v, r, rfl, H⟩ := pI_inv H
  obtain ⟨hb, H⟩ := bif_inv H
  have hb := Nat.blt_eq ▸ hb
  intro p e R s mm args below meth c cells slots Z H0 locs L C hc1 hc2 hR hS hl hs hw hn hv hret
  refine lv_istore C.1 C.2.1 hd (lcs_has hv) (by rw [← hn]; exact hb) rfl (fun L' hL' => ?_)
  exact H p e R s mm args below meth c cells slots Z H0 locs L' C hc1 hc2 hR hS (stL_wf hl (List.forall_mem_cons.mp hs).1) (List.forall_mem_cons.mp hs).2 hw (by rw [stL_len]; exact hn) (lvr_st1 (v := (0, v)) hL') hret
theorem sx_lstore_n {k : Fin 4} {a : Nat} (hd : decode (aBY m) pc = .ok (.lstore_n k, 1)) (hk : (k : Nat) = a) (H : pL st fun v st => bif Nat.blt (a + 1) ls.length then SX G l d m (pc + 1) (stL2 ls a (1, v)) st h Q else False) : SX G l d m pc ls st h Q := by
  obtain ⟨v, r, rfl, H⟩ := pL_inv H
  obtain ⟨hb, H⟩ := bif_inv H
  have hb := Nat.blt_eq ▸ hb
  intro p e R s mm args below meth c cells slots Z H0 locs L C hc1 hc2 hR hS hl hs hw hn hv hret
  refine lv_lstore_n C.1 C.2.1 hd hk (lcs_has hv) (by rw [← hn]; exact hb) rfl (fun L' hL' => ?_)
  exact H p e R s mm args below meth c cells slots Z H0 locs L' C hc1 hc2 hR hS (stL2_wf hl (List.forall_mem_cons.mp hs).1) (List.forall_mem_cons.mp hs).2 hw (by rw [stL2_len]; exact hn) (lvr_st2 (v := (1, v)) hL') hret
theorem sx_lstore {k : Nat} {a : Nat} (hd : decode (aBY m) pc = .ok (.lstore k, 2)) (hk : k = a) (H : pL st fun v st => bif Nat.blt (a + 1) ls.length then SX G l d m (pc + 2) (stL2 ls a (1, v)) st h Q else False) : SX G l d m pc ls st h Q := by
  subst hk
  obtain ⟨v, r, rfl, H⟩ := pL_inv H
  obtain ⟨hb, H⟩ := bif_inv H
  have hb := Nat.blt_eq ▸ hb
  intro p e R s mm args below meth c cells slots Z H0 locs L C hc1 hc2 hR hS hl hs hw hn hv hret
  refine lv_lstore C.1 C.2.1 hd (lcs_has hv) (by rw [← hn]; exact hb) rfl (fun L' hL' => ?_)
  exact H p e R s mm args below meth c cells slots Z H0 locs L' C hc1 hc2 hR hS (stL2_wf hl (List.forall_mem_cons.mp hs).1) (List.forall_mem_cons.mp hs).2 hw (by rw [stL2_len]; exact hn) (lvr_st2 (v := (1, v)) hL') hret
theorem sx_astore_n {k : Fin 4} {a : Nat} (hd : decode (aBY m) pc = .ok (.astore_n k, 1)) (hk : (k : Nat) = a) (H : pA st fun t v st => bif Nat.blt a ls.length then SX G l d m (pc + 1) (stL ls a (t, v)) st h Q else False) : SX G l d m pc ls st h Q := by
  obtain ⟨t, v, r, rfl, ht, H⟩ := pA_inv H
  obtain ⟨hb, H⟩ := bif_inv H
  have hb := Nat.blt_eq ▸ hb
  intro p e R s mm args below meth c cells slots Z H0 locs L C hc1 hc2 hR hS hl hs hw hn hv hret
  have key : ∀ L' : Array Slot, lv_has L' (aNL m) ((a, cv G (t, v)) :: (lcs G ls).filter (fun q => !(q.1 == a) && !(q.1 + 1 == a && q.2.category == 2))) → W p l e R s mm args below meth c H0 locs cells slots Z (F0 mm (pc + 1) L' (r.map (cv G))) := fun L' hL' =>
    H p e R s mm args below meth c cells slots Z H0 locs L' C hc1 hc2 hR hS (stL_wf hl (List.forall_mem_cons.mp hs).1) (List.forall_mem_cons.mp hs).2 hw (by rw [stL_len]; exact hn) (lvr_st1 (v := (t, v)) hL') hret
  rw [List.map_cons]
  rcases cv_ref (G := G) (z := v) ht with e1 | ⟨b, e1⟩
  · rw [e1] at key ⊢
    exact lv_astore_nN C.1 C.2.1 hd hk (lcs_has hv) (by rw [← hn]; exact hb) rfl key
  · rw [e1] at key ⊢
    exact lv_astore_n C.1 C.2.1 hd hk (lcs_has hv) (by rw [← hn]; exact hb) rfl key
theorem sx_astore {k : Nat} {a : Nat} (hd : decode (aBY m) pc = .ok (.astore k, 2)) (hk : k = a) (H : pA st fun t v st => bif Nat.blt a ls.length then SX G l d m (pc + 2) (stL ls a (t, v)) st h Q else False) : SX G l d m pc ls st h Q := by
  subst hk
  obtain ⟨t, v, r, rfl, ht, H⟩ := pA_inv H
  obtain ⟨hb, H⟩ := bif_inv H
  have hb := Nat.blt_eq ▸ hb
  intro p e R s mm args below meth c cells slots Z H0 locs L C hc1 hc2 hR hS hl hs hw hn hv hret
  have key : ∀ L' : Array Slot, lv_has L' (aNL m) ((k, cv G (t, v)) :: (lcs G ls).filter (fun q => !(q.1 == k) && !(q.1 + 1 == k && q.2.category == 2))) → W p l e R s mm args below meth c H0 locs cells slots Z (F0 mm (pc + 2) L' (r.map (cv G))) := fun L' hL' =>
    H p e R s mm args below meth c cells slots Z H0 locs L' C hc1 hc2 hR hS (stL_wf hl (List.forall_mem_cons.mp hs).1) (List.forall_mem_cons.mp hs).2 hw (by rw [stL_len]; exact hn) (lvr_st1 (v := (t, v)) hL') hret
  rw [List.map_cons]
  rcases cv_ref (G := G) (z := v) ht with e1 | ⟨b, e1⟩
  · rw [e1] at key ⊢
    exact lv_astoreN C.1 C.2.1 hd (lcs_has hv) (by rw [← hn]; exact hb) rfl key
  · rw [e1] at key ⊢
    exact lv_astore C.1 C.2.1 hd (lcs_has hv) (by rw [← hn]; exact hb) rfl key
end
