section
variable {G : SG} {l : Launch} {d m pc : Nat} {ls st : List AV} {h : HP} {Q : PQ}
theorem ws_setA {h : HP} {k i v : Int} {t : Nat} {cA : ClassId} {x : Int32} (a1 : 1 ≤ k) (a2 : aKD k.toNat = t) (ht : t = 50 ∧ cA = gI G ∨ t = 52 ∧ cA = gZ G) (a3 : 1 ≤ k.toNat) (a4 : k.toNat ≤ 193) (hi : 0 ≤ i) (hx : x = Int32.ofInt v) :
    (wsG G h).set (k.toNat - 1) (gN G + (k.toNat - 1), .inl (cA, (aSZn k.toNat).toNat, .inl (upd (fun j => Int32.ofInt (h k.toNat j)) i.toNat x))) = wsG G (up2 h k i v) := by
  rw [← ws_set (G := G) (h := h) (h' := up2 h k i v) (n := k.toNat) a3 a4 (fun x y hxn => up2_cell (by rw [natK a1] at hxn; exact hxn)), ent_arr (by omega), a2]
  have hf : (upd (fun j => Int32.ofInt (h k.toNat j)) i.toNat x) = fun j : Nat => Int32.ofInt (up2 h k i v k.toNat j) := by
    funext j
    unfold upd
    by_cases hj : j = i.toNat
    · rw [if_pos hj, natK a1, hx, hj, Int.toNat_of_nonneg hi, up2_same]
    · rw [if_neg hj, up2_slot (by omega)]
  rw [hf]
  rcases ht with ⟨e1, e2⟩ | ⟨e1, e2⟩
  · rw [e1, e2]; rfl
  · rw [e1, e2]; rfl
theorem sx_iast (hd : decode (aBY m) pc = .ok (.iastore, 1)) (H : pI st fun v st => pI st fun i st => pA st fun t k st => bif Nat.beq t 50 then (0 ≤ i ∧ i < aSZ k) ∧ ∀ h' : HP, h' = up2 h k i v → SX G l d m (pc + 1) ls st h' Q else False) : SX G l d m pc ls st h Q := by
  obtain ⟨v, r1, rfl, K1⟩ := pI_inv H
  obtain ⟨i, r2, rfl, K2⟩ := pI_inv K1
  obtain ⟨t, k, r, rfl, ht, K3⟩ := pA_inv K2
  obtain ⟨hb, K4, K5⟩ := bif_inv K3
  have e0 := beq_tt hb
  subst e0
  have K6 := K5 _ rfl
  intro p e R s mm args below meth c cells slots Z H0 locs L C hc1 hc2 hR hS hl hs hwh hn hv hret
  have hx := (List.forall_mem_cons.mp hs).1
  have hs1 := (List.forall_mem_cons.mp hs).2
  have hs2 := (List.forall_mem_cons.mp hs1).2
  have hy := (List.forall_mem_cons.mp hs2).1
  have hs3 := (List.forall_mem_cons.mp hs2).2
  obtain ⟨a1, a2, a3, a4, a5, a6⟩ := arr_of hy ⟨by decide, by decide⟩
  obtain ⟨b1, b2, b3⟩ := ix_of K4 a5
  have hne := arr_ne a2 (Or.inl rfl)
  rw [List.map_cons, List.map_cons, List.map_cons, cv_rf (t := 50) (by decide) (by decide), rfv_pos a1]
  refine va_iast (n := (aSZn k.toNat).toNat) (f := fun j => Int32.ofInt (h k.toNat j)) C.1 C.2.1 C.2.2.2.2.2.1.1 hR.1 (ws_D G h) hS (k.toNat - 1) 0 (by rw [ws_at G h a3 a4, ent_arr (by omega), a2]; rfl) rfl b1 hd (fun H1 locs1 hP hD hS1 => ?_)
  rw [b2, ws_setA (t := 50) a1 a2 (Or.inl ⟨rfl, rfl⟩) a3 a4 K4.1 rfl] at hP
  exact K6 p e R s mm args below meth c cells slots Z H1 locs1 L C hc1 hc2 (rel_set hR hP (fun j => up2_cell (by omega)) (up2_cell (by omega))) hS1 hl hs3 (wfh_st hwh hne.1 hne.2.1 hne.2.2 (hx.1 rfl)) hn hv hret
theorem sx_bast (hd : decode (aBY m) pc = .ok (.bastore, 1)) (H : pI st fun v st => pI st fun i st => pA st fun t k st => bif Nat.beq t 52 then (0 ≤ i ∧ i < aSZ k) ∧ isB v ∧ ∀ h' : HP, h' = up2 h k i v → SX G l d m (pc + 1) ls st h' Q else False) : SX G l d m pc ls st h Q := by
  obtain ⟨v, r1, rfl, K1⟩ := pI_inv H
  obtain ⟨i, r2, rfl, K2⟩ := pI_inv K1
  obtain ⟨t, k, r, rfl, ht, K3⟩ := pA_inv K2
  obtain ⟨hb, K4, hB, K5⟩ := bif_inv K3
  have e0 := beq_tt hb
  subst e0
  have K6 := K5 _ rfl
  intro p e R s mm args below meth c cells slots Z H0 locs L C hc1 hc2 hR hS hl hs hwh hn hv hret
  have hx := (List.forall_mem_cons.mp hs).1
  have hs1 := (List.forall_mem_cons.mp hs).2
  have hs2 := (List.forall_mem_cons.mp hs1).2
  have hy := (List.forall_mem_cons.mp hs2).1
  have hs3 := (List.forall_mem_cons.mp hs2).2
  obtain ⟨a1, a2, a3, a4, a5, a6⟩ := arr_of hy ⟨by decide, by decide⟩
  obtain ⟨b1, b2, b3⟩ := ix_of K4 a5
  have hne := arr_ne a2 (Or.inr rfl)
  have hnr : vp_nar .boolean (Int32.ofInt v) = Int32.ofInt v := by rcases hB with e | e <;> subst e <;> decide +kernel
  rw [List.map_cons, List.map_cons, List.map_cons, cv_rf (t := 52) (by decide) (by decide), rfv_pos a1]
  refine va_zast (n := (aSZn k.toNat).toNat) (f := fun j => Int32.ofInt (h k.toNat j)) C.1 C.2.1 C.2.2.2.2.2.1.1 hR.1 (ws_D G h) hS (k.toNat - 1) 1 (by rw [ws_at G h a3 a4, ent_arr (by omega), a2]; rfl) rfl b1 hd (fun H1 locs1 hP hD hS1 => ?_)
  rw [hnr, b2, ws_setA (t := 52) a1 a2 (Or.inr ⟨rfl, rfl⟩) a3 a4 K4.1 rfl] at hP
  exact K6 p e R s mm args below meth c cells slots Z H1 locs1 L C hc1 hc2 (rel_set hR hP (fun j => up2_cell (by omega)) (up2_cell (by omega))) hS1 hl hs3 (wfh_st hwh hne.1 hne.2.1 hne.2.2 (hx.1 rfl)) hn hv hret
theorem sx_iret {e : Nat} (hd : decode (aBY m) pc = .ok (.ireturn, 1)) (hrt : aRT m = 0 ∧ Nat.beq e 1 = false ∨ aRT m = 3 ∧ Nat.beq e 1 = true) (H : pI st fun v r => nl r (bif Nat.beq e 1 then isB v ∧ Q v h else Q v h)) : SX G l d m pc ls st h Q := by
  obtain ⟨v, r, rfl, K⟩ := pI_inv H
  obtain ⟨e0, K2⟩ := nl_inv K
  subst e0
  intro p e1 R s mm args below meth c cells slots Z H0 locs L C hc1 hc2 hR hS hl hs hwh hn hv hret
  have hx := (List.forall_mem_cons.mp hs).1
  have h1 : rTg m = 0 := by
    unfold rTg
    rcases hrt with ⟨q, -⟩ | ⟨q, -⟩ <;> rw [q] <;> rfl
  have h2 : Q v h ∧ (aRT m = 3 → isB v) := by
    rcases hrt with ⟨q1, q2⟩ | ⟨q1, q2⟩
    · rw [q2] at K2; exact ⟨K2, fun z => by omega⟩
    · rw [q2] at K2; exact ⟨K2.2, fun _ => K2.1⟩
  have h3 := hret v h H0 locs pc L h2.1 hR hS hwh (by rw [h1]; exact hx) h2.2 (by unfold rins; rw [h1]; exact hd)
  unfold rst at h3
  rw [h1, show Nat.beq (aRT m) 2 = false from by rcases hrt with ⟨q, -⟩ | ⟨q, -⟩ <;> rw [q] <;> rfl] at h3
  exact h3
theorem sx_lret (hd : decode (aBY m) pc = .ok (.lreturn, 1)) (hrt : aRT m = 1) (H : pL st fun v r => nl r (Q v h)) : SX G l d m pc ls st h Q := by
  obtain ⟨v, r, rfl, K⟩ := pL_inv H
  obtain ⟨e0, K2⟩ := nl_inv K
  subst e0
  intro p e1 R s mm args below meth c cells slots Z H0 locs L C hc1 hc2 hR hS hl hs hwh hn hv hret
  have hx := (List.forall_mem_cons.mp hs).1
  have h1 : rTg m = 1 := by unfold rTg; rw [hrt]; rfl
  have h3 := hret v h H0 locs pc L K2 hR hS hwh (by rw [h1]; exact hx) (fun z => by omega) (by unfold rins; rw [h1]; exact hd)
  unfold rst at h3
  rw [h1, hrt] at h3
  exact h3
theorem sx_vret (hd : decode (aBY m) pc = .ok (.return_, 1)) (hrt : aRT m = 2) (H : nl st (Q 0 h)) : SX G l d m pc ls st h Q := by
  obtain ⟨e0, K2⟩ := nl_inv H
  subst e0
  intro p e1 R s mm args below meth c cells slots Z H0 locs L C hc1 hc2 hR hS hl hs hwh hn hv hret
  have h1 : rTg m = 2 := by unfold rTg; rw [hrt]; rfl
  have h3 := hret 0 h H0 locs pc L K2 hR hS hwh (by rw [h1]; exact wf_none 0) (fun z => by omega) (by unfold rins; rw [h1]; exact hd)
  unfold rst at h3
  rw [h1, hrt] at h3
  exact h3
theorem sx_aret {cc : Nat} (hd : decode (aBY m) pc = .ok (.areturn, 1)) (hrt : aRT m = cc ∧ 30 ≤ cc ∧ cc < 50) (H : pA st fun t v r => nl r (bif Nat.beq t cc || Nat.beq (t + 20) cc then Q v h else False)) : SX G l d m pc ls st h Q := by
  obtain ⟨t, v, r, rfl, ht, K⟩ := pA_inv H
  obtain ⟨e0, K1⟩ := nl_inv K
  subst e0
  obtain ⟨hb, K2⟩ := bif_inv K1
  rw [Bool.or_eq_true] at hb
  have hb := hb.imp beq_tt beq_tt
  intro p e1 R s mm args below meth c cells slots Z H0 locs L C hc1 hc2 hR hS hl hs hwh hn hv hret
  have hx := (List.forall_mem_cons.mp hs).1
  obtain ⟨r1, r2, r3⟩ := hrt
  have h1 : rTg m = cc := by unfold rTg; rw [r1, beq_ff (show cc ≠ 3 by omega)]; rfl
  have hw2 : wfv (cc, v) := by
    rcases hb with e | e
    · rw [← e]; exact hx
    · have h4 := hx.2.2.2.1 ht (show t < 30 by omega)
      refine ⟨fun q => ?_, fun q => ?_, fun q => ?_, fun _ q => ?_, fun _ _ => Or.inr ⟨h4.1, ?_⟩, fun q => ?_⟩
      · exact absurd (show cc = 0 from q) (by omega)
      · exact absurd (show cc = 1 from q) (by omega)
      · exact absurd (show cc = 60 from q) (by omega)
      · exact absurd (show cc < 30 from q) (by omega)
      · have h5 : aKD v.toNat = t := h4.2
        show aKD v.toNat + 20 = cc
        omega
      · exact absurd (show 50 ≤ cc from q) (by omega)
  have h3 := hret v h H0 locs pc L K2 hR hS hwh (by rw [h1]; exact hw2) (fun z => by omega) (by unfold rins; rw [h1, beq_ff (show cc ≠ 0 by omega), beq_ff (show cc ≠ 1 by omega), beq_ff (show cc ≠ 2 by omega)]; exact hd)
  unfold rst at h3
  rw [h1, r1, beq_ff (show cc ≠ 2 by omega), cond_false, cv_rf (by omega) (by omega)] at h3
  rw [List.map_cons, cv_rf ht (by omega)]
  exact h3
end
