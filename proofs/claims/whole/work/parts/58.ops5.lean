theorem up2_same (h : HP) (a i v : Int) : up2 h a i v a i = v := by
  unfold up2
  rw [if_pos ⟨rfl, rfl⟩]
theorem up2_cell {h : HP} {a i v b j : Int} (hb : b ≠ a) : up2 h a i v b j = h b j := by
  unfold up2
  rw [if_neg (fun e => hb e.1)]
theorem up2_slot {h : HP} {a i v b j : Int} (hb : j ≠ i) : up2 h a i v b j = h b j := by
  unfold up2
  rw [if_neg (fun e => hb e.2)]
theorem wf11 {v : Int} (h : wfv (11, v)) : 1 ≤ v ∧ aKD v.toNat = 11 := h.2.2.2.1 (show (10 : Nat) ≤ 11 by decide) (show (11 : Nat) < 30 by decide)
theorem wf31 {v : Int} (h : wfv (31, v)) : v = 0 ∨ (1 ≤ v ∧ aKD v.toNat = 11) := (h.2.2.2.2.1 (show (30 : Nat) ≤ 31 by decide) (show (31 : Nat) < 50 by decide)).imp id (fun q => ⟨q.1, Nat.add_right_cancel (m := 20) q.2⟩)
theorem wf31_of {v : Int} (h : v = 0 ∨ (1 ≤ v ∧ aKD v.toNat = 11)) : wfv (31, v) := by
  refine ⟨?_, ?_, ?_, fun _ q => absurd (show (31 : Nat) < 30 from q) (by decide), fun _ _ => h.imp id (fun q => ⟨q.1, by show aKD v.toNat + 20 = 31; omega⟩), fun q => absurd (show (50 : Nat) ≤ 31 from q) (by decide)⟩ <;> intro q <;> simp at q
theorem ws_set {G : SG} {h h' : HP} {n : Nat} (h1 : 1 ≤ n) (h2 : n ≤ 193) (hk : ∀ (a i : Int), a ≠ n → h' a i = h a i) : (wsG G h).set (n - 1) (gN G + (n - 1), ent G h' n) = wsG G h' := by
  apply List.ext_getElem?
  intro j
  rw [List.getElem?_set]
  by_cases hj : n - 1 = j
  · subst hj
    rw [if_pos rfl, if_pos (by unfold wsG; simp; omega), ws_at G h' h1 h2]
  · rw [if_neg hj]
    unfold wsG
    rw [List.getElem?_map, List.getElem?_map]
    rcases Nat.lt_or_ge j 193 with hlt | hge
    · rw [List.getElem?_range hlt, Option.map_some, Option.map_some, ent_congr G (j + 1) (fun i => hk _ i (by omega))]
    · rw [List.getElem?_eq_none (by simp; omega)]
      rfl
theorem ws_D (G : SG) (h : HP) : va_D (gA G) (wsG G h) := by
  have key : ∀ (k : Nat) (q : Nat × va_E), (wsG G h)[k]? = some q → q.1 = gN G + k := by
    intro k q hk
    unfold wsG at hk
    rw [List.getElem?_map] at hk
    rcases Nat.lt_or_ge k 193 with hlt | hge
    · rw [List.getElem?_range hlt, Option.map_some] at hk
      cases hk
      rfl
    · rw [List.getElem?_eq_none (by simp; omega)] at hk
      cases hk
  refine ⟨fun i j p q hi hj e => ?_, fun k q hk => ?_⟩
  · have a1 := key i p hi
    have a2 := key j q hj
    omega
  · have a1 := key k q hk
    show gN G ≤ q.1
    omega
theorem rel_set {G : SG} {h h' : HP} {H H1 : Heap} (hR : Rel G h H) (hP : va_P (gD G) vwCl (wsG G h') H1) (h1 : ∀ j : Int, h' (-1) j = h (-1) j) (h2 : h' (-2) 0 = h (-2) 0) : Rel G h' H1 :=
  ⟨hP, fun j hj => by rw [h1]; exact hR.2.1 j hj, by rw [h2]; exact hR.2.2.1, hR.2.2.2⟩
section
variable {G : SG} {l : Launch} {d m pc : Nat} {ls st : List AV} {h : HP} {Q : PQ}
theorem sx_getf {ix a b c e : Nat} {z : Int} (hd : decode (aBY m) pc = .ok (.getfield ix, 3)) (ha : a < 13) (hb : b < vN a) (hw : Jvm.Cond.fieldLink (vO (aOW m)) ix (vR a) (vT a b).2.1 (vT a b).2.2.1 ∈ TW) (hown : (vT a b).1 = vR a)
    (hc : c = (fK a b).2.1) (he : Nat.beq e 1 = Nat.beq (fK a b).1 1) (hz : Nat.beq e 1 = true → z = (fK a b).2.2)
    (H : pA st fun t k st => nnR t a k (SX G l d m (pc + 3) ls ((c, bif Nat.beq e 1 then k + z else h k b) :: st) h Q)) : SX G l d m pc ls st h Q := by
  obtain ⟨t, k, r, rfl, ht, K⟩ := pA_inv H
  intro p e0 R s mm args below meth c0 cells slots Z H0 locs L C hc1 hc2 hR hS hl hs hwh hn hv hret
  have hx := (List.forall_mem_cons.mp hs).1
  have hs := (List.forall_mem_cons.mp hs).2
  obtain ⟨K, t1, t2, hk, hkd⟩ := am_recv ha hx K
  have hlt := kd_lt (a := k.toNat) (by omega)
  have hfv := fV_get (G := G) ha hb hk hkd hwh
  have e1 : (bif Nat.beq e 1 then k + z else h k b) = (bif Nat.beq (fK a b).1 1 then k + (fK a b).2.2 else h k b) := by
    rw [← he]
    cases hq : Nat.beq e 1 with
    | true => rw [hz hq]
    | false => rfl
  rw [e1, hc] at K
  have K2 := K p e0 R s mm args below meth c0 cells slots Z H0 locs L C hc1 hc2 hR hS hl (List.forall_mem_cons.mpr ⟨hfv.2, hs⟩) hwh hn hv hret
  rw [List.map_cons, ← hfv.1] at K2
  rw [List.map_cons, cv_rf t1 t2, rfv_pos hk]
  refine va_get C.1 C.2.1 C.2.2.2.2.1 (in_at a ha) C.2.2.2.1 C.2.2.2.2.2.1.1 hR.1 (k.toNat - 1) (by rw [ws_at G h hlt.1 hlt.2, ent_obj hkd ha]) (vw_at a ha) b hb (C.2.2.2.2.1 _ hw) (fun x hx => by rw [hown] at hx; exact hx) (v := fV G a b k h) ?_ hd K2
  rw [fVs_at hb, natK hk]
theorem sx_putf {ix a b c : Nat} (hd : decode (aBY m) pc = .ok (.putfield ix, 3)) (ha : a < 13) (hb : b < vN a) (hw : Jvm.Cond.fieldLink (vO (aOW m)) ix (vR a) (vT a b).2.1 (vT a b).2.2.1 ∈ TW) (hown : (vT a b).1 = vR a) (hfin : (vT a b).2.2.2 = false)
    (hc : (c = 0 ∧ (fK a b).1 = 0 ∧ vTy a b = .int) ∨ (c = 1 ∧ (fK a b).1 = 3 ∧ vTy a b = .boolean) ∨ (c = 2 ∧ (fK a b).1 = 2 ∧ vTy a b = .object RX1))
    (H : pV st fun u v st => pA st fun t k st =>
      bif (bif Nat.beq c 2 then Nat.beq u 11 || Nat.beq u 31 else Nat.beq u 0) then
        nnR t a k (bif Nat.beq c 1 then isB v ∧ ∀ h' : HP, h' = up2 h k b v → SX G l d m (pc + 3) ls st h' Q else ∀ h' : HP, h' = up2 h k b v → SX G l d m (pc + 3) ls st h' Q)
      else False) : SX G l d m pc ls st h Q := by
  obtain ⟨u, v, r, rfl, hu, K⟩ := pV_inv H
  obtain ⟨t, k, r, rfl, ht, K⟩ := pA_inv K
  obtain ⟨hbt, K⟩ := bif_inv K
  intro p e0 R s mm args below meth c0 cells slots Z H0 locs L C hc1 hc2 hR hS hl hs hwh hn hv hret
  have hx := (List.forall_mem_cons.mp hs).1
  have hs := (List.forall_mem_cons.mp hs).2
  have hy := (List.forall_mem_cons.mp hs).1
  have hs := (List.forall_mem_cons.mp hs).2
  obtain ⟨K, t1, t2, hk, hkd⟩ := am_recv ha hy K
  have hlt := kd_lt (a := k.toNat) (by omega)
  have hlay := lay_at hkd ha hb
  have K0 : (c = 1 → isB v) ∧ SX G l d m (pc + 3) ls r (up2 h k b v) Q := by
    cases hq : Nat.beq c 1 with
    | true => rw [hq] at K; exact ⟨fun _ => K.1, K.2 _ rfl⟩
    | false => rw [hq] at K; exact ⟨fun e => by rw [e] at hq; exact absurd hq (by decide), K _ rfl⟩
  have hne : (fK a b).1 ≠ 1 := by rcases hc with h0 | h0 | h0 <;> omega
  have hk136 : k ≠ 136 := by
    intro e
    rw [e] at hkd
    have h3 : aKD 136 = 51 := by decide +kernel
    have e3 : (136 : Int).toNat = 136 := rfl
    rw [e3] at hkd
    omega
  have hfV : cv G (u, v) = fV G a b k (up2 h k b v) := by
    unfold fV
    rw [beq_ff hne, cond_false, up2_same]
    rcases hc with ⟨q1, q2, -⟩ | ⟨q1, q2, -⟩ | ⟨q1, q2, -⟩
    · subst q1
      rw [q2]
      have : u = 0 := beq_tt hbt
      rw [this]
      rfl
    · subst q1
      rw [q2]
      have : u = 0 := beq_tt hbt
      rw [this]
      rfl
    · subst q1
      rw [q2]
      have h3 : (Nat.beq u 11 || Nat.beq u 31) = true := hbt
      rw [Bool.or_eq_true] at h3
      have : u = 11 ∨ u = 31 := h3.imp beq_tt beq_tt
      exact cv_rf (by omega) (by omega)
  have hwh' : wfh (up2 h k b v) := by
    have hcode : ∀ (x y : Int), wfv (31, h x y) → (k = x → (b : Int) = y → c = 2) → wfv (31, up2 h k b v x y) := by
      intro x y h1 h2
      by_cases hxy : x = k ∧ y = b
      · obtain ⟨rfl, rfl⟩ := hxy
        have hc2' := h2 rfl rfl
        subst hc2'
        rw [up2_same]
        have h3 : (Nat.beq u 11 || Nat.beq u 31) = true := hbt
        rw [Bool.or_eq_true] at h3
        rcases h3.imp beq_tt beq_tt with e | e
        · subst e
          exact wf31_of (Or.inr (wf11 hx))
        · subst e
          exact hx
      · have : up2 h k b v x y = h x y := by unfold up2; rw [if_neg hxy]
        rw [this]
        exact h1
    have hnc : ∀ x y : Nat, k = (x : Int) → ((b : Nat) : Int) = (y : Int) → (x = 91 ∧ y = 1 ∨ x = 92 ∧ y = 7) → c = 2 := by
      intro x y q1 q2 q3
      have b1 : b = y := by omega
      have k1 : k.toNat = x := by omega
      unfold layB at hlay
      have e2 : aKD k.toNat - 10 = a := by omega
      rw [e2, k1] at hlay
      rcases hc with ⟨-, h0, -⟩ | ⟨-, h0, -⟩ | ⟨h0, -⟩
      · generalize fK a b = q at hlay h0
        obtain ⟨md, tt, zz⟩ := q
        dsimp only at h0 hlay
        subst h0
        rcases q3 with ⟨w1, w2⟩ | ⟨w1, w2⟩
        · subst w1; subst w2; subst b1; simp at hlay
        · subst w1; subst w2; subst b1; simp at hlay
      · generalize fK a b = q at hlay h0
        obtain ⟨md, tt, zz⟩ := q
        dsimp only at h0 hlay
        subst h0
        rcases q3 with ⟨w1, w2⟩ | ⟨w1, w2⟩
        · subst w1; subst w2; subst b1; simp at hlay
        · subst w1; subst w2; subst b1; simp at hlay
      · exact h0
    refine ⟨fun x y hxn => ?_, fun y => ?_, hcode 91 1 hwh.2.2.1 (fun q1 q2 => hnc 91 1 q1 q2 (Or.inl ⟨rfl, rfl⟩)), hcode 92 7 hwh.2.2.2 (fun q1 q2 => hnc 92 7 q1 q2 (Or.inr ⟨rfl, rfl⟩))⟩
    · by_cases hxy : x = k ∧ y = b
      · obtain ⟨rfl, rfl⟩ := hxy
        rw [up2_same]
        rcases hc with ⟨q1, -, -⟩ | ⟨q1, -, -⟩ | ⟨q1, -, -⟩
        · subst q1
          have e0 : u = 0 := beq_tt hbt
          subst e0
          exact hx.1 rfl
        · subst q1
          have e0 : u = 0 := beq_tt hbt
          subst e0
          exact hx.1 rfl
        · subst q1
          have h3 : (Nat.beq u 11 || Nat.beq u 31) = true := hbt
          rw [Bool.or_eq_true] at h3
          have hr : v = 0 ∨ (1 ≤ v ∧ aKD v.toNat = 11) := by
            rcases h3.imp beq_tt beq_tt with e | e
            · subst e
              exact Or.inr (wf11 hx)
            · subst e
              exact wf31 hx
          rcases hr with e | ⟨e1, e2⟩
          · rw [e]; exact ⟨by decide, by decide⟩
          · have h6 := kd_lt (a := v.toNat) (by omega)
            exact ⟨by omega, by omega⟩
      · have : up2 h k b v x y = h x y := by unfold up2; rw [if_neg hxy]
        rw [this]
        exact hwh.1 x y hxn
    · rw [up2_cell (fun e => hk136 e.symm)]
      exact hwh.2.1 y
  have hset : (wsG G h).set (k.toNat - 1) (gN G + (k.toNat - 1), .inr (a, (fVs G a k.toNat h).set b (cv G (u, v)))) = wsG G (up2 h k b v) := by
    rw [← ws_set (G := G) (h := h) (h' := up2 h k b v) (n := k.toNat) hlt.1 hlt.2 (fun x y hxn => up2_cell (by rw [natK hk] at hxn; exact hxn)), ent_obj hkd ha]
    congr 4
    rw [hfV, natK hk]
    apply List.ext_getElem?
    intro j
    rw [List.getElem?_set]
    by_cases hj : b = j
    · subst hj
      rw [if_pos rfl, if_pos (by unfold fVs; simpa using hb), fVs_at hb]
    · rw [if_neg hj]
      unfold fVs
      rw [List.getElem?_map, List.getElem?_map]
      rcases Nat.lt_or_ge j (vN a) with hlt2 | hge2
      · rw [List.getElem?_range hlt2, Option.map_some, Option.map_some]
        congr 1
        unfold fV
        rw [up2_slot (by omega)]
      · rw [List.getElem?_eq_none (by simp; omega)]
        rfl
  have hnf : narrow (vTy a b) (cv G (u, v)) = cv G (u, v) ∧ fits (vTy a b) (cv G (u, v)) = true := by
    rcases hc with ⟨q1, -, q3⟩ | ⟨q1, -, q3⟩ | ⟨q1, -, q3⟩
    · subst q1
      have e0 : u = 0 := beq_tt hbt
      rw [q3, e0]
      exact ⟨rfl, rfl⟩
    · subst q1
      have e0 : u = 0 := beq_tt hbt
      rw [q3, e0]
      rcases K0.1 rfl with e | e <;> subst e <;> exact ⟨rfl, rfl⟩
    · subst q1
      have h3 : (Nat.beq u 11 || Nat.beq u 31) = true := hbt
      rw [Bool.or_eq_true] at h3
      have hu10 : 10 ≤ u := by rcases h3.imp beq_tt beq_tt with e | e <;> omega
      rw [q3]
      rcases cv_ref (G := G) (z := v) hu10 with e | ⟨x, e⟩ <;> rw [e] <;> exact ⟨rfl, rfl⟩
  rw [List.map_cons, List.map_cons, cv_rf t1 t2, rfv_pos hk]
  refine va_put C.1 C.2.1 C.2.2.2.2.1 (in_at a ha) (vTy a) (ty_at a ha) (nm_at a ha) C.2.2.2.1 C.2.2.2.2.2.1.1 hR.1 (ws_D G h) hS (k.toNat - 1) (fs := fVs G a k.toNat h) (by rw [ws_at G h hlt.1 hlt.2, ent_obj hkd ha]) (vw_at a ha) b hb (C.2.2.2.2.1 _ hw) (fun x hx => by rw [hown] at hx; exact hx) hfin (ty_at a ha b hb) hnf.1 hnf.2 (by unfold fVs; simpa using hb) hd (fun H1 locs1 hP hD hS1 => ?_)
  rw [hset] at hP
  exact K0.2 p e0 R s mm args below meth c0 cells slots Z H1 locs1 L C hc1 hc2 (rel_set hR hP (fun j => up2_cell (by omega)) (up2_cell (by omega))) hS1 hl hs hwh' hn hv hret
end
