/-! switches -/
theorem swt_tb {X : Nat → Prop} {x : Int} {dt pc : Nat} : ∀ (os : List Int) (lo : Int), swt X x dt (tbl pc lo os) → (x < lo → X dt) ∧ (lo + os.length ≤ x → X dt) ∧ ∀ off : Int, lo ≤ x → os[(x - lo).toNat]? = some off → X ((pc : Int) + off).toNat
  | [], lo, H => ⟨fun _ => H, fun _ => H, fun off _ h => by simp at h⟩
  | t :: r, lo, H => by
    unfold tbl swt at H
    cases hb : Nat.beq (((pc : Int) + t).toNat) dt with
    | true =>
      rw [hb] at H
      simp only [cond_true] at H
      obtain ⟨i1, i2, i3⟩ := swt_tb r (lo + 1) H
      refine ⟨fun h => i1 (by omega), fun h => i2 (by simp only [List.length_cons] at h; omega), fun off h1 h2 => ?_⟩
      by_cases hx : x = lo
      · subst hx
        simp at h2
        subst h2
        rw [beq_tt hb]
        exact i1 (by omega)
      · refine i3 off (by omega) ?_
        have e1 : (x - lo).toNat = (x - (lo + 1)).toNat + 1 := by omega
        rw [e1, List.getElem?_cons_succ] at h2
        exact h2
    | false =>
      rw [hb] at H
      simp only [cond_false] at H
      by_cases hx : x = lo
      · refine ⟨fun h => by omega, fun h => by simp only [List.length_cons] at h; omega, fun off h1 h2 => ?_⟩
        have h3 := H.1 hx
        subst hx
        simp at h2
        subst h2
        exact h3
      · obtain ⟨i1, i2, i3⟩ := swt_tb r (lo + 1) (H.2 hx)
        refine ⟨fun h => i1 (by omega), fun h => i2 (by simp only [List.length_cons] at h; omega), fun off h1 h2 => ?_⟩
        refine i3 off (by omega) ?_
        have e1 : (x - lo).toNat = (x - (lo + 1)).toNat + 1 := by omega
        rw [e1, List.getElem?_cons_succ] at h2
        exact h2
theorem off_none {dflt x : Int} : ∀ (r : List (Int × Int)), (∀ q ∈ r, q.1 ≠ x) → Op.lookupswitch.offset r dflt x = dflt
  | [], _ => rfl
  | (a, o) :: r, h => by
    rw [Op.lookupswitch.offset_cons, if_neg (h (a, o) List.mem_cons_self)]
    exact off_none r (fun y hy => h y (List.mem_cons_of_mem _ hy))
theorem swt_lk {X : Nat → Prop} {x : Int} {pc : Nat} {dflt : Int} : ∀ (l : List (Int × Int)), ndk l = true → swt X x ((pc : Int) + dflt).toNat (lks pc l) → X ((pc : Int) + Op.lookupswitch.offset l dflt x).toNat
  | [], _, H => H
  | (k, t) :: r, hn, H => by
    have hn : (r.all (fun q => decide (q.1 ≠ k)) && ndk r) = true := hn
    rw [Bool.and_eq_true] at hn
    unfold lks swt at H
    rw [Op.lookupswitch.offset_cons]
    cases hb : Nat.beq (((pc : Int) + t).toNat) ((pc : Int) + dflt).toNat with
    | true =>
      rw [hb] at H
      simp only [cond_true] at H
      have ih := swt_lk r hn.2 H
      by_cases hx : k = x
      · rw [if_pos hx]
        have hnone : Op.lookupswitch.offset r dflt x = dflt := off_none r (fun q hq e => by
          have := of_decide_eq_true (List.all_eq_true.mp hn.1 q hq)
          omega)
        rw [hnone] at ih
        rw [beq_tt hb]
        exact ih
      · rw [if_neg hx]
        exact ih
    | false =>
      rw [hb] at H
      simp only [cond_false] at H
      by_cases hx : k = x
      · rw [if_pos hx]
        exact H.1 hx.symm
      · rw [if_neg hx]
        exact swt_lk r hn.2 (H.2 (fun e => hx e.symm))
theorem lk_nonneg {pc : Nat} {dflt x : Int} : ∀ (l : List (Int × Int)), (l.all fun q => decide (0 ≤ (pc : Int) + q.2)) = true → 0 ≤ (pc : Int) + dflt → 0 ≤ (pc : Int) + Op.lookupswitch.offset l dflt x
  | [], _, h => h
  | (k, t) :: r, hl, h => by
    rw [List.all_cons, Bool.and_eq_true] at hl
    rw [Op.lookupswitch.offset_cons]
    split
    · exact of_decide_eq_true hl.1
    · exact lk_nonneg r hl.2 h
section
variable {G : SG} {l : Launch} {d m pc : Nat} {ls st : List AV} {h : HP} {Q : PQ}
theorem sx_lookup {dflt : Int} {ps : Array (Int × Int)} {len tg : Nat} (hd : decode (aBY m) pc = .ok (.lookupswitch dflt ps, len)) (hp : (ps.toList.zip (ps.toList.drop 1)).all (fun (a, next) => a.1 < next.1) = true) (hnd : ndk ps.toList = true) (hall : (ps.toList.all fun q => decide (0 ≤ (pc : Int) + q.2)) = true) (ht : (pc : Int) + dflt = (tg : Int))
    (H : pI st fun x st => swt (fun t => SX G l d m t ls st h Q) x tg (lks pc ps.toList)) : SX G l d m pc ls st h Q := by
  obtain ⟨x, r, rfl, K⟩ := pI_inv H
  intro p e R s mm args below meth c cells slots Z H0 locs L C hc1 hc2 hR hS hl hs hw hn hv hret
  have hx := (List.forall_mem_cons.mp hs).1
  have hs := (List.forall_mem_cons.mp hs).2
  have htg : tg = ((pc : Int) + dflt).toNat := by omega
  rw [htg] at K
  have K2 := swt_lk ps.toList hnd K
  have hnn := lk_nonneg (x := x) ps.toList hall (by omega : 0 ≤ (pc : Int) + dflt)
  exact lv_lookup C.1 C.2.1 hd hp (by rw [i32_r x (hx.1 rfl)]) (by omega) (K2 p e R s mm args below meth c cells slots Z H0 locs L C hc1 hc2 hR hS hl hs hw hn hv hret)
theorem sx_table {dflt lo hi : Int} {os : Array Int} {len tg : Nat} (hd : decode (aBY m) pc = .ok (.tableswitch dflt lo hi os, len)) (hsz : lo + os.toList.length = hi + 1) (hall : (os.toList.all fun q => decide (0 ≤ (pc : Int) + q)) = true) (ht : (pc : Int) + dflt = (tg : Int))
    (H : pI st fun x st => swt (fun t => SX G l d m t ls st h Q) x tg (tbl pc lo os.toList)) : SX G l d m pc ls st h Q := by
  obtain ⟨x, r, rfl, K⟩ := pI_inv H
  intro p e R s mm args below meth c cells slots Z H0 locs L C hc1 hc2 hR hS hl hs hw hn hv hret
  have hx := (List.forall_mem_cons.mp hs).1
  have hs := (List.forall_mem_cons.mp hs).2
  have hxi := i32_r x (hx.1 rfl)
  obtain ⟨i1, i2, i3⟩ := swt_tb os.toList lo K
  by_cases h1 : x < lo
  · exact lv_tableOut C.1 C.2.1 hd (by rw [hxi]; exact Or.inl h1) ht (i1 h1 p e R s mm args below meth c cells slots Z H0 locs L C hc1 hc2 hR hS hl hs hw hn hv hret)
  · by_cases h2 : hi < x
    · exact lv_tableOut C.1 C.2.1 hd (by rw [hxi]; exact Or.inr h2) ht (i2 (by omega) p e R s mm args below meth c cells slots Z H0 locs L C hc1 hc2 hR hS hl hs hw hn hv hret)
    · have hlt : (x - lo).toNat < os.toList.length := by omega
      obtain ⟨off, hoff⟩ : ∃ off, os.toList[(x - lo).toNat]? = some off := ⟨_, List.getElem?_eq_getElem hlt⟩
      have hnn := of_decide_eq_true (List.all_eq_true.mp hall off (List.mem_of_getElem? hoff))
      exact lv_tableIn (tgt := ((pc : Int) + off).toNat) C.1 C.2.1 hd (by rw [hxi]; exact h1) (by rw [hxi]; exact h2) (by rw [hxi, ← Array.getElem?_toList]; exact hoff) (by omega) (i3 off (by omega) hoff p e R s mm args below meth c cells slots Z H0 locs L C hc1 hc2 hR hS hl hs hw hn hv hret)
end
