theorem b2 {a b : Bool} (h : (a && b) = true) : a = true ∧ b = true := by rwa [Bool.and_eq_true] at h
theorem b3 {a b c : Bool} (h : (a && b && c) = true) : a = true ∧ b = true ∧ c = true := ⟨(b2 (b2 h).1).1, (b2 (b2 h).1).2, (b2 h).2⟩
theorem b4 {a b c d : Bool} (h : (a && b && c && d) = true) : a = true ∧ b = true ∧ c = true ∧ d = true := ⟨(b3 (b2 h).1).1, (b3 (b2 h).1).2.1, (b3 (b2 h).1).2.2, (b2 h).2⟩
theorem b5 {a b c d e : Bool} (h : (a && b && c && d && e) = true) : a = true ∧ b = true ∧ c = true ∧ d = true ∧ e = true := ⟨(b4 (b2 h).1).1, (b4 (b2 h).1).2.1, (b4 (b2 h).1).2.2.1, (b4 (b2 h).1).2.2.2, (b2 h).2⟩
theorem b7 {a b c d e f g : Bool} (h : (a && b && c && d && e && f && g) = true) : a = true ∧ b = true ∧ c = true ∧ d = true ∧ e = true ∧ f = true ∧ g = true := ⟨(b5 (b2 (b2 h).1).1).1, (b5 (b2 (b2 h).1).1).2.1, (b5 (b2 (b2 h).1).1).2.2.1, (b5 (b2 (b2 h).1).1).2.2.2.1, (b5 (b2 (b2 h).1).1).2.2.2.2, (b2 (b2 h).1).2, (b2 h).2⟩
theorem b8 {a b c d e f g i : Bool} (h : (a && b && c && d && e && f && g && i) = true) : a = true ∧ b = true ∧ c = true ∧ d = true ∧ e = true ∧ f = true ∧ g = true ∧ i = true := ⟨(b7 (b2 h).1).1, (b7 (b2 h).1).2.1, (b7 (b2 h).1).2.2.1, (b7 (b2 h).1).2.2.2.1, (b7 (b2 h).1).2.2.2.2.1, (b7 (b2 h).1).2.2.2.2.2.1, (b7 (b2 h).1).2.2.2.2.2.2, (b2 h).2⟩
theorem bo {a b : Bool} (h : (a || b) = true) : a = true ∨ b = true := by rwa [Bool.or_eq_true] at h
theorem bn {a : Bool} (h : (!a) = true) : a = false := by rwa [Bool.not_eq_true'] at h
theorem dk {m pc L : Nat} {ins : Instr} (h : dOK m pc ins L = true) : decode (aBY m) pc = .ok (ins, L) := of_decide_eq_true h
theorem lt_tt {a b : Nat} (h : Nat.blt a b = true) : a < b := by rwa [Nat.blt_eq] at h
theorem le_tt {a b : Nat} (h : Nat.ble a b = true) : a ≤ b := Nat.le_of_ble_eq_true h
theorem ow_lt {m : Nat} (hm : m < 264) : aOW m < 14 := lt_tt (List.all_eq_true.mp ow_ok m (List.mem_range.mpr hm))
theorem fl_mem {m ix a b : Nat} (hm : m < 264) (h : flB m ix a b = true) : Jvm.Cond.fieldLink (vO (aOW m)) ix (vR a) (vT a b).2.1 (vT a b).2.2.1 ∈ TW := by
  obtain ⟨q, hq, h1⟩ := List.any_eq_true.mp h
  obtain ⟨k1, k2⟩ := b2 h1
  obtain ⟨k2, k3⟩ := b2 k2
  have e := of_decide_eq_true (List.all_eq_true.mp (FLk_ok _ (ow_lt hm)) q hq)
  rw [beq_tt k1, beq_tt k2, beq_tt k3] at e
  exact TW_pos _ e rfl
theorem mk_mem {m ix tg : Nat} (hm : m < 264) (h : mkB m ix tg = true) : Jvm.Cond.methodLink (vO (aOW m)) ix (aY tg) ∈ TW := by
  obtain ⟨q, hq, h1⟩ := List.any_eq_true.mp h
  obtain ⟨k1, k2⟩ := b2 h1
  have e := of_decide_eq_true (List.all_eq_true.mp (MKk_ok _ (ow_lt hm)) q hq)
  rw [beq_tt k1, beq_tt k2] at e
  exact TW_pos _ e rfl
theorem nk_mem {m ix tg : Nat} (h : nkB m ix tg = true) : ∃ q ∈ NKs, NKw q = Jvm.Cond.methodLinkNest (vO (aOW m)) ix (aY tg) "BranchTypes" := by
  obtain ⟨q, hq, h1⟩ := List.any_eq_true.mp h
  obtain ⟨k1, k2⟩ := b2 h1
  obtain ⟨k2, k3⟩ := b2 k2
  refine ⟨q, hq, ?_⟩
  unfold NKw
  rw [beq_tt k1, beq_tt k2, beq_tt k3]
theorem jk_mem {m ix e : Nat} (h : jkB m ix e = true) : Jvm.Cond.methodLink (vO (aOW m)) ix (jN e) ∈ TW := by
  obtain ⟨q, hq, h1⟩ := List.any_eq_true.mp h
  obtain ⟨k1, k2⟩ := b2 h1
  obtain ⟨k2, k3⟩ := b2 k2
  have e1 := of_decide_eq_true (List.all_eq_true.mp JK_ok q hq)
  rw [beq_tt k1, beq_tt k2, beq_tt k3] at e1
  exact TW_pos _ e1 rfl
theorem ck_mem {m ix : Nat} {z : Int} (h : ckB m ix z = true) : Jvm.Cond.constantLong (vO (aOW m)) ix (Int64.ofInt z) ∈ TW := by
  obtain ⟨q, hq, h1⟩ := List.any_eq_true.mp h
  obtain ⟨k1, k2⟩ := b2 h1
  obtain ⟨k2, k3⟩ := b2 k2
  have e1 := of_decide_eq_true (List.all_eq_true.mp CK_ok q hq)
  rw [beq_tt k1, beq_tt k2, of_decide_eq_true k3] at e1
  exact TW_pos _ e1 rfl
theorem vO_R {c : Nat} (h : c < 13) : vO c = vR c := by
  match c, h with
  | 0, _ => rfl
  | 1, _ => rfl
  | 2, _ => rfl
  | 3, _ => rfl
  | 4, _ => rfl
  | 5, _ => rfl
  | 6, _ => rfl
  | 7, _ => rfl
  | 8, _ => rfl
  | 9, _ => rfl
  | 10, _ => rfl
  | 11, _ => rfl
  | 12, _ => rfl
  | n + 13, h => omega
theorem own_at {a b : Nat} (ha : a < 13) (hb : b < vN a) : (vT a b).1 = vR a := of_decide_eq_true (List.all_eq_true.mp (List.all_eq_true.mp vT_own a (List.mem_range.mpr ha)) b (List.mem_range.mpr hb))

theorem fm_all {tg : Nat} (h1 : 1 ≤ tg) (h2 : tg < 264) : fmB tg = true := ((Nat.lt_or_ge tg 131).elim (fun _ => ((Nat.lt_or_ge tg 61).elim (fun _ => ((Nat.lt_or_ge tg 31).elim (fun _ => ((Nat.lt_or_ge tg 11).elim (fun _ => (List.all_eq_true.mp fm_1 tg (List.mem_range'_1.mpr ⟨by omega, by omega⟩))) (fun _ => ((Nat.lt_or_ge tg 21).elim (fun _ => (List.all_eq_true.mp fm_11 tg (List.mem_range'_1.mpr ⟨by omega, by omega⟩))) (fun _ => (List.all_eq_true.mp fm_21 tg (List.mem_range'_1.mpr ⟨by omega, by omega⟩))))))) (fun _ => ((Nat.lt_or_ge tg 41).elim (fun _ => (List.all_eq_true.mp fm_31 tg (List.mem_range'_1.mpr ⟨by omega, by omega⟩))) (fun _ => ((Nat.lt_or_ge tg 51).elim (fun _ => (List.all_eq_true.mp fm_41 tg (List.mem_range'_1.mpr ⟨by omega, by omega⟩))) (fun _ => (List.all_eq_true.mp fm_51 tg (List.mem_range'_1.mpr ⟨by omega, by omega⟩))))))))) (fun _ => ((Nat.lt_or_ge tg 91).elim (fun _ => ((Nat.lt_or_ge tg 71).elim (fun _ => (List.all_eq_true.mp fm_61 tg (List.mem_range'_1.mpr ⟨by omega, by omega⟩))) (fun _ => ((Nat.lt_or_ge tg 81).elim (fun _ => (List.all_eq_true.mp fm_71 tg (List.mem_range'_1.mpr ⟨by omega, by omega⟩))) (fun _ => (List.all_eq_true.mp fm_81 tg (List.mem_range'_1.mpr ⟨by omega, by omega⟩))))))) (fun _ => ((Nat.lt_or_ge tg 111).elim (fun _ => ((Nat.lt_or_ge tg 101).elim (fun _ => (List.all_eq_true.mp fm_91 tg (List.mem_range'_1.mpr ⟨by omega, by omega⟩))) (fun _ => (List.all_eq_true.mp fm_101 tg (List.mem_range'_1.mpr ⟨by omega, by omega⟩))))) (fun _ => ((Nat.lt_or_ge tg 121).elim (fun _ => (List.all_eq_true.mp fm_111 tg (List.mem_range'_1.mpr ⟨by omega, by omega⟩))) (fun _ => (List.all_eq_true.mp fm_121 tg (List.mem_range'_1.mpr ⟨by omega, by omega⟩))))))))))) (fun _ => ((Nat.lt_or_ge tg 201).elim (fun _ => ((Nat.lt_or_ge tg 161).elim (fun _ => ((Nat.lt_or_ge tg 141).elim (fun _ => (List.all_eq_true.mp fm_131 tg (List.mem_range'_1.mpr ⟨by omega, by omega⟩))) (fun _ => ((Nat.lt_or_ge tg 151).elim (fun _ => (List.all_eq_true.mp fm_141 tg (List.mem_range'_1.mpr ⟨by omega, by omega⟩))) (fun _ => (List.all_eq_true.mp fm_151 tg (List.mem_range'_1.mpr ⟨by omega, by omega⟩))))))) (fun _ => ((Nat.lt_or_ge tg 181).elim (fun _ => ((Nat.lt_or_ge tg 171).elim (fun _ => (List.all_eq_true.mp fm_161 tg (List.mem_range'_1.mpr ⟨by omega, by omega⟩))) (fun _ => (List.all_eq_true.mp fm_171 tg (List.mem_range'_1.mpr ⟨by omega, by omega⟩))))) (fun _ => ((Nat.lt_or_ge tg 191).elim (fun _ => (List.all_eq_true.mp fm_181 tg (List.mem_range'_1.mpr ⟨by omega, by omega⟩))) (fun _ => (List.all_eq_true.mp fm_191 tg (List.mem_range'_1.mpr ⟨by omega, by omega⟩))))))))) (fun _ => ((Nat.lt_or_ge tg 231).elim (fun _ => ((Nat.lt_or_ge tg 211).elim (fun _ => (List.all_eq_true.mp fm_201 tg (List.mem_range'_1.mpr ⟨by omega, by omega⟩))) (fun _ => ((Nat.lt_or_ge tg 221).elim (fun _ => (List.all_eq_true.mp fm_211 tg (List.mem_range'_1.mpr ⟨by omega, by omega⟩))) (fun _ => (List.all_eq_true.mp fm_221 tg (List.mem_range'_1.mpr ⟨by omega, by omega⟩))))))) (fun _ => ((Nat.lt_or_ge tg 251).elim (fun _ => ((Nat.lt_or_ge tg 241).elim (fun _ => (List.all_eq_true.mp fm_231 tg (List.mem_range'_1.mpr ⟨by omega, by omega⟩))) (fun _ => (List.all_eq_true.mp fm_241 tg (List.mem_range'_1.mpr ⟨by omega, by omega⟩))))) (fun _ => ((Nat.lt_or_ge tg 261).elim (fun _ => (List.all_eq_true.mp fm_251 tg (List.mem_range'_1.mpr ⟨by omega, by omega⟩))) (fun _ => (List.all_eq_true.mp fm_261 tg (List.mem_range'_1.mpr ⟨by omega, by omega⟩))))))))))))
theorem fm_of {tg : Nat} (h1 : 1 ≤ tg) (h2 : tg < 264) : FM tg ∧ aOW tg < 13 ∧ (aST tg = true → Jvm.Cond.static (aY tg) ∈ TW) ∧ (aST tg = false → Jvm.Cond.instanceMethod (aY tg) ∈ TW ∧ Jvm.Cond.selects (aY tg).cls (aY tg) (aY tg) ∈ TW) := by
  have h := fm_all h1 h2
  unfold fmB at h
  obtain ⟨h, k10⟩ := b2 h
  obtain ⟨h, k9⟩ := b2 h
  obtain ⟨h, k8⟩ := b2 h
  obtain ⟨h, k7⟩ := b2 h
  obtain ⟨h, k6⟩ := b2 h
  obtain ⟨k1, k2, k3, k4, k5⟩ := b5 h
  refine ⟨⟨TW_pos _ (of_decide_eq_true k1) rfl, TW_pos _ (of_decide_eq_true k2) rfl, k3, ⟨of_decide_eq_true k4, of_decide_eq_true k5⟩, of_decide_eq_true k6, le_tt k7, ?_⟩, lt_tt k8, fun e => ?_, fun e => ?_⟩
  · rcases bo k9 with q | q
    · exact Or.inl ⟨beq_tt (b2 q).1, of_decide_eq_true (b2 q).2⟩
    · rcases bo q with q | q
      · exact Or.inr (Or.inl ⟨beq_tt (b2 q).1, of_decide_eq_true (b2 q).2⟩)
      · rcases bo q with q | q
        · exact Or.inr (Or.inr (Or.inl ⟨beq_tt (b2 q).1, of_decide_eq_true (b2 q).2⟩))
        · rcases bo q with q | q
          · exact Or.inr (Or.inr (Or.inr (Or.inl ⟨beq_tt (b2 q).1, of_decide_eq_true (b2 q).2⟩)))
          · obtain ⟨q1, q2, q3⟩ := b3 q
            refine Or.inr (Or.inr (Or.inr (Or.inr ⟨le_tt q1, lt_tt q2, ?_⟩)))
            rcases bo q3 with w | w
            · exact ⟨_, of_decide_eq_true w⟩
            · exact ⟨_, of_decide_eq_true w⟩
  · rw [e] at k10
    exact TW_pos _ (of_decide_eq_true k10) rfl
  · rw [e, cond_false] at k10
    obtain ⟨q1, q2⟩ := b2 k10
    refine ⟨TW_pos _ (of_decide_eq_true q1) rfl, ?_⟩
    cases hb : Nat.beq (aPS tg).2.2 9999 with
    | false =>
      rw [hb, cond_false] at q2
      exact TW_pos _ (of_decide_eq_true q2) rfl
    | true =>
      rw [hb, cond_true] at q2
      obtain ⟨x, hx, hy⟩ := List.any_eq_true.mp q2
      have e2 : x.1 = aY tg := of_decide_eq_true hy
      refine TW_of (List.mem_append_left _ ?_) rfl
      refine List.mem_map.mpr ⟨x, hx, ?_⟩
      rw [e2]
