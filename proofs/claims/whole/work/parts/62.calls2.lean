theorem nolg_app : ∀ {a b : List AV}, nolg (a ++ b) = true → nolg a = true
  | [], _, _ => rfl
  | (t, z) :: r, b, h => by
    have h : (!(Nat.beq t 1) && nolg (r ++ b)) = true := h
    rw [Bool.and_eq_true] at h
    show (!(Nat.beq t 1) && nolg r) = true
    rw [Bool.and_eq_true]
    exact ⟨h.1, nolg_app h.2⟩
theorem blind_G {G : SG} {as : List AV} {h : HP} : FrameBlind (PcG G as h) := fun a U g mk q => ⟨q.1, q.2.1, KK_same rfl rfl q.2.2⟩
section
variable {G : SG} {l : Launch} {d m pc : Nat} {ls st : List AV} {h : HP} {Q : PQ}
/-- behind a call -/
theorem call_go {p : Program} {e : Env} {R : Room} {s : State} {mm : MethodId} {args : Array Value} {below : List Frame} {meth : Method} {c0 : Code} {cells slots : Nat} {Z : State → Prop} {H : Heap} {locs : List Loc} {L : Array Slot} {st0 : List Value} {rest : List AV} {tg c : Nat} {a : Array Value}
    (hrun : va_Run p l e R s mm args below meth c0 H locs cells slots 0 0 (F0 mm pc L st0) (rest.map (cv G)) (QcG G tg (fun r h' => SX G l d m (pc + 3) ls (pshR c r rest) h' Q) a) (gA G))
    (hc : c = rTg tg) (hrt : aRT tg ≠ 2 → rTg tg ≠ 2) (C : CTX G d m p s mm args c0 R) (hc1 : cells ≤ R.cells) (hc2 : slots ≤ R.slots) (hS : va_S (gA G) s.heap H locs) (hl : ∀ v ∈ ls, wfv v) (hs : ∀ v ∈ rest, wfv v) (hn : ls.length = aNL m) (hv : lvr G L (aNL m) ls)
    (hret : HRT G l m p e R s mm args below meth c0 cells slots Z Q) : W p l e R s mm args below meth c0 H locs cells slots Z (F0 mm pc L st0) := by
  intro T hT X
  obtain ⟨v, st₀, t, T', L', h0, X', hL, e1, e2, ⟨r, h', hv2, hY, hR', hw', hwr, hz, hk⟩, stp⟩ := hrun T hT X
  have hv2 : v = rv G tg r := by injection hv2
  rw [h0] at hz hk
  have hS' : va_S (gA G) s.heap t.heap (locs ++ L') := ⟨Nat.le_trans hS.1 hz, fun q h1 h2 => by rw [hk q (Nat.lt_of_lt_of_le h1 hS.1) h2]; exact hS.2.1 q h1 h2, fun q hq => by
      rcases List.mem_append.mp hq with h | h
      · exact hS.2.2 q h
      · exact hL q h⟩
  have hst : v.toList ++ rest.map (cv G) = (pshR c r rest).map (cv G) := by
    rw [hv2]
    unfold rv pshR
    by_cases h2 : aRT tg = 2
    · have h3 : rTg tg = 2 := by unfold rTg; rw [h2]; rfl
      rw [h2, hc, h3]
      rfl
    · rw [beq_ff h2, hc, beq_ff (hrt h2)]
      rfl
  have hsw : ∀ v ∈ pshR c r rest, wfv v := by
    unfold pshR
    cases hb : Nat.beq c 2 with
    | true => exact hs
    | false => exact List.forall_mem_cons.mpr ⟨by rw [hc]; exact hwr, hs⟩
  have K := hY p e R s mm args below meth c0 cells slots Z t.heap (locs ++ L') L C hc1 hc2 hR' hS' hl hsw hw' hn hv hret
  rw [← hst] at K
  obtain ⟨t2, a1, b1⟩ := K T' e1 X'
  exact ⟨t2, stp t2 a1, b1⟩
theorem rTg_ne {tg : Nat} (h : aRT tg ≠ 2) : rTg tg ≠ 2 := by
  unfold rTg
  cases hb : Nat.beq (aRT tg) 3 with
  | true => exact (by decide : (0 : Nat) ≠ 2)
  | false => exact h
theorem sx_callV {ix a b c tg : Nat} (hd : decode (aBY m) pc = .ok (.invokevirtual ix, 3)) (hF : FM tg) (hml : Jvm.Cond.methodLink (vO (aOW m)) ix (aY tg) ∈ TW) (him : Jvm.Cond.instanceMethod (aY tg) ∈ TW) (hse : Jvm.Cond.selects (vR b) (aY tg) (aY tg) ∈ TW) (hcl : (aY tg).cls = vR b) (hb : b < 13) (ha : a = aNA tg + 1) (hal : a ≤ aNL tg) (hc : c = rTg tg) (hlen : a ≤ st.length)
    (H : mkV (mkL a (aNL tg - a) [] st) fun t k al rest => nnR t b k (0 < d ∧ SX G l (d - 1) tg 0 ((10 + b, k) :: al) [] h (fun r h' => SX G l d m (pc + 3) ls (pshR c r rest) h' Q))) : SX G l d m pc ls st h Q := by
  rw [mkL_spec _ _ _ _ hlen] at H
  have hsp : st = (st.take a).reverse.reverse ++ st.drop a := by rw [List.reverse_reverse, List.take_append_drop]
  have hlA : (st.take a).reverse.length = a := by rw [List.length_reverse, List.length_take]; omega
  generalize (st.take a).reverse = A at H hsp hlA
  generalize st.drop a = rest at H hsp
  subst hsp
  unfold mkV at H
  cases A with
  | nil => simp at hlA; omega
  | cons q A' =>
    obtain ⟨t, k⟩ := q
    simp only [List.cons_append, List.append_nil] at H
    obtain ⟨hb2, K⟩ := bif_inv H
    rw [Bool.and_eq_true] at hb2
    have hw8 := Nat.le_of_ble_eq_true hb2.1
    have hnl := nolg_app hb2.2
    intro p e R s mm args below meth c0 cells slots Z H0 locs L C hc1 hc2 hR hS hl hs hwh hn hv hret
    have hsA : ∀ v ∈ (t, k) :: A', wfv v := fun v hv => hs v (List.mem_append_left _ (List.mem_reverse.mpr hv))
    have hsr : ∀ v ∈ rest, wfv v := fun v hv => hs v (List.mem_append_right _ hv)
    obtain ⟨⟨hd0, K2⟩, t1, t2, hk, hkd⟩ := am_recv hb (hsA _ List.mem_cons_self) K
    have hlt := kd_lt (a := k.toNat) (by omega)
    have hla : A'.length = aNA tg := by simp at hlA; omega
    have hwa : ∀ v ∈ ((10 + b, k) :: A' : List AV), wfv v := List.forall_mem_cons.mpr ⟨wf_ref (Or.inl ⟨by omega, by omega⟩) hk hkd, fun v hv => hsA v (List.mem_cons_of_mem _ hv)⟩
    have hM := met_of (as := (10 + b, k) :: A') hF hwa (by show (!(Nat.beq (10 + b) 1) && nolg A') = true; rw [beq_ff (by omega), hnl]; rfl) (by rw [List.length_cons]; omega) hwh (l := l) (d := d - 1) (Y := fun r h' => SX G l d m (pc + 3) ls (pshR c r rest) h' Q) (by
      rw [List.cons_append, List.length_cons, show aNL tg - (A'.length + 1) = aNL tg - a by omega]
      exact K2)
    have hCR := C.2.2.2.2.2.2
    refine call_go (tg := tg) (va_runV (b := gN G + (k.toNat - 1)) (As := A'.map (cv G)) (rest := rest.map (cv G)) (nL := aNL m) ⟨C.1, C.2.1, C.2.2.1, C.2.2.2.1, C.2.2.2.2.1⟩ hM (cwV (aNA tg) C.2.2.2.2.1 (TW_good ?_) rfl rfl rfl ⟨hcl, hF.2.2.2.1.1, hF.2.2.2.1.2, hF.2.2.2.2.1⟩ ⟨?_, ?_⟩) ⟨blind_G, ?_, ?_⟩ rfl (by rw [List.length_map]; exact hla) hv.1 ?_ (lv_room (Nat.le_trans (wrds_sum G rest) hw8)) hd ⟨hc1, hc2⟩) hc rTg_ne C hc1 hc2 hS hl hsr hn hv hret
    · intro w hw
      unfold wsV at hw
      rcases List.mem_append.mp hw with h1 | h1
      · simp only [List.mem_cons, List.not_mem_nil, or_false] at h1
        rcases h1 with e1 | e1 | e1 | e1
        · rw [e1]; exact hml
        · rw [e1]; exact him
        · rw [e1]; exact hse
        · rw [e1, ← hcl]; exact hF.2.1
      · rcases List.mem_cons.mp h1 with e1 | e1
        · rw [e1]; exact hF.1
        · exact e1
    · show d - 1 + 1 ≤ R.frames
      omega
    · show 8 + (aNL tg + 11) + 64 * (d - 1) ≤ R.locals
      have := hF.2.2.2.2.2.1
      omega
    · exact va_recv C.2.2.2.2.2.1.1 hR.1 (vw_at b hb) (q0 := k.toNat - 1) (by rw [ws_at G h hlt.1 hlt.2, ent_obj hkd hb])
    · intro U hU hW
      refine ⟨?_, by rw [hU]; exact hR, KK_warm hS hU hW C.2.2.2.2.2.1⟩
      rw [List.map_cons, cv_rf (by omega) (by omega), rfv_pos hk]
    · show ((((t, k) :: A').reverse ++ rest).map (cv G)) = _
      rw [List.reverse_cons, List.map_append, List.map_append, List.map_reverse, List.map_cons, List.map_nil, cv_rf t1 t2, rfv_pos hk]
      simp
theorem sx_callS {ix a c tg : Nat} (hd : decode (aBY m) pc = .ok (.invokestatic ix, 3)) (hF : FM tg) (hst0 : Jvm.Cond.static (aY tg) ∈ TW) (hlk : (Jvm.Cond.methodLink (vO (aOW m)) ix (aY tg) ∈ TW ∧ (aY tg).cls = vO (aOW m)) ∨ ∃ q ∈ NKs, NKw q = Jvm.Cond.methodLinkNest (vO (aOW m)) ix (aY tg) "BranchTypes") (ha : a = aNA tg) (hal : a ≤ aNL tg) (hc : c = rTg tg) (hlen : a ≤ st.length)
    (H : mkS (mkL a (aNL tg - a) [] st) fun al rest => 0 < d ∧ SX G l (d - 1) tg 0 al [] h (fun r h' => SX G l d m (pc + 3) ls (pshR c r rest) h' Q)) : SX G l d m pc ls st h Q := by
  rw [mkL_spec _ _ _ _ hlen] at H
  have hsp : st = (st.take a).reverse.reverse ++ st.drop a := by rw [List.reverse_reverse, List.take_append_drop]
  have hlA : (st.take a).reverse.length = a := by rw [List.length_reverse, List.length_take]; omega
  generalize (st.take a).reverse = A at H hsp hlA
  generalize st.drop a = rest at H hsp
  subst hsp
  unfold mkS at H
  simp only [List.append_nil] at H
  obtain ⟨hb2, hd0, K2⟩ := bif_inv H
  rw [Bool.and_eq_true] at hb2
  have hw8 := Nat.le_of_ble_eq_true hb2.1
  have hnl := nolg_app hb2.2
  intro p e R s mm args below meth c0 cells slots Z H0 locs L C hc1 hc2 hR hS hl hs hwh hn hv hret
  have hsA : ∀ v ∈ A, wfv v := fun v hv => hs v (List.mem_append_left _ (List.mem_reverse.mpr hv))
  have hsr : ∀ v ∈ rest, wfv v := fun v hv => hs v (List.mem_append_right _ hv)
  have hM := met_of (as := A) hF hsA hnl (by omega) hwh (l := l) (d := d - 1) (Y := fun r h' => SX G l d m (pc + 3) ls (pshR c r rest) h' Q) (by rw [hlA]; exact K2)
  have hCR := C.2.2.2.2.2.2
  have hF6 := hF.2.2.2.2.2.1
  have hroom : (rmD (d - 1)).frames + 1 ≤ R.frames ∧ 8 + (aNL tg + 11) + (rmD (d - 1)).locals ≤ R.locals := by
    constructor
    · show d - 1 + 1 ≤ R.frames
      omega
    · show 8 + (aNL tg + 11) + 64 * (d - 1) ≤ R.locals
      omega
  have hpre : PreS s H0 (PcG G A h) (A.map (cv G)) := ⟨blind_G, fun U hU hW => ⟨rfl, by rw [hU]; exact hR, KK_warm hS hU hW C.2.2.2.2.2.1⟩⟩
  have hgood : ∀ w ∈ (Jvm.Cond.code (aY tg) (aBY tg) (aNL tg) (aRE tg) :: TW), w ∈ TW := fun w h1 => by
    rcases List.mem_cons.mp h1 with e1 | e1
    · rw [e1]; exact hF.1
    · exact e1
  have hstk : (A.reverse ++ rest).map (cv G) = (A.map (cv G)).reverse ++ rest.map (cv G) := by rw [List.map_append, List.map_reverse]
  rcases hlk with ⟨h1, h2⟩ | ⟨q, hq, h1⟩
  · refine call_go (tg := tg) (va_runS (As := A.map (cv G)) (rest := rest.map (cv G)) (nL := aNL m) ⟨C.1, C.2.1, C.2.2.1, C.2.2.2.1, C.2.2.2.2.1⟩ hM (cwS (aNA tg) C.2.2.2.2.1 (TW_good ?_) rfl rfl rfl ⟨h2, hF.2.2.2.1.1, hF.2.2.2.1.2, hF.2.2.2.2.1⟩ hroom) hpre rfl (by rw [List.length_map]; omega) hv.1 hstk (lv_room (Nat.le_trans (wrds_sum G rest) hw8)) hd ⟨hc1, hc2⟩) hc rTg_ne C hc1 hc2 hS hl hsr hn hv hret
    intro w hw
    unfold wsS at hw
    rcases List.mem_append.mp hw with h3 | h3
    · simp only [List.mem_cons, List.not_mem_nil, or_false] at h3
      rcases h3 with e1 | e1 | e1
      · rw [e1]; exact h1
      · rw [e1]; exact hst0
      · rw [e1, ← h2]; exact hF.2.1
    · exact hgood w h3
  · have hN := C.2.2.2.2.2.1.2.1 q hq
    rw [h1] at hN
    exact call_go (tg := tg) (va_runSN (As := A.map (cv G)) (rest := rest.map (cv G)) (nL := aNL m) ⟨C.1, C.2.1, C.2.2.1, C.2.2.2.1, C.2.2.2.2.1⟩ hM ⟨va_cnB (aNA tg) C.2.2.2.2.1 (TW_good hgood) rfl rfl rfl hN (C.2.2.2.2.1 _ hF.2.1) ⟨hF.2.2.2.1.1, hF.2.2.2.1.2, hF.2.2.2.2.1⟩ hroom, C.2.2.2.2.1 _ hst0, trivial⟩ hpre rfl (by rw [List.length_map]; omega) hv.1 hstk (lv_room (Nat.le_trans (wrds_sum G rest) hw8)) hd ⟨hc1, hc2⟩) hc rTg_ne C hc1 hc2 hS hl hsr hn hv hret
end
