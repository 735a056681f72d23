/-- from the entry, for every script of at most 2048 ints, the law comes to its end with true -/
theorem whole_start {p : Program} {e : Env} {s : State} {m : MethodId} {below : List Frame} {meth : Method} {c : Code} (l : Launch) (hflags : l.flags = flags0) {b L : Nat} {xs : Nat → Int32} (hL : L ≤ 2048) (C0 : lw_At p s m meth c b L xs) : W p l e room_1 s m #[Value.ref b] below meth c s.heap [] 0 0 (lw_Z below #[Value.ref b] s) (entryFrame m ([Value.ref b] : List Value).toArray 4) := by
  obtain ⟨hx, hb, hr, hml, hown, hts, hX, hbl, hlocks, hgv⟩ := C0
  obtain ⟨G, ⟨gn, gb, gl, gx⟩, hK, hAO⟩ := start_G hts hX hbl hgv
  have htw : ∀ w ∈ TW, w.before #[Value.ref b] s = true := fun w hw => hts w (List.mem_filter.mp hw).1
  obtain ⟨L0, hL1, hv0⟩ := lvr_entry (G := G) (as := [(61, 0)]) (n := 4) rfl (by decide) m
  have e61 : cv G (61, 0) = .ref b := by rw [← gb]; rfl
  have hL1 : entryFrame m ([Value.ref b] : List Value).toArray 4 = F0 m 0 L0 [] := by
    rw [← hL1, List.map_cons, e61]
    rfl
  rw [hL1]
  have hv0 : lvr G L0 4 [(61, 0), (2, 0), (2, 0), (2, 0)] := hv0
  have hown : s.vm.findClass "BranchTypesLaw" = some m.cls := hown
  have hP0 : va_P (gD G) vwCl (cws G []) s.heap := fun k q h => by
    rw [cws_get] at h
    cases h
  have rm1 : room_1.frames = 2048 := rfl
  have rm2 : room_1.cells = 600000 := rfl
  have rm3 : room_1.slots = 7302250 := rfl
  have rm4 : room_1.locals = 84000 := rfl
  have n11 : vN 11 = 15 := rfl
  have n12 : vN 12 = 89 := rfl
  have l134 : (expW 134).length = 134 := by unfold expW; rw [List.length_map, List.length_range]
  have l193 : (expW 193).length = 193 := by unfold expW; rw [List.length_map, List.length_range]
  -- the class's object
  refine w_new (G := G) (c := 11) (w := []) hx hb hown htw hK lwd_0 (by decide) (tbW_ok lwl_1 rfl) (tbW_ok (in_all 11) rfl) (tbW_ok lwl_7 rfl) (by omega) (by omega) (by rw [gn]; rfl) hP0 va_S.rf (fun H1 hP1 hS1 => ?_)
  have e1 : cv G (10, 1) = .ref (gN G + ([] : List CE).length) := by rw [cv10 G (by omega)]; rfl
  refine lv_dup hx hb lwd_3 rfl ?_
  rw [← e1]
  refine w_call (G := G) (m' := 11) (d := 20) (b := 1) (rest := [(10, 1)]) (w := [(0, 11, List.replicate (vN 11) 0)]) (w1 := expW 134) (k1 := 133) (s1 := 23311) hx hb hml hown htw hK hAO lwd_4 (by decide) rfl (tbW_ok lwl_3 rfl) (tbW_ok lwl_5 rfl) (tbW_ok lwl_7 rfl) (by omega) (by decide) (by decide) hv0.1 (by decide) (by omega) (by omega) (by omega) (by omega) (by rw [gn]; rfl) hP1 hS1 (cR_ok G l 400 20 11 0 _ _ _ _ _ _ (by decide) run_x) (fun H2 locs2 hP2 hS2 => ?_)
  rw [List.map_cons, List.map_nil]
  have e2 : cv G (21, 1) = cv G (10, 1) := rfl
  rw [e1]
  refine lv_astore_n hx hb lwd_7 rfl (lcs_has hv0) (by decide) rfl (fun L1 hv1 => ?_)
  rw [← e1, ← e2] at hv1
  have hv1 : lvr G L1 4 [(61, 0), (21, 1), (2, 0), (2, 0)] := lvr_st1 (v := (21, 1)) hv1
  -- the reference's object
  refine w_new (G := G) (c := 12) (w := expW 134) hx hb hown htw hK lwd_8 (by decide) (tbW_ok lwl_2 rfl) (tbW_ok (in_all 12) rfl) (tbW_ok lwl_8 rfl) (by omega) (by omega) (by rw [gn, l134]) hP2 hS2 (fun H3 hP3 hS3 => ?_)
  have e3 : cv G (10, 135) = .ref (gN G + (expW 134).length) := by rw [cv10 G (by omega), l134]; rfl
  refine lv_dup hx hb lwd_11 rfl ?_
  rw [← e3]
  refine w_call (G := G) (m' := 12) (d := 20) (b := 135) (rest := [(10, 135)]) (w := expW 134 ++ [(0, 12, List.replicate (vN 12) 0)]) (w1 := expW 193) (k1 := 58) (s1 := 25911) hx hb hml hown htw hK hAO lwd_12 (by decide) rfl (tbW_ok lwl_4 rfl) (tbW_ok lwl_6 rfl) (tbW_ok lwl_8 rfl) (by omega) (by decide) (by rw [List.length_append]; omega) hv1.1 (by decide) (by omega) (by omega) (by omega) (by omega) (by rw [gn, List.length_append, l134]; rfl) hP3 hS3 (cR_ok G l 400 20 12 0 _ _ _ _ _ _ (by decide) run_m) (fun H4 locs4 hP4 hS4 => ?_)
  rw [List.map_cons, List.map_nil]
  have e4 : cv G (22, 135) = cv G (10, 135) := rfl
  rw [e3]
  refine lv_astore_n hx hb lwd_15 rfl (lcs_has hv1) (by decide) rfl (fun L2 hv2 => ?_)
  rw [← e3, ← e4] at hv2
  have hv2 : lvr G L2 4 [(61, 0), (21, 1), (22, 135), (2, 0)] := lvr_st1 (v := (22, 135)) hv2
  refine lv_iconst (v := 0) hx hb lwd_16 (by decide) ?_
  refine lv_istore_n hx hb lwd_17 rfl (lcs_has hv2) (by decide) rfl (fun L3 hv3 => ?_)
  have hv3 : lvr G L3 4 [(61, 0), (21, 1), (22, 135), (0, 0)] := lvr_st1 (v := (0, 0)) hv3
  -- the loop
  have S := law_loop G l (d := 1300) (by decide) (Q := fun r _ => r = 1) (fun _ => rfl) L 0 (hp0 L xs) (by omega) (by rw [gl]; omega) (INV_0 L xs)
  have rel : Rel G (hp0 L xs) H4 := by
    refine ⟨conv_W hP4, fun j hj => ?_, ?_, by rw [gl]; exact hL⟩
    · rw [gx]
      unfold hp0
      rw [if_neg (by decide), if_pos rfl, Int.toNat_natCast, Int32.ofInt_toInt]
    · rw [gl]
      unfold hp0
      rw [if_neg (by decide), if_neg (by decide), if_pos rfl]
  refine S p e room_1 s m #[Value.ref b] below meth c _ _ (lw_Z below #[Value.ref b] s) H4 locs4 L3 ⟨hx, hb, hml, hown, htw, hK, ?_, ?_⟩ ?_ ?_ rel hS4 ?_ (fun v hv => by cases hv) (wfh_0 hL xs) rfl hv3 ?_
  · rw [rm1]; decide
  · rw [rm4]; decide
  · omega
  · omega
  · intro v hv
    simp only [List.mem_cons, List.not_mem_nil, or_false] at hv
    rcases hv with e | e | e | e
    · subst e
      exact ⟨fun q => absurd q (show ¬ (61 : Nat) = 0 by decide), fun q => absurd q (show ¬ (61 : Nat) = 1 by decide), fun q => absurd q (show ¬ (61 : Nat) = 60 by decide), fun _ q => absurd q (show ¬ (61 : Nat) < 30 by decide), fun _ q => absurd q (show ¬ (61 : Nat) < 50 by decide), fun _ q => absurd q (show ¬ (61 : Nat) < 56 by decide)⟩
    · subst e
      exact wf_ref (Or.inl ⟨by decide, by decide⟩) (by decide) (by decide +kernel)
    · subst e
      exact wf_ref (Or.inl ⟨by decide, by decide⟩) (by decide) (by decide +kernel)
    · subst e
      exact wf_int (by unfold r32; omega)
  · intro r h' H' locs' pc' L' q1 q2 q3 q4 q5 q6 q7
    have q1 : r = 1 := q1
    subst q1
    have er : rst G M_Law_law 1 = [.int 1] := rfl
    rw [er]
    refine va_forget (fun q hq => by have := q3.2.2 q hq; have this : gN G ≤ q.base := this; omega) ?_
    refine W.widen (k := 600000) (n := 7302250) (by omega) (by omega) ?_
    exact lw_ret hx hb hr hlocks q7
