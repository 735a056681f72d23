section
theorem start_G {s : State} {b L : Nat} {xs : Nat → Int32} (hts : ∀ w ∈ lw_tbl, w.before #[Value.ref b] s = true) (hX : va_X b L xs s s.heap) (hbl : b < s.heap.size) (hgv : (Jvm.Cond.and given_1 narrow_1).before #[Value.ref b] s = true) : ∃ G : SG, (gN G = s.heap.size ∧ gB G = b ∧ gL G = L ∧ gX G = xs) ∧ KK G s ∧ AOs s := by
  have htw : ∀ w ∈ TW, w.before #[Value.ref b] s = true := fun w hw => hts w (List.mem_filter.mp hw).1
  have hfl : ∀ c ∈ fl1, c.before #[Value.ref b] s = true := flat_of_before _ hgv
  have hA : ∀ a : Nat, a < s.heap.size → ¬ (fun q : Nat => s.heap.size ≤ q) a := fun a h => Nat.not_le.mpr h
  have hk : ∀ c : Nat, ∃ q : ClassId × (Nat → Nat), c < 13 → u_Kn s (vR c) (vT c) (vN c) q.1 q.2 := by
    intro c
    by_cases h : c < 13
    · obtain ⟨cC, iS, k⟩ := u_known (C := vR c) (T := vT c) (N := vN c) (n := vN c) htw (in_at c h) (hts _ (tbW_in (in_all ⟨c, h⟩)))
      exact ⟨(cC, iS), fun _ => k⟩
    · obtain ⟨cC, iS, k⟩ := u_known (C := vR 0) (T := vT 0) (N := vN 0) (n := vN 0) htw (in_at 0 (by decide)) (hts _ (tbW_in (in_all 0)))
      exact ⟨(cC, iS), fun z => absurd z h⟩
  obtain ⟨cI, kI, pI, i1, i2, i3⟩ := Cond.arrayClass_spec (hts _ (tbW_in cc_ai))
  obtain ⟨cZ, kZ, pZ, z1, z2, z3⟩ := Cond.arrayClass_spec (hts _ (tbW_in cc_az))
  obtain ⟨cJ, kJ, pJ, j1, j2, j3⟩ := Cond.arrayClass_spec (hts _ (tbW_in cc_aj))
  obtain ⟨pS, cS, kS, s1, -, s2, s3, s4⟩ := Cond.arrayOver_spec (hts _ (tbW_in ao_6))
  obtain ⟨pC, cC, kC, c1, -, c2, c3, c4⟩ := Cond.arrayOver_spec (hts _ (tbW_in ao_1))
  obtain ⟨adK, adV, hSk, hev⟩ := vk_Sof (args := #[Value.ref b]) (s := s) (N := 19) (tm := tmS) (len := sLEN) (byt := sBYT) (A := fun q : Nat => s.heap.size ≤ q)
    (by decide)
    (fun i hi => hfl _ (flT_in hi (by unfold flE; simp)))
    (fun i hi => hfl _ (flT_in hi (by unfold flE; simp)))
    (fun i hi => hfl _ (flT_in hi (by unfold flE vmS; simp)))
    (fun i hi => hfl _ (flT_in hi (by unfold flE vmS; simp)))
    (fun i hi j hj => hfl _ (flT_in hi (List.mem_append_right _ (List.mem_append_left _ (List.mem_map.mpr ⟨j, List.mem_range.mpr hj, rfl⟩)))))
    (fun i j hi hj ne => by
      rcases Nat.lt_or_ge i j with c | c
      · exact Or.inl (hfl _ (flT_in hj (List.mem_append_right _ (List.mem_append_right _ (List.mem_map.mpr ⟨i, List.mem_range.mpr c, rfl⟩)))))
      · exact Or.inr (hfl _ (flT_in hi (List.mem_append_right _ (List.mem_append_right _ (List.mem_map.mpr ⟨j, List.mem_range.mpr (by omega), rfl⟩))))))
    hA
  refine ⟨((s.heap.size, b, L), xs, (fun c => (Classical.choose (hk c)).1, fun c => (Classical.choose (hk c)).2), (cI, cZ, cJ, cS, cC), adK, adV), ⟨rfl, rfl, rfl, rfl⟩, ⟨⟨fun c q hq => ?_, fun k q hq => ?_⟩, fun q hq => va_Nw.of rfl (hts _ (tbW_in (nk_all q hq))), hX, hbl, hbl, Nat.le_refl _, fun i hi => vk_R.of (A := #[Value.ref b]) (hts _ (tbW_in (sr_all ⟨i, hi⟩))) (hev i hi), hSk, va_Zof (hts _ (tbW_in la_1)) (hts _ (tbW_in la_3)) (va_eqt (hfl _ (List.mem_of_getElem? fl_4))) hA, va_Zqof (hts _ (tbW_in la_2)) (hts _ (tbW_in la_4)) (hfl _ (List.mem_of_getElem? fl_5)) hA⟩, va_AO.of (hts _ (tbW_in ao_6)), va_AO.of (hts _ (tbW_in ao_1))⟩
  · have h13 : c < 13 := by
      have := (List.getElem?_eq_some_iff.mp hq).1
      exact this
    rw [vw_at c h13] at hq
    cases hq
    exact Classical.choose_spec (hk c) h13
  · match k, hq with
    | 0, hq => cases hq; exact ⟨fun n z => ⟨fun k h => (by cases h), kI, i2, pI, i3⟩, i1⟩
    | 1, hq => cases hq; exact ⟨fun n z => ⟨fun k h => (by cases h), kZ, z2, pZ, z3⟩, z1⟩
    | 2, hq => cases hq; exact ⟨fun n z => ⟨fun k h => (by cases h), kJ, j2, pJ, j3⟩, j1⟩
    | 3, hq => cases hq; exact ⟨fun n z => ⟨fun k h => (by cases h), kS, s2, pS, s3⟩, kS, pS, s2, s3, s1, s4⟩
    | 4, hq => cases hq; exact ⟨fun n z => ⟨fun k h => (by cases h), kC, c2, pC, c3⟩, kC, pC, c2, c3, c1, c4⟩
    | k + 5, hq => cases hq
theorem w_new {G : SG} {p : Program} {l : Launch} {e : Env} {R : Room} {s : State} {mm : MethodId} {args : Array Value} {below : List Frame} {meth : Method} {c0 : Code} {cells slots : Nat} {Z : State → Prop} {H : Heap} {locs : List Loc} {L : Array Slot} {bs : ByteArray} {own : String} {ix c pc : Nat} {rest : List Value} {w : List CE} (hx : p.tables.exec = Jvm.exec) (hb : c0.code = bs) (hown : s.vm.findClass own = some mm.cls) (hts : ∀ w ∈ TW, w.before args s = true) (hK : KK G s) (hd : decode bs pc = .ok (.new ix, 3)) (hc : c < 13) (hcl : Jvm.Cond.classLink own ix (vR c) ∈ TW) (hin : Jvm.Cond.instantiable (vR c) (vN c) ∈ TW) (hini : Jvm.Cond.initialized (vR c) ∈ TW) (h1 : cells + 1 ≤ R.cells) (h2 : slots + vN c ≤ R.slots) (hz : s.heap.size + cells = gN G + w.length) (hP : va_P (gD G) vwCl (cws G w) H) (hS : va_S (gA G) s.heap H locs)
    (K : ∀ H1 : Heap, va_P (gD G) vwCl (cws G (w ++ [(0, c, List.replicate (vN c) 0)])) H1 → va_S (gA G) s.heap H1 locs → W p l e R s mm args below meth c0 H1 locs (cells + 1) (slots + vN c) Z (F0 mm (pc + 3) L (.ref (gN G + w.length) :: rest))) : W p l e R s mm args below meth c0 H locs cells slots Z (F0 mm pc L rest) := by
  refine va_new (ci := c) (fs := ceFs G c (List.replicate (vN c) 0)) hx hb hts (in_at c hc) (vTy c) (ty_at c hc) hown (hts _ hcl) (hts _ hin) (hts _ hini) hK.1 hP (cws_D G w) hS (fun q h => Nat.le_trans hK.2.2.2.2.2.1 h) (vw_at c hc) (fun j hj => ?_) (by omega) (by omega) hd (fun q H1 hP1 hD1 hS1 => W_size (fun hs => ?_))
  · rw [dv_at ⟨c, hc⟩ ⟨j, hj⟩]
    unfold vp_V
    rw [List.getD_eq_getElem?_getD, ceFs_at hj]
    unfold ceV
    rw [show (List.replicate (vN c) (0 : Int)).getD j 0 = 0 by rw [List.getD_eq_getElem?_getD, List.getElem?_replicate]; split <;> rfl]
    cases isRfF c j <;> rfl
  · have hq := cws_next hP1 hD1 hs (by omega)
    subst hq
    exact K H1 (by rw [cws_app]; exact hP1) hS1
theorem w_call {G : SG} {p : Program} {l : Launch} {e : Env} {R : Room} {s : State} {mm : MethodId} {args : Array Value} {below : List Frame} {meth : Method} {c0 : Code} {cells slots : Nat} {Z : State → Prop} {H : Heap} {locs : List Loc} {L : Array Slot} {bs : ByteArray} {own : String} {ix m' pc nl k1 s1 d : Nat} {b : Int} {rest : List AV} {w w1 : List CE} (hx : p.tables.exec = Jvm.exec) (hb0 : c0.code = bs) (hml0 : c0.maxLocals = nl) (hown : s.vm.findClass own = some mm.cls) (hts : ∀ w ∈ TW, w.before args s = true) (hK : KK G s) (hAO : AOs s) (hd : decode bs pc = .ok (.invokespecial ix, 3)) (hm : m' < 13) (hn0 : cNA m' = 0) (hml : Jvm.Cond.methodLink own ix (cY m') ∈ TW) (him : Jvm.Cond.instanceMethod (cY m') ∈ TW) (hini : Jvm.Cond.initialized (vR m') ∈ TW) (hb : 1 ≤ b) (hw8 : wrds rest ≤ 8) (w0 : 0 < w.length) (hLs : L.size = nl) (hnl : 1 ≤ cNL m') (R1 : d + 1 ≤ R.frames) (R2 : 64 * d + 30 ≤ R.locals) (h1 : cells + k1 ≤ R.cells) (h2 : slots + s1 ≤ R.slots) (hz : s.heap.size + cells = gN G + w.length) (hP : va_P (gD G) vwCl (cws G w) H) (hS : va_S (gA G) s.heap H locs)
    (K1 : CX G l d m' 0 ([(10, b)] ++ List.replicate (cNL m' - 1) (2, 0)) [] w w1 k1 s1)
    (K : ∀ (H1 : Heap) (locs1 : List Loc), va_P (gD G) vwCl (cws G w1) H1 → va_S (gA G) s.heap H1 locs1 → W p l e R s mm args below meth c0 H1 locs1 (cells + k1) (slots + s1) Z (F0 mm (pc + 3) L (rest.map (cv G)))) : W p l e R s mm args below meth c0 H locs cells slots Z (F0 mm pc L (((10, b) :: rest).map (cv G))) := by
  have hc := cc_all hm
  have hM := met_c (l := l) (d := d) (m := m') (as := [(10, b)]) (k := k1) (sl := s1) hc.2.1 rfl hnl K1
  refine W_size (fun hs => ?_)
  have hsz : H.size = gN G + w.length := by
    have last : w[w.length - 1]? = some (w[w.length - 1]'(by omega)) := List.getElem?_eq_getElem (by omega)
    have := (hP _ _ (cws_at (G := G) last)).lt
    have this : gN G + (w.length - 1) < H.size := this
    omega
  have hrun := va_runI (b := gN G + (b - 1).toNat) (As := []) (rest := rest.map (cv G)) (g := F0 mm pc L (((10, b) :: rest).map (cv G))) (nL := nl) (p := p) (e := e) (R := R) (s := s) (m := mm) (args := args) (below := below) (meth := meth) (c := c0) (H := H) (locs := locs) (cells := cells) (slots := slots) ⟨hx, hb0, hml0, hown, hts⟩ hM (cwI (cNA m') hts (TW_good ?_) rfl rfl rfl (hts _ hini) (hts _ hml) (hts _ him) rfl hc.2.2.1 ⟨?_, ?_⟩) ⟨blind_C, ?_⟩ rfl (by rw [hn0]; rfl) hLs ?_ (lv_room (Nat.le_trans (wrds_sum G rest) hw8)) hd ⟨by omega, by omega⟩
  · intro T hT X
    obtain ⟨v, st₀, t, T', L', h0, X', hL, e1, e2, ⟨hv2, hP', hzF, hkF⟩, stp⟩ := hrun T hT X
    have hv2 : v = none := by injection hv2
    rw [h0] at hzF hkF
    have hS' : va_S (gA G) s.heap t.heap (locs ++ L') := ⟨Nat.le_trans hS.1 hzF, fun q h1 h2 => by rw [hkF q (Nat.lt_of_lt_of_le h1 hS.1) h2]; exact hS.2.1 q h1 h2, fun q hq => by
      rcases List.mem_append.mp hq with h | h
      · exact hS.2.2 q h
      · exact hL q h⟩
    rw [hv2] at stp
    obtain ⟨t2, a1, b1⟩ := K t.heap (locs ++ L') hP' hS' T' e1 X'
    exact ⟨t2, stp t2 a1, b1⟩
  · intro w hw
    rcases List.mem_cons.mp hw with e1 | e1
    · rw [e1]; exact hc.1
    · exact e1
  · show d + 1 ≤ R.frames
    omega
  · show 8 + (cNL m' + 11) + 64 * d ≤ R.locals
    have := hc.2.2.2
    omega
  · intro U hU hW
    refine ⟨?_, by rw [hU]; exact hP, by rw [hU]; exact hsz, KK_warm hS hU hW hK, AOs_moved hW.alike hAO⟩
    rw [List.map_cons, cv10 G hb]
    rfl
  · show (((10, b) :: rest).map (cv G)) = _
    rw [List.map_cons, cv10 G hb]
    rfl
end
