section
variable {G : SG} {l : Launch} {d m pc : Nat} {ls st : List AV} {w w' : List CE} {k sl : Nat}
/-! the constructors: writing cells, calling -/
theorem cx_obj {ix : Nat} {b : Int} (hd : decode (cBY m) pc = .ok (.invokespecial ix, 3)) (hml : Jvm.Cond.methodLink (vR m) ix Lib.objectInit ∈ TW) (him : Jvm.Cond.instanceMethod Lib.objectInit ∈ TW) (hco : Jvm.Cond.code Lib.objectInit ⟨#[0xb1]⟩ 1 none ∈ TW) (hb : 1 ≤ b) (hw8 : wrds st ≤ 8) (d0 : 0 < d) (K : CX G l d m (pc + 3) ls st w w' k sl) : CX G l d m pc ls ((10, b) :: st) w w' k sl := by
  intro p e R s mm args below meth c cells slots Z H locs L C h1 h2 hz hP hS hn hv hret
  have hts := C.2.2.2.2.1
  have hR := C.2.2.2.2.2.2.2.1
  rw [List.map_cons, cv10 G hb]
  have room := lv_room (m := mm) (pc := pc) (ls := L) (rest := (.ref (gN G + (b - 1).toNat) :: st.map (cv G))) (st := st.map (cv G)) (Nat.le_trans (wrds_sum G st) hw8)
  refine W.objInit C.1 C.2.1 C.2.2.2.1 (hts _ hml) (hts _ him) (hts _ hco) rfl (by rw [C.2.2.1]; exact hv.1) rfl hd (by omega) (by omega) ?_
  refine W.eq (g2 := F0 mm (pc + 3) L (st.map (cv G))) rfl ?_
  exact K p e R s mm args below meth c cells slots Z H locs L C h1 h2 hz hP hS hn hv hret
def isRT (t : FieldType) : Bool := match t with
  | .object _ => true
  | .array _ => true
  | _ => false
theorem isRT_n {t : FieldType} (h : isRT t = true) (a : Nat) : narrow t (.ref a) = .ref a ∧ fits t (.ref a) = true := by
  cases t <;> first | exact absurd h (by decide) | exact ⟨rfl, rfl⟩
theorem cx_putf {ix f t : Nat} {x b : Int} {fs : List Int} (hd : decode (cBY m) pc = .ok (.putfield ix, 3)) (hm : m < 13) (hf : f < vN m) (hw : Jvm.Cond.fieldLink (vR m) ix (vR m) (vT m f).2.1 (vT m f).2.2.1 ∈ TW) (hown : (vT m f).1 = vR m) (hfin : (vT m f).2.2.2 = true) (hrf : isRfF m f = true) (hty : isRT (vTy m f) = true) (hb : 1 ≤ b) (he : w[(b - 1).toNat]? = some (0, m, fs)) (hx : 1 ≤ x) (ht : t = 10) (hfl : f < fs.length) (K : CX G l d m (pc + 3) ls st (w.set (b - 1).toNat (0, m, fs.set f x)) w' k sl) : CX G l d m pc ls ((t, x) :: (10, b) :: st) w w' k sl := by
  intro p e R s mm args below meth c cells slots Z H locs L C h1 h2 hz hP hS hn hv hret
  subst ht
  have hts := C.2.2.2.2.1
  have hi : (b - 1).toNat < w.length := (List.getElem?_eq_some_iff.mp he).1
  rw [List.map_cons, List.map_cons, cv10 G hb, cv10 G hx]
  have nf := isRT_n hty (gN G + (x - 1).toNat)
  refine va_putF C.1 C.2.1 hts (in_at m hm) (vTy m) (ty_at m hm) (nm_at m hm) C.2.2.2.1 C.2.2.2.2.2.1.1 hP (cws_D G w) hS (b - 1).toNat (fs := ceFs G m fs) (cws_at he) (vw_at m hm) f hf (hts _ hw) (fun x hx => by rw [hown] at hx; exact hx) hfin C.2.2.2.2.2.2.2.2 hown (ty_at m hm f hf) nf.1 nf.2 (by unfold ceFs; simp; exact hf) hd (fun H1 locs1 hP1 hD1 hS1 => ?_)
  have es : (cws G w).set (b - 1).toNat (gN G + (b - 1).toNat, .inr (m, (ceFs G m fs).set f (.ref (gN G + (x - 1).toNat)))) = cws G (w.set (b - 1).toNat (0, m, fs.set f x)) := by
    rw [← cws_set hi, ← rfv10 G hx, ceFs_set hrf hfl hf]
    rfl
  rw [es] at hP1
  exact K p e R s mm args below meth c cells slots Z H1 locs1 L C h1 h2 (by rw [List.length_set]; exact hz) hP1 hS1 hn hv hret
theorem cx_getf {ix f : Nat} {x b : Int} {fs : List Int} (hd : decode (cBY m) pc = .ok (.getfield ix, 3)) (hm : m < 13) (hf : f < vN m) (hw : Jvm.Cond.fieldLink (vR m) ix (vR m) (vT m f).2.1 (vT m f).2.2.1 ∈ TW) (hown : (vT m f).1 = vR m) (hrf : isRfF m f = true) (hb : 1 ≤ b) (he : w[(b - 1).toNat]? = some (0, m, fs)) (hx : fs.getD f 0 = x) (K : CX G l d m (pc + 3) ls ((10, x) :: st) w w' k sl) : CX G l d m pc ls ((10, b) :: st) w w' k sl := by
  intro p e R s mm args below meth c cells slots Z H locs L C h1 h2 hz hP hS hn hv hret
  have hts := C.2.2.2.2.1
  rw [List.map_cons, cv10 G hb]
  have K2 := K p e R s mm args below meth c cells slots Z H locs L C h1 h2 hz hP hS hn hv hret
  rw [List.map_cons, cv_rf (by decide) (by decide)] at K2
  refine va_get C.1 C.2.1 hts (in_at m hm) C.2.2.2.1 C.2.2.2.2.2.1.1 hP (b - 1).toNat (fs := ceFs G m fs) (cws_at he) (vw_at m hm) f hf (hts _ hw) (fun x hx => by rw [hown] at hx; exact hx) (v := rfv (gN G) x) ?_ hd K2
  rw [ceFs_at hf, hx]
  unfold ceV
  rw [hrf]
  rfl
theorem cx_last {i z b : Int} {n : Nat} {v : List Int} (hd : decode (cBY m) pc = .ok (.lastore, 1)) (hb : 1 ≤ b) (he : w[(b - 1).toNat]? = some (51, n, v)) (hi : 0 ≤ i ∧ i < n) (hn4 : n ≤ 4000) (hvl : v.length = n) (K : CX G l d m (pc + 1) ls st (w.set (b - 1).toNat (51, n, v.set i.toNat z)) w' k sl) : CX G l d m pc ls ((1, z) :: (0, i) :: (10, b) :: st) w w' k sl := by
  intro p e R s mm args below meth c cells slots Z H locs L C h1 h2 hz hP hS hn hv hret
  have hl : (b - 1).toNat < w.length := (List.getElem?_eq_some_iff.mp he).1
  have ix := ix_of (i := i) (N := (n : Int)) hi (by omega)
  rw [List.map_cons, List.map_cons, List.map_cons, cv10 G hb]
  refine va_last C.1 C.2.1 C.2.2.2.2.2.1.1 hP (cws_D G w) hS (b - 1).toNat 2 (cA := gJ G) (n := n) (f := fun j => Int64.ofInt (v.getD j 0)) (cws_at he) rfl (i := Int32.ofInt i) (x := Int64.ofInt z) (by have := ix.1; rw [show ((n : Int)).toNat = n by omega] at this; exact this) hd (fun H1 locs1 hP1 hD1 hS1 => ?_)
  have es : (cws G w).set (b - 1).toNat (gN G + (b - 1).toNat, .inl (gJ G, n, .inr (.inl (vp_updL (fun j => Int64.ofInt (v.getD j 0)) (Int32.ofInt i).toNatClampNeg (Int64.ofInt z))))) = cws G (w.set (b - 1).toNat (51, n, v.set i.toNat z)) := by
    rw [← cws_set hl, ix.2.1]
    have ef : vp_updL (fun j => Int64.ofInt (v.getD j 0)) i.toNat (Int64.ofInt z) = fun j => Int64.ofInt ((v.set i.toNat z).getD j 0) := funext fun j => by
      unfold vp_updL
      by_cases c : j = i.toNat
      · subst c
        rw [if_pos rfl, List.getD_eq_getElem?_getD, List.getElem?_set_self (by omega)]
        rfl
      · rw [if_neg c]
        dsimp only
        rw [List.getD_eq_getElem?_getD, List.getD_eq_getElem?_getD, List.getElem?_set_ne (fun z => c z.symm)]
    rw [ef]
    rfl
  rw [es] at hP1
  exact K p e R s mm args below meth c cells slots Z H1 locs1 L C h1 h2 (by rw [List.length_set]; exact hz) hP1 hS1 hn hv hret
theorem cx_aasS {i x b : Int} {n : Nat} {v fs : List Int} (hd : decode (cBY m) pc = .ok (.aastore, 1)) (hb : 1 ≤ b) (hx : 1 ≤ x) (he : w[(b - 1).toNat]? = some (53, n, v)) (hv0 : w[(x - 1).toNat]? = some (0, 6, fs)) (hi : 0 ≤ i ∧ i < n) (hn4 : n ≤ 4000) (hvl : v.length = n) (K : CX G l d m (pc + 1) ls st (w.set (b - 1).toNat (53, n, v.set i.toNat x)) w' k sl) : CX G l d m pc ls ((10, x) :: (0, i) :: (10, b) :: st) w w' k sl := by
  intro p e R s mm args below meth c cells slots Z H locs L C h1 h2 hz hP hS hn hv hret
  have hl : (b - 1).toNat < w.length := (List.getElem?_eq_some_iff.mp he).1
  have ix := ix_of (i := i) (N := (n : Int)) hi (by omega)
  rw [List.map_cons, List.map_cons, List.map_cons, cv10 G hb, cv10 G hx]
  refine va_astq C.1 C.2.1 C.2.2.2.2.2.1.1 hP (cws_D G w) hS (b - 1).toNat 3 (x - 1).toNat 6 (cA := gS G) (r := (vR 6, vT 6, vN 6)) (n := n) (vs := ceFs G 6 fs) (f := fun j => ceO (gN G) (v.getD j 0)) (cws_at he) rfl (cws_at hv0) (vw_at 6 (by decide)) (i := Int32.ofInt i) (by have := ix.1; rw [show ((n : Int)).toNat = n by omega] at this; exact this) hd (fun H1 locs1 hP1 hD1 hS1 => ?_)
  have es : (cws G w).set (b - 1).toNat (gN G + (b - 1).toNat, .inl (gS G, n, .inr (.inr (.inr (.inr (va_up (fun j => ceO (gN G) (v.getD j 0)) (Int32.ofInt i).toNatClampNeg (some (gN G + (x - 1).toNat)))))))) = cws G (w.set (b - 1).toNat (53, n, v.set i.toNat x)) := by
    rw [← cws_set hl, ix.2.1]
    have ef : va_up (fun j => ceO (gN G) (v.getD j 0)) i.toNat (some (gN G + (x - 1).toNat)) = fun j => ceO (gN G) ((v.set i.toNat x).getD j 0) := funext fun j => by
      unfold va_up
      by_cases c : j = i.toNat
      · subst c
        rw [if_pos rfl, List.getD_eq_getElem?_getD, List.getElem?_set_self (by omega)]
        unfold ceO
        rw [if_neg (show ¬ (some x).getD 0 = 0 by show ¬ x = 0; omega)]
        rfl
      · rw [if_neg c]
        dsimp only
        rw [List.getD_eq_getElem?_getD, List.getD_eq_getElem?_getD, List.getElem?_set_ne (fun z => c z.symm)]
    rw [ef]
    rfl
  rw [es] at hP1
  exact K p e R s mm args below meth c cells slots Z H1 locs1 L C h1 h2 (by rw [List.length_set]; exact hz) hP1 hS1 hn hv hret
theorem cx_aasC {i x b : Int} {n : Nat} {v fs : List Int} (hd : decode (cBY m) pc = .ok (.aastore, 1)) (hb : 1 ≤ b) (hx : 1 ≤ x) (he : w[(b - 1).toNat]? = some (55, n, v)) (hv0 : w[(x - 1).toNat]? = some (0, 1, fs)) (hi : 0 ≤ i ∧ i < n) (hn4 : n ≤ 4000) (hvl : v.length = n) (K : CX G l d m (pc + 1) ls st (w.set (b - 1).toNat (55, n, v.set i.toNat x)) w' k sl) : CX G l d m pc ls ((10, x) :: (0, i) :: (10, b) :: st) w w' k sl := by
  intro p e R s mm args below meth c cells slots Z H locs L C h1 h2 hz hP hS hn hv hret
  have hl : (b - 1).toNat < w.length := (List.getElem?_eq_some_iff.mp he).1
  have ix := ix_of (i := i) (N := (n : Int)) hi (by omega)
  rw [List.map_cons, List.map_cons, List.map_cons, cv10 G hb, cv10 G hx]
  refine va_astq C.1 C.2.1 C.2.2.2.2.2.1.1 hP (cws_D G w) hS (b - 1).toNat 4 (x - 1).toNat 1 (cA := gC G) (r := (vR 1, vT 1, vN 1)) (n := n) (vs := ceFs G 1 fs) (f := fun j => ceO (gN G) (v.getD j 0)) (cws_at he) rfl (cws_at hv0) (vw_at 1 (by decide)) (i := Int32.ofInt i) (by have := ix.1; rw [show ((n : Int)).toNat = n by omega] at this; exact this) hd (fun H1 locs1 hP1 hD1 hS1 => ?_)
  have es : (cws G w).set (b - 1).toNat (gN G + (b - 1).toNat, .inl (gC G, n, .inr (.inr (.inr (.inr (va_up (fun j => ceO (gN G) (v.getD j 0)) (Int32.ofInt i).toNatClampNeg (some (gN G + (x - 1).toNat)))))))) = cws G (w.set (b - 1).toNat (55, n, v.set i.toNat x)) := by
    rw [← cws_set hl, ix.2.1]
    have ef : va_up (fun j => ceO (gN G) (v.getD j 0)) i.toNat (some (gN G + (x - 1).toNat)) = fun j => ceO (gN G) ((v.set i.toNat x).getD j 0) := funext fun j => by
      unfold va_up
      by_cases c : j = i.toNat
      · subst c
        rw [if_pos rfl, List.getD_eq_getElem?_getD, List.getElem?_set_self (by omega)]
        unfold ceO
        rw [if_neg (show ¬ (some x).getD 0 = 0 by show ¬ x = 0; omega)]
        rfl
      · rw [if_neg c]
        dsimp only
        rw [List.getD_eq_getElem?_getD, List.getD_eq_getElem?_getD, List.getElem?_set_ne (fun z => c z.symm)]
    rw [ef]
    rfl
  rw [es] at hP1
  exact K p e R s mm args below meth c cells slots Z H1 locs1 L C h1 h2 (by rw [List.length_set]; exact hz) hP1 hS1 hn hv hret
noncomputable def PcC (G : SG) (as : List AV) (w : List CE) : Array Value → State → Prop := fun a U => a = (as.map (cv G)).toArray ∧ va_P (gD G) vwCl (cws G w) U.heap ∧ U.heap.size = gN G + w.length ∧ KK G U ∧ AOs U
noncomputable def QcC (G : SG) (w' : List CE) : Array Value → State → Outcome → State → Prop := fun _ st o t => o = .returned none ∧ va_P (gD G) vwCl (cws G w') t.heap ∧ va_F (gA G) st t
theorem blind_C {as : List AV} : FrameBlind (PcC G as w) := fun a U g mk q => ⟨q.1, q.2.1, q.2.2.1, KK_same rfl rfl q.2.2.2.1, AOs_moved (Vm.Alike.refl _) q.2.2.2.2⟩
theorem met_c {as : List AV} (hpl : plainName (vR m) = true) (hn : nolg as = true) (hl : as.length ≤ cNL m) (hX : CX G l d m 0 (as ++ List.replicate (cNL m - as.length) (2, 0)) [] w w' k sl) :
    Met l (cY m) (Jvm.Cond.code (cY m) (cBY m) (cNL m) none :: TW) { frames := d, cells := k, slots := sl, locals := 64 * d } (PcC G as w) (QcC G w') k sl (gA G) := by
  refine Met.ofW (cc := cBY m) (maxL := cNL m) (ret := none) hpl rfl ?_
  intro p e s mm args below meth c s₁ B hml hv
  obtain ⟨v1, v2, v3, v4, v5⟩ := hv
  have hts : ∀ w ∈ (Jvm.Cond.code (cY m) (cBY m) (cNL m) none :: TW), w.before args s = true := atoms_spec B.pre
  have hown : s.vm.findClass (cY m).cls = some mm.cls := findClass_of_methodNamed B.named
  obtain ⟨L, hL1, hL2⟩ := lvr_entry (G := G) hn hl mm
  have hlk := B.notSynchronized
  rw [v1, hL1, ← v1]
  refine hX p e { frames := d, cells := k, slots := sl, locals := 64 * d } s mm args below meth c 0 0 (MQ below (QcC G w') args s k sl (gA G)) s.heap [] L ⟨B.exec, B.bytes, hml, hown, fun w hw => hts w (List.mem_cons_of_mem _ hw), v4, v5, ⟨Nat.le_refl _, Nat.le_refl _⟩, (name_of_methodNamed B.named B.method).1⟩ (by show 0 + k ≤ k; omega) (by show 0 + sl ≤ sl; omega) (by omega) v2 va_S.rf (by simp; omega) hL2 ?_
  intro H' locs' L' pc' q1 q2 q3
  rw [Nat.zero_add, Nat.zero_add]
  exact W.vret B.exec B.bytes B.returns (fun t ht hW => ⟨rfl, by rw [ht]; exact q1, q2.F ht⟩) q2.2.2 q3 hlk
theorem cx_call {ix m' k1 s1 : Nat} {b : Int} {As : List AV} {w1 : List CE} (hd : decode (cBY m) pc = .ok (.invokespecial ix, 3)) (hpl : plainName (vR m') = true) (hmh : vR m' ≠ "java/lang/invoke/MethodHandle" ∧ vR m' ≠ "java/lang/invoke/VarHandle" ∧ (parseMethodDescriptor (cDE m')).map (fun d => d.parameters.length) = some (cNA m')) (hml : Jvm.Cond.methodLink (vR m) ix (cY m') ∈ TW) (him : Jvm.Cond.instanceMethod (cY m') ∈ TW) (hini : Jvm.Cond.initialized (vR m') ∈ TW) (hco : Jvm.Cond.code (cY m') (cBY m') (cNL m') none ∈ TW) (hna : As.length = cNA m') (hno : nolg As = true) (hnl : As.length + 1 ≤ cNL m') (hn9 : cNL m' ≤ 9) (hb : 1 ≤ b) (hw8 : wrds st ≤ 8) (d0 : 0 < d) (w0 : 0 < w.length) (hk : w1.length = w.length + k1)
    (K1 : CX G l (d - 1) m' 0 (((10, b) :: As) ++ List.replicate (cNL m' - (As.length + 1)) (2, 0)) [] w w1 k1 s1) (K2 : CX G l d m (pc + 3) ls st w1 w' k sl) : CX G l d m pc ls (As.reverse ++ (10, b) :: st) w w' (k1 + k) (s1 + sl) := by
  intro p e R s mm args below meth c cells slots Z H locs L C h1 h2 hz hP hS hn hv hret
  have hts := C.2.2.2.2.1
  have hR := C.2.2.2.2.2.2.2.1
  have hM := met_c (l := l) (d := d - 1) (m := m') (as := (10, b) :: As) (k := k1) (sl := s1) hpl hno hnl K1
  refine W_size (fun hs => ?_)
  have hsz : H.size = gN G + w.length := by
    have last : w[w.length - 1]? = some (w[w.length - 1]'(by omega)) := List.getElem?_eq_getElem (by omega)
    have := (hP _ _ (cws_at (G := G) last)).lt
    have this : gN G + (w.length - 1) < H.size := this
    omega
  have hrun := va_runI (b := gN G + (b - 1).toNat) (As := As.map (cv G)) (rest := st.map (cv G)) (g := F0 mm pc L ((As.reverse ++ (10, b) :: st).map (cv G))) (nL := cNL m) (p := p) (e := e) (R := R) (s := s) (m := mm) (args := args) (below := below) (meth := meth) (c := c) (H := H) (locs := locs) (cells := cells) (slots := slots) ⟨C.1, C.2.1, C.2.2.1, C.2.2.2.1, hts⟩ hM (cwI (cNA m') hts (TW_good ?_) rfl rfl rfl (hts _ hini) (hts _ hml) (hts _ him) rfl hmh ⟨?_, ?_⟩) ⟨blind_C, ?_⟩ rfl (by rw [List.length_map]; exact hna) hv.1 ?_ (lv_room (Nat.le_trans (wrds_sum G st) hw8)) hd ⟨by omega, by omega⟩
  · intro T hT X
    obtain ⟨v, st₀, t, T', L', h0, X', hL, e1, e2, ⟨hv2, hP', hzF, hkF⟩, stp⟩ := hrun T hT X
    have hv2 : v = none := by injection hv2
    rw [h0] at hzF hkF
    have hS' : va_S (gA G) s.heap t.heap (locs ++ L') := ⟨Nat.le_trans hS.1 hzF, fun q h1 h2 => by rw [hkF q (Nat.lt_of_lt_of_le h1 hS.1) h2]; exact hS.2.1 q h1 h2, fun q hq => by
      rcases List.mem_append.mp hq with h | h
      · exact hS.2.2 q h
      · exact hL q h⟩
    have K := K2 p e R s mm args below meth c (cells + k1) (slots + s1) Z t.heap (locs ++ L') L C (by omega) (by omega) (by omega) hP' hS' hn hv (fun H' locs' L' pc' a b e => by
      have := hret H' locs' L' pc' a b e
      rw [show cells + k1 + k = cells + (k1 + k) by omega, show slots + s1 + sl = slots + (s1 + sl) by omega]
      exact this)
    rw [hv2] at stp
    obtain ⟨t2, a1, b1⟩ := K T' e1 X'
    exact ⟨t2, stp t2 a1, b1⟩
  · intro w hw
    rcases List.mem_cons.mp hw with e1 | e1
    · rw [e1]; exact hco
    · exact e1
  · show d - 1 + 1 ≤ R.frames
    omega
  · show 8 + (cNL m' + 11) + 64 * (d - 1) ≤ R.locals
    omega
  · intro U hU hW
    refine ⟨?_, by rw [hU]; exact hP, by rw [hU]; exact hsz, KK_warm hS hU hW C.2.2.2.2.2.1, AOs_moved hW.alike C.2.2.2.2.2.2.1⟩
    rw [List.map_cons, cv10 G hb]
  · show ((As.reverse ++ (10, b) :: st).map (cv G)) = _
    rw [List.map_append, List.map_cons, List.map_reverse, cv10 G hb]
end
