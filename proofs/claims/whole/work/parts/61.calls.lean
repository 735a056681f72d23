theorem mkL_spec : ∀ (k n : Nat) (acc st : List AV), k ≤ st.length → mkL k n acc st = ((st.take k).reverse ++ acc ++ List.replicate n (2, 0), st.drop k)
  | 0, n, acc, st, _ => by simp [mkL]
  | k + 1, n, acc, [], h => by simp at h
  | k + 1, n, acc, v :: st, h => by
    unfold mkL
    rw [mkL_spec k n (v :: acc) st (by simpa using h)]
    simp
theorem nolg_mem : ∀ {l : List AV}, nolg l = true → ∀ v ∈ l, v.1 ≠ 1
  | [], _, v, hv => by cases hv
  | (t, z) :: r, h, v, hv => by
    unfold nolg at h
    rw [Bool.and_eq_true, Bool.not_eq_true'] at h
    rcases List.mem_cons.mp hv with e | e
    · subst e; exact Nat.ne_of_beq_eq_false h.1
    · exact nolg_mem h.2 v e
theorem wrds_sum (G : SG) : ∀ (l : List AV), ((l.map (cv G)).map fun v => v.category).sum ≤ wrds l
  | [] => Nat.le_refl _
  | (t, z) :: r => by
    have ih := wrds_sum G r
    simp only [List.map_cons, List.sum_cons]
    show _ ≤ wrd t + wrds r
    have : (cv G (t, z)).category ≤ wrd t := by
      unfold wrd
      cases hb : Nat.beq t 1 with
      | true => rcases lv_cat (cv G (t, z)) with e | e <;> rw [e] <;> decide
      | false => rw [cv_cat (Nat.ne_of_beq_eq_false hb)]; exact Nat.le_refl _
    omega
theorem lv_args_at : ∀ (vs : List Value) (i j : Nat) (v : Value), (∀ x ∈ vs, x.category = 1) → vs[j]? = some v → (i + j, v) ∈ lv_args i vs
  | [], i, j, v, _, h => by simp at h
  | x :: vs, i, 0, v, hc, h => by
    simp at h
    subst h
    exact List.mem_cons_self
  | x :: vs, i, j + 1, v, hc, h => by
    unfold lv_args
    rw [if_neg (by rw [hc x List.mem_cons_self]; decide)]
    have := lv_args_at vs (i + 1) j v (fun y hy => hc y (List.mem_cons_of_mem _ hy)) (by simpa using h)
    rw [show i + 1 + j = i + (j + 1) by omega] at this
    exact List.mem_cons_of_mem _ this
theorem lg_sl_len : ∀ (vs : List Value), (∀ x ∈ vs, x.category = 1) → (lg_sl vs).length = vs.length
  | [], _ => rfl
  | x :: vs, h => by
    have ih := lg_sl_len vs (fun y hy => h y (List.mem_cons_of_mem _ hy))
    unfold lg_sl at ih ⊢
    rw [List.flatMap_cons, List.length_append, ih, if_neg (by rw [h x List.mem_cons_self]; decide)]
    simp
    omega
/-- the locals at a callee's entry -/
theorem lvr_entry {G : SG} {as : List AV} {n : Nat} (hn : nolg as = true) (hl : as.length ≤ n) (mm : MethodId) : ∃ L : Array Slot, entryFrame mm (as.map (cv G)).toArray n = F0 mm 0 L [] ∧ lvr G L n (as ++ List.replicate (n - as.length) (2, 0)) := by
  have hc : ∀ x ∈ as.map (cv G), x.category = 1 := by
    intro x hx
    obtain ⟨v, hv, rfl⟩ := List.mem_map.mp hx
    obtain ⟨t, z⟩ := v
    exact cv_cat (nolg_mem hn _ hv)
  refine ⟨_, lg_entry_eq mm (as.map (cv G)) n, ?_⟩
  have h1 := lv_entry (as.map (cv G)) (n := n) (by rw [lg_sl_len _ hc]; simpa using hl)
  refine ⟨h1.1, h1.2.1, fun j v hj hv => ?_⟩
  rcases Nat.lt_or_ge j as.length with hlt | hge
  · rw [List.getElem?_append_left hlt] at hj
    have := h1.2.2 (j, cv G v) (by
      have h2 := lv_args_at (as.map (cv G)) 0 j (cv G v) hc (by rw [List.getElem?_map, hj]; rfl)
      rwa [Nat.zero_add] at h2)
    exact this
  · rw [List.getElem?_append_right hge] at hj
    have := List.mem_of_getElem? hj
    rw [List.mem_replicate] at this
    rw [this.2] at hv
    exact absurd rfl hv
/-- what is known of a method that is called -/
def FM (tg : Nat) : Prop := Jvm.Cond.code (aY tg) (aBY tg) (aNL tg) (aRE tg) ∈ TW ∧ Jvm.Cond.initialized (aY tg).cls ∈ TW ∧ plainName (aY tg).cls = true ∧ ((aY tg).cls ≠ "java/lang/invoke/MethodHandle" ∧ (aY tg).cls ≠ "java/lang/invoke/VarHandle") ∧ (parseMethodDescriptor (aY tg).desc).map (fun d => d.parameters.length) = some (aNA tg) ∧ aNL tg ≤ 45 ∧
  ((aRT tg = 0 ∧ aRE tg = some .int) ∨ (aRT tg = 3 ∧ aRE tg = some .boolean) ∨ (aRT tg = 1 ∧ aRE tg = some .long) ∨ (aRT tg = 2 ∧ aRE tg = none) ∨ (30 ≤ aRT tg ∧ aRT tg < 50 ∧ ∃ C, aRE tg = some (.object C)))
def rmD (d : Nat) : Room := { frames := d, cells := 0, slots := 0, locals := 64 * d }
noncomputable def rv (G : SG) (m : Nat) (r : Int) : Option Value := bif Nat.beq (aRT m) 2 then none else some (cv G (rTg m, r))
noncomputable def PcG (G : SG) (as : List AV) (h : HP) : Array Value → State → Prop := fun a U => a = (as.map (cv G)).toArray ∧ Rel G h U.heap ∧ KK G U
noncomputable def QcG (G : SG) (m : Nat) (Y : PQ) : Array Value → State → Outcome → State → Prop := fun _ st o t => ∃ (r : Int) (h' : HP), o = .returned (rv G m r) ∧ Y r h' ∧ Rel G h' t.heap ∧ wfh h' ∧ wfv (rTg m, r) ∧ va_F (gA G) st t
theorem KK_same {G : SG} {u U : State} (h1 : U.heap = u.heap) (h2 : U.vm = u.vm) (h : KK G u) : KK G U := by
  obtain ⟨a, b, c1, c2, c3, c4, c5⟩ := h
  have ha : u.vm.Alike U.vm := by rw [h2]; exact Vm.Alike.refl _
  exact ⟨va_K.moved ha a, fun q hq => va_Nw.same rfl h2.symm (b q hq), by rw [h1]; exact c1.moved ha, by rw [h1]; exact c2, c3, by rw [h1]; exact c4, StrK_same h1 h2 c5⟩
theorem KK_warm {G : SG} {s U : State} {H : Heap} {locs : List Loc} (hS : va_S (gA G) s.heap H locs) (h1 : U.heap = H) (hW : s.WarmedH U.vm) (h : KK G s) : KK G U := by
  obtain ⟨a, b, c1, c2, c3, c4, c5⟩ := h
  refine ⟨va_K.moved hW.alike a, fun q hq => va_Nw.warmM hW (b q hq), ?_, ?_, c3, ?_, StrK_warm hS h1 hW c5⟩
  · rw [h1]
    exact (c1.kept (hS.2.1 _ c2 (fun z => absurd z (Nat.not_le.mpr c3)))).moved hW.alike
  · rw [h1]; exact Nat.lt_of_lt_of_le c2 hS.1
  · rw [h1]; exact Nat.le_trans c4 hS.1
/-- a callee's contract, out of its walk -/
theorem met_of {G : SG} {l : Launch} {d tg : Nat} {as : List AV} {h : HP} {Y : PQ} (hF : FM tg) (hwa : ∀ v ∈ as, wfv v) (hn : nolg as = true) (hl : as.length ≤ aNL tg) (hwh : wfh h) (hX : SX G l d tg 0 (as ++ List.replicate (aNL tg - as.length) (2, 0)) [] h Y) :
    Met l (aY tg) (Jvm.Cond.code (aY tg) (aBY tg) (aNL tg) (aRE tg) :: TW) (rmD d) (PcG G as h) (QcG G tg Y) 0 0 (gA G) := by
  obtain ⟨f1, f2, f3, f4, f5, f6, f7⟩ := hF
  refine Met.ofW (cc := aBY tg) (maxL := aNL tg) (ret := aRE tg) f3 rfl ?_
  intro p e s mm args below meth c s₁ B hml hv
  obtain ⟨v1, v2, v3⟩ := hv
  have hts : ∀ w ∈ (Jvm.Cond.code (aY tg) (aBY tg) (aNL tg) (aRE tg) :: TW), w.before args s = true := atoms_spec B.pre
  have hown : s.vm.findClass (aY tg).cls = some mm.cls := findClass_of_methodNamed B.named
  obtain ⟨L, hL1, hL2⟩ := lvr_entry (G := G) hn hl mm
  rw [v1, hL1, ← v1]
  refine hX p e (rmD d) s mm args below meth c 0 0 (MQ below (QcG G tg Y) args s 0 0 (gA G)) s.heap [] L ⟨B.exec, B.bytes, hml, hown, fun w hw => hts w (List.mem_cons_of_mem _ hw), v3, Nat.le_refl _, Nat.le_refl _⟩ (Nat.le_refl _) (Nat.le_refl _) v2 va_S.rf ?_ (fun v hv => by cases hv) hwh (by simp; omega) hL2 ?_
  · intro v hv
    rcases List.mem_append.mp hv with h0 | h0
    · exact hwa v h0
    · rw [List.mem_replicate] at h0
      rw [h0.2]; exact wf_none 0
  · intro r h' H' locs' pc' L' q1 q2 q3 q4 q5 q6 q7
    have hq : ∀ o, o = rv G tg r → ∀ t : State, t.heap = H' → s.WarmedH t.vm → QcG G tg Y args s (.returned o) t := fun o ho t ht hW => ⟨r, h', by rw [ho], q1, by rw [ht]; exact q2, q4, q5, q3.F ht⟩
    have hlk := B.notSynchronized
    unfold rst
    unfold rv at hq
    unfold rins at q7
    unfold rTg at *
    rcases f7 with ⟨e1, e2⟩ | ⟨e1, e2⟩ | ⟨e1, e2⟩ | ⟨e1, e2⟩ | ⟨e1, e1', C, e2⟩
    · rw [e1] at q7 hq ⊢
      exact W.iret B.exec B.bytes (by rw [B.returns, e2]) (hq _ rfl) q3.2.2 q7 hlk
    · have hb := q6 e1
      rw [e1] at q7 hq ⊢
      exact W.zret B.exec B.bytes (by rw [B.returns, e2]) (by rcases hb with e | e <;> subst e <;> rfl) (hq _ rfl) q3.2.2 q7 hlk
    · rw [e1] at q7 hq ⊢
      exact W.lret B.exec B.bytes (by rw [B.returns, e2]) (hq _ rfl) q3.2.2 q7 hlk
    · rw [e1] at q7 hq ⊢
      exact W.vret B.exec B.bytes (by rw [B.returns, e2]) (hq _ rfl) q3.2.2 q7 hlk
    · rw [beq_ff (show aRT tg ≠ 2 by omega)] at hq ⊢
      rw [beq_ff (show aRT tg ≠ 3 by omega), cond_false] at *
      rw [beq_ff (show aRT tg ≠ 0 by omega), beq_ff (show aRT tg ≠ 1 by omega), beq_ff (show aRT tg ≠ 2 by omega)] at q7
      exact W.aret B.exec B.bytes (by rw [B.returns, e2]) (Or.inl ⟨C, rfl⟩) (cv_ref (show 10 ≤ aRT tg by omega)) (hq _ rfl) q3.2.2 q7 hlk
