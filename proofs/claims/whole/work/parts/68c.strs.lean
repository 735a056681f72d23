theorem dCO_0 : decode prog_17_method_152_code 0 = .ok (.getstatic 38, 3) := by decide +kernel
theorem dCO_3 : decode prog_17_method_152_code 3 = .ok (.ifCond .eq (10), 3) := by decide +kernel
theorem dCO_6 : decode prog_17_method_152_code 6 = .ok (.aload_n 0, 1) := by decide +kernel
theorem dCO_7 : decode prog_17_method_152_code 7 = .ok (.getfield 15, 3) := by decide +kernel
theorem dCO_10 : decode prog_17_method_152_code 10 = .ok (.goto (4), 3) := by decide +kernel
theorem dCO_13 : decode prog_17_method_152_code 13 = .ok (.iconst 1, 1) := by decide +kernel
theorem dCO_14 : decode prog_17_method_152_code 14 = .ok (.ireturn, 1) := by decide +kernel
theorem dL1_0 : decode prog_17_method_154_code 0 = .ok (.getstatic 38, 3) := by decide +kernel
theorem dL1_3 : decode prog_17_method_154_code 3 = .ok (.ifCond .eq (14), 3) := by decide +kernel
theorem dL1_6 : decode prog_17_method_154_code 6 = .ok (.aload_n 0, 1) := by decide +kernel
theorem dL1_7 : decode prog_17_method_154_code 7 = .ok (.getfield 15, 3) := by decide +kernel
theorem dL1_10 : decode prog_17_method_154_code 10 = .ok (.ifCond .ne (7), 3) := by decide +kernel
theorem dL1_13 : decode prog_17_method_154_code 13 = .ok (.iconst 1, 1) := by decide +kernel
theorem dL1_14 : decode prog_17_method_154_code 14 = .ok (.goto (4), 3) := by decide +kernel
theorem dL1_17 : decode prog_17_method_154_code 17 = .ok (.iconst 0, 1) := by decide +kernel
theorem dL1_18 : decode prog_17_method_154_code 18 = .ok (.ireturn, 1) := by decide +kernel
theorem dLE_0 : decode prog_17_method_54_code 0 = .ok (.aload_n 0, 1) := by decide +kernel
theorem dLE_1 : decode prog_17_method_54_code 1 = .ok (.getfield 9, 3) := by decide +kernel
theorem dLE_4 : decode prog_17_method_54_code 4 = .ok (.arraylength, 1) := by decide +kernel
theorem dLE_5 : decode prog_17_method_54_code 5 = .ok (.aload_n 0, 1) := by decide +kernel
theorem dLE_6 : decode prog_17_method_54_code 6 = .ok (.invokevirtual 335, 3) := by decide +kernel
theorem dLE_9 : decode prog_17_method_54_code 9 = .ok (.ishr, 1) := by decide +kernel
theorem dLE_10 : decode prog_17_method_54_code 10 = .ok (.ireturn, 1) := by decide +kernel
theorem dCA_0 : decode prog_17_method_56_code 0 = .ok (.aload_n 0, 1) := by decide +kernel
theorem dCA_1 : decode prog_17_method_56_code 1 = .ok (.invokevirtual 492, 3) := by decide +kernel
theorem dCA_4 : decode prog_17_method_56_code 4 = .ok (.ifCond .eq (12), 3) := by decide +kernel
theorem dCA_7 : decode prog_17_method_56_code 7 = .ok (.aload_n 0, 1) := by decide +kernel
theorem dCA_8 : decode prog_17_method_56_code 8 = .ok (.getfield 9, 3) := by decide +kernel
theorem dCA_11 : decode prog_17_method_56_code 11 = .ok (.iload_n 1, 1) := by decide +kernel
theorem dCA_12 : decode prog_17_method_56_code 12 = .ok (.invokestatic 495, 3) := by decide +kernel
theorem dCA_15 : decode prog_17_method_56_code 15 = .ok (.ireturn, 1) := by decide +kernel
theorem dCA_16 : decode prog_17_method_56_code 16 = .ok (.aload_n 0, 1) := by decide +kernel
theorem dCA_17 : decode prog_17_method_56_code 17 = .ok (.getfield 9, 3) := by decide +kernel
theorem dCA_20 : decode prog_17_method_56_code 20 = .ok (.iload_n 1, 1) := by decide +kernel
theorem dCA_21 : decode prog_17_method_56_code 21 = .ok (.invokestatic 498, 3) := by decide +kernel
theorem dCA_24 : decode prog_17_method_56_code 24 = .ok (.ireturn, 1) := by decide +kernel
theorem dLC_0 : decode prog_18_method_2_code 0 = .ok (.iload_n 1, 1) := by decide +kernel
theorem dLC_1 : decode prog_18_method_2_code 1 = .ok (.aload_n 0, 1) := by decide +kernel
theorem dLC_2 : decode prog_18_method_2_code 2 = .ok (.arraylength, 1) := by decide +kernel
theorem dLC_3 : decode prog_18_method_2_code 3 = .ok (.invokestatic 9, 3) := by decide +kernel
theorem dLC_6 : decode prog_18_method_2_code 6 = .ok (.aload_n 0, 1) := by decide +kernel
theorem dLC_7 : decode prog_18_method_2_code 7 = .ok (.iload_n 1, 1) := by decide +kernel
theorem dLC_8 : decode prog_18_method_2_code 8 = .ok (.baload, 1) := by decide +kernel
theorem dLC_9 : decode prog_18_method_2_code 9 = .ok (.sipush 255, 3) := by decide +kernel
theorem dLC_12 : decode prog_18_method_2_code 12 = .ok (.iand, 1) := by decide +kernel
theorem dLC_13 : decode prog_18_method_2_code 13 = .ok (.i2c, 1) := by decide +kernel
theorem dLC_14 : decode prog_18_method_2_code 14 = .ok (.ireturn, 1) := by decide +kernel
theorem dCI_0 : decode prog_17_method_155_code 0 = .ok (.iload_n 0, 1) := by decide +kernel
theorem dCI_1 : decode prog_17_method_155_code 1 = .ok (.iload_n 1, 1) := by decide +kernel
theorem dCI_2 : decode prog_17_method_155_code 2 = .ok (.getstatic 1053, 3) := by decide +kernel
theorem dCI_5 : decode prog_17_method_155_code 5 = .ok (.invokestatic 1059, 3) := by decide +kernel
theorem dCI_8 : decode prog_17_method_155_code 8 = .ok (.pop, 1) := by decide +kernel
theorem dCI_9 : decode prog_17_method_155_code 9 = .ok (.return_, 1) := by decide +kernel
theorem dPC_0 : decode prog_20_method_11_code 0 = .ok (.iload_n 0, 1) := by decide +kernel
theorem dPC_1 : decode prog_20_method_11_code 1 = .ok (.ifCond .lt (8), 3) := by decide +kernel
theorem dPC_4 : decode prog_20_method_11_code 4 = .ok (.iload_n 0, 1) := by decide +kernel
theorem dPC_5 : decode prog_20_method_11_code 5 = .ok (.iload_n 1, 1) := by decide +kernel
theorem dPC_6 : decode prog_20_method_11_code 6 = .ok (.if_icmp .lt (10), 3) := by decide +kernel
theorem dPC_9 : decode prog_20_method_11_code 9 = .ok (.aload_n 2, 1) := by decide +kernel
theorem dPC_10 : decode prog_20_method_11_code 10 = .ok (.iload_n 0, 1) := by decide +kernel
theorem dPC_11 : decode prog_20_method_11_code 11 = .ok (.iload_n 1, 1) := by decide +kernel
theorem dPC_12 : decode prog_20_method_11_code 12 = .ok (.invokestatic 95, 3) := by decide +kernel
theorem dPC_16 : decode prog_20_method_11_code 16 = .ok (.iload_n 0, 1) := by decide +kernel
theorem dPC_17 : decode prog_20_method_11_code 17 = .ok (.ireturn, 1) := by decide +kernel
def yCO : MethodName := ⟨"java/lang/String", "coder", "()B"⟩
def yL1 : MethodName := ⟨"java/lang/String", "isLatin1", "()Z"⟩
def yLE : MethodName := ⟨"java/lang/String", "length", "()I"⟩
def yCA : MethodName := ⟨"java/lang/String", "charAt", "(I)C"⟩
def yLC : MethodName := ⟨"java/lang/StringLatin1", "charAt", "([BI)C"⟩
def yCI : MethodName := ⟨"java/lang/String", "checkIndex", "(II)V"⟩
def yPC : MethodName := ⟨"jdk/internal/util/Preconditions", "checkIndex", "(IILjava/util/function/BiFunction;)I"⟩
theorem jc_CO : Jvm.Cond.code yCO prog_17_method_152_code 1 (some .byte) ∈ TW := TW_pos 716 (by decide +kernel) rfl
theorem jc_L1 : Jvm.Cond.code yL1 prog_17_method_154_code 1 (some .boolean) ∈ TW := TW_pos 726 (by decide +kernel) rfl
theorem jc_LE : Jvm.Cond.code yLE prog_17_method_54_code 1 (some .int) ∈ TW := TW_pos 712 (by decide +kernel) rfl
theorem jc_CA : Jvm.Cond.code yCA prog_17_method_56_code 2 (some .char) ∈ TW := TW_pos 722 (by decide +kernel) rfl
theorem jc_LC : Jvm.Cond.code yLC prog_18_method_2_code 2 (some .char) ∈ TW := TW_pos 729 (by decide +kernel) rfl
theorem jc_CI : Jvm.Cond.code yCI prog_17_method_155_code 2 (none) ∈ TW := TW_pos 732 (by decide +kernel) rfl
theorem jc_PC : Jvm.Cond.code yPC prog_20_method_11_code 3 (some .int) ∈ TW := TW_pos 737 (by decide +kernel) rfl
theorem jv_f38 : Jvm.Cond.fieldLink "java/lang/String" 38 "java/lang/String" "COMPACT_STRINGS" "Z" ∈ TW := TW_pos 717 (by decide +kernel) rfl
theorem jv_f15 : Jvm.Cond.fieldLink "java/lang/String" 15 "java/lang/String" "coder" "B" ∈ TW := TW_pos 1955 (by decide +kernel) rfl
theorem jv_f9 : Jvm.Cond.fieldLink "java/lang/String" 9 "java/lang/String" "value" "[B" ∈ TW := TW_pos 1954 (by decide +kernel) rfl
theorem jv_f1053 : Jvm.Cond.fieldLink "java/lang/String" 1053 "jdk/internal/util/Preconditions" "SIOOBE_FORMATTER" "Ljava/util/function/BiFunction;" ∈ TW := TW_pos 733 (by decide +kernel) rfl
theorem jv_iS : Jvm.Cond.initialized "java/lang/String" ∈ TW := TW_pos 15 (by decide +kernel) rfl
theorem jv_iL : Jvm.Cond.initialized "java/lang/StringLatin1" ∈ TW := TW_pos 16 (by decide +kernel) rfl
theorem jv_iP : Jvm.Cond.initialized "jdk/internal/util/Preconditions" ∈ TW := TW_pos 17 (by decide +kernel) rfl
theorem jv_m335 : Jvm.Cond.methodLink "java/lang/String" 335 yCO ∈ TW := TW_pos 713 (by decide +kernel) rfl
theorem jv_mCO : Jvm.Cond.instanceMethod yCO ∈ TW := TW_pos 714 (by decide +kernel) rfl
theorem jv_sCO : Jvm.Cond.selects "java/lang/String" yCO yCO ∈ TW := TW_pos 715 (by decide +kernel) rfl
theorem jv_m492 : Jvm.Cond.methodLink "java/lang/String" 492 yL1 ∈ TW := TW_pos 723 (by decide +kernel) rfl
theorem jv_mL1 : Jvm.Cond.instanceMethod yL1 ∈ TW := TW_pos 724 (by decide +kernel) rfl
theorem jv_sL1 : Jvm.Cond.selects "java/lang/String" yL1 yL1 ∈ TW := TW_pos 725 (by decide +kernel) rfl
theorem jv_m495 : Jvm.Cond.methodLink "java/lang/String" 495 yLC ∈ TW := TW_pos 727 (by decide +kernel) rfl
theorem jv_tLC : Jvm.Cond.static yLC ∈ TW := TW_pos 728 (by decide +kernel) rfl
theorem jv_m9 : Jvm.Cond.methodLink "java/lang/StringLatin1" 9 yCI ∈ TW := TW_pos 730 (by decide +kernel) rfl
theorem jv_tCI : Jvm.Cond.static yCI ∈ TW := TW_pos 731 (by decide +kernel) rfl
theorem jv_m1059 : Jvm.Cond.methodLink "java/lang/String" 1059 yPC ∈ TW := TW_pos 735 (by decide +kernel) rfl
theorem jv_tPC : Jvm.Cond.static yPC ∈ TW := TW_pos 736 (by decide +kernel) rfl
theorem jv_mLE : Jvm.Cond.instanceMethod yLE ∈ TW := TW_pos 710 (by decide +kernel) rfl
theorem jv_sLE : Jvm.Cond.selects "java/lang/String" yLE yLE ∈ TW := TW_pos 711 (by decide +kernel) rfl
theorem jv_mCA : Jvm.Cond.instanceMethod yCA ∈ TW := TW_pos 720 (by decide +kernel) rfl
theorem jv_sCA : Jvm.Cond.selects "java/lang/String" yCA yCA ∈ TW := TW_pos 721 (by decide +kernel) rfl
theorem sL_all : ∀ i, i < 19 → sLEN.getD i 0 < 100 ∧ aSLEN i = sLEN.getD i 0 := by decide +kernel
theorem sB_all : ∀ i, i < 19 → ∀ j, j < sLEN.getD i 0 → ((sBYT.getD i []).getD j 0 &&& 255 : Int32) = Int32.ofInt (aSCH i j) ∧ (Int32.ofInt (aSCH i j)).toUInt32 % 65536 = (Int32.ofInt (aSCH i j)).toUInt32 ∧ 0 ≤ aSCH i j ∧ aSCH i j < 256 := by decide +kernel
def PcS (G : SG) (av : List Value) : Array Value → State → Prop := fun a U => a = av.toArray ∧ StrK G U
theorem blind_S {G : SG} {av : List Value} : FrameBlind (PcS G av) := fun a U g mk q => ⟨q.1, StrK_same rfl rfl q.2⟩
set_option maxRecDepth 100000 in
set_option maxHeartbeats 4000000 in
theorem met_CO (l : Launch) (G : SG) (i : Nat) (hi : i < 19) : Met l yCO (Jvm.Cond.code yCO prog_17_method_152_code 1 (some .byte) :: TW) (rmD 0) (PcS G [.ref (gK G i)]) (QcRead 0) 0 0 (fun _ => False) := by
  refine Met.ofW (cc := prog_17_method_152_code) (maxL := 1) (ret := some .byte) (by decide) rfl ?_
  intro p e s mm args below meth c s₁ B hml hv
  obtain ⟨hv, hK⟩ := hv
  have hts0 : ∀ w ∈ (Jvm.Cond.code yCO prog_17_method_152_code 1 (some .byte) :: TW), w.before args s = true := atoms_spec B.pre
  have hts : ∀ w ∈ TW, w.before args s = true := fun w hw => hts0 w (List.mem_cons_of_mem _ hw)
  have hown : s.vm.findClass "java/lang/String" = some mm.cls := findClass_of_methodNamed B.named
  have hx := B.exec
  have hb := B.bytes
  have hr := B.returns
  have hlk := B.notSynchronized
  have hl := lv_entry ([.ref (gK G i)]) (n := 1) (Nat.le_of_ble_eq_true rfl)
  rw [hv, lg_entry_eq, ← hv]
  generalize (lg_sl ([.ref (gK G i)]) ++ List.replicate (1 - (lg_sl ([.ref (gK G i)])).length) Slot.unset).toArray = ls at hl ⊢
  have hl : lv_has ls 1 [(0, .ref (gK G i))] := hl
  refine va_gets hx hb hK.2.2.1 va_S.rf hown (hts _ jv_f38) (fun x h => h) dCO_0 ?_
  refine lv_if_eq (tgt := 13) hx hb dCO_3 (by decide) (fun h => absurd h (by decide)) (fun _ => ?_)
  refine lv_aload_n hx hb dCO_6 rfl (lv_at hl 0 rfl) ?_
  refine vk_getf hx hb (hK.2.1.1 i hi).2.1 va_S.rf hown (hts _ jv_f15) (fun x h => h) dCO_7 ?_
  refine lv_goto (tgt := 14) hx hb dCO_10 (by decide) ?_
  exact W.zret hx hb hr rfl (fun t ht hW => ⟨rfl, ht⟩) (fun q h => by cases h) dCO_14 hlk
set_option maxRecDepth 100000 in
set_option maxHeartbeats 4000000 in
theorem met_L1 (l : Launch) (G : SG) (i : Nat) (hi : i < 19) : Met l yL1 (Jvm.Cond.code yL1 prog_17_method_154_code 1 (some .boolean) :: TW) (rmD 0) (PcS G [.ref (gK G i)]) (QcRead 1) 0 0 (fun _ => False) := by
  refine Met.ofW (cc := prog_17_method_154_code) (maxL := 1) (ret := some .boolean) (by decide) rfl ?_
  intro p e s mm args below meth c s₁ B hml hv
  obtain ⟨hv, hK⟩ := hv
  have hts0 : ∀ w ∈ (Jvm.Cond.code yL1 prog_17_method_154_code 1 (some .boolean) :: TW), w.before args s = true := atoms_spec B.pre
  have hts : ∀ w ∈ TW, w.before args s = true := fun w hw => hts0 w (List.mem_cons_of_mem _ hw)
  have hown : s.vm.findClass "java/lang/String" = some mm.cls := findClass_of_methodNamed B.named
  have hx := B.exec
  have hb := B.bytes
  have hr := B.returns
  have hlk := B.notSynchronized
  have hl := lv_entry ([.ref (gK G i)]) (n := 1) (Nat.le_of_ble_eq_true rfl)
  rw [hv, lg_entry_eq, ← hv]
  generalize (lg_sl ([.ref (gK G i)]) ++ List.replicate (1 - (lg_sl ([.ref (gK G i)])).length) Slot.unset).toArray = ls at hl ⊢
  have hl : lv_has ls 1 [(0, .ref (gK G i))] := hl
  refine va_gets hx hb hK.2.2.1 va_S.rf hown (hts _ jv_f38) (fun x h => h) dL1_0 ?_
  refine lv_if_eq (tgt := 17) hx hb dL1_3 (by decide) (fun h => absurd h (by decide)) (fun _ => ?_)
  refine lv_aload_n hx hb dL1_6 rfl (lv_at hl 0 rfl) ?_
  refine vk_getf hx hb (hK.2.1.1 i hi).2.1 va_S.rf hown (hts _ jv_f15) (fun x h => h) dL1_7 ?_
  refine lv_if_ne (tgt := 17) hx hb dL1_10 (by decide) (fun h => absurd rfl h) (fun _ => ?_)
  refine lv_iconst (v := 1) hx hb dL1_13 (by decide) ?_
  refine lv_goto (tgt := 18) hx hb dL1_14 (by decide) ?_
  exact W.zret hx hb hr rfl (fun t ht hW => ⟨rfl, ht⟩) (fun q h => by cases h) dL1_18 hlk
set_option maxRecDepth 100000 in
set_option maxHeartbeats 4000000 in
theorem met_PC (l : Launch) (G : SG) (x n : Int32) (v : Value) (hv0 : v = .null ∨ ∃ a, v = .ref a) (h0 : ¬ x < 0) (hn : x < n) : Met l yPC (Jvm.Cond.code yPC prog_20_method_11_code 3 (some .int) :: TW) (rmD 0) (PcS G [.int x, .int n, v]) (QcRead x) 0 0 (fun _ => False) := by
  refine Met.ofW (cc := prog_20_method_11_code) (maxL := 3) (ret := some .int) (by decide) rfl ?_
  intro p e s mm args below meth c s₁ B hml hv
  obtain ⟨hv, hK⟩ := hv
  have hts0 : ∀ w ∈ (Jvm.Cond.code yPC prog_20_method_11_code 3 (some .int) :: TW), w.before args s = true := atoms_spec B.pre
  have hts : ∀ w ∈ TW, w.before args s = true := fun w hw => hts0 w (List.mem_cons_of_mem _ hw)
  have hown : s.vm.findClass "jdk/internal/util/Preconditions" = some mm.cls := findClass_of_methodNamed B.named
  have hx := B.exec
  have hb := B.bytes
  have hr := B.returns
  have hlk := B.notSynchronized
  have hl := lv_entry ([.int x, .int n, v]) (n := 3) (by rcases hv0 with q | ⟨a, q⟩ <;> rw [q] <;> exact Nat.le_of_ble_eq_true rfl)
  rw [hv, lg_entry_eq, ← hv]
  generalize (lg_sl ([.int x, .int n, v]) ++ List.replicate (3 - (lg_sl ([.int x, .int n, v])).length) Slot.unset).toArray = ls at hl ⊢
  have hl : lv_has ls 3 [(0, .int x), (1, .int n), (2, v)] := by rcases hv0 with q | ⟨a, q⟩ <;> rw [q] at hl ⊢ <;> exact hl
  refine lv_iload_n hx hb dPC_0 rfl (lv_at hl 0 rfl) ?_
  refine lv_if_lt (tgt := 9) hx hb dPC_1 (by decide) (fun h => absurd h h0) (fun _ => ?_)
  refine lv_iload_n hx hb dPC_4 rfl (lv_at hl 0 rfl) ?_
  refine lv_iload_n hx hb dPC_5 rfl (lv_at hl 1 rfl) ?_
  refine lv_icmp_lt (tgt := 16) hx hb dPC_6 (by decide) (fun _ => ?_) (fun h => absurd hn h)
  refine lv_iload_n hx hb dPC_16 rfl (lv_at hl 0 rfl) ?_
  exact W.iret hx hb hr (fun t ht hW => ⟨rfl, ht⟩) (fun q h => by cases h) dPC_17 hlk
def QcV0 : Array Value → State → Outcome → State → Prop := fun _ st o t => o = .returned none ∧ t.heap = st.heap
theorem wcall0 {p : Program} {l : Launch} {e : Env} {R : Room} {s : State} {m : MethodId} {args : Array Value} {below : List Frame} {meth : Method} {c : Code} {H : Heap} {locs : List Loc} {cells slots : Nat} {Q : State → Prop} {g : JFrame} {rest : List Value} {a : Array Value} (hr : CallRun p l e R s m args below meth c H locs cells slots 0 0 g rest (QcV0 a) (fun _ => False)) (kk : W p l e R s m args below meth c H locs cells slots Q { g with pc := g.pc + 3, stack := rest }) : W p l e R s m args below meth c H locs cells slots Q g := by
  intro T hT X
  obtain ⟨v, st₀, t, T', L, h0, X', hL, e1, ⟨hv, hh⟩, st⟩ := hr T hT X
  cases hv
  obtain ⟨t2, a1, b1⟩ := kk T' (by rw [e1, hh, h0]) (Stand.forget X' (fun q h => (hL q h).elim))
  exact ⟨t2, st t2 a1, b1⟩
theorem jg_of {k : Jvm.Cond} (h : k ∈ TW) : GoodIn TW (k :: TW) := TW_good (fun w hw => by
  rcases List.mem_cons.mp hw with e1 | e1
  · rw [e1]; exact h
  · exact e1)
set_option maxRecDepth 100000 in
set_option maxHeartbeats 4000000 in
theorem met_CI (l : Launch) (G : SG) (x n : Int32) (h0 : ¬ x < 0) (hn : x < n) : Met l yCI (Jvm.Cond.code yCI prog_17_method_155_code 2 (none) :: TW) (rmD 1) (PcS G [.int x, .int n]) QcV0 0 0 (fun _ => False) := by
  refine Met.ofW (cc := prog_17_method_155_code) (maxL := 2) (ret := none) (by decide) rfl ?_
  intro p e s mm args below meth c s₁ B hml hv
  obtain ⟨hv, hK⟩ := hv
  have hts0 : ∀ w ∈ (Jvm.Cond.code yCI prog_17_method_155_code 2 (none) :: TW), w.before args s = true := atoms_spec B.pre
  have hts : ∀ w ∈ TW, w.before args s = true := fun w hw => hts0 w (List.mem_cons_of_mem _ hw)
  have hown : s.vm.findClass "java/lang/String" = some mm.cls := findClass_of_methodNamed B.named
  have hx := B.exec
  have hb := B.bytes
  have hr := B.returns
  have hlk := B.notSynchronized
  have hl := lv_entry ([.int x, .int n]) (n := 2) (Nat.le_of_ble_eq_true rfl)
  rw [hv, lg_entry_eq, ← hv]
  generalize (lg_sl ([.int x, .int n]) ++ List.replicate (2 - (lg_sl ([.int x, .int n])).length) Slot.unset).toArray = ls at hl ⊢
  have hl : lv_has ls 2 [(0, .int x), (1, .int n)] := hl
  refine lv_iload_n hx hb dCI_0 rfl (lv_at hl 0 rfl) ?_
  refine lv_iload_n hx hb dCI_1 rfl (lv_at hl 1 rfl) ?_
  have key : ∀ v : Value, (v = .null ∨ ∃ a, v = .ref a) → W p l e (headSpec (Jvm.Cond.code yCI prog_17_method_155_code 2 (none) :: TW) (rmD 1)).room s mm args below meth c s.heap [] 0 0 (MQ below QcV0 args s 0 0 (fun _ => False)) (F0 mm 5 ls [v, .int n, .int x]) := by
    intro v hv1
    refine W.callR (W.runS (As := [.int x, .int n, v]) (rest := []) (nL := 2) ⟨hx, hb, hml, hown, hts⟩ (met_PC l G x n v hv1 h0 hn) ⟨callB_of 3 hts (jg_of jc_PC) rfl rfl rfl (hts _ jv_iP) (hts _ jv_m1059) ⟨by decide, by decide, by decide +kernel⟩ ⟨Nat.le_of_ble_eq_true rfl, Nat.le_of_ble_eq_true rfl⟩, hts _ jv_tPC⟩ ⟨blind_S, fun U hU hW => ⟨rfl, StrK_warm va_S.rf hU hW hK⟩⟩ rfl rfl hl.1 rfl (lv_room (Nat.le_of_ble_eq_true rfl)) dCI_5 ⟨Nat.le_refl _, Nat.le_refl _⟩) ?_
    refine lv_pop hx hb dCI_8 rfl ?_
    exact W.vret hx hb hr (fun t ht hW => ⟨rfl, ht⟩) (fun q h => by cases h) dCI_9 hlk
  rcases hK.2.2.2 with hz | ⟨a, hz⟩
  · exact va_gets hx hb hz va_S.rf hown (hts _ jv_f1053) (fun x h => h) dCI_2 (key _ (Or.inl rfl))
  · exact va_gets hx hb hz va_S.rf hown (hts _ jv_f1053) (fun x h => h) dCI_2 (key _ (Or.inr ⟨a, rfl⟩))
set_option maxRecDepth 100000 in
set_option maxHeartbeats 4000000 in
theorem met_LE (l : Launch) (G : SG) (i : Nat) (hi : i < 19) : Met l yLE (Jvm.Cond.code yLE prog_17_method_54_code 1 (some .int) :: TW) (rmD 1) (PcS G [.ref (gK G i)]) (QcRead (Int32.ofInt (aSLEN i))) 0 0 (fun _ => False) := by
  refine Met.ofW (cc := prog_17_method_54_code) (maxL := 1) (ret := some .int) (by decide) rfl ?_
  intro p e s mm args below meth c s₁ B hml hv
  obtain ⟨hv, hK⟩ := hv
  have hts0 : ∀ w ∈ (Jvm.Cond.code yLE prog_17_method_54_code 1 (some .int) :: TW), w.before args s = true := atoms_spec B.pre
  have hts : ∀ w ∈ TW, w.before args s = true := fun w hw => hts0 w (List.mem_cons_of_mem _ hw)
  have hown : s.vm.findClass "java/lang/String" = some mm.cls := findClass_of_methodNamed B.named
  have hx := B.exec
  have hb := B.bytes
  have hr := B.returns
  have hlk := B.notSynchronized
  have hl := lv_entry ([.ref (gK G i)]) (n := 1) (Nat.le_of_ble_eq_true rfl)
  rw [hv, lg_entry_eq, ← hv]
  generalize (lg_sl ([.ref (gK G i)]) ++ List.replicate (1 - (lg_sl ([.ref (gK G i)])).length) Slot.unset).toArray = ls at hl ⊢
  have hl : lv_has ls 1 [(0, .ref (gK G i))] := hl
  have hE := hK.2.1.1 i hi
  have hsl := sL_all i hi
  refine lv_aload_n hx hb dLE_0 rfl (lv_at hl 0 rfl) ?_
  refine vk_getf hx hb hE.2.2.1 va_S.rf hown (hts _ jv_f9) (fun x h => h) dLE_1 ?_
  refine va_tlen hx hb hE.2.2.2 va_S.rf (v := nI (sLEN.getD i 0)) rfl dLE_4 ?_
  refine lv_aload_n hx hb dLE_5 rfl (lv_at hl 0 rfl) ?_
  refine W.callR (W.runV (C := "java/lang/String") (b := gK G i) (As := []) (rest := [.int (nI (sLEN.getD i 0))]) (nL := 1) ⟨hx, hb, hml, hown, hts⟩ (met_CO l G i hi) ⟨callB_of 0 hts (jg_of jc_CO) rfl rfl rfl (hts _ jv_iS) (hts _ jv_m335) ⟨by decide, by decide, by decide +kernel⟩ ⟨Nat.le_of_ble_eq_true rfl, Nat.le_of_ble_eq_true rfl⟩, hts _ jv_mCO, hts _ jv_sCO⟩ ⟨blind_S, vk_recv hK.2.1 hi va_S.rf, fun U hU hW => ⟨rfl, StrK_warm va_S.rf hU hW hK⟩⟩ rfl rfl hl.1 rfl (lv_room (Nat.le_of_ble_eq_true rfl)) dLE_6 ⟨Nat.le_refl _, Nat.le_refl _⟩) ?_
  refine lv_ishr hx hb dLE_9 ?_
  have e1 : nI (sLEN.getD i 0) >>> ((0 : Int32) &&& 31) = Int32.ofInt (aSLEN i) := by
    rw [hsl.2, ofInt_nI]
    have := pk_shrN (n := sLEN.getD i 0) (by omega) ((0 : Int32) &&& 31) 0 (by decide)
    rw [this]
    simp
  rw [e1]
  exact W.iret hx hb hr (fun t ht hW => ⟨rfl, ht⟩) (fun q h => by cases h) dLE_10 hlk
set_option maxRecDepth 100000 in
set_option maxHeartbeats 4000000 in
theorem met_LC (l : Launch) (G : SG) (i : Nat) (hi : i < 19) (k : Nat) (hk : k < sLEN.getD i 0) : Met l yLC (Jvm.Cond.code yLC prog_18_method_2_code 2 (some .char) :: TW) (rmD 2) (PcS G [.ref (gV G i), .int (nI k)]) (QcRead (Int32.ofInt (aSCH i k))) 0 0 (fun _ => False) := by
  refine Met.ofW (cc := prog_18_method_2_code) (maxL := 2) (ret := some .char) (by decide) rfl ?_
  intro p e s mm args below meth c s₁ B hml hv
  obtain ⟨hv, hK⟩ := hv
  have hts0 : ∀ w ∈ (Jvm.Cond.code yLC prog_18_method_2_code 2 (some .char) :: TW), w.before args s = true := atoms_spec B.pre
  have hts : ∀ w ∈ TW, w.before args s = true := fun w hw => hts0 w (List.mem_cons_of_mem _ hw)
  have hown : s.vm.findClass "java/lang/StringLatin1" = some mm.cls := findClass_of_methodNamed B.named
  have hx := B.exec
  have hb := B.bytes
  have hr := B.returns
  have hlk := B.notSynchronized
  have hl := lv_entry ([.ref (gV G i), .int (nI k)]) (n := 2) (Nat.le_of_ble_eq_true rfl)
  rw [hv, lg_entry_eq, ← hv]
  generalize (lg_sl ([.ref (gV G i), .int (nI k)]) ++ List.replicate (2 - (lg_sl ([.ref (gV G i), .int (nI k)])).length) Slot.unset).toArray = ls at hl ⊢
  have hl : lv_has ls 2 [(0, .ref (gV G i)), (1, .int (nI k))] := hl
  have hE := hK.2.1.1 i hi
  have hsl := sL_all i hi
  have hsb := sB_all i hi k hk
  refine lv_iload_n hx hb dLC_0 rfl (lv_at hl 1 rfl) ?_
  refine lv_aload_n hx hb dLC_1 rfl (lv_at hl 0 rfl) ?_
  refine va_tlen hx hb hE.2.2.2 va_S.rf (v := nI (sLEN.getD i 0)) rfl dLC_2 ?_
  refine wcall0 (W.runS (As := [.int (nI k), .int (nI (sLEN.getD i 0))]) (rest := []) (nL := 2) ⟨hx, hb, hml, hown, hts⟩ (met_CI l G (nI k) (nI (sLEN.getD i 0)) (nI_pos (by omega)) (nI_lt hk (by omega))) ⟨callB_of 2 hts (jg_of jc_CI) rfl rfl rfl (hts _ jv_iS) (hts _ jv_m9) ⟨by decide, by decide, by decide +kernel⟩ ⟨Nat.le_of_ble_eq_true rfl, Nat.le_of_ble_eq_true rfl⟩, hts _ jv_tCI⟩ ⟨blind_S, fun U hU hW => ⟨rfl, StrK_warm va_S.rf hU hW hK⟩⟩ rfl rfl hl.1 rfl (lv_room (Nat.le_of_ble_eq_true rfl)) dLC_3 ⟨Nat.le_refl _, Nat.le_refl _⟩) ?_
  refine lv_aload_n hx hb dLC_6 rfl (lv_at hl 0 rfl) ?_
  refine lv_iload_n hx hb dLC_7 rfl (lv_at hl 1 rfl) ?_
  refine va_tb hx hb hE.2.2.2 va_S.rf (vp_in_nI hk (by omega)) (v := .int ((sBYT.getD i []).getD k 0)) (by rw [nI_clamp (by omega)]) dLC_8 ?_
  refine lv_sipush (v := 255) hx hb dLC_9 (by decide) ?_
  refine lv_iand hx hb dLC_12 ?_
  rw [hsb.1]
  have e2 : ((Int32.ofInt (aSCH i k)).toUInt32 % 65536).toInt32 = Int32.ofInt (aSCH i k) := by rw [hsb.2.1]; rfl
  refine lv_i2c (v := Int32.ofInt (aSCH i k)) hx hb dLC_13 e2 ?_
  refine W.zret hx hb hr ?_ (fun t ht hW => ⟨rfl, ht⟩) (fun q h => by cases h) dLC_14 hlk
  have := pk_nc (Int32.ofInt (aSCH i k))
  rw [e2] at this
  exact this
set_option maxRecDepth 100000 in
set_option maxHeartbeats 4000000 in
theorem met_CA (l : Launch) (G : SG) (i : Nat) (hi : i < 19) (k : Nat) (hk : k < sLEN.getD i 0) : Met l yCA (Jvm.Cond.code yCA prog_17_method_56_code 2 (some .char) :: TW) (rmD 3) (PcS G [.ref (gK G i), .int (nI k)]) (QcRead (Int32.ofInt (aSCH i k))) 0 0 (fun _ => False) := by
  refine Met.ofW (cc := prog_17_method_56_code) (maxL := 2) (ret := some .char) (by decide) rfl ?_
  intro p e s mm args below meth c s₁ B hml hv
  obtain ⟨hv, hK⟩ := hv
  have hts0 : ∀ w ∈ (Jvm.Cond.code yCA prog_17_method_56_code 2 (some .char) :: TW), w.before args s = true := atoms_spec B.pre
  have hts : ∀ w ∈ TW, w.before args s = true := fun w hw => hts0 w (List.mem_cons_of_mem _ hw)
  have hown : s.vm.findClass "java/lang/String" = some mm.cls := findClass_of_methodNamed B.named
  have hx := B.exec
  have hb := B.bytes
  have hr := B.returns
  have hlk := B.notSynchronized
  have hl := lv_entry ([.ref (gK G i), .int (nI k)]) (n := 2) (Nat.le_of_ble_eq_true rfl)
  rw [hv, lg_entry_eq, ← hv]
  generalize (lg_sl ([.ref (gK G i), .int (nI k)]) ++ List.replicate (2 - (lg_sl ([.ref (gK G i), .int (nI k)])).length) Slot.unset).toArray = ls at hl ⊢
  have hl : lv_has ls 2 [(0, .ref (gK G i)), (1, .int (nI k))] := hl
  have hE := hK.2.1.1 i hi
  have hsb := sB_all i hi k hk
  refine lv_aload_n hx hb dCA_0 rfl (lv_at hl 0 rfl) ?_
  refine W.callR (W.runV (C := "java/lang/String") (b := gK G i) (As := []) (rest := []) (nL := 2) ⟨hx, hb, hml, hown, hts⟩ (met_L1 l G i hi) ⟨callB_of 0 hts (jg_of jc_L1) rfl rfl rfl (hts _ jv_iS) (hts _ jv_m492) ⟨by decide, by decide, by decide +kernel⟩ ⟨Nat.le_of_ble_eq_true rfl, Nat.le_of_ble_eq_true rfl⟩, hts _ jv_mL1, hts _ jv_sL1⟩ ⟨blind_S, vk_recv hK.2.1 hi va_S.rf, fun U hU hW => ⟨rfl, StrK_warm va_S.rf hU hW hK⟩⟩ rfl rfl hl.1 rfl (lv_room (Nat.le_of_ble_eq_true rfl)) dCA_1 ⟨Nat.le_refl _, Nat.le_refl _⟩) ?_
  refine lv_if_eq (tgt := 16) hx hb dCA_4 (show ((4 : Nat) : Int) + 12 = ((16 : Nat) : Int) by decide) (fun h => absurd h (by decide)) (fun _ => ?_)
  refine lv_aload_n hx hb dCA_7 rfl (lv_at hl 0 rfl) ?_
  refine vk_getf hx hb hE.2.2.1 va_S.rf hown (hts _ jv_f9) (fun x h => h) dCA_8 ?_
  refine lv_iload_n hx hb dCA_11 rfl (lv_at hl 1 rfl) ?_
  refine W.callR (W.runS (As := [.ref (gV G i), .int (nI k)]) (rest := []) (nL := 2) ⟨hx, hb, hml, hown, hts⟩ (met_LC l G i hi k hk) ⟨callB_of 2 hts (jg_of jc_LC) rfl rfl rfl (hts _ jv_iL) (hts _ jv_m495) ⟨by decide, by decide, by decide +kernel⟩ ⟨Nat.le_of_ble_eq_true rfl, Nat.le_of_ble_eq_true rfl⟩, hts _ jv_tLC⟩ ⟨blind_S, fun U hU hW => ⟨rfl, StrK_warm va_S.rf hU hW hK⟩⟩ rfl rfl hl.1 rfl (lv_room (Nat.le_of_ble_eq_true rfl)) dCA_12 ⟨Nat.le_refl _, Nat.le_refl _⟩) ?_
  have e2 : ((Int32.ofInt (aSCH i k)).toUInt32 % 65536).toInt32 = Int32.ofInt (aSCH i k) := by rw [hsb.2.1]; rfl
  refine W.zret hx hb hr ?_ (fun t ht hW => ⟨rfl, ht⟩) (fun q h => by cases h) dCA_15 hlk
  have := pk_nc (Int32.ofInt (aSCH i k))
  rw [e2] at this
  exact this
