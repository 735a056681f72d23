/-! SOUNDNESS of the abstract machine: what the machine's heap holds where the abstract heap is h -/
abbrev SG : Type := (Nat × Nat × Nat) × (Nat → Int32) × va_G × (ClassId × ClassId × ClassId × ClassId × ClassId) × (Nat → Nat) × (Nat → Nat)
abbrev gN (G : SG) : Nat := G.1.1
abbrev gB (G : SG) : Nat := G.1.2.1
abbrev gL (G : SG) : Nat := G.1.2.2
abbrev gX (G : SG) : Nat → Int32 := G.2.1
abbrev gD (G : SG) : va_G := G.2.2.1
abbrev gI (G : SG) : ClassId := G.2.2.2.1.1
abbrev gZ (G : SG) : ClassId := G.2.2.2.1.2.1
abbrev gJ (G : SG) : ClassId := G.2.2.2.1.2.2.1
abbrev gS (G : SG) : ClassId := G.2.2.2.1.2.2.2.1
abbrev gC (G : SG) : ClassId := G.2.2.2.1.2.2.2.2
abbrev gK (G : SG) : Nat → Nat := G.2.2.2.2.1
abbrev gV (G : SG) : Nat → Nat := G.2.2.2.2.2
def gA (G : SG) : Nat → Prop := fun q => gN G ≤ q
def rfv (N : Nat) (k : Int) : Value := if k = 0 then .null else .ref (N + (k - 1).toNat)
def cv (G : SG) (v : AV) : Value := bif Nat.beq v.1 0 then .int (Int32.ofInt v.2) else bif Nat.beq v.1 1 then .long (Int64.ofInt v.2) else bif Nat.beq v.1 60 then .ref (gK G v.2.toNat) else bif Nat.beq v.1 61 then .ref (gB G) else rfv (gN G) v.2
noncomputable def fV (G : SG) (c k : Nat) (id : Int) (h : HP) : Value := bif Nat.beq (fK c k).1 1 then rfv (gN G) (id + (fK c k).2.2) else bif Nat.beq (fK c k).1 2 then rfv (gN G) (h id k) else .int (Int32.ofInt (h id k))
noncomputable def fVs (G : SG) (c : Nat) (id : Int) (h : HP) : List Value := (List.range (vN c)).map fun k => fV G c k id h
noncomputable def entA (G : SG) (h : HP) (a kd : Nat) : ClassId × vp_A :=
  bif Nat.beq kd 50 then (gI G, (aSZn a).toNat, .inl fun j => Int32.ofInt (h a j))
  else bif Nat.beq kd 51 then (gJ G, (aSZn a).toNat, .inr (.inl fun j => Int64.ofInt (h a j)))
  else bif Nat.beq kd 52 then (gZ G, (aSZn a).toNat, .inl fun j => Int32.ofInt (h a j))
  else bif Nat.beq kd 53 then (gS G, (aSZn a).toNat, .inr (.inr (.inr (.inr fun j => some (gN G + (a + 3 + 2 * j))))))
  else bif Nat.beq kd 54 then (gS G, (aSZn a).toNat, .inr (.inr (.inr (.inr fun j => some (gN G + (a + 22 + 5 * j))))))
  else (gC G, (aSZn a).toNat, .inr (.inr (.inr (.inr fun j => some (gN G + (a + 23 + 5 * j))))))
noncomputable def ent (G : SG) (h : HP) (a : Nat) : va_E :=
  bif Nat.blt (aKD a) 50 then .inr (aKD a - 10, fVs G (aKD a - 10) a h) else .inl (entA G h a (aKD a))
noncomputable def wsG (G : SG) (h : HP) : va_W := (List.range 193).map fun i => (gN G + i, ent G h (i + 1))
def tyG (G : SG) : List (ClassId × FieldType) := [(gI G, .int), (gZ G, .boolean), (gJ G, .long), (gS G, .object RX6), (gC G, .object RX1)]
theorem ws_at (G : SG) (h : HP) {a : Nat} (h1 : 1 ≤ a) (h2 : a ≤ 193) : (wsG G h)[a - 1]? = some (gN G + (a - 1), ent G h a) := by
  unfold wsG
  rw [List.getElem?_map, List.getElem?_range (by omega), Option.map_some, Nat.sub_add_cancel h1]
theorem kd_lt {a : Nat} (h : aKD a ≠ 0) : 1 ≤ a ∧ a ≤ 193 := by
  rcases Nat.eq_zero_or_pos a with h0 | h0
  · subst h0
    exact absurd rfl h
  · rcases Nat.lt_or_ge a 194 with h1 | h1
    · omega
    · refine absurd ?_ h
      unfold aKD
      have hb : Nat.blt a 194 = false := by
        rw [Bool.eq_false_iff]
        intro q
        rw [Nat.blt_eq] at q
        omega
      rw [hb]
      rfl
def wfv (v : AV) : Prop := (v.1 = 0 → r32 v.2) ∧ (v.1 = 1 → r64 v.2) ∧ (v.1 = 60 → 0 ≤ v.2 ∧ v.2 < 19) ∧ (10 ≤ v.1 → v.1 < 30 → 1 ≤ v.2 ∧ aKD v.2.toNat = v.1) ∧ (30 ≤ v.1 → v.1 < 50 → v.2 = 0 ∨ (1 ≤ v.2 ∧ aKD v.2.toNat + 20 = v.1)) ∧ (50 ≤ v.1 → v.1 < 56 → 1 ≤ v.2 ∧ aKD v.2.toNat = v.1)
def wfh (h : HP) : Prop := (∀ a i : Int, a ≠ 136 → r32 (h a i)) ∧ (∀ i, r64 (h 136 i)) ∧ wfv (31, h 91 1) ∧ wfv (31, h 92 7)
theorem wf_int {z : Int} (h : r32 z) : wfv (0, z) := by
  refine ⟨fun _ => h, ?_, ?_, ?_, ?_, ?_⟩ <;> intro q <;> simp at q
theorem wf_long {z : Int} (h : r64 z) : wfv (1, z) := by
  refine ⟨?_, fun _ => h, ?_, ?_, ?_, ?_⟩ <;> intro q <;> simp at q
theorem wf_none (z : Int) : wfv (2, z) := by
  refine ⟨?_, ?_, ?_, ?_, ?_, ?_⟩ <;> intro q <;> simp at q
/-- the words of the tables that every method may use -/
def TW : List Jvm.Cond := lw_tbl.filter goodWord
theorem TW_of {w : Jvm.Cond} (h : w ∈ lw_tbl) (hg : goodWord w = true) : w ∈ TW := List.mem_filter.mpr ⟨h, hg⟩
theorem TW_pos {w : Jvm.Cond} (i : Nat) (h : tables_1[i]? = some w) (hg : goodWord w = true) : w ∈ TW := TW_of (List.mem_append_right _ (List.mem_of_getElem? h)) hg
theorem TW_good {ws : List Jvm.Cond} (h : ∀ w ∈ ws, w ∈ TW) : GoodIn TW ws := fun w hw => ⟨h w hw, good_of_word (List.mem_filter.mp (h w hw)).2⟩
theorem gw_fl (a : String) (b : Nat) (c d e : String) : goodWord (.fieldLink a b c d e) = true := rfl
theorem gw_ml (a : String) (b : Nat) (c : MethodName) : goodWord (.methodLink a b c) = true := rfl
theorem gw_im (c : MethodName) : goodWord (.instanceMethod c) = true := rfl
theorem gw_st (c : MethodName) : goodWord (.static c) = true := rfl
theorem gw_se (a : String) (c e : MethodName) : goodWord (.selects a c e) = true := rfl
theorem gw_in (a : String) : goodWord (.initialized a) = true := rfl
theorem gw_co (a : MethodName) (b : ByteArray) (c : Nat) (d : Option FieldType) : goodWord (.code a b c d) = true := rfl
theorem gw_la (a b c d : String) : goodWord (.lays a b c d) = true := rfl
theorem gw_lf (a b c d : String) : goodWord (.laysFinal a b c d) = true := rfl
theorem gw_cl (a : String) (b : Nat) (c : Int64) : goodWord (.constantLong a b c) = true := rfl
/-- what is known of the state in which a method begins -/
noncomputable def NKw (q : Nat × Nat × Nat × Nat) : Jvm.Cond := .methodLinkNest (vO q.1) q.2.1 (aY q.2.2.1) "BranchTypes"
/-- the text constants -/
def sLEN : List Nat := [4, 6, 14, 12, 8, 6, 36, 4, 10, 6, 12, 7, 18, 2, 10, 8, 6, 12, 22]
def sBYT : List (List Int32) := [[105, 44, 58, 105], [100, 48, 105, 44, 58, 98], [100, 48, 98, 44, 100, 48, 117, 44, 100, 48, 117, 44, 58, 117], [100, 48, 117, 44, 100, 48, 118, 44, 58, 112, 117, 118], [100, 48, 112, 117, 118, 44, 58, 117], [100, 48, 117, 44, 58, 117], [77, 97, 123, 48, 98, 49, 61, 71, 48, 98, 48, 50, 63, 71, 48, 98, 71, 48, 99, 71, 48, 100, 51, 80, 71, 48, 98, 71, 48, 99, 52, 76, 71, 48, 98, 125], [58, 112, 117, 117], [100, 48, 112, 117, 118, 44, 117, 44, 58, 118], [77, 97, 123, 48, 98, 125], [100, 48, 112, 117, 118, 44, 58, 100, 48, 112, 118, 117], [77, 97, 123, 48, 67, 48, 125], [100, 48, 112, 117, 118, 44, 100, 48, 112, 118, 119, 44, 58, 100, 48, 112, 117, 119], [58, 105], [105, 44, 100, 48, 117, 44, 58, 112, 105, 117], [100, 48, 112, 105, 117, 44, 58, 105], [77, 97, 123, 49, 98, 125], [100, 48, 117, 44, 100, 48, 117, 44, 58, 100, 48, 117], [77, 97, 123, 48, 67, 48, 49, 77, 98, 123, 49, 67, 49, 43, 99, 101, 71, 49, 100, 102, 125, 125]]
def sTX (i : Nat) : String := (["i,:i", "d0i,:b", "d0b,d0u,d0u,:u", "d0u,d0v,:puv", "d0puv,:u", "d0u,:u", "Ma{0b1=G0b02?G0bG0cG0d3PG0bG0c4LG0b}", ":puu", "d0puv,u,:v", "Ma{0b}", "d0puv,:d0pvu", "Ma{0C0}", "d0puv,d0pvw,:d0puw", ":i", "i,d0u,:piu", "d0piu,:i", "Ma{1b}", "d0u,d0u,:d0u", "Ma{0C01Mb{1C1+ceG1df}}"] : List String).getD i ""
def sIXn (i : Nat) : Nat := ([192, 198, 200, 202, 204, 206, 208, 214, 216, 218, 220, 222, 224, 226, 228, 230, 232, 234, 236] : List Nat).getD i 0
def StrK (G : SG) (s : State) : Prop := (∀ i : Nat, i < 19 → vk_R "BranchTypes" (sIXn i) (sTX i) (gK G i) s) ∧ vk_S 19 sLEN sBYT (gK G) (gV G) (gA G) s s.heap ∧ va_Z "java/lang/String" "COMPACT_STRINGS" "Z" (.int 1) (gA G) s s.heap ∧ va_Zq "jdk/internal/util/Preconditions" "SIOOBE_FORMATTER" "Ljava/util/function/BiFunction;" (gA G) s s.heap
theorem StrK_same {G : SG} {u U : State} (h1 : U.heap = u.heap) (h2 : U.vm = u.vm) (h : StrK G u) : StrK G U := by
  obtain ⟨a, b, c, d⟩ := h
  have ha : u.vm.Alike U.vm := by rw [h2]; exact Vm.Alike.refl _
  exact ⟨fun i hi => vk_R.same h2 (a i hi), by rw [h1]; exact b.moved ha, by rw [h1]; exact c.moved ha, by rw [h1]; exact d.moved ha⟩
theorem StrK_warm {G : SG} {s U : State} {H : Heap} {locs : List Loc} (hS : va_S (gA G) s.heap H locs) (h1 : U.heap = H) (hW : s.WarmedH U.vm) (h : StrK G s) : StrK G U := by
  obtain ⟨a, b, c, d⟩ := h
  rw [← h1] at hS
  exact ⟨fun i hi => vk_R.warm hW (a i hi), (b.kept hS.2.1).moved hW.alike, (c.kept hS.2.1).moved hW.alike, (d.kept hS.2.1).moved hW.alike⟩
def KK (G : SG) (s : State) : Prop := va_K (gD G) vwCl (tyG G) s ∧ (∀ q ∈ NKs, va_Nw (NKw q) s) ∧ (va_X (gB G) (gL G) (gX G) s s.heap ∧ gB G < s.heap.size ∧ gB G < gN G ∧ gN G ≤ s.heap.size ∧ StrK G s)
def CTX (G : SG) (d m : Nat) (p : Program) (s : State) (mm : MethodId) (args : Array Value) (c : Code) (R : Room) : Prop :=
  p.tables.exec = Jvm.exec ∧ c.code = aBY m ∧ c.maxLocals = aNL m ∧ s.vm.findClass (vO (aOW m)) = some mm.cls ∧ (∀ w ∈ TW, w.before args s = true) ∧ KK G s ∧ d ≤ R.frames ∧ 64 * d ≤ R.locals
def Rel (G : SG) (h : HP) (H : Heap) : Prop := va_P (gD G) vwCl (wsG G h) H ∧ (∀ j : Nat, j < gL G → gX G j = Int32.ofInt (h (-1) j)) ∧ h (-2) 0 = gL G ∧ gL G ≤ 2048
/-- the locals -/
def lvr (G : SG) (L : Array Slot) (n : Nat) (ls : List AV) : Prop := L.size = n ∧ lv_wf L ∧ ∀ (j : Nat) (v : AV), ls[j]? = some v → v.1 ≠ 2 → L[j]? = some (.val (cv G v))
noncomputable def rst (G : SG) (m : Nat) (r : Int) : List Value := bif Nat.beq (aRT m) 2 then [] else [cv G (rTg m, r)]
noncomputable def rins (m : Nat) : Instr := bif Nat.beq (rTg m) 0 then .ireturn else bif Nat.beq (rTg m) 1 then .lreturn else bif Nat.beq (rTg m) 2 then .return_ else .areturn
def HRT (G : SG) (l : Launch) (m : Nat) (p : Program) (e : Env) (R : Room) (s : State) (mm : MethodId) (args : Array Value) (below : List Frame) (meth : Method) (c : Code) (cells slots : Nat) (Z : State → Prop) (Q : PQ) : Prop :=
  ∀ (r : Int) (h' : HP) (H' : Heap) (locs' : List Loc) (pc' : Nat) (L' : Array Slot), Q r h' → Rel G h' H' → va_S (gA G) s.heap H' locs' → wfh h' → wfv (rTg m, r) → (aRT m = 3 → isB r) → decode (aBY m) pc' = .ok (rins m, 1) →
    W p l e R s mm args below meth c H' locs' cells slots Z (F0 mm pc' L' (rst G m r))
def SX (G : SG) (l : Launch) : XP := fun d m pc ls st h Q =>
  ∀ (p : Program) (e : Env) (R : Room) (s : State) (mm : MethodId) (args : Array Value) (below : List Frame) (meth : Method) (c : Code) (cells slots : Nat) (Z : State → Prop) (H : Heap) (locs : List Loc) (L : Array Slot),
    CTX G d m p s mm args c R → cells ≤ R.cells → slots ≤ R.slots → Rel G h H → va_S (gA G) s.heap H locs → (∀ v ∈ ls, wfv v) → (∀ v ∈ st, wfv v) → wfh h → ls.length = aNL m → lvr G L (aNL m) ls → HRT G l m p e R s mm args below meth c cells slots Z Q →
    W p l e R s mm args below meth c H locs cells slots Z (F0 mm pc L (st.map (cv G)))
theorem SX_Q (G : SG) (l : Launch) : am_Q (SX G l) := fun d m pc ls st h Q Q' hq H p e R s mm args below meth c cells slots Z H0 locs L h1 h2 h3 h4 h5 h6 h7 h8 h9 h10 hr =>
  H p e R s mm args below meth c cells slots Z H0 locs L h1 h2 h3 h4 h5 h6 h7 h8 h9 h10 (fun r h' H' locs' pc' L' q => hr r h' H' locs' pc' L' (hq r h' q))
/-- numbers -/
theorem i32_r (z : Int) (h : r32 z) : (Int32.ofInt z).toInt = z := Int32.toInt_ofInt_of_le (by have := h.1; omega) (by have := h.2; omega)
theorem i64_r (z : Int) (h : r64 z) : (Int64.ofInt z).toInt = z := Int64.toInt_ofInt_of_le (by have := h.1; omega) (by have := h.2; omega)
theorem r32_of (x : Int32) : r32 x.toInt := ⟨by have := Int32.le_toInt x; omega, by have := Int32.toInt_lt x; omega⟩
theorem r64_of (x : Int64) : r64 x.toInt := ⟨by have := Int64.le_toInt x; omega, by have := Int64.toInt_lt x; omega⟩
theorem i32_eq {x y : Int} (hx : r32 x) (hy : r32 y) : Int32.ofInt x = Int32.ofInt y ↔ x = y := ⟨fun h => by rw [← i32_r x hx, ← i32_r y hy, h], fun h => by rw [h]⟩
theorem i32_lt {x y : Int} (hx : r32 x) (hy : r32 y) : Int32.ofInt x < Int32.ofInt y ↔ x < y := by rw [Int32.lt_iff_toInt_lt, i32_r x hx, i32_r y hy]
theorem i32_le {x y : Int} (hx : r32 x) (hy : r32 y) : Int32.ofInt x ≤ Int32.ofInt y ↔ x ≤ y := by rw [Int32.le_iff_toInt_le, i32_r x hx, i32_r y hy]
theorem i32_w (z : Int) : Int32.ofInt (w32 z) = Int32.ofInt z := by
  apply Int32.toInt_inj.mp
  rw [Int32.toInt_ofInt, Int32.toInt_ofInt]
  unfold w32
  rw [Int.bmod_def, Int.bmod_def]
  have : (2 : Int) ^ 32 = 4294967296 := by decide
  simp only [Int32.size]
  split <;> split <;> omega
theorem i64_w (z : Int) : Int64.ofInt (w64 z) = Int64.ofInt z := by
  apply Int64.toInt_inj.mp
  rw [Int64.toInt_ofInt, Int64.toInt_ofInt]
  unfold w64
  rw [Int.bmod_def, Int.bmod_def]
  simp only [Int64.size]
  split <;> split <;> omega
theorem r32_w (z : Int) : r32 (w32 z) := by unfold w32 r32; omega
theorem r64_w (z : Int) : r64 (w64 z) := by unfold w64 r64; omega
