section
/-! the start: what the Statement gives of it -/
noncomputable def fl1 : List Jvm.Cond := flatC (.and given_1 narrow_1)
def tmS (i : Nat) : Jvm.Term := .string "BranchTypes" (sIXn i)
def vmS (i : Nat) : Jvm.Term := .field (tmS i) "java/lang/String" "value" "[B"
def flE (i : Nat) : List Jvm.Cond := [.exactly (tmS i) "java/lang/String", .eq (.field (tmS i) "java/lang/String" "coder" "B") (.int 0), .arrayOf (vmS i) .byte, .eq (.length (vmS i)) (.int (Int32.ofNat (sLEN.getD i 0)))] ++ ((List.range (sLEN.getD i 0)).map (fun j => Jvm.Cond.eq (.elem (vmS i) (.int (Int32.ofNat j))) (.int ((sBYT.getD i []).getD j 0))) ++ (List.range i).map (fun j => Jvm.Cond.not (.eq (tmS j) (tmS i))))
def flT : List Jvm.Cond := (List.range 19).flatMap flE
theorem flT_eq : fl1.drop 9 = flT := by decide +kernel
theorem fl_4 : fl1[4]? = some (.eq (.static "java/lang/String" "COMPACT_STRINGS" "Z") (.int 1)) := by decide +kernel
theorem fl_5 : fl1[5]? = some (.isRef (.static "jdk/internal/util/Preconditions" "SIOOBE_FORMATTER" "Ljava/util/function/BiFunction;")) := by decide +kernel
theorem flT_in {i : Nat} {w : Jvm.Cond} (hi : i < 19) (h : w ∈ flE i) : w ∈ fl1 := List.mem_of_mem_drop (by rw [flT_eq]; exact List.mem_flatMap.mpr ⟨i, List.mem_range.mpr hi, h⟩)
def srP : List Nat := [696, 806, 807, 808, 809, 810, 811, 876, 877, 878, 879, 880, 881, 882, 883, 884, 885, 886, 887]
theorem sr_all : ∀ i : Fin 19, tbW (srP.getD i.val 0) (.stringRef "BranchTypes" (sIXn i.val) (sTX i.val)) = true := by decide +kernel
def inP : List Nat := [311, 197, 395, 350, 230, 295, 239, 35, 141, 113, 29, 21, 1167]
theorem in_all : ∀ c : Fin 13, tbW (inP.getD c.val 0) (.instantiable (vR c.val) (vN c.val)) = true := by decide +kernel
theorem ao_6 : tbW 236 (.arrayOver (.object RX6)) = true := by decide +kernel
theorem ao_1 : tbW 238 (.arrayOver (.object RX1)) = true := by decide +kernel
theorem la_1 : tbW 718 (.laysStatic "java/lang/String" "COMPACT_STRINGS" "Z") = true := by decide +kernel
theorem la_2 : tbW 734 (.laysStatic "jdk/internal/util/Preconditions" "SIOOBE_FORMATTER" "Ljava/util/function/BiFunction;") = true := by decide +kernel
theorem la_3 : tbW 15 (.initialized "java/lang/String") = true := by decide +kernel
theorem la_4 : tbW 17 (.initialized "jdk/internal/util/Preconditions") = true := by decide +kernel
theorem nk_all : ∀ q ∈ NKs, tbW q.2.2.2 (NKw q) = true := by decide +kernel
theorem lwl_1 : tbW 20 (.classLink "BranchTypesLaw" 7 (vR 11)) = true := by decide +kernel
theorem lwl_2 : tbW 1166 (.classLink "BranchTypesLaw" 10 (vR 12)) = true := by decide +kernel
theorem lwl_3 : tbW 22 (.methodLink "BranchTypesLaw" 9 (cY 11)) = true := by decide +kernel
theorem lwl_4 : tbW 1168 (.methodLink "BranchTypesLaw" 12 (cY 12)) = true := by decide +kernel
theorem lwl_5 : tbW 23 (.instanceMethod (cY 11)) = true := by decide +kernel
theorem lwl_6 : tbW 1169 (.instanceMethod (cY 12)) = true := by decide +kernel
theorem lwl_7 : tbW 1 (.initialized (vR 11)) = true := by decide +kernel
theorem lwl_8 : tbW 13 (.initialized (vR 12)) = true := by decide +kernel
theorem lwd_0 : decode code 0 = .ok (.new 7, 3) := by decide +kernel
theorem lwd_3 : decode code 3 = .ok (.dup, 1) := by decide +kernel
theorem lwd_4 : decode code 4 = .ok (.invokespecial 9, 3) := by decide +kernel
theorem lwd_7 : decode code 7 = .ok (.astore_n 1, 1) := by decide +kernel
theorem lwd_8 : decode code 8 = .ok (.new 10, 3) := by decide +kernel
theorem lwd_11 : decode code 11 = .ok (.dup, 1) := by decide +kernel
theorem lwd_12 : decode code 12 = .ok (.invokespecial 12, 3) := by decide +kernel
theorem lwd_15 : decode code 15 = .ok (.astore_n 2, 1) := by decide +kernel
theorem lwd_16 : decode code 16 = .ok (.iconst 0, 1) := by decide +kernel
theorem lwd_17 : decode code 17 = .ok (.istore_n 3, 1) := by decide +kernel
theorem tbW_in {i : Nat} {q : Jvm.Cond} (h : tbW i q = true) : q ∈ lw_tbl := List.mem_append_right _ (List.mem_of_getElem? (of_decide_eq_true h))
end
