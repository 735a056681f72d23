theorem FL_ok0 : (FL0.all fun q => decide (tables_1[q.2.2.2]? = some (Jvm.Cond.fieldLink (vO 0) q.1 (vR q.2.1) (vT q.2.1 q.2.2.1).2.1 (vT q.2.1 q.2.2.1).2.2.1))) = true := by decide +kernel
theorem MK_ok0 : (MK0.all fun q => decide (tables_1[q.2.2]? = some (Jvm.Cond.methodLink (vO 0) q.1 (aY q.2.1)))) = true := by decide +kernel
theorem FL_ok1 : (FL1.all fun q => decide (tables_1[q.2.2.2]? = some (Jvm.Cond.fieldLink (vO 1) q.1 (vR q.2.1) (vT q.2.1 q.2.2.1).2.1 (vT q.2.1 q.2.2.1).2.2.1))) = true := by decide +kernel
theorem MK_ok1 : (MK1.all fun q => decide (tables_1[q.2.2]? = some (Jvm.Cond.methodLink (vO 1) q.1 (aY q.2.1)))) = true := by decide +kernel
theorem FL_ok2 : (FL2.all fun q => decide (tables_1[q.2.2.2]? = some (Jvm.Cond.fieldLink (vO 2) q.1 (vR q.2.1) (vT q.2.1 q.2.2.1).2.1 (vT q.2.1 q.2.2.1).2.2.1))) = true := by decide +kernel
theorem MK_ok2 : (MK2.all fun q => decide (tables_1[q.2.2]? = some (Jvm.Cond.methodLink (vO 2) q.1 (aY q.2.1)))) = true := by decide +kernel
theorem FL_ok3 : (FL3.all fun q => decide (tables_1[q.2.2.2]? = some (Jvm.Cond.fieldLink (vO 3) q.1 (vR q.2.1) (vT q.2.1 q.2.2.1).2.1 (vT q.2.1 q.2.2.1).2.2.1))) = true := by decide +kernel
theorem MK_ok3 : (MK3.all fun q => decide (tables_1[q.2.2]? = some (Jvm.Cond.methodLink (vO 3) q.1 (aY q.2.1)))) = true := by decide +kernel
theorem FL_ok4 : (FL4.all fun q => decide (tables_1[q.2.2.2]? = some (Jvm.Cond.fieldLink (vO 4) q.1 (vR q.2.1) (vT q.2.1 q.2.2.1).2.1 (vT q.2.1 q.2.2.1).2.2.1))) = true := by decide +kernel
theorem MK_ok4 : (MK4.all fun q => decide (tables_1[q.2.2]? = some (Jvm.Cond.methodLink (vO 4) q.1 (aY q.2.1)))) = true := by decide +kernel
theorem FL_ok5 : (FL5.all fun q => decide (tables_1[q.2.2.2]? = some (Jvm.Cond.fieldLink (vO 5) q.1 (vR q.2.1) (vT q.2.1 q.2.2.1).2.1 (vT q.2.1 q.2.2.1).2.2.1))) = true := by decide +kernel
theorem MK_ok5 : (MK5.all fun q => decide (tables_1[q.2.2]? = some (Jvm.Cond.methodLink (vO 5) q.1 (aY q.2.1)))) = true := by decide +kernel
theorem FL_ok6 : (FL6.all fun q => decide (tables_1[q.2.2.2]? = some (Jvm.Cond.fieldLink (vO 6) q.1 (vR q.2.1) (vT q.2.1 q.2.2.1).2.1 (vT q.2.1 q.2.2.1).2.2.1))) = true := by decide +kernel
theorem MK_ok6 : (MK6.all fun q => decide (tables_1[q.2.2]? = some (Jvm.Cond.methodLink (vO 6) q.1 (aY q.2.1)))) = true := by decide +kernel
theorem FL_ok7 : (FL7.all fun q => decide (tables_1[q.2.2.2]? = some (Jvm.Cond.fieldLink (vO 7) q.1 (vR q.2.1) (vT q.2.1 q.2.2.1).2.1 (vT q.2.1 q.2.2.1).2.2.1))) = true := by decide +kernel
theorem MK_ok7 : (MK7.all fun q => decide (tables_1[q.2.2]? = some (Jvm.Cond.methodLink (vO 7) q.1 (aY q.2.1)))) = true := by decide +kernel
theorem FL_ok8 : (FL8.all fun q => decide (tables_1[q.2.2.2]? = some (Jvm.Cond.fieldLink (vO 8) q.1 (vR q.2.1) (vT q.2.1 q.2.2.1).2.1 (vT q.2.1 q.2.2.1).2.2.1))) = true := by decide +kernel
theorem MK_ok8 : (MK8.all fun q => decide (tables_1[q.2.2]? = some (Jvm.Cond.methodLink (vO 8) q.1 (aY q.2.1)))) = true := by decide +kernel
theorem FL_ok9 : (FL9.all fun q => decide (tables_1[q.2.2.2]? = some (Jvm.Cond.fieldLink (vO 9) q.1 (vR q.2.1) (vT q.2.1 q.2.2.1).2.1 (vT q.2.1 q.2.2.1).2.2.1))) = true := by decide +kernel
theorem MK_ok9 : (MK9.all fun q => decide (tables_1[q.2.2]? = some (Jvm.Cond.methodLink (vO 9) q.1 (aY q.2.1)))) = true := by decide +kernel
theorem FL_ok10 : (FL10.all fun q => decide (tables_1[q.2.2.2]? = some (Jvm.Cond.fieldLink (vO 10) q.1 (vR q.2.1) (vT q.2.1 q.2.2.1).2.1 (vT q.2.1 q.2.2.1).2.2.1))) = true := by decide +kernel
theorem MK_ok10 : (MK10.all fun q => decide (tables_1[q.2.2]? = some (Jvm.Cond.methodLink (vO 10) q.1 (aY q.2.1)))) = true := by decide +kernel
theorem FL_ok11 : (FL11.all fun q => decide (tables_1[q.2.2.2]? = some (Jvm.Cond.fieldLink (vO 11) q.1 (vR q.2.1) (vT q.2.1 q.2.2.1).2.1 (vT q.2.1 q.2.2.1).2.2.1))) = true := by decide +kernel
theorem MK_ok11 : (MK11.all fun q => decide (tables_1[q.2.2]? = some (Jvm.Cond.methodLink (vO 11) q.1 (aY q.2.1)))) = true := by decide +kernel
theorem FL_ok12 : (FL12.all fun q => decide (tables_1[q.2.2.2]? = some (Jvm.Cond.fieldLink (vO 12) q.1 (vR q.2.1) (vT q.2.1 q.2.2.1).2.1 (vT q.2.1 q.2.2.1).2.2.1))) = true := by decide +kernel
theorem MK_ok12 : (MK12.all fun q => decide (tables_1[q.2.2]? = some (Jvm.Cond.methodLink (vO 12) q.1 (aY q.2.1)))) = true := by decide +kernel
theorem FL_ok13 : (FL13.all fun q => decide (tables_1[q.2.2.2]? = some (Jvm.Cond.fieldLink (vO 13) q.1 (vR q.2.1) (vT q.2.1 q.2.2.1).2.1 (vT q.2.1 q.2.2.1).2.2.1))) = true := by decide +kernel
theorem MK_ok13 : (MK13.all fun q => decide (tables_1[q.2.2]? = some (Jvm.Cond.methodLink (vO 13) q.1 (aY q.2.1)))) = true := by decide +kernel
theorem FLk_ok (c : Nat) (hc : c < 14) : ((FLk c).all fun q => decide (tables_1[q.2.2.2]? = some (Jvm.Cond.fieldLink (vO c) q.1 (vR q.2.1) (vT q.2.1 q.2.2.1).2.1 (vT q.2.1 q.2.2.1).2.2.1))) = true := by
  match c, hc with
  | 0, _ => exact FL_ok0
  | 1, _ => exact FL_ok1
  | 2, _ => exact FL_ok2
  | 3, _ => exact FL_ok3
  | 4, _ => exact FL_ok4
  | 5, _ => exact FL_ok5
  | 6, _ => exact FL_ok6
  | 7, _ => exact FL_ok7
  | 8, _ => exact FL_ok8
  | 9, _ => exact FL_ok9
  | 10, _ => exact FL_ok10
  | 11, _ => exact FL_ok11
  | 12, _ => exact FL_ok12
  | 13, _ => exact FL_ok13
  | n + 14, h => omega
theorem MKk_ok (c : Nat) (hc : c < 14) : ((MKk c).all fun q => decide (tables_1[q.2.2]? = some (Jvm.Cond.methodLink (vO c) q.1 (aY q.2.1)))) = true := by
  match c, hc with
  | 0, _ => exact MK_ok0
  | 1, _ => exact MK_ok1
  | 2, _ => exact MK_ok2
  | 3, _ => exact MK_ok3
  | 4, _ => exact MK_ok4
  | 5, _ => exact MK_ok5
  | 6, _ => exact MK_ok6
  | 7, _ => exact MK_ok7
  | 8, _ => exact MK_ok8
  | 9, _ => exact MK_ok9
  | 10, _ => exact MK_ok10
  | 11, _ => exact MK_ok11
  | 12, _ => exact MK_ok12
  | 13, _ => exact MK_ok13
  | n + 14, h => omega
theorem CK_ok : (CKs.all fun q => decide (tables_1[q.2.2.2]? = some (Jvm.Cond.constantLong (vO q.1) q.2.1 (Int64.ofInt q.2.2.1)))) = true := by decide +kernel
def jN (e : Nat) : MethodName := match e with
  | 10 => Lib.Math.min.name
  | 11 => Lib.Math.max.name
  | 12 => Lib.MathLoose.abs_long.x
  | 13 => ⟨"java/lang/Integer", "bitCount", "(I)I"⟩
  | 14 => ⟨"java/lang/String", "length", "()I"⟩
  | _ => ⟨"java/lang/String", "charAt", "(I)C"⟩
theorem JK_ok : (JKs.all fun q => decide (tables_1[q.2.2.2]? = some (Jvm.Cond.methodLink (vO q.1) q.2.1 (jN q.2.2.1)))) = true := by decide +kernel
theorem ow_ok : ((List.range 264).all fun m => Nat.blt (aOW m) 14) = true := by decide +kernel
theorem vT_own : ((List.range 13).all fun a => (List.range (vN a)).all fun b => decide ((vT a b).1 = vR a)) = true := by decide +kernel
noncomputable def fmB (tg : Nat) : Bool :=
  decide (tables_1[(aPS tg).1]? = some (Jvm.Cond.code (aY tg) (aBY tg) (aNL tg) (aRE tg))) && decide (tables_1[aPI (aOW tg)]? = some (Jvm.Cond.initialized (aY tg).cls)) && plainName (aY tg).cls && decide ((aY tg).cls ≠ "java/lang/invoke/MethodHandle") && decide ((aY tg).cls ≠ "java/lang/invoke/VarHandle") &&
  decide ((parseMethodDescriptor (aY tg).desc).map (fun d => d.parameters.length) = some (aNA tg)) && Nat.ble (aNL tg) 45 && Nat.blt (aOW tg) 13 &&
  (Nat.beq (aRT tg) 0 && decide (aRE tg = some .int) || (Nat.beq (aRT tg) 3 && decide (aRE tg = some .boolean) || (Nat.beq (aRT tg) 1 && decide (aRE tg = some .long) || (Nat.beq (aRT tg) 2 && decide (aRE tg = none) || (Nat.ble 30 (aRT tg) && Nat.blt (aRT tg) 50 && (decide (aRE tg = some (.object RX1)) || decide (aRE tg = some (.object RX6)))))))) &&
  (bif aST tg then decide (tables_1[(aPS tg).2.1]? = some (Jvm.Cond.static (aY tg))) else decide (tables_1[(aPS tg).2.1]? = some (Jvm.Cond.instanceMethod (aY tg))) && (bif Nat.beq (aPS tg).2.2 9999 then lw_privs.any (fun q => decide (q.1 = aY tg)) else decide (tables_1[(aPS tg).2.2]? = some (Jvm.Cond.selects (aY tg).cls (aY tg) (aY tg)))))
theorem fm_1 : ((List.range' 1 10).all fmB) = true := by decide +kernel
theorem fm_11 : ((List.range' 11 10).all fmB) = true := by decide +kernel
theorem fm_21 : ((List.range' 21 10).all fmB) = true := by decide +kernel
theorem fm_31 : ((List.range' 31 10).all fmB) = true := by decide +kernel
theorem fm_41 : ((List.range' 41 10).all fmB) = true := by decide +kernel
theorem fm_51 : ((List.range' 51 10).all fmB) = true := by decide +kernel
theorem fm_61 : ((List.range' 61 10).all fmB) = true := by decide +kernel
theorem fm_71 : ((List.range' 71 10).all fmB) = true := by decide +kernel
theorem fm_81 : ((List.range' 81 10).all fmB) = true := by decide +kernel
theorem fm_91 : ((List.range' 91 10).all fmB) = true := by decide +kernel
theorem fm_101 : ((List.range' 101 10).all fmB) = true := by decide +kernel
theorem fm_111 : ((List.range' 111 10).all fmB) = true := by decide +kernel
theorem fm_121 : ((List.range' 121 10).all fmB) = true := by decide +kernel
theorem fm_131 : ((List.range' 131 10).all fmB) = true := by decide +kernel
theorem fm_141 : ((List.range' 141 10).all fmB) = true := by decide +kernel
theorem fm_151 : ((List.range' 151 10).all fmB) = true := by decide +kernel
theorem fm_161 : ((List.range' 161 10).all fmB) = true := by decide +kernel
theorem fm_171 : ((List.range' 171 10).all fmB) = true := by decide +kernel
theorem fm_181 : ((List.range' 181 10).all fmB) = true := by decide +kernel
theorem fm_191 : ((List.range' 191 10).all fmB) = true := by decide +kernel
theorem fm_201 : ((List.range' 201 10).all fmB) = true := by decide +kernel
theorem fm_211 : ((List.range' 211 10).all fmB) = true := by decide +kernel
theorem fm_221 : ((List.range' 221 10).all fmB) = true := by decide +kernel
theorem fm_231 : ((List.range' 231 10).all fmB) = true := by decide +kernel
theorem fm_241 : ((List.range' 241 10).all fmB) = true := by decide +kernel
theorem fm_251 : ((List.range' 251 10).all fmB) = true := by decide +kernel
theorem fm_261 : ((List.range' 261 3).all fmB) = true := by decide +kernel
