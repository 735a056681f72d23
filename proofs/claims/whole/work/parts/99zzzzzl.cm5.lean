section
/-! the constructors, run -/
theorem lk_mem {pc : Nat} {q : CRw} : ∀ {l : List (Nat × CRw)}, l.lookup pc = some q → ∃ i : Nat, l[i]? = some (pc, q)
  | [], h => by cases h
  | (p, r) :: l, h => by
    rw [List.lookup_cons] at h
    cases hb : pc == p with
    | true =>
      rw [hb] at h
      have e : pc = p := by simpa using hb
      subst e
      cases h
      exact ⟨0, rfl⟩
    | false =>
      rw [hb] at h
      obtain ⟨i, hi⟩ := lk_mem h
      exact ⟨i + 1, hi⟩
theorem chk_at {m i0 n i : Nat} {x : Nat × CRw} (h : chkR m i0 n = true) (hx : (cL m)[i]? = some x) (l0 : i0 ≤ i) (l1 : i < i0 + n) : okR m x.1 x.2 = true := by
  unfold chkR at h
  refine List.all_eq_true.mp h x (List.mem_of_getElem? (i := i - i0) ?_)
  rw [List.getElem?_take, if_pos (by omega), List.getElem?_drop, show i0 + (i - i0) = i by omega]
  exact hx
theorem row_ok {m pc : Nat} {q : CRw} (hm : m < 13) (h : cRow m pc = some q) : okR m pc q = true := by
  obtain ⟨i, hi⟩ := lk_mem h
  have il : i < (cL m).length := (List.getElem?_eq_some_iff.mp hi).1
  have : m = 0 ∨ m = 1 ∨ m = 2 ∨ m = 3 ∨ m = 4 ∨ m = 5 ∨ m = 6 ∨ m = 7 ∨ m = 8 ∨ m = 9 ∨ m = 10 ∨ m = 11 ∨ m = 12 := by omega
  rcases this with e | e | e | e | e | e | e | e | e | e | e | e | e <;> subst e
  · have : (cL 0).length = 24 := rfl
    exact chk_at chkR_0 hi (by omega) (by omega)
  · have : (cL 1).length = 11 := rfl
    exact chk_at chkR_1 hi (by omega) (by omega)
  · have : (cL 2).length = 7 := rfl
    exact chk_at chkR_2 hi (by omega) (by omega)
  · have : (cL 3).length = 30 := rfl
    exact chk_at chkR_3 hi (by omega) (by omega)
  · have : (cL 4).length = 54 := rfl
    exact chk_at chkR_4 hi (by omega) (by omega)
  · have : (cL 5).length = 6 := rfl
    exact chk_at chkR_5 hi (by omega) (by omega)
  · have : (cL 6).length = 7 := rfl
    exact chk_at chkR_6 hi (by omega) (by omega)
  · have : (cL 7).length = 55 := rfl
    exact chk_at chkR_7 hi (by omega) (by omega)
  · have : (cL 8).length = 29 := rfl
    exact chk_at chkR_8 hi (by omega) (by omega)
  · have : (cL 9).length = 26 := rfl
    exact chk_at chkR_9 hi (by omega) (by omega)
  · have : (cL 10).length = 35 := rfl
    exact chk_at chkR_10 hi (by omega) (by omega)
  · have : (cL 11).length = 55 := rfl
    exact chk_at chkR_11 hi (by omega) (by omega)
  · have : (cL 12).length = 351 := by decide +kernel
    rcases Nat.lt_or_ge i 60 with c | c
    · exact chk_at chkR_12_0 hi (by omega) (by omega)
    · rcases Nat.lt_or_ge i 120 with c | c
      · exact chk_at chkR_12_60 hi (by omega) (by omega)
      · rcases Nat.lt_or_ge i 180 with c | c
        · exact chk_at chkR_12_120 hi (by omega) (by omega)
        · rcases Nat.lt_or_ge i 240 with c | c
          · exact chk_at chkR_12_180 hi (by omega) (by omega)
          · rcases Nat.lt_or_ge i 300 with c | c
            · exact chk_at chkR_12_240 hi (by omega) (by omega)
            · exact chk_at chkR_12_300 hi (by omega) (by omega)
theorem cc_of {m : Nat} (h : ccB m = true) : Jvm.Cond.code (cY m) (cBY m) (cNL m) none ∈ TW ∧ plainName (vR m) = true ∧ (vR m ≠ "java/lang/invoke/MethodHandle" ∧ vR m ≠ "java/lang/invoke/VarHandle" ∧ (parseMethodDescriptor (cDE m)).map (fun d => d.parameters.length) = some (cNA m)) ∧ cNL m ≤ 9 := by
  obtain ⟨a, b⟩ := bq h
  obtain ⟨b, c⟩ := bq b
  obtain ⟨c, d⟩ := bq c
  obtain ⟨d, e⟩ := bq d
  obtain ⟨e, f⟩ := bq e
  exact ⟨tbW_ok a rfl, b, ⟨of_decide_eq_true c, of_decide_eq_true d, of_decide_eq_true e⟩, Nat.le_of_ble_eq_true f⟩
theorem cc_all {m : Nat} (hm : m < 13) : Jvm.Cond.code (cY m) (cBY m) (cNL m) none ∈ TW ∧ plainName (vR m) = true ∧ (vR m ≠ "java/lang/invoke/MethodHandle" ∧ vR m ≠ "java/lang/invoke/VarHandle" ∧ (parseMethodDescriptor (cDE m)).map (fun d => d.parameters.length) = some (cNA m)) ∧ cNL m ≤ 9 := by
  have : m = 0 ∨ m = 1 ∨ m = 2 ∨ m = 3 ∨ m = 4 ∨ m = 5 ∨ m = 6 ∨ m = 7 ∨ m = 8 ∨ m = 9 ∨ m = 10 ∨ m = 11 ∨ m = 12 := by omega
  rcases this with e | e | e | e | e | e | e | e | e | e | e | e | e <;> subst e
  · exact cc_of ccB_0
  · exact cc_of ccB_1
  · exact cc_of ccB_2
  · exact cc_of ccB_3
  · exact cc_of ccB_4
  · exact cc_of ccB_5
  · exact cc_of ccB_6
  · exact cc_of ccB_7
  · exact cc_of ccB_8
  · exact cc_of ccB_9
  · exact cc_of ccB_10
  · exact cc_of ccB_11
  · obtain ⟨b, c⟩ := bq ccP_12
    obtain ⟨c, d⟩ := bq c
    obtain ⟨d, e⟩ := bq d
    obtain ⟨e, f⟩ := bq e
    exact ⟨code_12m, b, ⟨of_decide_eq_true c, of_decide_eq_true d, of_decide_eq_true e⟩, Nat.le_of_ble_eq_true f⟩
theorem cR_ok (G : SG) (l : Launch) : ∀ (f d m pc : Nat) (ls st : List AV) (w w' : List CE) (k sl : Nat), m < 13 → cR f d m pc ls st w = some (w', k, sl) → CX G l d m pc ls st w w' k sl := by
  intro f
  induction f with
  | zero => intro d m pc ls st w w' k sl hm h; cases h
  | succ f ih =>
    intro d m pc ls st w w' k sl hm h
    unfold cR at h
    cases hr : cRow m pc with
    | none => rw [hr] at h; cases h
    | some q =>
      have ok := row_ok hm hr
      rw [hr] at h
      dsimp only at h
      by_cases d0 : d = 0
      · rw [if_pos d0] at h; cases h
      rw [if_neg d0] at h
      by_cases c21 : q.1 = 21
      · rw [if_pos c21] at h
        obtain ⟨op, nx, a, b, z, p1, p2, p3⟩ := q
        have c21 : op = 21 := c21
        subst c21
        cases st with
        | nil =>
          cases h
          exact cx_ret (dC_ok ok)
        | cons x r => cases h
      rw [if_neg c21] at h
      by_cases c11 : q.1 = 11
      · rw [if_pos c11] at h
        obtain ⟨op, nx, a, b, z, p1, p2, p3⟩ := q
        have c11 : op = 11 := c11
        subst c11
        dsimp only at h
        obtain ⟨o1, o2⟩ := bq ok
        obtain ⟨o2, o3⟩ := bq o2
        obtain ⟨o3, o4⟩ := bq o3
        obtain ⟨o4, o5⟩ := bq o4
        obtain ⟨o5, o6⟩ := bq o5
        have o2 := nb_ok o2
        have o3 : a < 13 := by rwa [Nat.blt_eq] at o3
        cases hs : s_11 a st with
        | none => rw [hs] at h; cases h
        | some t =>
          obtain ⟨As, bb, r⟩ := t
          rw [hs] at h
          dsimp only at h
          cases h1 : cR f (d - 1) a 0 (((10, bb) :: As) ++ List.replicate (cNL a - (As.length + 1)) (2, 0)) [] w with
          | none => rw [h1] at h; cases h
          | some t1 =>
            obtain ⟨w1, k1, s1⟩ := t1
            rw [h1] at h
            dsimp only at h
            by_cases cl : w1.length = w.length + k1 ∧ 0 < w.length
            · rw [if_pos cl] at h
              cases h2 : cR f d m nx ls r w1 with
              | none => rw [h2] at h; cases h
              | some t2 =>
                obtain ⟨w2, k2, s2⟩ := t2
                rw [h2] at h
                cases h
                have K1 := ih (d - 1) a 0 _ _ _ _ _ _ o3 h1
                have K2 := ih d m nx _ _ _ _ _ _ hm h2
                have hc := cc_all o3
                unfold s_11 at hs
                cases hd : st.drop (cNA a) with
                | nil => rw [hd] at hs; cases hs
                | cons x r' =>
                  obtain ⟨tx, vx⟩ := x
                  rw [hd] at hs
                  dsimp only at hs
                  by_cases cc : (tx = 10 ∧ 1 ≤ vx ∧ wrds r' ≤ 8) ∧ nolg ((st.take (cNA a)).reverse) = true ∧ cNA a ≤ st.length ∧ cNA a + 1 ≤ cNL a
                  · rw [if_pos cc] at hs
                    obtain ⟨⟨e1, e2, e3⟩, e4, e5, e6⟩ := cc
                    cases hs
                    subst e1 o2
                    have hl : ((st.take (cNA a)).reverse).length = cNA a := by rw [List.length_reverse, List.length_take]; omega
                    have est : st = ((st.take (cNA a)).reverse).reverse ++ (10, bb) :: r := by rw [List.reverse_reverse, ← hd, List.take_append_drop]
                    rw [est]
                    exact cx_call (dC_ok o1) hc.2.1 hc.2.2.1 (tbW_ok o4 rfl) (tbW_ok o5 rfl) (tbW_ok o6 rfl) hc.1 hl e4 (by omega) hc.2.2.2 e2 e3 (by omega) cl.2 cl.1 K1 K2
                  · rw [if_neg cc] at hs; cases hs
            · rw [if_neg cl] at h; cases h
      rw [if_neg c11] at h
      cases hs : cS m q ls st w with
      | none => rw [hs] at h; cases h
      | some t =>
        obtain ⟨pc', ls', st', w1, k1, s1⟩ := t
        rw [hs] at h
        dsimp only at h
        cases h2 : cR f d m pc' ls' st' w1 with
        | none => rw [h2] at h; cases h
        | some t2 =>
          obtain ⟨w2, k2, s2⟩ := t2
          rw [h2] at h
          cases h
          exact cS_ok hm (by omega) q ok hs (ih d m pc' _ _ _ _ _ _ hm h2)
/-- the world behind the constructors -/
noncomputable def expE (a : Nat) : CE :=
  bif Nat.blt (aKD a) 50 then (0, aKD a - 10, (List.range (vN (aKD a - 10))).map fun k => bif Nat.beq (fK (aKD a - 10) k).1 1 then (a : Int) + (fK (aKD a - 10) k).2.2 else 0)
  else bif Nat.beq (aKD a) 50 then (50, (aSZn a).toNat, [])
  else bif Nat.beq (aKD a) 52 then (52, (aSZn a).toNat, [])
  else bif Nat.beq (aKD a) 51 then (51, (aSZn a).toNat, hsL)
  else bif Nat.beq (aKD a) 53 then (53, (aSZn a).toNat, (List.range (aSZn a).toNat).map fun j => ((a + 4 + 2 * j : Nat) : Int))
  else bif Nat.beq (aKD a) 54 then (53, (aSZn a).toNat, (List.range (aSZn a).toNat).map fun j => ((a + 23 + 5 * j : Nat) : Int))
  else (55, (aSZn a).toNat, (List.range (aSZn a).toNat).map fun j => ((a + 24 + 5 * j : Nat) : Int))
noncomputable def expW (n : Nat) : List CE := (List.range n).map fun i => expE (i + 1)
end
