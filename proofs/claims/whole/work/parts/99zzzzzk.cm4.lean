section
/-! the constructors, run: what a step does -/
abbrev CN : Type := Nat × List AV × List AV × List CE × Nat × Nat
def s_0 (nx a : Nat) (ls st : List AV) (w : List CE) : Option CN := match ls[a]? with
  | some q => if 10 ≤ q.1 then some (nx, ls, q :: st, w, 0, 0) else none
  | none => none
def s_1 (nx a : Nat) (ls st : List AV) (w : List CE) : Option CN := match ls[a]? with
  | some q => if q.1 = 0 then some (nx, ls, (0, q.2) :: st, w, 0, 0) else none
  | none => none
def s_6 (nx : Nat) (ls st : List AV) (w : List CE) : Option CN := match st with
  | q :: r => if q.1 ≠ 1 then some (nx, ls, q :: q :: r, w, 0, 0) else none
  | [] => none
def s_8 (nx a : Nat) (ls st : List AV) (w : List CE) : Option CN := match st with
  | q :: r => if q.1 = 0 ∧ 0 ≤ q.2 ∧ q.2 < 4000 then some (nx, ls, (10, (w.length : Int) + 1) :: r, w ++ [(a, q.2.toNat, if a = 51 then List.replicate q.2.toNat 0 else [])], 1, q.2.toNat) else none
  | [] => none
def s_9 (nx a : Nat) (ls st : List AV) (w : List CE) : Option CN := match st with
  | q :: r => if q.1 = 0 ∧ 0 ≤ q.2 ∧ q.2 < 4000 then some (nx, ls, (10, (w.length : Int) + 1) :: r, w ++ [(a, q.2.toNat, List.replicate q.2.toNat 0)], 1, q.2.toNat) else none
  | [] => none
def s_10 (nx : Nat) (ls st : List AV) (w : List CE) : Option CN := match st with
  | q :: r => if q.1 = 10 ∧ 1 ≤ q.2 ∧ wrds r ≤ 8 then some (nx, ls, r, w, 0, 0) else none
  | [] => none
def s_12 (m nx a : Nat) (ls st : List AV) (w : List CE) : Option CN := match st with
  | x :: b :: r => match w[(b.2 - 1).toNat]? with
    | some e => if (x.1 = 10 ∧ b.1 = 10 ∧ 1 ≤ b.2 ∧ 1 ≤ x.2) ∧ (e.1 = 0 ∧ e.2.1 = m ∧ a < e.2.2.length) then some (nx, ls, r, w.set (b.2 - 1).toNat (0, m, e.2.2.set a x.2), 0, 0) else none
    | none => none
  | _ => none
def s_13 (m nx a : Nat) (ls st : List AV) (w : List CE) : Option CN := match st with
  | b :: r => match w[(b.2 - 1).toNat]? with
    | some e => if (b.1 = 10 ∧ 1 ≤ b.2) ∧ (e.1 = 0 ∧ e.2.1 = m) then some (nx, ls, (10, e.2.2.getD a 0) :: r, w, 0, 0) else none
    | none => none
  | _ => none
def s_14 (nx : Nat) (ls st : List AV) (w : List CE) : Option CN := match st with
  | x :: i :: b :: r => match w[(b.2 - 1).toNat]?, w[(x.2 - 1).toNat]? with
    | some e, some g => if (x.1 = 10 ∧ i.1 = 0 ∧ b.1 = 10 ∧ 1 ≤ b.2 ∧ 1 ≤ x.2) ∧ (0 ≤ i.2 ∧ i.2 < e.2.1) ∧ e.2.1 ≤ 4000 ∧ e.2.2.length = e.2.1 ∧ g.1 = 0 ∧ ((e.1 = 53 ∧ g.2.1 = 6) ∨ (e.1 = 55 ∧ g.2.1 = 1)) then some (nx, ls, r, w.set (b.2 - 1).toNat (e.1, e.2.1, e.2.2.set i.2.toNat x.2), 0, 0) else none
    | _, _ => none
  | _ => none
def s_15 (nx : Nat) (ls st : List AV) (w : List CE) : Option CN := match st with
  | x :: i :: b :: r => match w[(b.2 - 1).toNat]? with
    | some e => if (x.1 = 1 ∧ i.1 = 0 ∧ b.1 = 10 ∧ 1 ≤ b.2) ∧ (0 ≤ i.2 ∧ i.2 < e.2.1) ∧ e.2.1 ≤ 4000 ∧ e.2.2.length = e.2.1 ∧ e.1 = 51 then some (nx, ls, r, w.set (b.2 - 1).toNat (51, e.2.1, e.2.2.set i.2.toNat x.2), 0, 0) else none
    | none => none
  | _ => none
def s_16 (nx : Nat) (ls st : List AV) (w : List CE) : Option CN := match st with
  | y :: x :: r => if y.1 = 0 ∧ x.1 = 0 then some (nx, ls, (0, x.2 * y.2) :: r, w, 0, 0) else none
  | _ => none
def s_17 (nx a : Nat) (ls st : List AV) (w : List CE) : Option CN := match st with
  | q :: r => if q.1 = 0 ∧ a < ls.length then some (nx, stL ls a (0, q.2), r, w, 0, 0) else none
  | _ => none
def s_18 (nx a : Nat) (z : Int) (ls st : List AV) (w : List CE) : Option CN := match ls[a]? with
  | some q => if q.1 = 0 then some (nx, stL ls a (0, q.2 + z), st, w, 0, 0) else none
  | none => none
def s_19 (nx a : Nat) (ls st : List AV) (w : List CE) : Option CN := match st with
  | y :: x :: r => if (y.1 = 0 ∧ x.1 = 0) ∧ (-2147483648 ≤ x.2 ∧ x.2 < 2147483648) ∧ (-2147483648 ≤ y.2 ∧ y.2 < 2147483648) then some (if y.2 ≤ x.2 then a else nx, ls, r, w, 0, 0) else none
  | _ => none
def s_11 (a : Nat) (st : List AV) : Option (List AV × Int × List AV) := match st.drop (cNA a) with
  | q :: r => if (q.1 = 10 ∧ 1 ≤ q.2 ∧ wrds r ≤ 8) ∧ nolg ((st.take (cNA a)).reverse) = true ∧ cNA a ≤ st.length ∧ cNA a + 1 ≤ cNL a then some ((st.take (cNA a)).reverse, q.2, r) else none
  | [] => none
def cS (m : Nat) (q : CRw) (ls st : List AV) (w : List CE) : Option CN := match q with
  | (op, nx, a, _, z, _, _, _) => match op with
    | 0 => s_0 nx a ls st w
    | 1 => s_1 nx a ls st w
    | 2 => some (nx, ls, (0, z) :: st, w, 0, 0)
    | 3 => some (nx, ls, (0, z) :: st, w, 0, 0)
    | 4 => some (nx, ls, (0, z) :: st, w, 0, 0)
    | 5 => some (nx, ls, (1, z) :: st, w, 0, 0)
    | 6 => s_6 nx ls st w
    | 7 => some (nx, ls, (10, (w.length : Int) + 1) :: st, w ++ [(0, a, List.replicate (vN a) 0)], 1, vN a)
    | 8 => s_8 nx a ls st w
    | 9 => s_9 nx a ls st w
    | 10 => s_10 nx ls st w
    | 12 => s_12 m nx a ls st w
    | 13 => s_13 m nx a ls st w
    | 14 => s_14 nx ls st w
    | 15 => s_15 nx ls st w
    | 16 => s_16 nx ls st w
    | 17 => s_17 nx a ls st w
    | 18 => s_18 nx a z ls st w
    | 19 => s_19 nx a ls st w
    | 20 => some (a, ls, st, w, 0, 0)
    | _ => none
def cR : Nat → Nat → Nat → Nat → List AV → List AV → List CE → Option (List CE × Nat × Nat)
  | 0, _, _, _, _, _, _ => none
  | f + 1, d, m, pc, ls, st, w => match cRow m pc with
    | none => none
    | some q =>
      if d = 0 then none
      else if q.1 = 21 then (match st with
        | [] => some (w, 0, 0)
        | _ => none)
      else if q.1 = 11 then (match s_11 q.2.2.1 st with
        | none => none
        | some (As, b, r) => match cR f (d - 1) q.2.2.1 0 (((10, b) :: As) ++ List.replicate (cNL q.2.2.1 - (As.length + 1)) (2, 0)) [] w with
          | none => none
          | some (w1, k1, s1) => if w1.length = w.length + k1 ∧ 0 < w.length then (match cR f d m q.2.1 ls r w1 with
            | none => none
            | some (w', k, sl) => some (w', k1 + k, s1 + sl)) else none)
      else match cS m q ls st w with
        | none => none
        | some (pc', ls', st', w1, k1, s1) => match cR f d m pc' ls' st' w1 with
          | none => none
          | some (w', k, sl) => some (w', k1 + k, s1 + sl)
end
section
variable {G : SG} {l : Launch} {d m pc nx a b k sl k1 s1 pc' : Nat} {z : Int} {ls st ls' st' : List AV} {w w1 w' : List CE}
theorem bq {a b : Bool} (h : (a && b) = true) : a = true ∧ b = true := by simpa using h
theorem dC_ok {ins : Instr} {L : Nat} (h : dC m pc ins L = true) : decode (cBY m) pc = .ok (ins, L) := of_decide_eq_true h
theorem tbW_ok {i : Nat} {q : Jvm.Cond} (h : tbW i q = true) (g : goodWord q = true) : q ∈ TW := TW_pos i (of_decide_eq_true h) g
theorem nb_ok {x y : Nat} (h : Nat.beq x y = true) : x = y := Nat.eq_of_beq_eq_true h
theorem cz (K : CX G l d m pc ls st w w' k sl) : CX G l d m pc ls st w w' (0 + k) (0 + sl) := by rw [Nat.zero_add, Nat.zero_add]; exact K
theorem cS_ok (hm : m < 13) (d0 : 0 < d) : ∀ (q : CRw), okR m pc q = true → cS m q ls st w = some (pc', ls', st', w1, k1, s1) → CX G l d m pc' ls' st' w1 w' k sl → CX G l d m pc ls st w w' (k1 + k) (s1 + sl) := by
  intro q ok h K
  obtain ⟨op, nx, a, b, z, p1, p2, p3⟩ := q
  revert ok h
  match op with
  | 0 =>
    intro ok h
    obtain ⟨o1, o2⟩ := bq ok
    obtain ⟨o2, o3⟩ := bq o2
    have o2 := nb_ok o2
    replace h : s_0 nx a ls st w = some (pc', ls', st', w1, k1, s1) := h
    unfold s_0 at h
    cases hq : ls[a]? with
    | none => rw [hq] at h; cases h
    | some q =>
      obtain ⟨t, v⟩ := q
      rw [hq] at h
      dsimp only at h
      by_cases c : 10 ≤ t
      · rw [if_pos c] at h
        cases h
        subst o2
        exact cz (cx_aload (dC_ok o1) (nb_ok o3) hq c K)
      · rw [if_neg c] at h; cases h
  | 1 =>
    intro ok h
    obtain ⟨o1, o2⟩ := bq ok
    obtain ⟨o2, o3⟩ := bq o2
    have o2 := nb_ok o2
    replace h : s_1 nx a ls st w = some (pc', ls', st', w1, k1, s1) := h
    unfold s_1 at h
    cases hq : ls[a]? with
    | none => rw [hq] at h; cases h
    | some q =>
      obtain ⟨t, v⟩ := q
      rw [hq] at h
      dsimp only at h
      by_cases c : t = 0
      · rw [if_pos c] at h
        cases h
        subst o2 c
        exact cz (cx_iload (dC_ok o1) (nb_ok o3) hq K)
      · rw [if_neg c] at h; cases h
  | 2 =>
    intro ok h
    obtain ⟨o1, o2⟩ := bq ok
    have o2 := nb_ok o2
    replace h : some (nx, ls, ((0, z) :: st : List AV), w, 0, 0) = some (pc', ls', st', w1, k1, s1) := h
    cases h
    subst o2
    exact cz (cx_iconst (dC_ok o1) rfl K)
  | 3 =>
    intro ok h
    obtain ⟨o1, o2⟩ := bq ok
    obtain ⟨o2, o3⟩ := bq o2
    have o2 := nb_ok o2
    replace h : some (nx, ls, ((0, z) :: st : List AV), w, 0, 0) = some (pc', ls', st', w1, k1, s1) := h
    cases h
    subst o2
    exact cz (cx_bipush (dC_ok o1) (of_decide_eq_true o3) K)
  | 4 =>
    intro ok h
    obtain ⟨o1, o2⟩ := bq ok
    obtain ⟨o2, o3⟩ := bq o2
    have o2 := nb_ok o2
    replace h : some (nx, ls, ((0, z) :: st : List AV), w, 0, 0) = some (pc', ls', st', w1, k1, s1) := h
    cases h
    subst o2
    exact cz (cx_sipush (dC_ok o1) (of_decide_eq_true o3) K)
  | 5 =>
    intro ok h
    obtain ⟨o1, o2⟩ := bq ok
    obtain ⟨o2, o3⟩ := bq o2
    have o2 := nb_ok o2
    replace h : some (nx, ls, ((1, z) :: st : List AV), w, 0, 0) = some (pc', ls', st', w1, k1, s1) := h
    cases h
    subst o2
    exact cz (cx_ldc2 (dC_ok o1) (tbW_ok o3 rfl) K)
  | 6 =>
    intro ok h
    obtain ⟨o1, o2⟩ := bq ok
    have o2 := nb_ok o2
    replace h : s_6 nx ls st w = some (pc', ls', st', w1, k1, s1) := h
    unfold s_6 at h
    cases st with
    | nil => cases h
    | cons q r =>
      obtain ⟨t, v⟩ := q
      dsimp only at h
      by_cases c : t ≠ 1
      · rw [if_pos c] at h
        cases h
        subst o2
        exact cz (cx_dup (dC_ok o1) c K)
      · rw [if_neg c] at h; cases h
  | 7 =>
    intro ok h
    obtain ⟨o1, o2⟩ := bq ok
    obtain ⟨o2, o3⟩ := bq o2
    obtain ⟨o3, o4⟩ := bq o3
    obtain ⟨o4, o5⟩ := bq o4
    obtain ⟨o5, o6⟩ := bq o5
    have o2 := nb_ok o2
    have o3 : a < 13 := by rwa [Nat.blt_eq] at o3
    replace h : some (nx, ls, ((10, (w.length : Int) + 1) :: st : List AV), w ++ [(0, a, List.replicate (vN a) 0)], 1, vN a) = some (pc', ls', st', w1, k1, s1) := h
    cases h
    subst o2
    rw [Nat.add_comm 1 k, Nat.add_comm (vN a) sl]
    exact cx_new (dC_ok o1) o3 (tbW_ok o4 rfl) (tbW_ok o5 rfl) (tbW_ok o6 rfl) K
  | 8 =>
    intro ok h
    obtain ⟨o1, o2⟩ := bq ok
    have o2 := nb_ok o2
    replace h : s_8 nx a ls st w = some (pc', ls', st', w1, k1, s1) := h
    unfold s_8 at h
    cases st with
    | nil => cases h
    | cons q r =>
      obtain ⟨t, v⟩ := q
      dsimp only at h
      by_cases c : t = 0 ∧ 0 ≤ v ∧ v < 4000
      · rw [if_pos c] at h
        obtain ⟨c1, c2⟩ := c
        subst c1
        rcases Bool.or_eq_true_iff.mp o1 with o1 | o1
        · obtain ⟨e1, o1⟩ := bq o1
          have e1 := nb_ok e1
          subst e1
          rw [if_neg (by decide)] at h
          cases h
          subst o2
          rw [Nat.add_comm 1 k, Nat.add_comm v.toNat sl]
          exact cx_newI (dC_ok o1) c2 (tbW_ok cc_ai rfl) K
        · rcases Bool.or_eq_true_iff.mp o1 with o1 | o1
          · obtain ⟨e1, o1⟩ := bq o1
            have e1 := nb_ok e1
            subst e1
            rw [if_neg (by decide)] at h
            cases h
            subst o2
            rw [Nat.add_comm 1 k, Nat.add_comm v.toNat sl]
            exact cx_newZ (dC_ok o1) c2 (tbW_ok cc_az rfl) K
          · obtain ⟨e1, o1⟩ := bq o1
            have e1 := nb_ok e1
            subst e1
            rw [if_pos rfl] at h
            cases h
            subst o2
            rw [Nat.add_comm 1 k, Nat.add_comm v.toNat sl]
            exact cx_newJ (dC_ok o1) c2 (tbW_ok cc_aj rfl) K
      · rw [if_neg c] at h; cases h
  | 9 =>
    intro ok h
    obtain ⟨o1, o2⟩ := bq ok
    obtain ⟨o2, o3⟩ := bq o2
    have o2 := nb_ok o2
    replace h : s_9 nx a ls st w = some (pc', ls', st', w1, k1, s1) := h
    unfold s_9 at h
    cases st with
    | nil => cases h
    | cons q r =>
      obtain ⟨t, v⟩ := q
      dsimp only at h
      by_cases c : t = 0 ∧ 0 ≤ v ∧ v < 4000
      · rw [if_pos c] at h
        obtain ⟨c1, c2⟩ := c
        subst c1
        cases h
        subst o2
        rw [Nat.add_comm 1 k, Nat.add_comm v.toNat sl]
        rcases Bool.or_eq_true_iff.mp o3 with o3 | o3
        · obtain ⟨e1, o3⟩ := bq o3
          have e1 := nb_ok e1
          subst e1
          exact cx_newS (dC_ok o1) c2 (tbW_ok o3 rfl) K
        · obtain ⟨e1, o3⟩ := bq o3
          have e1 := nb_ok e1
          subst e1
          exact cx_newC (dC_ok o1) c2 (tbW_ok o3 rfl) K
      · rw [if_neg c] at h; cases h
  | 10 =>
    intro ok h
    obtain ⟨o1, o2⟩ := bq ok
    obtain ⟨o2, o3⟩ := bq o2
    have o2 := nb_ok o2
    replace h : s_10 nx ls st w = some (pc', ls', st', w1, k1, s1) := h
    unfold s_10 at h
    cases st with
    | nil => cases h
    | cons q r =>
      obtain ⟨t, v⟩ := q
      dsimp only at h
      by_cases c : t = 10 ∧ 1 ≤ v ∧ wrds r ≤ 8
      · rw [if_pos c] at h
        obtain ⟨c1, c2, c3⟩ := c
        subst c1
        cases h
        subst o2
        exact cz (cx_obj (dC_ok o1) (tbW_ok o3 rfl) (tbW_ok cc_im rfl) (tbW_ok cc_co rfl) c2 c3 d0 K)
      · rw [if_neg c] at h; cases h
  | 12 =>
    intro ok h
    obtain ⟨o1, o2⟩ := bq ok
    obtain ⟨o2, o3⟩ := bq o2
    obtain ⟨o3, o4⟩ := bq o3
    obtain ⟨o4, o5⟩ := bq o4
    obtain ⟨o5, o6⟩ := bq o5
    obtain ⟨o6, o7⟩ := bq o6
    obtain ⟨o7, o8⟩ := bq o7
    have o2 := nb_ok o2
    have o3 : a < vN m := by rwa [Nat.blt_eq] at o3
    replace h : s_12 m nx a ls st w = some (pc', ls', st', w1, k1, s1) := h
    unfold s_12 at h
    match st, h with
    | (tx, x) :: (tb, bb) :: r, h =>
      dsimp only at h
      cases hq : w[(bb - 1).toNat]? with
      | none => rw [hq] at h; cases h
      | some e =>
        obtain ⟨e0, e1, fs⟩ := e
        rw [hq] at h
        dsimp only at h
        by_cases c : (tx = 10 ∧ tb = 10 ∧ 1 ≤ bb ∧ 1 ≤ x) ∧ (e0 = 0 ∧ e1 = m ∧ a < fs.length)
        · rw [if_pos c] at h
          obtain ⟨⟨c1, c2, c3, c4⟩, c5, c6, c7⟩ := c
          subst c1 c2 c5
          rw [c6] at hq
          cases h
          subst o2
          exact cz (cx_putf (dC_ok o1) hm o3 (tbW_ok o4 rfl) (of_decide_eq_true o5) o6 o7 o8 c3 hq c4 rfl c7 K)
        · rw [if_neg c] at h; cases h
  | 13 =>
    intro ok h
    obtain ⟨o1, o2⟩ := bq ok
    obtain ⟨o2, o3⟩ := bq o2
    obtain ⟨o3, o4⟩ := bq o3
    obtain ⟨o4, o5⟩ := bq o4
    obtain ⟨o5, o6⟩ := bq o5
    have o2 := nb_ok o2
    have o3 : a < vN m := by rwa [Nat.blt_eq] at o3
    replace h : s_13 m nx a ls st w = some (pc', ls', st', w1, k1, s1) := h
    unfold s_13 at h
    match st, h with
    | (tb, bb) :: r, h =>
      dsimp only at h
      cases hq : w[(bb - 1).toNat]? with
      | none => rw [hq] at h; cases h
      | some e =>
        obtain ⟨e0, e1, fs⟩ := e
        rw [hq] at h
        dsimp only at h
        by_cases c : (tb = 10 ∧ 1 ≤ bb) ∧ (e0 = 0 ∧ e1 = m)
        · rw [if_pos c] at h
          obtain ⟨⟨c2, c3⟩, c5, c6⟩ := c
          subst c2 c5
          rw [c6] at hq
          cases h
          subst o2
          exact cz (cx_getf (dC_ok o1) hm o3 (tbW_ok o4 rfl) (of_decide_eq_true o5) o6 c3 hq rfl K)
        · rw [if_neg c] at h; cases h
  | 14 =>
    intro ok h
    obtain ⟨o1, o2⟩ := bq ok
    have o2 := nb_ok o2
    replace h : s_14 nx ls st w = some (pc', ls', st', w1, k1, s1) := h
    unfold s_14 at h
    match st, h with
    | (tx, x) :: (ti, i) :: (tb, bb) :: r, h =>
      dsimp only at h
      cases hq : w[(bb - 1).toNat]? with
      | none => rw [hq] at h; cases h
      | some e =>
        obtain ⟨e0, n, v⟩ := e
        rw [hq] at h
        cases hg : w[(x - 1).toNat]? with
        | none => rw [hg] at h; cases h
        | some g =>
          obtain ⟨g0, g1, fs⟩ := g
          rw [hg] at h
          dsimp only at h
          by_cases c : (tx = 10 ∧ ti = 0 ∧ tb = 10 ∧ 1 ≤ bb ∧ 1 ≤ x) ∧ (0 ≤ i ∧ i < n) ∧ n ≤ 4000 ∧ v.length = n ∧ g0 = 0 ∧ ((e0 = 53 ∧ g1 = 6) ∨ (e0 = 55 ∧ g1 = 1))
          · rw [if_pos c] at h
            obtain ⟨⟨c1, c2, c3, c4, c5⟩, c6, c7, c8, c9, c10⟩ := c
            subst c1 c2 c3 c9
            cases h
            subst o2
            rcases c10 with ⟨z1, z2⟩ | ⟨z1, z2⟩
            · subst z1 z2
              exact cz (cx_aasS (dC_ok o1) c4 c5 hq hg c6 c7 c8 K)
            · subst z1 z2
              exact cz (cx_aasC (dC_ok o1) c4 c5 hq hg c6 c7 c8 K)
          · rw [if_neg c] at h; cases h
  | 15 =>
    intro ok h
    obtain ⟨o1, o2⟩ := bq ok
    have o2 := nb_ok o2
    replace h : s_15 nx ls st w = some (pc', ls', st', w1, k1, s1) := h
    unfold s_15 at h
    match st, h with
    | (tx, x) :: (ti, i) :: (tb, bb) :: r, h =>
      dsimp only at h
      cases hq : w[(bb - 1).toNat]? with
      | none => rw [hq] at h; cases h
      | some e =>
        obtain ⟨e0, n, v⟩ := e
        rw [hq] at h
        dsimp only at h
        by_cases c : (tx = 1 ∧ ti = 0 ∧ tb = 10 ∧ 1 ≤ bb) ∧ (0 ≤ i ∧ i < n) ∧ n ≤ 4000 ∧ v.length = n ∧ e0 = 51
        · rw [if_pos c] at h
          obtain ⟨⟨c1, c2, c3, c4⟩, c6, c7, c8, c9⟩ := c
          subst c1 c2 c3 c9
          cases h
          subst o2
          exact cz (cx_last (dC_ok o1) c4 hq c6 c7 c8 K)
        · rw [if_neg c] at h; cases h
  | 16 =>
    intro ok h
    obtain ⟨o1, o2⟩ := bq ok
    have o2 := nb_ok o2
    replace h : s_16 nx ls st w = some (pc', ls', st', w1, k1, s1) := h
    unfold s_16 at h
    match st, h with
    | (ty, y) :: (tx, x) :: r, h =>
      dsimp only at h
      by_cases c : ty = 0 ∧ tx = 0
      · rw [if_pos c] at h
        obtain ⟨c1, c2⟩ := c
        subst c1 c2
        cases h
        subst o2
        exact cz (cx_imul (dC_ok o1) K)
      · rw [if_neg c] at h; cases h
  | 17 =>
    intro ok h
    obtain ⟨o1, o2⟩ := bq ok
    obtain ⟨o2, o3⟩ := bq o2
    have o2 := nb_ok o2
    replace h : s_17 nx a ls st w = some (pc', ls', st', w1, k1, s1) := h
    unfold s_17 at h
    match st, h with
    | (ty, y) :: r, h =>
      dsimp only at h
      by_cases c : ty = 0 ∧ a < ls.length
      · rw [if_pos c] at h
        obtain ⟨c1, c2⟩ := c
        subst c1
        cases h
        subst o2
        exact cz (cx_istore (dC_ok o1) (nb_ok o3) c2 K)
      · rw [if_neg c] at h; cases h
  | 18 =>
    intro ok h
    obtain ⟨o1, o2⟩ := bq ok
    have o2 := nb_ok o2
    replace h : s_18 nx a z ls st w = some (pc', ls', st', w1, k1, s1) := h
    unfold s_18 at h
    cases hq : ls[a]? with
    | none => rw [hq] at h; cases h
    | some q =>
      obtain ⟨t, v⟩ := q
      rw [hq] at h
      dsimp only at h
      by_cases c : t = 0
      · rw [if_pos c] at h
        cases h
        subst o2 c
        exact cz (cx_iinc (dC_ok o1) hq K)
      · rw [if_neg c] at h; cases h
  | 19 =>
    intro ok h
    obtain ⟨o1, o2⟩ := bq ok
    obtain ⟨o2, o3⟩ := bq o2
    have o2 := nb_ok o2
    replace h : s_19 nx a ls st w = some (pc', ls', st', w1, k1, s1) := h
    unfold s_19 at h
    match st, h with
    | (ty, y) :: (tx, x) :: r, h =>
      dsimp only at h
      by_cases c : (ty = 0 ∧ tx = 0) ∧ (-2147483648 ≤ x ∧ x < 2147483648) ∧ (-2147483648 ≤ y ∧ y < 2147483648)
      · rw [if_pos c] at h
        obtain ⟨⟨c1, c2⟩, c3, c4⟩ := c
        subst c1 c2
        cases h
        subst o2
        refine cz (cx_icmp (dC_ok o1) (of_decide_eq_true o3) (by unfold r32; omega) (by unfold r32; omega) (fun q => ?_) (fun q => ?_))
        · rw [if_pos q] at K; exact K
        · rw [if_neg (by omega)] at K; exact K
      · rw [if_neg c] at h; cases h
  | 20 =>
    intro ok h
    obtain ⟨o1, o2⟩ := bq ok
    replace h : some (a, ls, st, w, 0, 0) = some (pc', ls', st', w1, k1, s1) := h
    cases h
    exact cz (cx_goto (dC_ok o1) (of_decide_eq_true o2) K)
  | 11 => exact fun _ h => nomatch h
  | 21 => exact fun _ h => nomatch h
  | n + 22 => exact fun _ h => nomatch h
end
