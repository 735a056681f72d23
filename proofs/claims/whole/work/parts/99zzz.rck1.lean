section
/-! steps of the reference's check -/
abbrev Lp (d : Nat) (ty : Int) (Q : PQ) (h : HP) : Prop := Go d M_Mo_checks 18 [(22, 135), (0, ty)] [] h Q

theorem q_choice {d : Nat} {h : HP} {f nd st ty : Int} {Q : PQ} (hd : 4 < d) (eF : h 135 62 = f + 1) (e65 : h 135 65 = -1) (f0 : 0 ≤ f) (f1 : f < 260) (en : h 173 f = nd) (n0 : 0 ≤ nd) (n1 : nd < 700) (es : h 175 f = st) (st0 : 0 ≤ st) (st1 : st < 1000) (c : h 161 nd = 63)
    (H : Go (d - 1 - 1) M_Mo_choice 0 [(22, 135), (0, f), (0, nd), (0, st), (2, 0)] [] (up2 h 175 f (st + 1)) (fun _ k => Lp d ty Q k)) : Lp d ty Q h := by
  have ef : h 135 62 - 1 = f := by omega
  refine N_Mo_checks_18 ⟨fun z => by omega, fun _ => ⟨fun z => absurd e65 z, fun _ => ⟨by omega, N_Mo_step_0 ?_⟩⟩⟩
  rw [ef, en, es]
  refine ⟨by unfold r32; omega, by omega, by omega, by omega, by unfold r32; omega, by omega, fun g1 e1 => ⟨by omega, ?_⟩⟩
  have eo : g1 161 nd = h 161 nd := by rw [e1, up2_nc (by decide)]
  have e4 : g1 174 f = h 174 f := by rw [e1, up2_nc (by decide)]
  rw [eo]
  subst e1
  exact ⟨fun _ => ⟨by omega, H⟩, fun z => absurd c z⟩

theorem q_sign {d : Nat} {h : HP} {f nd st ty : Int} {Q : PQ} (hd : 4 < d) (eF : h 135 62 = f + 1) (e65 : h 135 65 = -1) (f0 : 0 ≤ f) (f1 : f < 260) (en : h 173 f = nd) (n0 : 0 ≤ nd) (n1 : nd < 700) (es : h 175 f = st) (st0 : 0 ≤ st) (st1 : st < 1000) (c : h 161 nd = 67 ∨ h 161 nd = 71)
    (H : Go (d - 1 - 1) M_Mo_sign 0 [(22, 135), (0, f), (0, nd), (0, st)] [] (up2 h 175 f (st + 1)) (fun _ k => Lp d ty Q k)) : Lp d ty Q h := by
  have ef : h 135 62 - 1 = f := by omega
  refine N_Mo_checks_18 ⟨fun z => by omega, fun _ => ⟨fun z => absurd e65 z, fun _ => ⟨by omega, N_Mo_step_0 ?_⟩⟩⟩
  rw [ef, en, es]
  refine ⟨by unfold r32; omega, by omega, by omega, by omega, by unfold r32; omega, by omega, fun g1 e1 => ⟨by omega, ?_⟩⟩
  have eo : g1 161 nd = h 161 nd := by rw [e1, up2_nc (by decide)]
  have e4 : g1 174 f = h 174 f := by rw [e1, up2_nc (by decide)]
  rw [eo]
  subst e1
  exact ⟨fun z => by omega, fun _ => ⟨fun _ => ⟨by omega, H⟩, fun z => ⟨fun _ => ⟨by omega, H⟩, fun z2 => by omega⟩⟩⟩

theorem q_match {d : Nat} {h : HP} {f nd st ty : Int} {Q : PQ} (hd : 4 < d) (eF : h 135 62 = f + 1) (e65 : h 135 65 = -1) (f0 : 0 ≤ f) (f1 : f < 260) (en : h 173 f = nd) (n0 : 0 ≤ nd) (n1 : nd < 700) (es : h 175 f = st) (st0 : 0 ≤ st) (st1 : st < 1000) (c : h 161 nd = 77)
    (H : Go (d - 1 - 1) M_Mo_match 0 [(22, 135), (0, f), (0, nd), (0, st), (2, 0)] [] (up2 h 175 f (st + 1)) (fun _ k => Lp d ty Q k)) : Lp d ty Q h := by
  have ef : h 135 62 - 1 = f := by omega
  refine N_Mo_checks_18 ⟨fun z => by omega, fun _ => ⟨fun z => absurd e65 z, fun _ => ⟨by omega, N_Mo_step_0 ?_⟩⟩⟩
  rw [ef, en, es]
  refine ⟨by unfold r32; omega, by omega, by omega, by omega, by unfold r32; omega, by omega, fun g1 e1 => ⟨by omega, ?_⟩⟩
  have eo : g1 161 nd = h 161 nd := by rw [e1, up2_nc (by decide)]
  have e4 : g1 174 f = h 174 f := by rw [e1, up2_nc (by decide)]
  rw [eo]
  subst e1
  exact ⟨fun z => by omega, fun _ => ⟨fun z => by omega, fun _ => ⟨fun z => by omega, fun _ => ⟨fun _ => ⟨by omega, H⟩, fun z => by omega⟩⟩⟩⟩

theorem q_pair {d : Nat} {h : HP} {f nd st ty : Int} {Q : PQ} (hd : 4 < d) (eF : h 135 62 = f + 1) (e65 : h 135 65 = -1) (f0 : 0 ≤ f) (f1 : f < 260) (en : h 173 f = nd) (n0 : 0 ≤ nd) (n1 : nd < 700) (es : h 175 f = st) (st0 : 0 ≤ st) (st1 : st < 1000) (c : h 161 nd = 80)
    (H : Go (d - 1 - 1) M_Mo_pair 0 [(22, 135), (0, f), (0, nd), (0, st), (2, 0)] [] (up2 h 175 f (st + 1)) (fun _ k => Lp d ty Q k)) : Lp d ty Q h := by
  have ef : h 135 62 - 1 = f := by omega
  refine N_Mo_checks_18 ⟨fun z => by omega, fun _ => ⟨fun z => absurd e65 z, fun _ => ⟨by omega, N_Mo_step_0 ?_⟩⟩⟩
  rw [ef, en, es]
  refine ⟨by unfold r32; omega, by omega, by omega, by omega, by unfold r32; omega, by omega, fun g1 e1 => ⟨by omega, ?_⟩⟩
  have eo : g1 161 nd = h 161 nd := by rw [e1, up2_nc (by decide)]
  have e4 : g1 174 f = h 174 f := by rw [e1, up2_nc (by decide)]
  rw [eo]
  subst e1
  exact ⟨fun z => by omega, fun _ => ⟨fun z => by omega, fun _ => ⟨fun z => by omega, fun _ => ⟨fun z => by omega, fun _ => ⟨fun _ => ⟨by omega, H⟩, fun z => by omega⟩⟩⟩⟩⟩

theorem q_other {d : Nat} {h : HP} {f nd st ty : Int} {Q : PQ} (hd : 4 < d) (eF : h 135 62 = f + 1) (e65 : h 135 65 = -1) (f0 : 0 ≤ f) (f1 : f < 260) (en : h 173 f = nd) (n0 : 0 ≤ nd) (n1 : nd < 700) (es : h 175 f = st) (st0 : 0 ≤ st) (st1 : st < 1000) (c : (h 161 nd ≠ 63 ∧ h 161 nd ≠ 67 ∧ h 161 nd ≠ 71 ∧ h 161 nd ≠ 77 ∧ h 161 nd ≠ 80) ∧ h 174 f ≠ -1)
    (H : Go (d - 1 - 1) M_Mo_other 0 [(22, 135), (0, f), (0, nd), (0, st)] [] (up2 h 175 f (st + 1)) (fun _ k => Lp d ty Q k)) : Lp d ty Q h := by
  have ef : h 135 62 - 1 = f := by omega
  refine N_Mo_checks_18 ⟨fun z => by omega, fun _ => ⟨fun z => absurd e65 z, fun _ => ⟨by omega, N_Mo_step_0 ?_⟩⟩⟩
  rw [ef, en, es]
  refine ⟨by unfold r32; omega, by omega, by omega, by omega, by unfold r32; omega, by omega, fun g1 e1 => ⟨by omega, ?_⟩⟩
  have eo : g1 161 nd = h 161 nd := by rw [e1, up2_nc (by decide)]
  have e4 : g1 174 f = h 174 f := by rw [e1, up2_nc (by decide)]
  rw [eo]
  subst e1
  exact ⟨fun z => by omega, fun _ => ⟨fun z => by omega, fun _ => ⟨fun z => by omega, fun _ => ⟨fun z => by omega, fun _ => ⟨fun z => by omega, fun _ => ⟨by omega, fun _ => ⟨by omega, H⟩, fun z => by omega⟩⟩⟩⟩⟩⟩

theorem q_finds {d : Nat} {h : HP} {f nd st ty : Int} {Q : PQ} (hd : 4 < d) (eF : h 135 62 = f + 1) (e65 : h 135 65 = -1) (f0 : 0 ≤ f) (f1 : f < 260) (en : h 173 f = nd) (n0 : 0 ≤ nd) (n1 : nd < 700) (es : h 175 f = st) (st0 : 0 ≤ st) (st1 : st < 1000) (c : (h 161 nd ≠ 63 ∧ h 161 nd ≠ 67 ∧ h 161 nd ≠ 71 ∧ h 161 nd ≠ 77 ∧ h 161 nd ≠ 80) ∧ h 174 f = -1)
    (H : Go (d - 1 - 1) M_Mo_finds 0 [(22, 135), (0, nd), (0, st), (2, 0)] [] (up2 h 175 f (st + 1)) (fun _ k => Lp d ty Q k)) : Lp d ty Q h := by
  have ef : h 135 62 - 1 = f := by omega
  refine N_Mo_checks_18 ⟨fun z => by omega, fun _ => ⟨fun z => absurd e65 z, fun _ => ⟨by omega, N_Mo_step_0 ?_⟩⟩⟩
  rw [ef, en, es]
  refine ⟨by unfold r32; omega, by omega, by omega, by omega, by unfold r32; omega, by omega, fun g1 e1 => ⟨by omega, ?_⟩⟩
  have eo : g1 161 nd = h 161 nd := by rw [e1, up2_nc (by decide)]
  have e4 : g1 174 f = h 174 f := by rw [e1, up2_nc (by decide)]
  rw [eo]
  subst e1
  exact ⟨fun z => by omega, fun _ => ⟨fun z => by omega, fun _ => ⟨fun z => by omega, fun _ => ⟨fun z => by omega, fun _ => ⟨fun z => by omega, fun _ => ⟨by omega, fun z => by omega, fun _ => ⟨by omega, H⟩⟩⟩⟩⟩⟩⟩

/-- the children of a node -/
def nxt (R : HP) : Nat → Int → Int
  | 0, k => k
  | i + 1, k => nxt R i (R 165 k)
def plc (e : Int → Int) : Nat → Int → Int
  | 0, q => q
  | i + 1, q => plc e i (e q)
theorem nxt_succ (R : HP) : ∀ (i : Nat) (k : Int), nxt R (i + 1) k = R 165 (nxt R i k) := by
  intro i
  induction i with
  | zero => intro k; rfl
  | succ i ih => intro k; exact ih (R 165 k)
theorem plc_succ (e : Int → Int) : ∀ (i : Nat) (q : Int), plc e (i + 1) q = e (plc e i q) := by
  intro i
  induction i with
  | zero => intro k; rfl
  | succ i ih => intro k; exact ih (e k)
theorem KID_nth {R : HP} {e : Int → Int} {Y : YR} : ∀ (i j : Nat) (q k sc : Int), i < j → KID R e Y j q k sc → Y (plc e i q) (nxt R i k) sc := by
  intro i
  induction i with
  | zero =>
    intro j q k sc ij H
    cases j with
    | zero => omega
    | succ j => exact H.1
  | succ i ih =>
    intro j q k sc ij H
    cases j with
    | zero => omega
    | succ j => exact ih j (e q) (R 165 k) sc (by omega) H.2
theorem c_child {d : Nat} {h R : HP} {k : Int} {i : Nat} {Q : PQ} (ag : ∀ x j, 161 ≤ x → x ≤ 166 → h x (600 + j) = R x j) (k0 : 0 ≤ k) (k1 : k < 100) (i1 : i < 1000) (rg : ∀ j : Nat, j ≤ i → 0 ≤ nxt R j (R 164 k) ∧ nxt R j (R 164 k) < 100) (H : Q (600 + nxt R i (R 164 k)) h) : Go d M_Mo_childOf 0 [(22, 135), (0, 600 + k), (0, (i : Int)), (2, 0), (2, 0), (2, 0)] [] h Q := by
  have b : (600 + k) / 100 * 100 = 600 := by omega
  have loop : ∀ (r j : Nat), j + r = i → Go d M_Mo_childOf 19 [(22, 135), (0, 600 + k), (0, (i : Int)), (0, 600), (0, nxt R j (R 164 k)), (0, (j : Int))] [] h Q := by
    intro r
    induction r with
    | zero =>
      intro j hj
      have : j = i := by omega
      subst this
      have q := rg j (Nat.le_refl _)
      exact N_Mo_childOf_19 ⟨fun _ => ⟨by unfold r32; omega, H⟩, fun z => by omega⟩
    | succ r ih =>
      intro j hj
      have q := rg j (by omega)
      refine N_Mo_childOf_19 ⟨fun z => by omega, fun _ => ⟨by unfold r32; omega, by omega, by unfold r32; omega, ?_⟩⟩
      have := ih (j + 1) (by omega)
      rw [nxt_succ] at this
      rw [ag 165 _ (by omega) (by omega)]
      exact this
  refine N_Mo_childOf_0 ⟨⟨by omega, by omega⟩, by unfold r32; omega, by omega, ?_⟩
  rw [b, ag 164 k (by omega) (by omega)]
  exact loop i 0 (by omega)
theorem c_hasC {d : Nat} {h R : HP} {k : Int} {i : Nat} {Q : PQ} (ag : ∀ x j, 161 ≤ x → x ≤ 166 → h x (600 + j) = R x j) (k0 : 0 ≤ k) (k1 : k < 100) (i1 : i < 1000) (rg : ∀ j : Nat, j < i → 0 ≤ nxt R j (R 164 k) ∧ nxt R j (R 164 k) < 100) (H0 : nxt R i (R 164 k) = -1 → Q 0 h) (H1 : nxt R i (R 164 k) ≠ -1 → Q 1 h) : Go d M_Mo_hasChild 0 [(22, 135), (0, 600 + k), (0, (i : Int)), (2, 0), (2, 0), (2, 0)] [] h Q := by
  have b : (600 + k) / 100 * 100 = 600 := by omega
  have loop : ∀ (r j : Nat), j + r = i → Go d M_Mo_hasChild 19 [(22, 135), (0, 600 + k), (0, (i : Int)), (0, 600), (0, nxt R j (R 164 k)), (0, (j : Int))] [] h Q := by
    intro r
    induction r with
    | zero =>
      intro j hj
      have : j = i := by omega
      subst this
      exact N_Mo_hasChild_19 ⟨fun _ => ⟨H0, H1⟩, fun z => by omega⟩
    | succ r ih =>
      intro j hj
      have q := rg j (by omega)
      refine N_Mo_hasChild_19 ⟨fun z => by omega, fun _ => ⟨fun z => by omega, fun _ => ⟨by unfold r32; omega, by omega, by unfold r32; omega, ?_⟩⟩⟩
      have := ih (j + 1) (by omega)
      rw [nxt_succ] at this
      rw [ag 165 _ (by omega) (by omega)]
      exact this
  refine N_Mo_hasChild_0 ⟨⟨by omega, by omega⟩, by unfold r32; omega, by omega, ?_⟩
  rw [b, ag 164 k (by omega) (by omega)]
  exact loop i 0 (by omega)
theorem Snd_eq {S : Sx} {s s' t t' : Tm} (a : EqS S s s') (b : EqS S t t') : Snd S s t = Snd S s' t' := funext fun θ => propext ⟨fun ⟨p, q⟩ => ⟨p, by rw [← a θ p, ← b θ p]; exact q⟩, fun ⟨p, q⟩ => ⟨p, by rw [a θ p, b θ p]; exact q⟩⟩
/-- the lead of a class in the reference, and what it is -/
theorem q_lead {h : HP} {tm : Int → Tm} {S : Sx} {V : Vx} {x : Int} (M : MV h tm S V) (x0 : h 135 14 ≤ x) (x1 : x < h 135 15) : (0 ≤ x ∧ x < 1000) ∧ (0 ≤ h 141 x ∧ h 141 x < 1000) ∧ (h 135 14 ≤ h 142 (h 141 x) ∧ h 142 (h 141 x) < h 135 15) ∧ (0 ≤ h 142 (h 141 x) ∧ h 142 (h 141 x) < 1000) := by
  have b := MV_b M
  have mi := M.1.1.1.2.2.2.2.2.2.2.1 x x0 x1
  have l := RW_Led M.1 x x0 x1
  have l1 := l.1
  have l2 := l.2.1
  refine ⟨by omega, by omega, ⟨l1, l2⟩, ?_⟩
  constructor
  · exact Int.le_trans b.1 l1
  · exact Int.lt_of_lt_of_le l2 b.2.2
theorem q_form {h : HP} {tm : Int → Tm} {S : Sx} {V : Vx} {x L : Int} (M : MV h tm S V) (x0 : h 135 14 ≤ x) (x1 : x < h 135 15) (eL : h 142 (h 141 x) = L) : (h 137 L ≤ 6 → EqS S (tm x) (mkT (h 137 L) (tm (h 138 L)) (tm (h 139 L)))) ∧ (∀ (k : Int) (a b : Tm), 0 ≤ k → EqS S (tm x) (mkT k a b) → h 137 L = k ∧ h 137 L ≤ 6 ∧ (2 ≤ k → EqS S (tm (h 138 L)) a) ∧ (k = 2 → EqS S (tm (h 139 L)) b)) ∧ (2 ≤ h 137 L → h 137 L ≤ 6 → h 135 14 ≤ h 138 L ∧ h 138 L < h 135 15) ∧ (h 137 L = 2 → h 135 14 ≤ h 139 L ∧ h 139 L < h 135 15) := by
  have P := RW_Ptn M.1
  have Ld := RW_Led M.1
  have f := Led_fm P Ld x0 x1
  have l := Ld x x0 x1
  have l1 := l.1
  have l2 := l.2.1
  have w := P.1.1 _ l1 l2
  dsimp only at f l1 l2 w
  rw [eL] at f l1 l2 w
  refine ⟨f.1, f.2, fun a b => ?_, fun a => ?_⟩
  · have := w.2.1 a b; omega
  · have := w.2.2.1 a; omega
end
