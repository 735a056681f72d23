section
/-! what is protected keeps its values; what is not filled decides the rest -/
def Ext1 (S S' : Sx) (V : Vx) (d : Int) : Prop := ∀ θ, S θ → ∃ θ', S' θ' ∧ ∀ n, ((V n).1 = 7 ∨ ((V n).1 = 8 ∧ (V n).2 < d)) → Unf S n → θ' n = θ n
def ClA (S : Sx) (V : Vx) : Prop := ∀ θ1 θ2, S θ1 → S θ2 → (∀ n, 7 ≤ (V n).1 → Unf S n → θ1 n = θ2 n) → ∀ n, 7 ≤ (V n).1 → θ1 n = θ2 n
theorem Ext1_of {lo hi d : Int} {hd fa fb dp : Int → Int} {tm : Int → Tm} {c c' : Int → Int} {S S' : Sx} {V : Vx} (P : Ptn lo hi hd fa fb tm c S) (P' : Ptn lo hi hd fa fb tm c' S') (hV : VOk lo hi hd dp tm V) (sub : ∀ θ, S' θ → S θ) (nf : ¬ FixS S S' V d) : Ext1 S S' V d := by
  intro θ hθ
  have P0 := P'
  obtain ⟨W, U, Dw, ⟨rk, Ac⟩, R, _⟩ := P'
  obtain ⟨θ', r1, _, r3, _⟩ := Wst_mgu W Dw Ac (fun z => match cho (fun n : Nat => Prot S V d n ∧ ∃ x, lo ≤ x ∧ x < hi ∧ tm x = tV n ∧ c' x = z) with | some n => θ n | none => tI) θ
  have s' : S' θ' := (R θ').mpr r1
  have one : ∀ n, Prot S V d n → θ' n = θ n := by
    intro n pn
    have nc : ¬ Chg S' V n := fun z => nf ⟨n, pn, Or.inl z⟩
    have v7 : 7 ≤ (V n).1 := by
      rcases pn with ⟨a, _⟩ | ⟨a, _⟩ <;> omega
    have un : Unf S' n := by
      refine Classical.byContradiction fun z => nc ?_
      rcases pn with ⟨a, _⟩ | ⟨a, _⟩
      · exact Or.inl ⟨a, z⟩
      · exact Or.inr ⟨a, Or.inl z⟩
    obtain ⟨x, x1, x2, x7, xe⟩ := hV.2 n v7
    have vo : ∀ y, lo ≤ y → y < hi → c' x = c' y → 6 < hd y := by
      intro y y1 y2 e
      rcases Int.lt_or_le 6 (hd y) with q | q
      · exact q
      · have w := W.1 y y1 y2
        refine absurd ?_ (un (hd y) (tm (fa y)) (tm (fb y)) w.1.1)
        rw [← w.2.2.2.1 q, ← xe]
        exact (Ptn_eq P0 x1 x2 y1 y2).mp e
    have g := r3 x x1 x2 vo
    obtain ⟨m, em, pm, y, y1, y2, ye, yc⟩ := cho_ex (P := fun n : Nat => Prot S V d n ∧ ∃ y, lo ≤ y ∧ y < hi ∧ tm y = tV n ∧ c' y = c' x) ⟨n, pn, x, x1, x2, xe, rfl⟩
    rw [em, xe] at g
    have g : θ' n = θ m := g
    rw [g]
    have e' : EqS S' (tV n) (tV m) := by
      rw [← xe, ← ye]
      exact (Ptn_eq P0 x1 x2 y1 y2).mp yc.symm
    have e : EqS S (tV n) (tV m) := Classical.byContradiction fun z => nf ⟨n, pn, Or.inr ⟨m, pm, z, e'⟩⟩
    exact (e θ hθ).symm
  refine ⟨θ', s', fun n pv un => ?_⟩
  rcases pv with a | ⟨a, b⟩
  · exact one n (Or.inl ⟨a, un⟩)
  · rcases Classical.em (RigE S V n) with r | r
    · obtain ⟨m, m7, e⟩ := r
      have um : Unf S m := fun k p q k0 z => un k p q k0 (EqS_trans e z)
      have e1 : θ' n = θ' m := e θ' (sub θ' s')
      have e2 : θ n = θ m := e θ hθ
      rw [e1, e2]
      exact one m (Or.inl ⟨m7, um⟩)
    · exact one n (Or.inr ⟨a, b, un, r⟩)
theorem ClA_of {lo hi : Int} {hd fa fb dp : Int → Int} {tm : Int → Tm} {c : Int → Int} {S : Sx} {V : Vx} (P : Ptn lo hi hd fa fb tm c S) (hV : VOk lo hi hd dp tm V) : ClA S V := by
  intro θ1 θ2 s1 s2 ag
  have P0 := P
  obtain ⟨W, U, Dw, ⟨rk, Ac⟩, R, _⟩ := P
  have main : ∀ (k : Nat) (x : Int), lo ≤ x → x < hi → rk (c x) < k → sb θ1 (tm x) = sb θ2 (tm x) := by
    intro k
    induction k with
    | zero => intro x _ _ h; omega
    | succ k ih =>
      intro x x1 x2 hk
      rcases Classical.em (∃ y, lo ≤ y ∧ y < hi ∧ c x = c y ∧ hd y ≤ 6) with ⟨y, y1, y2, yc, y6⟩ | no
      · have e : EqS S (tm x) (tm y) := (Ptn_eq P0 x1 x2 y1 y2).mp yc
        have w := W.1 y y1 y2
        have ac := Ac y y1 y2 y6
        rw [e θ1 s1, e θ2 s2, w.2.2.2.1 y6, sb_mk, sb_mk]
        refine mkT_congr w.1.1 (fun h2 => ?_) (fun h2 => ?_)
        · have a := w.2.1 h2 y6
          have r := ac.1 h2
          exact ih _ a.1 (by omega) (by rw [← yc] at r; omega)
        · have a := w.2.2.1 h2
          have r := ac.2 h2
          exact ih _ a.1 (by omega) (by rw [← yc] at r; omega)
      · have vo : ∀ y, lo ≤ y → y < hi → c x = c y → 6 < hd y := fun y y1 y2 e => by
          rcases Int.lt_or_le 6 (hd y) with q | q
          · exact q
          · exact absurd ⟨y, y1, y2, e, q⟩ no
        have x7 := vo x x1 x2 rfl
        obtain ⟨n, en, ev⟩ := hV.1 x x1 x2 (by omega)
        have un : Unf S n := fun k a b k0 => by
          rw [← en]
          exact Ptn_unf P0 x1 x2 vo k0
        have := ag n (by rw [ev]; show 7 ≤ hd x; omega) un
        rw [en]
        exact this
  intro n v7
  obtain ⟨x, x1, x2, x7, xe⟩ := hV.2 n v7
  have := main (rk (c x) + 1) x x1 x2 (by omega)
  rw [xe] at this
  exact this
end
