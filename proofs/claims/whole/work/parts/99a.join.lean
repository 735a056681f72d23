section
/-! making two types equal: what holds on the way -/
def GenE (n : Int) (c : Int → Int) (p : Int) (l r : Int → Int) (a b : Int) : Prop := ∀ E : Int → Int → Prop, (∀ u, E u u) → (∀ u v, E u v → E v u) → (∀ u v w, E u v → E v w → E u w) → (∀ u v, 0 ≤ u → u < n → 0 ≤ v → v < n → c u = c v → E u v) → (∀ i, 0 ≤ i → i < p → E (l i) (r i)) → E a b
theorem GenE_0 {n : Int} {c : Int → Int} {p : Int} {l r : Int → Int} {a b : Int} (hp : p ≤ 0) (a0 : 0 ≤ a) (a1 : a < n) (b0 : 0 ≤ b) (b1 : b < n) (H : GenE n c p l r a b) : c a = c b := by
  have := H (fun u v => u = v ∨ c u = c v) (fun _ => Or.inl rfl) (fun u v q => q.imp Eq.symm Eq.symm) (fun u v w q1 q2 => by
    rcases q1 with q1 | q1
    · subst q1; exact q2
    · rcases q2 with q2 | q2
      · subst q2; exact Or.inr q1
      · exact Or.inr (q1.trans q2)) (fun u v _ _ _ _ q => Or.inr q) (fun i i0 i1 => by omega)
  rcases this with q | q
  · rw [q]
  · exact q
theorem GenE_c {n : Int} {c : Int → Int} {p : Int} {l r : Int → Int} {a b : Int} (a0 : 0 ≤ a) (a1 : a < n) (b0 : 0 ≤ b) (b1 : b < n) (H : c a = c b) : GenE n c p l r a b := fun E _ _ _ h _ => h a b a0 a1 b0 b1 H
theorem GenE_p {n : Int} {c : Int → Int} {p : Int} {l r : Int → Int} {a b i : Int} (i0 : 0 ≤ i) (i1 : i < p) (e1 : l i = a) (e2 : r i = b) : GenE n c p l r a b := fun E _ _ _ _ h => by
  rw [← e1, ← e2]; exact h i i0 i1
theorem GenE_symm {n : Int} {c : Int → Int} {p : Int} {l r : Int → Int} {a b : Int} (H : GenE n c p l r a b) : GenE n c p l r b a := fun E h1 h2 h3 h4 h5 => h2 _ _ (H E h1 h2 h3 h4 h5)
theorem GenE_trans {n : Int} {c : Int → Int} {p : Int} {l r : Int → Int} {a b d : Int} (H : GenE n c p l r a b) (G : GenE n c p l r b d) : GenE n c p l r a d := fun E h1 h2 h3 h4 h5 => h3 _ _ _ (H E h1 h2 h3 h4 h5) (G E h1 h2 h3 h4 h5)
def Fre (hd bn : Int → Int) (dp x : Int) : Prop := hd x = 8 ∧ dp ≤ bn x
def Tch (n : Int) (hd bn : Int → Int) (dp : Int) (c0 L0 c : Int → Int) : Prop := ∃ a b, 0 ≤ a ∧ a < n ∧ 0 ≤ b ∧ b < n ∧ c a = c b ∧ c0 a ≠ c0 b ∧ ¬ Fre hd bn dp (L0 a) ∧ ¬ Fre hd bn dp (L0 b) ∧ (7 ≤ hd (L0 a) ∨ 7 ≤ hd (L0 b))
def JI (n : Int) (hd fa fb bn : Int → Int) (dp : Int) (tm : Int → Tm) (S' : Sx) (Rl : Int → Int → Prop) (c0 L0 c : Int → Int) (p : Int) (l r : Int → Int) (t : Int) : Prop :=
  (∀ θ, S' θ → Rsp 0 n tm c θ) ∧ (∀ a b, 0 ≤ a → a < n → 0 ≤ b → b < n → c0 a = c0 b → c a = c b) ∧ (∀ i, 0 ≤ i → i < p → (0 ≤ l i ∧ l i < n) ∧ (0 ≤ r i ∧ r i < n) ∧ EqS S' (tm (l i)) (tm (r i))) ∧ (∀ u v, Rl u v → GenE n c p l r u v) ∧
  (∀ a b, 0 ≤ a → a < n → 0 ≤ b → b < n → c a = c b → hd a ≤ 6 → hd b ≤ 6 → hd a = hd b ∧ (2 ≤ hd a → GenE n c p l r (fa a) (fa b)) ∧ (hd a = 2 → GenE n c p l r (fb a) (fb b))) ∧ ((t = 1 ∧ Tch n hd bn dp c0 L0 c) ∨ (t = 0 ∧ ¬ Tch n hd bn dp c0 L0 c))
/-- the pair on top is alike already -/
theorem JI_skip {n : Int} {hd fa fb bn : Int → Int} {dp : Int} {tm : Int → Tm} {S' : Sx} {Rl : Int → Int → Prop} {c0 L0 c : Int → Int} {p : Int} {l r : Int → Int} {t : Int} (p0 : 0 ≤ p) (J : JI n hd fa fb bn dp tm S' Rl c0 L0 c (p + 1) l r t) (e : c (l p) = c (r p)) : JI n hd fa fb bn dp tm S' Rl c0 L0 c p l r t := by
  obtain ⟨j1, j2, j3, j4, j5, j6⟩ := J
  have q := j3 p p0 (by omega)
  have gm : ∀ a b, GenE n c (p + 1) l r a b → GenE n c p l r a b := by
    intro a b G E h1 h2 h3 h4 h5
    refine G E h1 h2 h3 h4 (fun i i0 i1 => ?_)
    by_cases z : i = p
    · rw [z]; exact h4 _ _ q.1.1 q.1.2 q.2.1.1 q.2.1.2 e
    · exact h5 i i0 (by omega)
  exact ⟨j1, j2, fun i i0 i1 => j3 i i0 (by omega), fun u v q => gm _ _ (j4 u v q), fun a b a0 a1 b0 b1 e ha hb => ⟨(j5 a b a0 a1 b0 b1 e ha hb).1, fun z => gm _ _ ((j5 a b a0 a1 b0 b1 e ha hb).2.1 z), fun z => gm _ _ ((j5 a b a0 a1 b0 b1 e ha hb).2.2 z)⟩, j6⟩
theorem jn_iff {c : Int → Int} {s g u v : Int} (ne : u ≠ v) (hsg : (s = u ∧ g = v) ∨ (s = v ∧ g = u)) (a b : Int) : jnC c s g a = jnC c s g b ↔ (c a = c b ∨ ((c a = u ∨ c a = v) ∧ (c b = u ∨ c b = v))) := by
  unfold jnC
  rcases hsg with ⟨h1, h2⟩ | ⟨h1, h2⟩ <;> subst h1 h2 <;> split <;> split <;> omega
theorem Led_best {n : Int} {hd c L : Int → Int} (H : Led 0 n hd c L) {a b : Int} (a0 : 0 ≤ a) (a1 : a < n) (b0 : 0 ≤ b) (b1 : b < n) (e : c a = c b) : L a = L b := by
  obtain ⟨l1, l2, l3, l4⟩ := H a a0 a1
  obtain ⟨m1, m2, m3, m4⟩ := H b b0 b1
  have x := l4 (L b) m1 m2 (by rw [m3, e])
  have y := m4 (L a) l1 l2 (by rw [l3, e])
  omega
/-- a lead was a lead before -/
theorem Led_old {n : Int} {hd c0 L0 c L : Int → Int} (H0 : Led 0 n hd c0 L0) (H : Led 0 n hd c L) (mono : ∀ a b, 0 ≤ a → a < n → 0 ≤ b → b < n → c0 a = c0 b → c a = c b) {a : Int} (a0 : 0 ≤ a) (a1 : a < n) : L0 (L a) = L a := by
  obtain ⟨l1, l2, l3, l4⟩ := H a a0 a1
  obtain ⟨m1, m2, m3, m4⟩ := H0 (L a) l1 l2
  have x := l4 (L0 (L a)) m1 m2 (by rw [mono _ _ m1 m2 l1 l2 m3, l3])
  have y := m4 (L a) l1 l2 rfl
  omega
/-- where the lead is free, all are -/
theorem Led_free {n : Int} {hd bn c L : Int → Int} {dp : Int} (H : Led 0 n hd c L) (h8 : ∀ x, 0 ≤ x → x < n → hd x ≤ 8) (hb : ∀ x y, 0 ≤ x → x ≤ y → y < n → bn x ≤ bn y) {a b : Int} (a0 : 0 ≤ a) (a1 : a < n) (b0 : 0 ≤ b) (b1 : b < n) (e : c b = c a) (f : Fre hd bn dp (L a)) : Fre hd bn dp b := by
  obtain ⟨l1, l2, l3, l4⟩ := H a a0 a1
  have x := l4 b b0 b1 e
  have y := h8 b b0 b1
  rw [rnk_v (show 7 ≤ hd (L a) by rw [f.1]; decide), f.1] at x
  have z : 7 ≤ hd b := by
    rcases Int.lt_or_le (hd b) 7 with z | z
    · rw [rnk_0 (by omega)] at x; omega
    · exact z
  rw [rnk_v z] at x
  refine ⟨by omega, ?_⟩
  have := hb (L a) b l1 (by omega) b1
  have := f.2
  omega
theorem Led_form {n : Int} {hd c L : Int → Int} (H : Led 0 n hd c L) {a b : Int} (a0 : 0 ≤ a) (a1 : a < n) (b0 : 0 ≤ b) (b1 : b < n) (e : c b = c a) (h6 : hd b ≤ 6) : hd (L a) ≤ 6 := by
  have x := (H a a0 a1).2.2.2 b b0 b1 e
  rw [rnk_0 h6] at x
  rcases Int.lt_or_le 6 (hd (L a)) with z | z
  · rw [rnk_v (by omega)] at x; omega
  · exact z
theorem Tch_link {n : Int} {hd bn : Int → Int} {dp : Int} {c0 L0 c L : Int → Int} {s g u v a b : Int} (H0 : Led 0 n hd c0 L0) (H : Led 0 n hd c L) (h8 : ∀ x, 0 ≤ x → x < n → hd x ≤ 8) (hb : ∀ x y, 0 ≤ x → x ≤ y → y < n → bn x ≤ bn y) (mono : ∀ a b, 0 ≤ a → a < n → 0 ≤ b → b < n → c0 a = c0 b → c a = c b) (a0 : 0 ≤ a) (a1 : a < n) (b0 : 0 ≤ b) (b1 : b < n) (eu : c a = u) (ev : c b = v) (ne : u ≠ v) (hsg : (s = u ∧ g = v) ∨ (s = v ∧ g = u)) :
    Tch n hd bn dp c0 L0 (jnC c s g) ↔ (Tch n hd bn dp c0 L0 c ∨ (¬ (hd (L a) ≤ 6 ∧ hd (L b) ≤ 6) ∧ ¬ Fre hd bn dp (L a) ∧ ¬ Fre hd bn dp (L b))) := by
  have la := H a a0 a1
  have lb := H b b0 b1
  constructor
  · rintro ⟨i, j, i0, i1, j0, j1, e, ne0, f1, f2, f3⟩
    have key : ∀ i j, 0 ≤ i → i < n → 0 ≤ j → j < n → c i = u → c j = v → c0 i ≠ c0 j → ¬ Fre hd bn dp (L0 i) → ¬ Fre hd bn dp (L0 j) → (7 ≤ hd (L0 i) ∨ 7 ≤ hd (L0 j)) → (Tch n hd bn dp c0 L0 c ∨ (¬ (hd (L a) ≤ 6 ∧ hd (L b) ≤ 6) ∧ ¬ Fre hd bn dp (L a) ∧ ¬ Fre hd bn dp (L b))) := by
      intro i j i0 i1 j0 j1 ei ej ne0 f1 f2 f3
      have li := H0 i i0 i1
      have lj := H0 j j0 j1
      have ci : c (L0 i) = u := by rw [mono _ _ li.1 li.2.1 i0 i1 li.2.2.1, ei]
      have cj : c (L0 j) = v := by rw [mono _ _ lj.1 lj.2.1 j0 j1 lj.2.2.1, ej]
      have na : ¬ Fre hd bn dp (L a) := fun f => f1 (Led_free H h8 hb a0 a1 li.1 li.2.1 (by rw [ci, eu]) f)
      have nb : ¬ Fre hd bn dp (L b) := fun f => f2 (Led_free H h8 hb b0 b1 lj.1 lj.2.1 (by rw [cj, ev]) f)
      rcases Classical.em (hd (L a) ≤ 6 ∧ hd (L b) ≤ 6) with q | q
      · left
        rcases f3 with f3 | f3
        · refine ⟨i, L a, i0, i1, la.1, la.2.1, by rw [la.2.2.1, ei, eu], ?_, f1, ?_, Or.inl f3⟩
          · intro z
            have := Led_best H0 i0 i1 la.1 la.2.1 z
            rw [Led_old H0 H mono a0 a1] at this
            rw [this] at f3
            omega
          · rw [Led_old H0 H mono a0 a1]; exact na
        · refine ⟨j, L b, j0, j1, lb.1, lb.2.1, by rw [lb.2.2.1, ej, ev], ?_, f2, ?_, Or.inl f3⟩
          · intro z
            have := Led_best H0 j0 j1 lb.1 lb.2.1 z
            rw [Led_old H0 H mono b0 b1] at this
            rw [this] at f3
            omega
          · rw [Led_old H0 H mono b0 b1]; exact nb
      · exact Or.inr ⟨q, na, nb⟩
    rcases (jn_iff ne hsg i j).mp e with q | ⟨q1, q2⟩
    · exact Or.inl ⟨i, j, i0, i1, j0, j1, q, ne0, f1, f2, f3⟩
    · rcases q1 with q1 | q1 <;> rcases q2 with q2 | q2
      · exact Or.inl ⟨i, j, i0, i1, j0, j1, by rw [q1, q2], ne0, f1, f2, f3⟩
      · exact key i j i0 i1 j0 j1 q1 q2 ne0 f1 f2 f3
      · exact key j i j0 j1 i0 i1 q2 q1 (fun z => ne0 z.symm) f2 f1 f3.symm
      · exact Or.inl ⟨i, j, i0, i1, j0, j1, by rw [q1, q2], ne0, f1, f2, f3⟩
  · rintro (⟨i, j, i0, i1, j0, j1, e, ne0, f1, f2, f3⟩ | ⟨q, na, nb⟩)
    · exact ⟨i, j, i0, i1, j0, j1, (jn_iff ne hsg i j).mpr (Or.inl e), ne0, f1, f2, f3⟩
    · have oa := Led_old H0 H mono a0 a1
      have ob := Led_old H0 H mono b0 b1
      refine ⟨L a, L b, la.1, la.2.1, lb.1, lb.2.1, (jn_iff ne hsg _ _).mpr (Or.inr ⟨Or.inl (by rw [la.2.2.1, eu]), Or.inr (by rw [lb.2.2.1, ev])⟩), ?_, by rw [oa]; exact na, by rw [ob]; exact nb, by rw [oa, ob]; omega⟩
      intro z
      have := mono _ _ la.1 la.2.1 lb.1 lb.2.1 z
      rw [la.2.2.1, lb.2.2.1, eu, ev] at this
      exact ne this
/-- the pair on top is linked -/
theorem JI_link {n : Int} {hd fa fb bn : Int → Int} {dp : Int} {tm : Int → Tm} {S' : Sx} {Rl : Int → Int → Prop} {c0 L0 c L : Int → Int} {p p' : Int} {l r l' r' : Int → Int} {t t' : Int} {s g : Int} (p0 : 0 ≤ p) (J : JI n hd fa fb bn dp tm S' Rl c0 L0 c (p + 1) l r t)
    (W : ∀ x, 0 ≤ x → x < n → 0 ≤ hd x ∧ hd x ≤ 8) (Ar : ArgIn 0 n hd fa fb) (H0 : Led 0 n hd c0 L0) (H : Led 0 n hd c L) (hb : ∀ x y, 0 ≤ x → x ≤ y → y < n → bn x ≤ bn y)
    (ne : c (l p) ≠ c (r p)) (hsg : (s = c (l p) ∧ g = c (r p)) ∨ (s = c (r p) ∧ g = c (l p))) (hh : hd (L (l p)) ≤ 6 → hd (L (r p)) ≤ 6 → hd (L (l p)) = hd (L (r p)))
    (hpp : p ≤ p') (hold : ∀ i, 0 ≤ i → i < p → l' i = l i ∧ r' i = r i) (hnew : ∀ i, p ≤ i → i < p' → (0 ≤ l' i ∧ l' i < n) ∧ (0 ≤ r' i ∧ r' i < n) ∧ EqS S' (tm (l' i)) (tm (r' i)))
    (hpa : hd (L (l p)) ≤ 6 → hd (L (r p)) ≤ 6 → 2 ≤ hd (L (l p)) → ∃ i, 0 ≤ i ∧ i < p' ∧ l' i = fa (L (l p)) ∧ r' i = fa (L (r p))) (hpb : hd (L (l p)) ≤ 6 → hd (L (r p)) ≤ 6 → hd (L (l p)) = 2 → ∃ i, 0 ≤ i ∧ i < p' ∧ l' i = fb (L (l p)) ∧ r' i = fb (L (r p)))
    (ht : (t' = 1 ∧ (t = 1 ∨ (¬ (hd (L (l p)) ≤ 6 ∧ hd (L (r p)) ≤ 6) ∧ ¬ Fre hd bn dp (L (l p)) ∧ ¬ Fre hd bn dp (L (r p))))) ∨ (t' = 0 ∧ t = 0 ∧ ¬ (¬ (hd (L (l p)) ≤ 6 ∧ hd (L (r p)) ≤ 6) ∧ ¬ Fre hd bn dp (L (l p)) ∧ ¬ Fre hd bn dp (L (r p))))) :
    JI n hd fa fb bn dp tm S' Rl c0 L0 (jnC c s g) p' l' r' t' := by
  obtain ⟨j1, j2, j3, j4, j5, j6⟩ := J
  obtain ⟨⟨a0, a1⟩, ⟨b0, b1⟩, eq⟩ := j3 p p0 (by omega)
  generalize ha : l p = a at *
  generalize hb' : r p = b at *
  have la := H a a0 a1
  have lb := H b b0 b1
  have jj := jn_iff (c := c) ne hsg
  have gm : ∀ i j, GenE n c (p + 1) l r i j → GenE n (jnC c s g) p' l' r' i j := by
    intro i j G E h1 h2 h3 h4 h5
    refine G E h1 h2 h3 (fun u v u0 u1 v0 v1 e => h4 u v u0 u1 v0 v1 ((jj u v).mpr (Or.inl e))) (fun k k0 k1 => ?_)
    by_cases z : k = p
    · rw [z, ha, hb']
      exact h4 a b a0 a1 b0 b1 ((jj a b).mpr (Or.inr ⟨Or.inl rfl, Or.inr rfl⟩))
    · have := h5 k k0 (by omega)
      rw [(hold k k0 (by omega)).1, (hold k k0 (by omega)).2] at this
      exact this
  refine ⟨fun θ hθ i j i0 i1 m0 m1 e => ?_, fun i j i0 i1 j0 j1 e => (jj i j).mpr (Or.inl (j2 i j i0 i1 j0 j1 e)), fun i i0 i1 => ?_, fun u v q => gm _ _ (j4 u v q), fun i j i0 i1 j0 j1 e hi hj => ?_, ?_⟩
  · have rs := j1 θ hθ
    have eab := eq θ hθ
    rcases (jj i j).mp e with q | ⟨q1, q2⟩
    · exact rs i j i0 i1 m0 m1 q
    · rcases q1 with q1 | q1 <;> rcases q2 with q2 | q2
      · exact rs i j i0 i1 m0 m1 (by rw [q1, q2])
      · rw [rs i a i0 i1 a0 a1 q1, rs j b m0 m1 b0 b1 q2, eab]
      · rw [rs i b i0 i1 b0 b1 q1, rs j a m0 m1 a0 a1 q2, eab]
      · exact rs i j i0 i1 m0 m1 (by rw [q1, q2])
  · rcases Int.lt_or_le i p with z | z
    · rw [(hold i i0 z).1, (hold i i0 z).2]
      exact j3 i i0 (by omega)
    · exact hnew i z i1
  · have key : ∀ i j, 0 ≤ i → i < n → 0 ≤ j → j < n → c i = c a → c j = c b → hd i ≤ 6 → hd j ≤ 6 → hd i = hd j ∧ (2 ≤ hd i → GenE n (jnC c s g) p' l' r' (fa i) (fa j)) ∧ (hd i = 2 → GenE n (jnC c s g) p' l' r' (fb i) (fb j)) := by
      intro i j i0 i1 j0 j1 ei ej hi hj
      have fa6 := Led_form H a0 a1 i0 i1 ei hi
      have fb6 := Led_form H b0 b1 j0 j1 ej hj
      have k1 := j5 i (L a) i0 i1 la.1 la.2.1 (by rw [ei, la.2.2.1]) hi fa6
      have k2 := j5 (L b) j lb.1 lb.2.1 j0 j1 (by rw [ej, lb.2.2.1]) fb6 hj
      have h12 := hh fa6 fb6
      refine ⟨by omega, fun z => ?_, fun z => ?_⟩
      · obtain ⟨k, k0, k1', k2', k3⟩ := hpa fa6 fb6 (by omega)
        exact GenE_trans (gm _ _ (k1.2.1 z)) (GenE_trans (GenE_p k0 k1' k2' k3) (gm _ _ (k2.2.1 (by omega))))
      · obtain ⟨k, k0, k1', k2', k3⟩ := hpb fa6 fb6 (by omega)
        exact GenE_trans (gm _ _ (k1.2.2 z)) (GenE_trans (GenE_p k0 k1' k2' k3) (gm _ _ (k2.2.2 (by omega))))
    have old : c i = c j → hd i = hd j ∧ (2 ≤ hd i → GenE n (jnC c s g) p' l' r' (fa i) (fa j)) ∧ (hd i = 2 → GenE n (jnC c s g) p' l' r' (fb i) (fb j)) := by
      intro q
      have k := j5 i j i0 i1 j0 j1 q hi hj
      exact ⟨k.1, fun z => gm _ _ (k.2.1 z), fun z => gm _ _ (k.2.2 z)⟩
    rcases (jj i j).mp e with q | ⟨q1, q2⟩
    · exact old q
    · rcases q1 with q1 | q1 <;> rcases q2 with q2 | q2
      · exact old (by rw [q1, q2])
      · exact key i j i0 i1 j0 j1 q1 q2 hi hj
      · have k := key j i j0 j1 i0 i1 q2 q1 hj hi
        exact ⟨k.1.symm, fun z => GenE_symm (k.2.1 (by omega)), fun z => GenE_symm (k.2.2 (by omega))⟩
      · exact old (by rw [q1, q2])
  · have tl := Tch_link (dp := dp) (s := s) (g := g) H0 H (fun x a b => (W x a b).2) hb j2 a0 a1 b0 b1 rfl rfl ne hsg
    rcases ht with ⟨t1, q⟩ | ⟨t1, q, q2⟩
    · refine Or.inl ⟨t1, tl.mpr ?_⟩
      rcases q with q | q
      · left
        rcases j6 with ⟨_, z⟩ | ⟨z, _⟩
        · exact z
        · omega
      · exact Or.inr q
    · refine Or.inr ⟨t1, fun z => ?_⟩
      rcases tl.mp z with z | z
      · rcases j6 with ⟨z2, _⟩ | ⟨_, z2⟩
        · omega
        · exact z2 z
      · exact q2 z
end
