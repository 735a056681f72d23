section
def RvI (h0 g0 : HP) (sk sv : Int → Int) (c b Nn p k sc base F s dp nv : Int) (env : Int → Int) (h : HP) : Prop := NB h0 c b Nn ∧ RN h0 g0 c b Nn p k sc ∧ (0 ≤ F ∧ F ≤ 59) ∧ RvS h0 g0 sk sv h (F + 1) s dp nv ∧ nv + 1 ≤ s ∧ (h 184 F = b + k ∧ h 185 F = base ∧ h 186 F = 0) ∧ (0 ≤ sc ∧ 0 ≤ base ∧ base + sc ≤ 3 * (F + 1)) ∧ (∀ i, 0 ≤ i → i < sc → h 188 (base + i) = env i ∧ 0 ≤ env i ∧ env i < nv)
def RvG (h0 g0 : HP) (sk sv : Int → Int) (h : HP) (F S s nv out s' dp' nv' : Int) (d : Nat) (Q : PQ) : Prop := 0 ≤ out → ∀ h', RvS h0 g0 sk sv h' F s' dp' nv' → RvX h h' F S → h' 135 79 = out → (out < nv' ∧ nv ≤ nv' ∧ s ≤ s' ∧ nv' + s ≤ s' + nv + 1) → Lr d Q h'
def RvD (g0 : HP) (out : Int) (Q : PQ) : Prop := out < 0 → ∀ h', RvB g0 h' → h' 135 82 = out → Q out h'
theorem r_giv {h0 g0 : HP} {sk sv : Int → Int} {k1 : HP} {F s dp nv y : Int} {P : HP → Prop} (rk : RvK h0 g0) (F0 : 0 ≤ F) (F1 : F ≤ 59) (T : RvS h0 g0 sk sv k1 (F + 1) s dp nv) (H : ∀ g3 : HP, RvS h0 g0 sk sv g3 F s dp nv → (∀ a i, ¬ (a = 135 ∧ (i = 78 ∨ i = 79)) → g3 a i = k1 a i) → g3 135 79 = y → P g3) : ∀ g2 : HP, g2 = up2 k1 135 79 y → r32 ((g2 135 78) - 1) ∧ ∀ g3 : HP, g3 = up2 g2 135 78 ((g2 135 78) - 1) → P g3 := by
  intro g2 e2
  have q : g2 135 78 = F + 1 := by rw [e2, up2_ext (by omega)]; exact T.2.1.1
  rw [q]
  refine ⟨by unfold r32; omega, fun g3 e3 => ?_⟩
  have o : ∀ a i, ¬ (a = 135 ∧ (i = 78 ∨ i = 79)) → g3 a i = k1 a i := fun a i p => by rw [e3, up2_ext (by omega), e2, up2_ext (by omega)]
  refine H g3 (RvS_pile rk T (fun a i p q => o a i q) ?_) o ?_
  · rw [e3, up2_eq]; omega
  · rw [e3, up2_ext (by omega), e2, up2_eq]
theorem RvS_new {h0 g0 : HP} {sk sv : Int → Int} {h g : HP} {F s dp nv : Int} (rk : RvK h0 g0) (T : RvS h0 g0 sk sv h F s dp nv) (l : nv + 1 ≤ s) (o : ∀ a i, ¬ (a = 135 ∧ i = 72) → ¬ (179 ≤ a ∧ a ≤ 183 ∧ i = nv) → g a i = h a i) (e : g 135 72 = nv + 1) (v : RvV h0 sk sv g nv) : RvS h0 g0 sk sv g F s dp (nv + 1) := by
  obtain ⟨B, ⟨e78, e80, e81, e72, e82⟩, n, V⟩ := T
  refine ⟨fun a i p q => (o a i (by omega) (by omega)).trans (B a i p q), ⟨(o 135 78 (by omega) (by omega)).trans e78, (o 135 80 (by omega) (by omega)).trans e80, (o 135 81 (by omega) (by omega)).trans e81, e, (o 135 82 (by omega) (by omega)).trans e82⟩, by omega, fun w w0 w1 => ?_⟩
  by_cases z : w = nv
  · rw [z]; exact v
  · exact RvV_same (rk_p3 rk) (fun a p q => o a w (by omega) (by omega)) (V w w0 (by omega))
/-- value(): a number or a truth -/
theorem r_val {h0 g0 : HP} {sk sv : Int → Int} {h : HP} {F s dp nv kd x : Int} {P : Int → HP → Prop} (rk : RvK h0 g0) (T : RvS h0 g0 sk sv h F s dp nv) (l : nv + 1 ≤ s) (ty : (kd = 0 ∧ sk nv = 10) ∨ (kd = 1 ∧ sk nv = 11)) (ex : sv (3 * nv) = x) (H : ∀ g : HP, RvS h0 g0 sk sv g F s dp (nv + 1) → (∀ a i, ¬ (a = 135 ∧ i = 72) → ¬ (179 ≤ a ∧ a ≤ 183 ∧ i = nv) → g a i = h a i) → P nv g) : (0 ≤ h 135 72 ∧ h 135 72 < 1010) ∧ ∀ g2 : HP, g2 = up2 h 179 (h 135 72) kd → (0 ≤ g2 135 72 ∧ g2 135 72 < 1010) ∧ ∀ g3 : HP, g3 = up2 g2 180 (g2 135 72) x → r32 ((g3 135 72) + 1) ∧ ∀ g4 : HP, g4 = up2 g3 135 72 ((g3 135 72) + 1) → r32 ((g4 135 72) - 1) ∧ P ((g4 135 72) - 1) g4 := by
  have e72 := T.2.1.2.2.2.1
  have n := T.2.2.1
  rw [e72]
  refine ⟨by omega, fun g2 e2 => ?_⟩
  have q2 : g2 135 72 = nv := by rw [e2, up2_nc (by decide)]; exact e72
  rw [q2]
  refine ⟨by omega, fun g3 e3 => ?_⟩
  have q3 : g3 135 72 = nv := by rw [e3, up2_nc (by decide)]; exact q2
  rw [q3]
  refine ⟨by unfold r32; omega, fun g4 e4 => ?_⟩
  have q4 : g4 135 72 = nv + 1 := by rw [e4, up2_eq]
  rw [q4]
  have o : ∀ a i, ¬ (a = 135 ∧ i = 72) → ¬ (179 ≤ a ∧ a ≤ 183 ∧ i = nv) → g4 a i = h a i := fun a i p q => by rw [e4, up2_ext p, e3, up2_ext (by omega), e2, up2_ext (by omega)]
  have k4 : g4 179 nv = kd := by rw [e4, up2_ext (by omega), e3, up2_ext (by omega), e2, up2_eq]
  have x4 : g4 180 nv = x := by rw [e4, up2_ext (by omega), e3, up2_eq]
  refine ⟨by unfold r32; omega, ?_⟩
  have := H g4 (RvS_new rk T l o q4 ?_) o
  · rw [show nv + 1 - 1 = nv by omega]; exact this
  · rcases ty with ⟨a, b⟩ | ⟨a, b⟩
    · exact Or.inl ⟨b, by omega, by omega⟩
    · exact Or.inr (Or.inl ⟨b, by omega, by omega⟩)
/-! inversions -/
theorem EB_leaf {sk sv : Int → Int} {CB CE : Int → Int → Int} {pp : Int → Int → Int} {bod : Int → Prop} {X : EVX} {c p sc : Int} {env : Int → Int} {k s dp nv out s' dp' nv' : Int} (E : ERB sk sv CB CE pp bod X c p sc env k s dp nv out s' dp' nv') (l : (48 ≤ CB c p ∧ CB c p ≤ 57) ∨ CB c p = 84 ∨ CB c p = 70 ∨ 97 ≤ CB c p) : ((48 ≤ CB c p ∧ CB c p ≤ 57) ∧ sk nv = 10 ∧ sv (3 * nv) = CB c p - 48 ∧ out = nv ∧ s' = s ∧ dp' = dp ∧ nv' = nv + 1) ∨ ((CB c p = 84 ∨ CB c p = 70) ∧ sk nv = 11 ∧ sv (3 * nv) = (if CB c p = 84 then 1 else 0) ∧ out = nv ∧ s' = s ∧ dp' = dp ∧ nv' = nv + 1) ∨ ((97 ≤ CB c p ∧ CB c p ≤ 122 ∧ CB c p - 97 < sc) ∧ out = env (CB c p - 97) ∧ s' = s ∧ dp' = dp ∧ nv' = nv) := by
  rcases E with H | H | H | ⟨x, -⟩ | ⟨x, -⟩ | ⟨x, -⟩ | ⟨x, -⟩ | ⟨x, -⟩ | ⟨x, -⟩ | ⟨x, -⟩
  · exact Or.inl H
  · exact Or.inr (Or.inl H)
  · exact Or.inr (Or.inr H)
  all_goals omega
theorem EB_op {sk sv : Int → Int} {CB CE : Int → Int → Int} {pp : Int → Int → Int} {bod : Int → Prop} {X : EVX} {c p sc : Int} {env : Int → Int} {k s dp nv out s' dp' nv' : Int} (E : ERB sk sv CB CE pp bod X c p sc env k s dp nv out s' dp' nv') (l : CB c p = 43 ∨ CB c p = 45 ∨ CB c p = 60 ∨ CB c p = 61) : chE X CE c sc env k out (fun l s2 d2 n2 => ∃ x y, l = [x, y] ∧ sk x = 10 ∧ sk y = 10 ∧ sk n2 = (if CB c p = 43 ∨ CB c p = 45 then 10 else 11) ∧ sv (3 * n2) = opV (CB c p) (sv (3 * x)) (sv (3 * y)) ∧ out = n2 ∧ s' = s2 ∧ dp' = d2 ∧ nv' = n2 + 1) 2 (p + 1) [] s dp nv := by
  rcases E with ⟨x, -⟩ | ⟨x, -⟩ | ⟨x, -⟩ | ⟨_, H⟩ | ⟨x, -⟩ | ⟨x, -⟩ | ⟨x, -⟩ | ⟨x, -⟩ | ⟨x, -⟩ | ⟨x, -⟩
  · omega
  · omega
  · omega
  · exact H
  all_goals omega
theorem EB_P {sk sv : Int → Int} {CB CE : Int → Int → Int} {pp : Int → Int → Int} {bod : Int → Prop} {X : EVX} {c p sc : Int} {env : Int → Int} {k s dp nv out s' dp' nv' : Int} (E : ERB sk sv CB CE pp bod X c p sc env k s dp nv out s' dp' nv') (l : CB c p = 80) : chE X CE c sc env k out (fun l s2 d2 n2 => ∃ x y, l = [x, y] ∧ sk n2 = 12 ∧ sv (3 * n2) = x ∧ sv (3 * n2 + 1) = y ∧ out = n2 ∧ s' = s2 ∧ dp' = d2 ∧ nv' = n2 + 1) 2 (p + 1) [] s dp nv := by
  rcases E with ⟨x, -⟩ | ⟨x, -⟩ | ⟨x, -⟩ | ⟨x, -⟩ | ⟨_, H⟩ | ⟨x, -⟩ | ⟨x, -⟩ | ⟨x, -⟩ | ⟨x, -⟩ | ⟨x, -⟩
  · omega
  · omega
  · omega
  · omega
  · exact H
  all_goals omega
theorem EB_S {sk sv : Int → Int} {CB CE : Int → Int → Int} {pp : Int → Int → Int} {bod : Int → Prop} {X : EVX} {c p sc : Int} {env : Int → Int} {k s dp nv out s' dp' nv' : Int} (E : ERB sk sv CB CE pp bod X c p sc env k s dp nv out s' dp' nv') (l : CB c p = 76 ∨ CB c p = 82) : chE X CE c sc env k out (fun l s2 d2 n2 => ∃ x, l = [x] ∧ sk x = 12 ∧ out = (if CB c p = 76 then sv (3 * x) else sv (3 * x + 1)) ∧ s' = s2 ∧ dp' = d2 ∧ nv' = n2) 1 (p + 1) [] s dp nv := by
  rcases E with ⟨x, -⟩ | ⟨x, -⟩ | ⟨x, -⟩ | ⟨x, -⟩ | ⟨x, -⟩ | ⟨_, H⟩ | ⟨x, -⟩ | ⟨x, -⟩ | ⟨x, -⟩ | ⟨x, -⟩
  · omega
  · omega
  · omega
  · omega
  · omega
  · exact H
  all_goals omega
theorem EB_C {sk sv : Int → Int} {CB CE : Int → Int → Int} {pp : Int → Int → Int} {bod : Int → Prop} {X : EVX} {c p sc : Int} {env : Int → Int} {k s dp nv out s' dp' nv' : Int} (E : ERB sk sv CB CE pp bod X c p sc env k s dp nv out s' dp' nv') (l : CB c p = 67) : chE X CE c sc env k out (fun l s2 d2 n2 => sk n2 = CB c (p + 1) - 48 ∧ (∀ (i : Nat) x, l[i]? = some x → sv (3 * n2 + i) = x) ∧ out = n2 ∧ s' = s2 ∧ dp' = d2 ∧ nv' = n2 + 1) (pp 67 (CB c (p + 1) - 48)).toNat (p + 2) [] s dp nv := by
  rcases E with ⟨x, -⟩ | ⟨x, -⟩ | ⟨x, -⟩ | ⟨x, -⟩ | ⟨x, -⟩ | ⟨x, -⟩ | ⟨_, H⟩ | ⟨x, -⟩ | ⟨x, -⟩ | ⟨x, -⟩
  · omega
  · omega
  · omega
  · omega
  · omega
  · omega
  · exact H
  all_goals omega
theorem EB_G {sk sv : Int → Int} {CB CE : Int → Int → Int} {pp : Int → Int → Int} {bod : Int → Prop} {X : EVX} {c p sc : Int} {env : Int → Int} {k s dp nv out s' dp' nv' : Int} (E : ERB sk sv CB CE pp bod X c p sc env k s dp nv out s' dp' nv') (l : CB c p = 71) : chE X CE c sc env k out (fun l s2 d2 n2 => (¬ bod (CB c (p + 1) - 48) ∧ out = -7) ∨ (bod (CB c (p + 1) - 48) ∧ X (63 + 5 * (CB c (p + 1) - 48)) 0 (pp 71 (CB c (p + 1) - 48)) (fun i => l.getD i.toNat 0) (k + 1) s2 d2 n2 out s' dp' nv')) (pp 71 (CB c (p + 1) - 48)).toNat (p + 2) [] s dp nv := by
  rcases E with ⟨x, -⟩ | ⟨x, -⟩ | ⟨x, -⟩ | ⟨x, -⟩ | ⟨x, -⟩ | ⟨x, -⟩ | ⟨x, -⟩ | ⟨_, H⟩ | ⟨x, -⟩ | ⟨x, -⟩
  · omega
  · omega
  · omega
  · omega
  · omega
  · omega
  · omega
  · exact H
  all_goals omega
theorem EB_Q {sk sv : Int → Int} {CB CE : Int → Int → Int} {pp : Int → Int → Int} {bod : Int → Prop} {X : EVX} {c p sc : Int} {env : Int → Int} {k s dp nv out s' dp' nv' : Int} (E : ERB sk sv CB CE pp bod X c p sc env k s dp nv out s' dp' nv') (l : CB c p = 63) : ∃ o s1 d1 n1, X c (p + 1) sc env (k + 1) s dp nv o s1 d1 n1 ∧ ((o < 0 ∧ out = o) ∨ (0 ≤ o ∧ (sk o = 11 ∧ (sv (3 * o) = 0 ∨ sv (3 * o) = 1)) ∧ X c (if sv (3 * o) = 1 then CE c (p + 1) else CE c (CE c (p + 1))) sc env (k + 1) s1 d1 n1 out s' dp' nv')) := by
  rcases E with ⟨x, -⟩ | ⟨x, -⟩ | ⟨x, -⟩ | ⟨x, -⟩ | ⟨x, -⟩ | ⟨x, -⟩ | ⟨x, -⟩ | ⟨x, -⟩ | ⟨_, H⟩ | ⟨x, -⟩
  · omega
  · omega
  · omega
  · omega
  · omega
  · omega
  · omega
  · omega
  · exact H
  · omega
theorem EB_M {sk sv : Int → Int} {CB CE : Int → Int → Int} {pp : Int → Int → Int} {bod : Int → Prop} {X : EVX} {c p sc : Int} {env : Int → Int} {k s dp nv out s' dp' nv' : Int} (E : ERB sk sv CB CE pp bod X c p sc env k s dp nv out s' dp' nv') (l : CB c p = 77) : ∃ o s1 d1 n1, X c (p + 1) sc env (k + 1) s dp nv o s1 d1 n1 ∧ ((o < 0 ∧ out = o) ∨ (0 ≤ o ∧ (0 ≤ sk o ∧ sk o < 10) ∧ ∃ f q env2, FC CB CE c (sk o) f (CE c (p + 1) + 1) q ∧ ((∀ i, 0 ≤ i → i < sc → env2 i = env i) ∧ (∀ i, 0 ≤ i → i < pp 67 (sk o) → env2 (sc + i) = sv (3 * o + i))) ∧ X c (q + 1) (sc + pp 67 (sk o)) env2 (k + 1) s1 d1 n1 out s' dp' nv')) := by
  rcases E with ⟨x, -⟩ | ⟨x, -⟩ | ⟨x, -⟩ | ⟨x, -⟩ | ⟨x, -⟩ | ⟨x, -⟩ | ⟨x, -⟩ | ⟨x, -⟩ | ⟨x, -⟩ | ⟨_, H⟩
  · omega
  · omega
  · omega
  · omega
  · omega
  · omega
  · omega
  · omega
  · omega
  · exact H
end
