section
/-! running: one relation for both sides. c a code, p its place, env the values of the letters, k the nesting, s steps, dp the deepest, nv how many values; sk, sv: what the values are -/
abbrev EVX : Type := Int → Int → Int → (Int → Int) → Int → Int → Int → Int → Int → Int → Int → Int → Prop
def chE (X : EVX) (CE : Int → Int → Int) (c sc : Int) (env : Int → Int) (k out : Int) (K : List Int → Int → Int → Int → Prop) : Nat → Int → List Int → Int → Int → Int → Prop
  | 0, _, acc, s, dp, nv => K acc s dp nv
  | n + 1, q, acc, s, dp, nv => ∃ o s1 d1 n1, X c q sc env (k + 1) s dp nv o s1 d1 n1 ∧ ((o < 0 ∧ out = o) ∨ (0 ≤ o ∧ chE X CE c sc env k out K n (CE c q) (acc ++ [o]) s1 d1 n1))
def FC (CB CE : Int → Int → Int) (c j : Int) : Nat → Int → Int → Prop
  | 0, _, _ => False
  | f + 1, q, q' => CB c q ≠ 125 ∧ ((CB c q - 48 = j ∧ q' = q) ∨ (CB c q - 48 ≠ j ∧ FC CB CE c j f (CE c (q + 1)) q'))
def exE (env : Int → Int) (sc : Int) (f : Int → Int) : Int → Int := fun i => if sc ≤ i then f (i - sc) else env i
def opV (c a b : Int) : Int := if c = 43 then w32 (a + b) else if c = 45 then w32 (a - b) else if c = 60 then (if a < b then 1 else 0) else (if a = b then 1 else 0)
def ERB (sk sv : Int → Int) (CB CE : Int → Int → Int) (pp : Int → Int → Int) (bod : Int → Prop) (X : EVX) (c p sc : Int) (env : Int → Int) (k s dp nv out s' dp' nv' : Int) : Prop :=
  ((48 ≤ CB c p ∧ CB c p ≤ 57) ∧ sk nv = 10 ∧ sv (3 * nv) = CB c p - 48 ∧ out = nv ∧ s' = s ∧ dp' = dp ∧ nv' = nv + 1) ∨
  ((CB c p = 84 ∨ CB c p = 70) ∧ sk nv = 11 ∧ sv (3 * nv) = (if CB c p = 84 then 1 else 0) ∧ out = nv ∧ s' = s ∧ dp' = dp ∧ nv' = nv + 1) ∨
  ((97 ≤ CB c p ∧ CB c p ≤ 122 ∧ CB c p - 97 < sc) ∧ out = env (CB c p - 97) ∧ s' = s ∧ dp' = dp ∧ nv' = nv) ∨
  ((CB c p = 43 ∨ CB c p = 45 ∨ CB c p = 60 ∨ CB c p = 61) ∧ chE X CE c sc env k out (fun l s2 d2 n2 => ∃ x y, l = [x, y] ∧ sk x = 10 ∧ sk y = 10 ∧ sk n2 = (if CB c p = 43 ∨ CB c p = 45 then 10 else 11) ∧ sv (3 * n2) = opV (CB c p) (sv (3 * x)) (sv (3 * y)) ∧ out = n2 ∧ s' = s2 ∧ dp' = d2 ∧ nv' = n2 + 1) 2 (p + 1) [] s dp nv) ∨
  (CB c p = 80 ∧ chE X CE c sc env k out (fun l s2 d2 n2 => ∃ x y, l = [x, y] ∧ sk n2 = 12 ∧ sv (3 * n2) = x ∧ sv (3 * n2 + 1) = y ∧ out = n2 ∧ s' = s2 ∧ dp' = d2 ∧ nv' = n2 + 1) 2 (p + 1) [] s dp nv) ∨
  ((CB c p = 76 ∨ CB c p = 82) ∧ chE X CE c sc env k out (fun l s2 d2 n2 => ∃ x, l = [x] ∧ sk x = 12 ∧ out = (if CB c p = 76 then sv (3 * x) else sv (3 * x + 1)) ∧ s' = s2 ∧ dp' = d2 ∧ nv' = n2) 1 (p + 1) [] s dp nv) ∨
  (CB c p = 67 ∧ chE X CE c sc env k out (fun l s2 d2 n2 => sk n2 = CB c (p + 1) - 48 ∧ (∀ (i : Nat) x, l[i]? = some x → sv (3 * n2 + i) = x) ∧ out = n2 ∧ s' = s2 ∧ dp' = d2 ∧ nv' = n2 + 1) (pp 67 (CB c (p + 1) - 48)).toNat (p + 2) [] s dp nv) ∨
  (CB c p = 71 ∧ chE X CE c sc env k out (fun l s2 d2 n2 => (¬ bod (CB c (p + 1) - 48) ∧ out = -7) ∨ (bod (CB c (p + 1) - 48) ∧ X (63 + 5 * (CB c (p + 1) - 48)) 0 (pp 71 (CB c (p + 1) - 48)) (fun i => l.getD i.toNat 0) (k + 1) s2 d2 n2 out s' dp' nv')) (pp 71 (CB c (p + 1) - 48)).toNat (p + 2) [] s dp nv) ∨
  (CB c p = 63 ∧ ∃ o s1 d1 n1, X c (p + 1) sc env (k + 1) s dp nv o s1 d1 n1 ∧ ((o < 0 ∧ out = o) ∨ (0 ≤ o ∧ (sk o = 11 ∧ (sv (3 * o) = 0 ∨ sv (3 * o) = 1)) ∧ X c (if sv (3 * o) = 1 then CE c (p + 1) else CE c (CE c (p + 1))) sc env (k + 1) s1 d1 n1 out s' dp' nv'))) ∨
  (CB c p = 77 ∧ ∃ o s1 d1 n1, X c (p + 1) sc env (k + 1) s dp nv o s1 d1 n1 ∧ ((o < 0 ∧ out = o) ∨ (0 ≤ o ∧ (0 ≤ sk o ∧ sk o < 10) ∧ ∃ f q env2, FC CB CE c (sk o) f (CE c (p + 1) + 1) q ∧ ((∀ i, 0 ≤ i → i < sc → env2 i = env i) ∧ (∀ i, 0 ≤ i → i < pp 67 (sk o) → env2 (sc + i) = sv (3 * o + i))) ∧ X c (q + 1) (sc + pp 67 (sk o)) env2 (k + 1) s1 d1 n1 out s' dp' nv')))
def ERF (sk sv : Int → Int) (CB CE : Int → Int → Int) (pp : Int → Int → Int) (bod : Int → Prop) (X : EVX) : EVX := fun c p sc env k s dp nv out s' dp' nv' =>
  (1000 < s + 1 ∧ out = -8) ∨ (s + 1 ≤ 1000 ∧ 60 < k ∧ out = -9) ∨ ((s + 1 ≤ 1000 ∧ k ≤ 60) ∧ ERB sk sv CB CE pp bod X c p sc env k (s + 1) (max dp k) nv out s' dp' nv')
theorem chE_mono {X Y : EVX} (h : ∀ c p sc env k s dp nv out s' dp' nv', X c p sc env k s dp nv out s' dp' nv' → Y c p sc env k s dp nv out s' dp' nv') {CE : Int → Int → Int} {c sc : Int} {env : Int → Int} {k out : Int} {K K' : List Int → Int → Int → Int → Prop} (hk : ∀ l s d n, K l s d n → K' l s d n) : ∀ (n : Nat) (q : Int) (acc : List Int) (s dp nv : Int), chE X CE c sc env k out K n q acc s dp nv → chE Y CE c sc env k out K' n q acc s dp nv := by
  intro n
  induction n with
  | zero => intro q acc s dp nv H; exact hk _ _ _ _ H
  | succ n ih =>
    intro q acc s dp nv H
    obtain ⟨o, s1, d1, n1, x, H⟩ := H
    refine ⟨o, s1, d1, n1, h _ _ _ _ _ _ _ _ _ _ _ _ x, ?_⟩
    rcases H with H | ⟨a, H⟩
    · exact Or.inl H
    · exact Or.inr ⟨a, ih _ _ _ _ _ H⟩
theorem ERF_mono {sk sv : Int → Int} {CB CE : Int → Int → Int} {pp : Int → Int → Int} {bod : Int → Prop} {X Y : EVX} (h : ∀ c p sc env k s dp nv out s' dp' nv', X c p sc env k s dp nv out s' dp' nv' → Y c p sc env k s dp nv out s' dp' nv') {c p sc : Int} {env : Int → Int} {k s dp nv out s' dp' nv' : Int} (H : ERF sk sv CB CE pp bod X c p sc env k s dp nv out s' dp' nv') : ERF sk sv CB CE pp bod Y c p sc env k s dp nv out s' dp' nv' := by
  rcases H with H | H | ⟨a, H⟩
  · exact Or.inl H
  · exact Or.inr (Or.inl H)
  · refine Or.inr (Or.inr ⟨a, ?_⟩)
    rcases H with H | H | H | ⟨c, H⟩ | ⟨c, H⟩ | ⟨c, H⟩ | ⟨c, H⟩ | ⟨c, H⟩ | ⟨c, o, s1, d1, n1, x, H⟩ | ⟨c, o, s1, d1, n1, x, H⟩
    · exact Or.inl H
    · exact Or.inr (Or.inl H)
    · exact Or.inr (Or.inr (Or.inl H))
    · exact Or.inr (Or.inr (Or.inr (Or.inl ⟨c, chE_mono h (fun _ _ _ _ H => H) _ _ _ _ _ _ H⟩)))
    · exact Or.inr (Or.inr (Or.inr (Or.inr (Or.inl ⟨c, chE_mono h (fun _ _ _ _ H => H) _ _ _ _ _ _ H⟩))))
    · exact Or.inr (Or.inr (Or.inr (Or.inr (Or.inr (Or.inl ⟨c, chE_mono h (fun _ _ _ _ H => H) _ _ _ _ _ _ H⟩)))))
    · exact Or.inr (Or.inr (Or.inr (Or.inr (Or.inr (Or.inr (Or.inl ⟨c, chE_mono h (fun _ _ _ _ H => H) _ _ _ _ _ _ H⟩))))))
    · refine Or.inr (Or.inr (Or.inr (Or.inr (Or.inr (Or.inr (Or.inr (Or.inl ⟨c, chE_mono h (fun _ _ _ _ H => ?_) _ _ _ _ _ _ H⟩)))))))
      rcases H with H | ⟨b, H⟩
      · exact Or.inl H
      · exact Or.inr ⟨b, h _ _ _ _ _ _ _ _ _ _ _ _ H⟩
    · refine Or.inr (Or.inr (Or.inr (Or.inr (Or.inr (Or.inr (Or.inr (Or.inr (Or.inl ⟨c, o, s1, d1, n1, h _ _ _ _ _ _ _ _ _ _ _ _ x, ?_⟩))))))))
      rcases H with H | ⟨a, b, H⟩
      · exact Or.inl H
      · exact Or.inr ⟨a, b, h _ _ _ _ _ _ _ _ _ _ _ _ H⟩
    · refine Or.inr (Or.inr (Or.inr (Or.inr (Or.inr (Or.inr (Or.inr (Or.inr (Or.inr ⟨c, o, s1, d1, n1, h _ _ _ _ _ _ _ _ _ _ _ _ x, ?_⟩))))))))
      rcases H with H | ⟨a, b, f, q, e2, fc, x2, H⟩
      · exact Or.inl H
      · exact Or.inr ⟨a, b, f, q, e2, fc, x2, h _ _ _ _ _ _ _ _ _ _ _ _ H⟩
def ER (sk sv : Int → Int) (CB CE : Int → Int → Int) (pp : Int → Int → Int) (bod : Int → Prop) : EVX := fun c p sc env k s dp nv out s' dp' nv' => ∃ X : EVX, (∀ c p sc env k s dp nv out s' dp' nv', X c p sc env k s dp nv out s' dp' nv' → ERF sk sv CB CE pp bod X c p sc env k s dp nv out s' dp' nv') ∧ X c p sc env k s dp nv out s' dp' nv'
theorem ER_out {sk sv : Int → Int} {CB CE : Int → Int → Int} {pp : Int → Int → Int} {bod : Int → Prop} {c p sc : Int} {env : Int → Int} {k s dp nv out s' dp' nv' : Int} (H : ER sk sv CB CE pp bod c p sc env k s dp nv out s' dp' nv') : ERF sk sv CB CE pp bod (ER sk sv CB CE pp bod) c p sc env k s dp nv out s' dp' nv' := by
  obtain ⟨X, cl, x⟩ := H
  exact ERF_mono (fun c p sc env k s dp nv out s' dp' nv' y => ⟨X, cl, y⟩) (cl _ _ _ _ _ _ _ _ _ _ _ _ x)
theorem ER_in {sk sv : Int → Int} {CB CE : Int → Int → Int} {pp : Int → Int → Int} {bod : Int → Prop} {c p sc : Int} {env : Int → Int} {k s dp nv out s' dp' nv' : Int} (H : ERF sk sv CB CE pp bod (ER sk sv CB CE pp bod) c p sc env k s dp nv out s' dp' nv') : ER sk sv CB CE pp bod c p sc env k s dp nv out s' dp' nv' :=
  ⟨ERF sk sv CB CE pp bod (ER sk sv CB CE pp bod), fun _ _ _ _ _ _ _ _ _ _ _ _ x => ERF_mono (fun _ _ _ _ _ _ _ _ _ _ _ _ y => ER_out y) x, H⟩
/-! values and their types -/
def vtF (h0 h : HP) (n : Int) : Nat → Int → Tm → Prop
  | 0, _, _ => False
  | f + 1, v, τ => (0 ≤ v ∧ v < n) ∧ ((h 125 v = 10 ∧ h 126 v = 0 ∧ τ = tI ∧ r32 (h 127 (3 * v))) ∨ (h 125 v = 11 ∧ h 126 v = 0 ∧ τ = tB ∧ (h 127 (3 * v) = 0 ∨ h 127 (3 * v) = 1)) ∨ (h 125 v = 12 ∧ h 126 v = 2 ∧ ∃ a b, τ = tP a b ∧ vtF h0 h n f (h 127 (3 * v)) a ∧ vtF h0 h n f (h 127 (3 * v + 1)) b) ∨ ((0 ≤ h 125 v ∧ h 125 v < h0 36 4) ∧ h 126 v = ppr h0 67 (h 125 v) ∧ ∃ α, τ = tF (3 + h0 (41 + 2 * h 125 v) 4) (sgTI (sbr h0 67 (h 125 v)) (llr h0 67 (h 125 v)) α (ppr h0 67 (h 125 v))) ∧ ∀ (i : Nat) t, (i : Int) < ppr h0 67 (h 125 v) → (sgT (sbr h0 67 (h 125 v)) (llr h0 67 (h 125 v)) α)[i]? = some t → vtF h0 h n f (h 127 (3 * v + i)) t))
def vt (h0 h : HP) (n v : Int) (τ : Tm) : Prop := ∃ f, vtF h0 h n f v τ
/-- the values below a number are the same -/
def VSm (h h' : HP) (n : Int) : Prop := ∀ v, 0 ≤ v → v < n → h' 125 v = h 125 v ∧ h' 126 v = h 126 v ∧ ∀ i, 0 ≤ i → i < 3 → h' 127 (3 * v + i) = h 127 (3 * v + i)
theorem vtF_mono {h0 h h' : HP} {n n' : Int} (s : VSm h h' n) (l : n ≤ n') (p3 : ∀ j, 0 ≤ j → j < h0 36 4 → ppr h0 67 j ≤ 3) : ∀ (f f' : Nat) (v : Int) (τ : Tm), f ≤ f' → vtF h0 h n f v τ → vtF h0 h' n' f' v τ := by
  intro f
  induction f with
  | zero => intro f' v τ _ H; exact absurd H (fun z => z)
  | succ f ih =>
    intro f' v τ hf H
    obtain ⟨⟨v0, v1⟩, H⟩ := H
    obtain ⟨s1, s2, s3⟩ := s v v0 v1
    have c0 := s3 0 (by omega) (by omega)
    have c1 := s3 1 (by omega) (by omega)
    rw [show 3 * v + 0 = 3 * v by omega] at c0
    match f', hf with
    | f' + 1, hf =>
      refine ⟨⟨v0, by omega⟩, ?_⟩
      rw [s1, s2, c0, c1]
      rcases H with H | H | ⟨a, b, x, y, e, p, q⟩ | ⟨a, b, α, e, H⟩
      · exact Or.inl H
      · exact Or.inr (Or.inl H)
      · exact Or.inr (Or.inr (Or.inl ⟨a, b, x, y, e, ih f' _ _ (by omega) p, ih f' _ _ (by omega) q⟩))
      · refine Or.inr (Or.inr (Or.inr ⟨a, b, α, e, fun i t il gt => ?_⟩))
        have := p3 _ a.1 a.2
        rw [s3 i (by omega) (by omega)]
        exact ih f' _ _ (by omega) (H i t il gt)
theorem vt_mono {h0 h h' : HP} {n n' v : Int} {τ : Tm} (s : VSm h h' n) (l : n ≤ n') (p3 : ∀ j, 0 ≤ j → j < h0 36 4 → ppr h0 67 j ≤ 3) (H : vt h0 h n v τ) : vt h0 h' n' v τ := by
  obtain ⟨f, H⟩ := H
  exact ⟨f, vtF_mono s l p3 f f v τ (Nat.le_refl _) H⟩
theorem VSm_refl (h : HP) (n : Int) : VSm h h n := fun _ _ _ => ⟨rfl, rfl, fun _ _ _ => rfl⟩
theorem VSm_trans {h h1 h2 : HP} {n n1 : Int} (l : n ≤ n1) (a : VSm h h1 n) (b : VSm h1 h2 n1) : VSm h h2 n := fun v v0 v1 => by
  obtain ⟨p, q, r⟩ := a v v0 v1
  obtain ⟨p', q', r'⟩ := b v v0 (by omega)
  exact ⟨p'.trans p, q'.trans q, fun i i0 i1 => (r' i i0 i1).trans (r i i0 i1)⟩
theorem vt_r {h0 h : HP} {n v : Int} {τ : Tm} (H : vt h0 h n v τ) : 0 ≤ v ∧ v < n := by
  obtain ⟨f, H⟩ := H
  cases f with
  | zero => exact absurd H (fun z => z)
  | succ f => exact H.1
theorem vt_I {h0 h : HP} {n v : Int} (H : vt h0 h n v tI) : h 125 v = 10 ∧ h 126 v = 0 ∧ r32 (h 127 (3 * v)) := by
  obtain ⟨f, H⟩ := H
  cases f with
  | zero => exact absurd H (fun z => z)
  | succ f =>
    rcases H.2 with ⟨a, b, _, c⟩ | ⟨_, _, e, _⟩ | ⟨_, _, x, y, e, _⟩ | ⟨_, _, α, e, _⟩
    · exact ⟨a, b, c⟩
    · cases e
    · cases e
    · cases e
theorem vt_B {h0 h : HP} {n v : Int} (H : vt h0 h n v tB) : h 125 v = 11 ∧ h 126 v = 0 ∧ (h 127 (3 * v) = 0 ∨ h 127 (3 * v) = 1) := by
  obtain ⟨f, H⟩ := H
  cases f with
  | zero => exact absurd H (fun z => z)
  | succ f =>
    rcases H.2 with ⟨_, _, e, _⟩ | ⟨a, b, _, c⟩ | ⟨_, _, x, y, e, _⟩ | ⟨_, _, α, e, _⟩
    · cases e
    · exact ⟨a, b, c⟩
    · cases e
    · cases e
theorem vt_P {h0 h : HP} {n v : Int} {a b : Tm} (H : vt h0 h n v (tP a b)) : h 125 v = 12 ∧ h 126 v = 2 ∧ vt h0 h n (h 127 (3 * v)) a ∧ vt h0 h n (h 127 (3 * v + 1)) b := by
  obtain ⟨f, H⟩ := H
  cases f with
  | zero => exact absurd H (fun z => z)
  | succ f =>
    rcases H.2 with ⟨_, _, e, _⟩ | ⟨_, _, e, _⟩ | ⟨k, w, x, y, e, p, q⟩ | ⟨_, _, α, e, _⟩
    · cases e
    · cases e
    · have e1 := (Std.Format.append.inj e).1
      have e2 := (Std.Format.append.inj e).2
      subst e1 e2
      exact ⟨k, w, ⟨f, p⟩, ⟨f, q⟩⟩
    · cases e
theorem vt_F {h0 h : HP} {n v k : Int} {a : Tm} (H : vt h0 h n v (tF k a)) : (0 ≤ h 125 v ∧ h 125 v < h0 36 4) ∧ h 126 v = ppr h0 67 (h 125 v) ∧ h0 (41 + 2 * h 125 v) 4 = k - 3 ∧ ∃ α, sgTI (sbr h0 67 (h 125 v)) (llr h0 67 (h 125 v)) α (ppr h0 67 (h 125 v)) = a ∧ ∀ (i : Nat) t, (i : Int) < ppr h0 67 (h 125 v) → (sgT (sbr h0 67 (h 125 v)) (llr h0 67 (h 125 v)) α)[i]? = some t → vt h0 h n (h 127 (3 * v + i)) t := by
  obtain ⟨f, H⟩ := H
  cases f with
  | zero => exact absurd H (fun z => z)
  | succ f =>
    rcases H.2 with ⟨_, _, e, _⟩ | ⟨_, _, e, _⟩ | ⟨_, _, x, y, e, _⟩ | ⟨r, w, α, e, q⟩
    · cases e
    · cases e
    · cases e
    · have e1 := (Std.Format.nest.inj e).1
      have e2 := (Std.Format.nest.inj e).2
      exact ⟨r, w, by omega, α, e2.symm, fun i t il gt => ⟨f, q i t il gt⟩⟩
end
