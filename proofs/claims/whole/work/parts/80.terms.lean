section
/-! terms: Std.Format serves as the free algebra: nil int, line bool, append pair, nest k the family of head k, tag n variable n -/
abbrev Tm : Type := Std.Format
abbrev tI : Tm := Std.Format.nil
abbrev tB : Tm := Std.Format.line
abbrev tP (a b : Tm) : Tm := Std.Format.append a b
abbrev tF (k : Int) (a : Tm) : Tm := Std.Format.nest k a
abbrev tV (n : Nat) : Tm := Std.Format.tag n Std.Format.nil
abbrev As : Type := Nat → Tm
def mkT (hd : Int) (a b : Tm) : Tm := if hd = 0 then tI else if hd = 1 then tB else if hd = 2 then tP a b else tF hd a
def sb (θ : As) : Tm → Tm
  | .nil => .nil
  | .line => .line
  | .append a b => .append (sb θ a) (sb θ b)
  | .nest k a => .nest k (sb θ a)
  | .tag n _ => θ n
  | t => t
theorem sb_I (θ : As) : sb θ tI = tI := rfl
theorem sb_B (θ : As) : sb θ tB = tB := rfl
theorem sb_P (θ : As) (a b : Tm) : sb θ (tP a b) = tP (sb θ a) (sb θ b) := rfl
theorem sb_F (θ : As) (k : Int) (a : Tm) : sb θ (tF k a) = tF k (sb θ a) := rfl
theorem sb_V (θ : As) (n : Nat) : sb θ (tV n) = θ n := rfl
theorem mkT_0 (a b : Tm) : mkT 0 a b = tI := rfl
theorem mkT_1 (a b : Tm) : mkT 1 a b = tB := rfl
theorem mkT_2 (a b : Tm) : mkT 2 a b = tP a b := rfl
theorem mkT_f {k : Int} (h : 3 ≤ k) (a b : Tm) : mkT k a b = tF k a := by
  unfold mkT
  rw [if_neg (by omega), if_neg (by omega), if_neg (by omega)]
theorem sb_mk (θ : As) (k : Int) (a b : Tm) : sb θ (mkT k a b) = mkT k (sb θ a) (sb θ b) := by
  unfold mkT
  split
  · rfl
  · split
    · rfl
    · split <;> rfl
theorem mkT_congr {k : Int} {a b a' b' : Tm} (h0 : 0 ≤ k) (ha : 2 ≤ k → a = a') (hb : k = 2 → b = b') : mkT k a b = mkT k a' b' := by
  unfold mkT
  split
  · rfl
  · split
    · rfl
    · split
      · rw [ha (by omega), hb (by omega)]
      · rw [ha (by omega)]
theorem mkT_cases {k : Int} (h0 : 0 ≤ k) : k = 0 ∨ k = 1 ∨ k = 2 ∨ 3 ≤ k := by omega
theorem mkT_inj {k k' : Int} {a b a' b' : Tm} (h0 : 0 ≤ k) (h0' : 0 ≤ k') (h : mkT k a b = mkT k' a' b') : k = k' ∧ (2 ≤ k → a = a') ∧ (k = 2 → b = b') := by
  rcases mkT_cases h0 with q | q | q | q <;> rcases mkT_cases h0' with q' | q' | q' | q'
  · subst q q'; exact ⟨rfl, fun w => absurd w (by decide), fun w => absurd w (by decide)⟩
  · subst q q'; rw [mkT_0, mkT_1] at h; exact absurd h (by simp)
  · subst q q'; rw [mkT_0, mkT_2] at h; exact absurd h (by simp)
  · subst q; rw [mkT_0, mkT_f q'] at h; exact absurd h (by simp)
  · subst q q'; rw [mkT_0, mkT_1] at h; exact absurd h (by simp)
  · subst q q'; exact ⟨rfl, fun w => absurd w (by decide), fun w => absurd w (by decide)⟩
  · subst q q'; rw [mkT_2, mkT_1] at h; exact absurd h (by simp)
  · subst q; rw [mkT_1, mkT_f q'] at h; exact absurd h (by simp)
  · subst q q'; rw [mkT_0, mkT_2] at h; exact absurd h (by simp)
  · subst q q'; rw [mkT_2, mkT_1] at h; exact absurd h (by simp)
  · subst q q'; rw [mkT_2, mkT_2] at h; injection h with h1 h2; exact ⟨rfl, fun _ => h1, fun _ => h2⟩
  · subst q; rw [mkT_2, mkT_f q'] at h; exact absurd h (by simp)
  · subst q'; rw [mkT_0, mkT_f q] at h; exact absurd h (by simp)
  · subst q'; rw [mkT_1, mkT_f q] at h; exact absurd h (by simp)
  · subst q'; rw [mkT_2, mkT_f q] at h; exact absurd h (by simp)
  · rw [mkT_f q, mkT_f q'] at h; injection h with h1 h2; exact ⟨h1, fun _ => h2, fun w => by omega⟩
theorem mkT_ne_V {k : Int} {a b : Tm} (h0 : 0 ≤ k) (n : Nat) : mkT k a b ≠ tV n := by
  rcases mkT_cases h0 with q | q | q | q
  · subst q; rw [mkT_0]; simp
  · subst q; rw [mkT_1]; simp
  · subst q; rw [mkT_2]; simp
  · rw [mkT_f q]; simp
theorem tV_inj {n m : Nat} (h : tV n = tV m) : n = m := by injection h
def tsz : Tm → Nat
  | .append a b => tsz a + tsz b + 1
  | .nest _ a => tsz a + 1
  | _ => 1
theorem mkT_szA {k : Int} {a b : Tm} (h0 : 2 ≤ k) : tsz a < tsz (mkT k a b) := by
  rcases mkT_cases (k := k) (by omega) with q | q | q | q
  · omega
  · omega
  · subst q; rw [mkT_2]; show _ < tsz a + tsz b + 1; omega
  · rw [mkT_f q]; show _ < tsz a + 1; omega
theorem mkT_szB {a b : Tm} : tsz b < tsz (mkT 2 a b) := by
  rw [mkT_2]; show _ < tsz a + tsz b + 1; omega
/-! a choice -/
noncomputable def cho {U : Type} (P : U → Prop) : Option U := @dite _ (∃ y, P y) (Classical.propDecidable _) (fun h => some (Classical.choose h)) (fun _ => none)
theorem cho_ex {U : Type} {P : U → Prop} (h : ∃ y, P y) : ∃ y, cho P = some y ∧ P y := by
  refine ⟨Classical.choose h, ?_, Classical.choose_spec h⟩
  unfold cho
  rw [dif_pos h]
theorem cho_no {U : Type} {P : U → Prop} (h : ¬ ∃ y, P y) : cho P = none := by
  unfold cho
  rw [dif_neg h]
theorem cho_some {U : Type} {P : U → Prop} {y : U} (h : cho P = some y) : P y := by
  rcases Classical.em (∃ y, P y) with q | q
  · obtain ⟨z, hz, hp⟩ := cho_ex q
    rw [hz] at h
    injection h with h
    rw [← h]
    exact hp
  · rw [cho_no q] at h
    exact absurd h (by simp)
/-! the general unifier -/
noncomputable def mguF {U : Type} (D : U → Prop) (hd : U → Int) (fa fb : U → U) (c : U → U → Prop) (g : U → Tm) : Nat → U → Tm
  | 0, x => g x
  | k + 1, x => match cho (fun y => D y ∧ c x y ∧ hd y ≤ 6) with
    | some y => mkT (hd y) (mguF D hd fa fb c g k (fa y)) (mguF D hd fa fb c g k (fb y))
    | none => g x
def mguH {U : Type} (D : U → Prop) (hd : U → Int) (fa fb : U → U) (c : U → U → Prop) (rk : U → Nat) : Prop :=
  (∀ x, D x → 0 ≤ hd x) ∧ (∀ x, D x → hd x ≤ 6 → 2 ≤ hd x → D (fa x) ∧ rk (fa x) < rk x) ∧ (∀ x, D x → hd x = 2 → D (fb x) ∧ rk (fb x) < rk x) ∧
  (∀ x y, D x → D y → c x y → rk x = rk y) ∧ (∀ x y, D x → D y → c x y → c y x) ∧ (∀ x y z, D x → D y → D z → c x y → c y z → c x z) ∧ (∀ x, D x → c x x) ∧
  (∀ x y, D x → D y → c x y → hd x ≤ 6 → hd y ≤ 6 → hd x = hd y) ∧
  (∀ x y, D x → D y → c x y → hd x ≤ 6 → hd y ≤ 6 → 2 ≤ hd x → c (fa x) (fa y)) ∧
  (∀ x y, D x → D y → c x y → hd x = 2 → hd y = 2 → c (fb x) (fb y))
theorem mgu_key {U : Type} {D : U → Prop} {hd : U → Int} {fa fb : U → U} {c : U → U → Prop} {rk : U → Nat} {g : U → Tm} (H : mguH D hd fa fb c rk) (hg : ∀ x y, D x → D y → c x y → g x = g y) :
    ∀ (n : Nat) (x y : U), D x → D y → c x y → rk x < n → ∀ k m, n ≤ k → n ≤ m → mguF D hd fa fb c g k x = mguF D hd fa fb c g m y := by
  obtain ⟨h0, hA, hB, hr, hs, ht, hf, hh, ha, hb⟩ := H
  intro n
  induction n with
  | zero => intro x y _ _ _ h; omega
  | succ n ih =>
    intro x y dx dy cxy hx k m hk hm
    obtain ⟨k, rfl⟩ : ∃ k', k = k' + 1 := ⟨k - 1, by omega⟩
    obtain ⟨m, rfl⟩ : ∃ m', m = m' + 1 := ⟨m - 1, by omega⟩
    unfold mguF
    rcases Classical.em (∃ z, D z ∧ c x z ∧ hd z ≤ 6) with q | q
    · have q' : ∃ z, D z ∧ c y z ∧ hd z ≤ 6 := by
        obtain ⟨z, dz, cz, hz⟩ := q
        exact ⟨z, dz, ht _ _ _ dy dx dz (hs _ _ dx dy cxy) cz, hz⟩
      obtain ⟨u, eu, du, cu, hu⟩ := cho_ex q
      obtain ⟨v, ev, dv, cv, hv⟩ := cho_ex q'
      rw [eu, ev]
      have cuv : c u v := ht _ _ _ du dx dv (hs _ _ dx du cu) (ht _ _ _ dx dy dv cxy cv)
      have hd2 := hh _ _ du dv cuv hu hv
      have ru := hr _ _ dx du cu
      dsimp only
      rw [← hd2]
      refine mkT_congr (h0 u du) (fun w => ?_) (fun w => ?_)
      · have w1 := hA u du hu w
        have w2 := hA v dv hv (by omega)
        exact ih _ _ w1.1 w2.1 (ha _ _ du dv cuv hu hv w) (by omega) _ _ (by omega) (by omega)
      · have w1 := hB u du w
        have w2 := hB v dv (by omega)
        exact ih _ _ w1.1 w2.1 (hb _ _ du dv cuv w (by omega)) (by omega) _ _ (by omega) (by omega)
    · have q' : ¬ ∃ z, D z ∧ c y z ∧ hd z ≤ 6 := by
        rintro ⟨z, dz, cz, hz⟩
        exact q ⟨z, dz, ht _ _ _ dx dy dz cxy cz, hz⟩
      rw [cho_no q, cho_no q']
      exact hg _ _ dx dy cxy
theorem mgu_ex {U : Type} {D : U → Prop} {hd : U → Int} {fa fb : U → U} {c : U → U → Prop} {rk : U → Nat} {g : U → Tm} (H : mguH D hd fa fb c rk) (hg : ∀ x y, D x → D y → c x y → g x = g y) :
    ∃ α : U → Tm, (∀ x, D x → hd x ≤ 6 → α x = mkT (hd x) (α (fa x)) (α (fb x))) ∧ (∀ x y, D x → D y → c x y → α x = α y) ∧ (∀ x, D x → (∀ y, D y → c x y → 6 < hd y) → α x = g x) := by
  have key := mgu_key H hg
  obtain ⟨h0, hA, hB, hr, hs, ht, hf, hh, ha, hb⟩ := H
  refine ⟨fun x => mguF D hd fa fb c g (rk x + 1) x, ?_, ?_, ?_⟩
  · intro x dx hx
    have q : ∃ z, D z ∧ c x z ∧ hd z ≤ 6 := ⟨x, dx, hf x dx, hx⟩
    obtain ⟨u, eu, du, cu, hu⟩ := cho_ex q
    have hd2 := hh _ _ dx du cu hx hu
    have ru := hr _ _ dx du cu
    have e1 : mguF D hd fa fb c g (rk x + 1) x = mkT (hd u) (mguF D hd fa fb c g (rk x) (fa u)) (mguF D hd fa fb c g (rk x) (fb u)) := by
      conv => lhs; unfold mguF
      rw [eu]
    dsimp only
    rw [e1, hd2]
    refine mkT_congr (h0 u du) (fun w => ?_) (fun w => ?_)
    · have w1 := hA u du hu w
      have w2 := hA x dx hx (by omega)
      have w3 := ha _ _ dx du cu hx hu (by omega)
      have w4 := hr _ _ w2.1 w1.1 w3
      exact key (rk (fa u) + 1) _ _ w1.1 w2.1 (hs _ _ w2.1 w1.1 w3) (by omega) _ _ (by omega) (by omega)
    · have w1 := hB u du w
      have w2 := hB x dx (by omega)
      have w3 := hb _ _ dx du cu (by omega) w
      have w4 := hr _ _ w2.1 w1.1 w3
      exact key (rk (fb u) + 1) _ _ w1.1 w2.1 (hs _ _ w2.1 w1.1 w3) (by omega) _ _ (by omega) (by omega)
  · intro x y dx dy cxy
    have := hr _ _ dx dy cxy
    exact key (rk x + 1) _ _ dx dy cxy (by omega) _ _ (by omega) (by omega)
  · intro x dx hx
    have q : ¬ ∃ z, D z ∧ c x z ∧ hd z ≤ 6 := by
      rintro ⟨z, dz, cz, hz⟩
      have := hx z dz cz
      omega
    dsimp only
    unfold mguF
    rw [cho_no q]
theorem mgu_sep {U : Type} {D : U → Prop} {hd : U → Int} {fa fb : U → U} {c : U → U → Prop} {rk : U → Nat} (H : mguH D hd fa fb c rk) {α : U → Tm} {w : U → Nat}
    (hw : ∀ x y, D x → D y → w x = w y → c x y)
    (hc : ∀ x y, D x → D y → hd x = hd y → hd x ≤ 6 → (2 ≤ hd x → c (fa x) (fa y)) → (hd x = 2 → c (fb x) (fb y)) → c x y)
    (h1 : ∀ x, D x → hd x ≤ 6 → α x = mkT (hd x) (α (fa x)) (α (fb x))) (h2 : ∀ x y, D x → D y → c x y → α x = α y) (h3 : ∀ x, D x → (∀ y, D y → c x y → 6 < hd y) → α x = tV (w x)) :
    ∀ x y, D x → D y → α x = α y → c x y := by
  obtain ⟨h0, hA, hB, hr, hs, ht, hf, hh, ha, hb⟩ := H
  have main : ∀ (n : Nat) (x y : U), D x → D y → rk x < n → α x = α y → c x y := by
    intro n
    induction n with
    | zero => intro x y _ _ h; omega
    | succ n ih =>
      intro x y dx dy hx e
      rcases Classical.em (∃ z, D z ∧ c x z ∧ hd z ≤ 6) with q | q <;> rcases Classical.em (∃ z, D z ∧ c y z ∧ hd z ≤ 6) with q' | q'
      · obtain ⟨u, du, cu, hu⟩ := q
        obtain ⟨v, dv, cv, hv⟩ := q'
        have ru := hr _ _ dx du cu
        have e1 : mkT (hd u) (α (fa u)) (α (fb u)) = mkT (hd v) (α (fa v)) (α (fb v)) := by
          rw [← h1 u du hu, ← h1 v dv hv, ← h2 _ _ dx du cu, ← h2 _ _ dy dv cv, e]
        obtain ⟨e2, e3, e4⟩ := mkT_inj (h0 u du) (h0 v dv) e1
        have cuv : c u v := by
          refine hc u v du dv e2 hu (fun p => ?_) (fun p => ?_)
          · have w1 := hA u du hu p
            have w2 := hA v dv hv (by omega)
            exact ih _ _ w1.1 w2.1 (by omega) (e3 p)
          · have w1 := hB u du p
            have w2 := hB v dv (by omega)
            exact ih _ _ w1.1 w2.1 (by omega) (e4 p)
        exact ht _ _ _ dx du dy cu (ht _ _ _ du dv dy cuv (hs _ _ dy dv cv))
      · obtain ⟨u, du, cu, hu⟩ := q
        have e1 : α y = tV (w y) := h3 y dy (fun z dz cz => by
          rcases Int.lt_or_le 6 (hd z) with p | p
          · exact p
          · exact absurd ⟨z, dz, cz, p⟩ q')
        rw [← e, h2 _ _ dx du cu, h1 u du hu] at e1
        exact absurd e1 (mkT_ne_V (h0 u du) _)
      · obtain ⟨v, dv, cv, hv⟩ := q'
        have e1 : α x = tV (w x) := h3 x dx (fun z dz cz => by
          rcases Int.lt_or_le 6 (hd z) with p | p
          · exact p
          · exact absurd ⟨z, dz, cz, p⟩ q)
        rw [e, h2 _ _ dy dv cv, h1 v dv hv] at e1
        exact absurd e1 (mkT_ne_V (h0 v dv) _)
      · have e1 : α x = tV (w x) := h3 x dx (fun z dz cz => by
          rcases Int.lt_or_le 6 (hd z) with p | p
          · exact p
          · exact absurd ⟨z, dz, cz, p⟩ q)
        have e2 : α y = tV (w y) := h3 y dy (fun z dz cz => by
          rcases Int.lt_or_le 6 (hd z) with p | p
          · exact p
          · exact absurd ⟨z, dz, cz, p⟩ q')
        rw [e1, e2] at e
        exact hw x y dx dy (tV_inj e)
  exact fun x y dx dy e => main (rk x + 1) x y dx dy (by omega) e
/-! nodes lo .. hi-1 with heads and arguments; each stands for a term -/
def Wst (lo hi : Int) (hd fa fb : Int → Int) (tm : Int → Tm) : Prop :=
  (∀ x, lo ≤ x → x < hi → (0 ≤ hd x ∧ hd x ≤ 8) ∧ (2 ≤ hd x → hd x ≤ 6 → lo ≤ fa x ∧ fa x < x) ∧ (hd x = 2 → lo ≤ fb x ∧ fb x < x) ∧ (hd x ≤ 6 → tm x = mkT (hd x) (tm (fa x)) (tm (fb x))) ∧ (7 ≤ hd x → ∃ n, tm x = tV n)) ∧
  (∀ x y, lo ≤ x → x < hi → lo ≤ y → y < hi → 7 ≤ hd x → 7 ≤ hd y → tm x = tm y → x = y)
/-- an assignment that gives the nodes' terms given values -/
theorem Wst_asg {lo hi : Int} {hd fa fb : Int → Int} {tm : Int → Tm} (H : Wst lo hi hd fa fb tm) {α : Int → Tm} (hα : ∀ x, lo ≤ x → x < hi → hd x ≤ 6 → α x = mkT (hd x) (α (fa x)) (α (fb x))) (θ0 : As) :
    ∃ θ : As, (∀ x, lo ≤ x → x < hi → sb θ (tm x) = α x) ∧ (∀ n, (¬ ∃ x, lo ≤ x ∧ x < hi ∧ 7 ≤ hd x ∧ tm x = tV n) → θ n = θ0 n) := by
  refine ⟨fun n => match cho (fun x : Int => lo ≤ x ∧ x < hi ∧ 7 ≤ hd x ∧ tm x = tV n) with | some x => α x | none => θ0 n, ?_, ?_⟩
  · have main : ∀ (k : Nat) (x : Int), lo ≤ x → x < hi → (x - lo).toNat < k → sb (fun n => match cho (fun x : Int => lo ≤ x ∧ x < hi ∧ 7 ≤ hd x ∧ tm x = tV n) with | some x => α x | none => θ0 n) (tm x) = α x := by
      intro k
      induction k with
      | zero => intro x _ _ h; omega
      | succ k ih =>
        intro x h1 h2 h3
        obtain ⟨⟨a0, a8⟩, aA, aB, aT, aV⟩ := H.1 x h1 h2
        rcases Int.lt_or_le (hd x) 7 with q | q
        · rw [aT (by omega), sb_mk, hα x h1 h2 (by omega)]
          refine mkT_congr a0 (fun w => ?_) (fun w => ?_)
          · have := aA w (by omega)
            exact ih _ (by omega) (by omega) (by omega)
          · have := aB w
            exact ih _ (by omega) (by omega) (by omega)
        · obtain ⟨n, hn⟩ := aV q
          rw [hn, sb_V]
          obtain ⟨y, ey, b1, b2, b3, b4⟩ := cho_ex (P := fun x : Int => lo ≤ x ∧ x < hi ∧ 7 ≤ hd x ∧ tm x = tV n) ⟨x, h1, h2, q, hn⟩
          rw [ey]
          have : y = x := H.2 y x b1 b2 h1 h2 b3 q (by rw [b4, hn])
          rw [this]
    exact fun x h1 h2 => main _ x h1 h2 (Nat.lt_succ_self _)
  · intro n hn
    dsimp only
    rw [cho_no hn]
/-- the partition c: two of one number are alike -/
def Rsp (lo hi : Int) (tm : Int → Tm) (c : Int → Int) (θ : As) : Prop := ∀ x y, lo ≤ x → x < hi → lo ≤ y → y < hi → c x = c y → sb θ (tm x) = sb θ (tm y)
/-- downwards: what alike pairs say of their arguments; one head -/
def Dwn (lo hi : Int) (hd fa fb c : Int → Int) : Prop := ∀ x y, lo ≤ x → x < hi → lo ≤ y → y < hi → c x = c y → hd x ≤ 6 → hd y ≤ 6 → hd x = hd y ∧ (2 ≤ hd x → c (fa x) = c (fa y)) ∧ (hd x = 2 → c (fb x) = c (fb y))
/-- upwards: congruence -/
def Upw (lo hi : Int) (hd fa fb c : Int → Int) : Prop := ∀ x y, lo ≤ x → x < hi → lo ≤ y → y < hi → hd x = hd y → hd x ≤ 6 → (2 ≤ hd x → c (fa x) = c (fa y)) → (hd x = 2 → c (fb x) = c (fb y)) → c x = c y
/-- no node is in itself -/
def Acy (lo hi : Int) (hd fa fb c : Int → Int) (rk : Int → Nat) : Prop := ∀ x, lo ≤ x → x < hi → hd x ≤ 6 → (2 ≤ hd x → rk (c (fa x)) < rk (c x)) ∧ (hd x = 2 → rk (c (fb x)) < rk (c x))
theorem Wst_H {lo hi : Int} {hd fa fb : Int → Int} {tm : Int → Tm} {c : Int → Int} {rk : Int → Nat} (H : Wst lo hi hd fa fb tm) (hd1 : Dwn lo hi hd fa fb c) (ha : Acy lo hi hd fa fb c rk) :
    mguH (fun x => lo ≤ x ∧ x < hi) hd fa fb (fun x y => c x = c y) (fun x => rk (c x)) := by
  refine ⟨fun x hx => (H.1 x hx.1 hx.2).1.1, fun x hx h6 h2 => ?_, fun x hx h2 => ?_, fun x y _ _ e => congrArg rk e, fun x y _ _ e => e.symm, fun x y z _ _ _ e f => e.trans f, fun _ _ => rfl, fun x y hx hy e p q => (hd1 x y hx.1 hx.2 hy.1 hy.2 e p q).1, fun x y hx hy e p q r => (hd1 x y hx.1 hx.2 hy.1 hy.2 e p q).2.1 r, fun x y hx hy e p q => (hd1 x y hx.1 hx.2 hy.1 hy.2 e (by omega) (by omega)).2.2 p⟩
  · have := (H.1 x hx.1 hx.2).2.1 h2 h6
    exact ⟨⟨by omega, by omega⟩, (ha x hx.1 hx.2 h6).1 h2⟩
  · have := (H.1 x hx.1 hx.2).2.2.1 h2
    exact ⟨⟨by omega, by omega⟩, (ha x hx.1 hx.2 (by omega)).2 h2⟩
/-- values may be chosen where a group holds variables alone -/
theorem Wst_mgu {lo hi : Int} {hd fa fb : Int → Int} {tm : Int → Tm} {c : Int → Int} {rk : Int → Nat} (H : Wst lo hi hd fa fb tm) (hd1 : Dwn lo hi hd fa fb c) (ha : Acy lo hi hd fa fb c rk) (g : Int → Tm) (θ0 : As) :
    ∃ θ : As, Rsp lo hi tm c θ ∧ (∀ x, lo ≤ x → x < hi → hd x ≤ 6 → sb θ (tm x) = mkT (hd x) (sb θ (tm (fa x))) (sb θ (tm (fb x)))) ∧ (∀ x, lo ≤ x → x < hi → (∀ y, lo ≤ y → y < hi → c x = c y → 6 < hd y) → sb θ (tm x) = g (c x)) ∧ (∀ n, (¬ ∃ x, lo ≤ x ∧ x < hi ∧ 7 ≤ hd x ∧ tm x = tV n) → θ n = θ0 n) := by
  obtain ⟨α, h1, h2, h3⟩ := mgu_ex (g := fun x => g (c x)) (Wst_H H hd1 ha) (fun x y _ _ e => by rw [e])
  obtain ⟨θ, k1, k2⟩ := Wst_asg H (fun x a b h => h1 x ⟨a, b⟩ h) θ0
  refine ⟨θ, ?_, ?_, ?_, k2⟩
  · intro x y a b a' b' e
    rw [k1 x a b, k1 y a' b']
    exact h2 x y ⟨a, b⟩ ⟨a', b'⟩ e
  · intro x a b h
    rw [(H.1 x a b).2.2.2.1 h, sb_mk]
  · intro x a b h
    rw [k1 x a b]
    exact h3 x ⟨a, b⟩ (fun y hy e => h y hy.1 hy.2 e)
/-- the most general values -/
theorem Wst_gen {lo hi : Int} {hd fa fb : Int → Int} {tm : Int → Tm} {c : Int → Int} {rk : Int → Nat} (H : Wst lo hi hd fa fb tm) (hd1 : Dwn lo hi hd fa fb c) (hu : Upw lo hi hd fa fb c) (ha : Acy lo hi hd fa fb c rk) (hc : ∀ x, lo ≤ x → x < hi → 0 ≤ c x) :
    ∃ θ : As, Rsp lo hi tm c θ ∧ (∀ x y, lo ≤ x → x < hi → lo ≤ y → y < hi → sb θ (tm x) = sb θ (tm y) → c x = c y) ∧ (∀ x, lo ≤ x → x < hi → (∀ y, lo ≤ y → y < hi → c x = c y → 6 < hd y) → sb θ (tm x) = tV (c x).toNat) := by
  obtain ⟨θ, h1, h2, h3, _⟩ := Wst_mgu H hd1 ha (fun z => tV z.toNat) (fun n => tV n)
  refine ⟨θ, h1, ?_, h3⟩
  intro x y a b a' b' e
  exact mgu_sep (α := fun x => sb θ (tm x)) (w := fun x => (c x).toNat) (Wst_H H hd1 ha) (fun x y hx hy e => by
      have := hc x hx.1 hx.2
      have := hc y hy.1 hy.2
      show c x = c y
      omega) (fun x y hx hy e h6 p q => hu x y hx.1 hx.2 hy.1 hy.2 e h6 p q) (fun x hx h => h2 x hx.1 hx.2 h) (fun x y hx hy e => h1 x y hx.1 hx.2 hy.1 hy.2 e) (fun x hx h => h3 x hx.1 hx.2 (fun y p q e => h y ⟨p, q⟩ e)) x y ⟨a, b⟩ ⟨a', b'⟩ e
/-- where there is a value at all, nothing clashes -/
theorem Rsp_hd {lo hi : Int} {hd fa fb : Int → Int} {tm : Int → Tm} {c : Int → Int} {θ : As} (H : Wst lo hi hd fa fb tm) (hr : Rsp lo hi tm c θ) {x y : Int} (a : lo ≤ x) (b : x < hi) (a' : lo ≤ y) (b' : y < hi) (e : c x = c y) (hx : hd x ≤ 6) (hy : hd y ≤ 6) :
    hd x = hd y ∧ (2 ≤ hd x → sb θ (tm (fa x)) = sb θ (tm (fa y))) ∧ (hd x = 2 → sb θ (tm (fb x)) = sb θ (tm (fb y))) := by
  have w := hr x y a b a' b' e
  rw [(H.1 x a b).2.2.2.1 hx, (H.1 y a' b').2.2.2.1 hy, sb_mk, sb_mk] at w
  exact mkT_inj (H.1 x a b).1.1 (H.1 y a' b').1.1 w
theorem Rsp_acy {lo hi : Int} {hd fa fb : Int → Int} {tm : Int → Tm} {c : Int → Int} {θ : As} (H : Wst lo hi hd fa fb tm) (hr : Rsp lo hi tm c θ) :
    ∃ rk : Int → Nat, Acy lo hi hd fa fb c rk := by
  refine ⟨fun z => match cho (fun x : Int => lo ≤ x ∧ x < hi ∧ c x = z) with | some x => tsz (sb θ (tm x)) | none => 0, ?_⟩
  have key : ∀ x, lo ≤ x → x < hi → (match cho (fun y : Int => lo ≤ y ∧ y < hi ∧ c y = c x) with | some x => tsz (sb θ (tm x)) | none => 0) = tsz (sb θ (tm x)) := by
    intro x a b
    obtain ⟨y, ey, p, q, r⟩ := cho_ex (P := fun y : Int => lo ≤ y ∧ y < hi ∧ c y = c x) ⟨x, a, b, rfl⟩
    rw [ey]
    dsimp only
    rw [hr y x p q a b r]
  intro x a b h6
  obtain ⟨⟨a0, a8⟩, aA, aB, aT, aV⟩ := H.1 x a b
  dsimp only
  refine ⟨fun w => ?_, fun w => ?_⟩
  · have := aA w h6
    rw [key x a b, key (fa x) (by omega) (by omega)]
    conv => rhs; rw [aT h6, sb_mk]
    exact mkT_szA w
  · have := aB w
    rw [key x a b, key (fb x) (by omega) (by omega)]
    conv => rhs; rw [aT h6, sb_mk, w]
    exact mkT_szB
end
