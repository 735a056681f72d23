section
/-! prepared bodies have their types: ways -/
theorem skT_cb {b b' : Int → Int} {θ : Int → Tm} : ∀ (r : Nat) (p : Int) (s : List Tm), (∀ i, p ≤ i → i < p + r → b i = b' i) → (0 < r → b' (p + r - 1) ≠ 100) → skT b θ r p s = skT b' θ r p s := by
  intro r
  induction r with
  | zero => intro p s _ _; rfl
  | succ r ih =>
    intro p s H L
    show actT b θ p (skT b θ r (p + 1) s) = actT b' θ p (skT b' θ r (p + 1) s)
    rw [ih (p + 1) s (fun i i0 i1 => H i (by omega) (by omega)) (fun r0 => by have := L (by omega); rw [show p + ((r + 1 : Nat) : Int) - 1 = p + 1 + (r : Int) - 1 by omega] at this; exact this)]
    have hp := H p (by omega) (by omega)
    unfold actT
    rw [hp]
    by_cases z : b' p = 100
    · by_cases r0 : r = 0
      · subst r0
        have := L (by omega)
        rw [show p + ((0 + 1 : Nat) : Int) - 1 = p by omega] at this
        exact absurd z this
      · rw [H (p + 1) (by omega) (by omega)]
    · rw [if_neg z, if_neg z]
theorem sgT_set {h : HP} {a t c : Int} (gd : gdS t) (ll : aSCH t (aSLEN t - 1) ≠ 100) (S : SgN (aSCH t) h a (aSLEN t) c) (α : Int → Tm) : sgT (h (a + 1)) (h a 1) α = sgT (aSCH t) (aSLEN t) α := by
  unfold sgT
  rw [S.1]
  have g := gd.2.1
  refine skT_cb _ _ _ (fun i i0 i1 => S.2.2.2 i i0 (by omega)) (fun r0 => ?_)
  rw [show (0 : Int) + (((aSLEN t).toNat : Nat) : Int) - 1 = aSLEN t - 1 by omega]
  exact ll
theorem sgTI_L {b : Int → Int} {m c : Int} {α : Int → Tm} {L : List Tm} {n : Nat} (h : sgT b m α = L) (e : c = (n : Int)) : sgTI b m α c = L.getD n tI := by
  unfold sgTI
  rw [h, e, Int.toNat_natCast, List.getD_eq_getElem?_getD]
  cases L[n]? <;> rfl
theorem W_v {B e : Int → Int} {nC : Int} {sb' : Int → Int → Int → Int} {ll pp : Int → Int → Int} {fm : Int → Int} {q sc : Int} {Γ : Int → Tm} {τ : Tm} (i : Int) (b : B q = 97 + i) (i1 : 0 ≤ i ∧ i < sc ∧ i ≤ 25) (t : Γ i = τ) : WT B e nC sb' ll pp fm q Γ sc τ := by
  refine WT_in (Or.inl ⟨Or.inr (Or.inr (Or.inr ⟨by omega, by omega, by omega⟩)), ?_⟩)
  unfold lfT
  rw [if_pos (by omega), b, show 97 + i - 97 = i by omega, t]
theorem W_n {B e : Int → Int} {nC : Int} {sb' : Int → Int → Int → Int} {ll pp : Int → Int → Int} {fm : Int → Int} {q sc : Int} {Γ : Int → Tm} (b : 48 ≤ B q ∧ B q ≤ 57) : WT B e nC sb' ll pp fm q Γ sc tI := by
  refine WT_in (Or.inl ⟨Or.inl b, ?_⟩)
  unfold lfT
  rw [if_neg (by omega), if_neg (by omega)]
theorem W_ar {B e : Int → Int} {nC : Int} {sb' : Int → Int → Int → Int} {ll pp : Int → Int → Int} {fm : Int → Int} {q sc : Int} {Γ : Int → Tm} {τ : Tm} (q1 q2 : Int) (b : (B q = 43 ∧ τ = tI) ∨ (B q = 61 ∧ τ = tB)) (h1 : q1 = q + 1) (h2 : e q1 = q2) (x : WT B e nC sb' ll pp fm q1 Γ sc tI) (y : WT B e nC sb' ll pp fm q2 Γ sc tI) : WT B e nC sb' ll pp fm q Γ sc τ := by
  subst h1 h2
  refine WT_in (Or.inr (Or.inl ⟨by omega, x, y, ?_⟩))
  rcases b with ⟨b, t⟩ | ⟨b, t⟩
  · rw [if_pos (by omega), t]
  · rw [if_neg (by omega), t]
theorem W_if {B e : Int → Int} {nC : Int} {sb' : Int → Int → Int → Int} {ll pp : Int → Int → Int} {fm : Int → Int} {q sc : Int} {Γ : Int → Tm} {τ : Tm} (q1 q2 q3 : Int) (b : B q = 63) (h1 : q1 = q + 1) (h2 : e q1 = q2) (h3 : e q2 = q3) (x : WT B e nC sb' ll pp fm q1 Γ sc tB) (y : WT B e nC sb' ll pp fm q2 Γ sc τ) (z : WT B e nC sb' ll pp fm q3 Γ sc τ) : WT B e nC sb' ll pp fm q Γ sc τ := by
  subst h1 h2 h3
  exact WT_in (Or.inr (Or.inr (Or.inl ⟨b, x, y, z⟩)))
theorem W_pr {B e : Int → Int} {nC : Int} {sb' : Int → Int → Int → Int} {ll pp : Int → Int → Int} {fm : Int → Int} {q sc : Int} {Γ : Int → Tm} {s t : Tm} (q1 q2 : Int) (b : B q = 80) (h1 : q1 = q + 1) (h2 : e q1 = q2) (x : WT B e nC sb' ll pp fm q1 Γ sc s) (y : WT B e nC sb' ll pp fm q2 Γ sc t) : WT B e nC sb' ll pp fm q Γ sc (tP s t) := by
  subst h1 h2
  exact WT_in (Or.inr (Or.inr (Or.inr (Or.inl ⟨b, s, t, rfl, x, y⟩))))
theorem W_lf {B e : Int → Int} {nC : Int} {sb' : Int → Int → Int → Int} {ll pp : Int → Int → Int} {fm : Int → Int} {q sc : Int} {Γ : Int → Tm} {s : Tm} (q1 : Int) (t : Tm) (b : B q = 76) (h1 : q1 = q + 1) (x : WT B e nC sb' ll pp fm q1 Γ sc (tP s t)) : WT B e nC sb' ll pp fm q Γ sc s := by
  subst h1
  exact WT_in (Or.inr (Or.inr (Or.inr (Or.inr (Or.inl ⟨Or.inl b, s, t, x, by rw [if_pos b]⟩)))))
theorem W_c {B e : Int → Int} {nC : Int} {sb' : Int → Int → Int → Int} {ll pp : Int → Int → Int} {fm : Int → Int} {q sc : Int} {Γ : Int → Tm} {τ : Tm} (q1 q2 c j : Int) (α : Int → Tm) (L K : List Tm) (n : Nat) (b : B q = c) (hc : c = 67 ∨ c = 71) (h1 : q1 = q + 1) (h2 : q2 = q + 2) (b1 : B q1 - 48 = j) (hs : sgT (sb' c j) (ll c j) α = L) (hp : pp c j = (n : Int)) (hk : L.take n = K) (ki : kiW (WT B e nC sb' ll pp fm) e Γ sc K q2) (t : τ = cllT fm c j (L.getD n tI)) : WT B e nC sb' ll pp fm q Γ sc τ := by
  subst h1 h2
  refine WT_in (Or.inr (Or.inr (Or.inr (Or.inr (Or.inr (Or.inl ⟨by omega, α, ?_, ?_⟩))))))
  · rw [b, b1, hs, hp, Int.toNat_natCast, hk]
    exact ki
  · rw [b, b1, sgTI_L hs hp]
    exact t
theorem W_m {B e : Int → Int} {nC : Int} {sb' : Int → Int → Int → Int} {ll pp : Int → Int → Int} {fm : Int → Int} {q sc : Int} {Γ : Int → Tm} {τ : Tm} (q1 r1 q2 : Int) (a : Tm) (f : Nat) (b : B q = 77) (h1 : q1 = q + 1) (h2 : e q1 = r1) (h3 : q2 = r1 + 1) (x : WT B e nC sb' ll pp fm q1 Γ sc (tF 3 a)) (c : caW B e nC sb' ll pp fm (WT B e nC sb' ll pp fm) Γ sc 3 a τ f q2 (fun _ => False)) : WT B e nC sb' ll pp fm q Γ sc τ := by
  subst h1 h2 h3
  exact WT_in (Or.inr (Or.inr (Or.inr (Or.inr (Or.inr (Or.inr ⟨b, 3, a, by omega, x, f, c⟩))))))
theorem W_ke {B e : Int → Int} {nC : Int} {sb' : Int → Int → Int → Int} {ll pp : Int → Int → Int} {fm : Int → Int} {q sc : Int} {Γ : Int → Tm} {a τ : Tm} {f : Nat} {seen : Int → Prop} {X : WX} (b : B q = 125) (h : ∀ j α, 0 ≤ j → j < nC → ¬ seen j → sgTI (sb' 67 j) (ll 67 j) α (pp 67 j) ≠ a) : caW B e nC sb' ll pp fm X Γ sc 3 a τ (f + 1) q seen := Or.inl ⟨b, fun j α j0 j1 _ ns => h j α j0 j1 ns⟩
theorem W_kc {B e : Int → Int} {nC : Int} {sb' : Int → Int → Int → Int} {ll pp : Int → Int → Int} {fm : Int → Int} {q sc : Int} {Γ : Int → Tm} {a τ : Tm} {f : Nat} {seen : Int → Prop} {X : WX} (q1 q2 j sc2 : Int) (Ls Ks : (Int → Tm) → List Tm) (n : Nat) (b : B q - 48 = j) (j0 : 0 ≤ j ∧ j ≤ 9) (h1 : q1 = q + 1) (h2 : e q1 = q2) (h3 : sc2 = sc + n) (hs : ∀ α, sgT (sb' 67 j) (ll 67 j) α = Ls α) (hp : pp 67 j = (n : Int)) (hk : ∀ α, (Ls α).take n = Ks α) (x : ∀ α, (Ls α).getD n tI = a → X q1 (exG Γ sc (Ks α)) sc2 τ) (c : caW B e nC sb' ll pp fm X Γ sc 3 a τ f q2 (fun i => seen i ∨ i = j)) : caW B e nC sb' ll pp fm X Γ sc 3 a τ (f + 1) q seen := by
  subst h1 h2 h3
  refine Or.inr ⟨by omega, fun α h => ?_, ?_⟩
  · rw [b] at h ⊢
    rw [sgTI_L (hs α) hp] at h
    rw [hs α, hp, Int.toNat_natCast, hk α]
    exact x α h
  · rw [b]
    exact c
/-! the ends of the expressions in a text -/
def EXq (B e : Int → Int) (nP : Int → Int) (pp ll : Int → Int → Int) (q sc r0 : Int) (L : Prop) : Prop := ∀ w r w', GD B e nP pp ll q sc w r w' → (r = r0 ∧ e q = r0) ∧ L
def KX2 (B e : Int → Int) (nP : Int → Int) (pp ll : Int → Int → Int) (q sc r0 : Int) (L : Prop) : Prop := ∀ f w r w', GK B nP pp ll (GD B e nP pp ll) f q sc w r w' → r = r0 ∧ L
theorem X_lf {B e : Int → Int} {nP : Int → Int} {pp ll : Int → Int → Int} {q sc : Int} (r0 : Int) (l : lfO (B q) sc) (h : r0 = q + 1) : EXq B e nP pp ll q sc r0 True := fun w r w' G => by
  have a := GD_leaf G l
  have b := GD_e G
  exact ⟨⟨by omega, by omega⟩, trivial⟩
theorem X_1 {B e : Int → Int} {nP : Int → Int} {pp ll : Int → Int → Int} {q sc : Int} {L1 : Prop} (q1 r1 : Int) (b : pO (B q) = 1) (h1 : q1 = q + 1) (x : EXq B e nP pp ll q1 sc r1 L1) : EXq B e nP pp ll q sc r1 (e q1 = r1 ∧ L1) := fun w r w' G => by
  subst h1
  obtain ⟨a1, w1, g1, er, _⟩ := GD_op G (j := 0) (by omega)
  have z := x _ _ _ g1
  have y := GD_e G
  exact ⟨⟨by omega, by omega⟩, z.1.2, z.2⟩
theorem X_2 {B e : Int → Int} {nP : Int → Int} {pp ll : Int → Int → Int} {q sc : Int} {L1 L2 : Prop} (q1 r1 r2 : Int) (b : pO (B q) = 2) (h1 : q1 = q + 1) (x : EXq B e nP pp ll q1 sc r1 L1) (x2 : EXq B e nP pp ll r1 sc r2 L2) : EXq B e nP pp ll q sc r2 ((e q1 = r1 ∧ L1) ∧ e r1 = r2 ∧ L2) := fun w r w' G => by
  subst h1
  obtain ⟨a1, w1, g1, a2, w2, g2, er, _⟩ := GD_op G (j := 1) (by omega)
  have z := x _ _ _ g1
  have e1 := z.1.1
  subst e1
  have z2 := x2 _ _ _ g2
  have y := GD_e G
  exact ⟨⟨by omega, by omega⟩, ⟨z.1.2, z.2⟩, z2.1.2, z2.2⟩
theorem X_3 {B e : Int → Int} {nP : Int → Int} {pp ll : Int → Int → Int} {q sc : Int} {L1 L2 L3 : Prop} (q1 r1 r2 r3 : Int) (b : pO (B q) = 3) (h1 : q1 = q + 1) (x : EXq B e nP pp ll q1 sc r1 L1) (x2 : EXq B e nP pp ll r1 sc r2 L2) (x3 : EXq B e nP pp ll r2 sc r3 L3) : EXq B e nP pp ll q sc r3 ((e q1 = r1 ∧ L1) ∧ (e r1 = r2 ∧ L2) ∧ e r2 = r3 ∧ L3) := fun w r w' G => by
  subst h1
  obtain ⟨a1, w1, g1, a2, w2, g2, a3, w3, g3, er, _⟩ := GD_op G (j := 2) (by omega)
  have z := x _ _ _ g1
  have e1 := z.1.1
  subst e1
  have z2 := x2 _ _ _ g2
  have e2 := z2.1.1
  subst e2
  have z3 := x3 _ _ _ g3
  have y := GD_e G
  exact ⟨⟨by omega, by omega⟩, ⟨z.1.2, z.2⟩, ⟨z2.1.2, z2.2⟩, z3.1.2, z3.2⟩
theorem X_s {B e : Int → Int} {nP : Int → Int} {pp ll : Int → Int → Int} {q sc w r w' : Int} {n : Nat} (c j : Int) (b : B q = c) (hc : c = 67 ∨ c = 71) (q0 : 0 ≤ q) (b1 : B (q + 1) - 48 = j) (hp : pp c j = (n : Int)) (G : GD B e nP pp ll q sc w r w') : ∃ w1, GC (GD B e nP pp ll) n (q + 2) sc w1 r w' := by
  have z := (GD_sign G q0 (by omega)).2.2
  rw [b, b1, hp, Int.toNat_natCast] at z
  exact ⟨_, z⟩
theorem X_s0 {B e : Int → Int} {nP : Int → Int} {pp ll : Int → Int → Int} {q sc : Int} (r0 c j : Int) (b : B q = c) (hc : c = 67 ∨ c = 71) (q0 : 0 ≤ q) (b1 : B (q + 1) - 48 = j) (hp : pp c j = ((0 : Nat) : Int)) (h1 : r0 = q + 2) : EXq B e nP pp ll q sc r0 True := fun w r w' G => by
  subst h1
  obtain ⟨_, er, _⟩ := X_s c j b hc q0 b1 hp G
  have y := GD_e G
  exact ⟨⟨by omega, by omega⟩, trivial⟩
theorem X_s1 {B e : Int → Int} {nP : Int → Int} {pp ll : Int → Int → Int} {q sc : Int} {L1 : Prop} (q1 r1 c j : Int) (b : B q = c) (hc : c = 67 ∨ c = 71) (q0 : 0 ≤ q) (b1 : B (q + 1) - 48 = j) (hp : pp c j = ((1 : Nat) : Int)) (h1 : q1 = q + 2) (x : EXq B e nP pp ll q1 sc r1 L1) : EXq B e nP pp ll q sc r1 (e q1 = r1 ∧ L1) := fun w r w' G => by
  subst h1
  obtain ⟨_, a1, w1, g1, er, _⟩ := X_s c j b hc q0 b1 hp G
  have z := x _ _ _ g1
  have y := GD_e G
  exact ⟨⟨by omega, by omega⟩, z.1.2, z.2⟩
theorem X_s2 {B e : Int → Int} {nP : Int → Int} {pp ll : Int → Int → Int} {q sc : Int} {L1 L2 : Prop} (q1 r1 r2 c j : Int) (b : B q = c) (hc : c = 67 ∨ c = 71) (q0 : 0 ≤ q) (b1 : B (q + 1) - 48 = j) (hp : pp c j = ((2 : Nat) : Int)) (h1 : q1 = q + 2) (x : EXq B e nP pp ll q1 sc r1 L1) (x2 : EXq B e nP pp ll r1 sc r2 L2) : EXq B e nP pp ll q sc r2 ((e q1 = r1 ∧ L1) ∧ e r1 = r2 ∧ L2) := fun w r w' G => by
  subst h1
  obtain ⟨_, a1, w1, g1, a2, w2, g2, er, _⟩ := X_s c j b hc q0 b1 hp G
  have z := x _ _ _ g1
  have e1 := z.1.1
  subst e1
  have z2 := x2 _ _ _ g2
  have y := GD_e G
  exact ⟨⟨by omega, by omega⟩, ⟨z.1.2, z.2⟩, z2.1.2, z2.2⟩
theorem X_m {B e : Int → Int} {nP : Int → Int} {pp ll : Int → Int → Int} {q sc : Int} {L1 L2 : Prop} (q1 r1 q2 r2 : Int) (b : B q = 77) (q0 : 0 ≤ q) (h1 : q1 = q + 1) (h2 : q2 = r1 + 1) (x : EXq B e nP pp ll q1 sc r1 L1) (x2 : KX2 B e nP pp ll q2 sc r2 L2) : EXq B e nP pp ll q sc r2 ((e q1 = r1 ∧ L1) ∧ L2) := fun w r w' G => by
  subst h1 h2
  obtain ⟨a1, w1, g1, _, f, k⟩ := GD_match G q0 b
  have z := x _ _ _ g1
  have e1 := z.1.1
  subst e1
  have z2 := x2 _ _ _ _ k
  have y := GD_e G
  exact ⟨⟨by omega, by omega⟩, ⟨z.1.2, z.2⟩, z2.2⟩
theorem X_ke {B e : Int → Int} {nP : Int → Int} {pp ll : Int → Int → Int} {q sc : Int} (r0 : Int) (b : B q = 125) (h : r0 = q + 1) : KX2 B e nP pp ll q sc r0 True := fun f w r w' G => by
  match f, G with
  | f + 1, G =>
    rcases G with ⟨_, er, _⟩ | ⟨n, _⟩
    · exact ⟨by omega, trivial⟩
    · exact absurd b n
theorem X_kc {B e : Int → Int} {nP : Int → Int} {pp ll : Int → Int → Int} {q sc : Int} {L1 L2 : Prop} (q1 r1 r2 j sc2 : Int) (n : Nat) (b : B q - 48 = j) (j0 : 0 ≤ j ∧ j ≤ 9) (hp : pp 67 j = (n : Int)) (h1 : q1 = q + 1) (h3 : sc2 = sc + n) (x : EXq B e nP pp ll q1 sc2 r1 L1) (x2 : KX2 B e nP pp ll r1 sc r2 L2) : KX2 B e nP pp ll q sc r2 ((e q1 = r1 ∧ L1) ∧ L2) := fun f w r w' G => by
  subst h1 h3
  match f, G with
  | f + 1, G =>
    rcases G with ⟨z, _⟩ | ⟨_, _, _, a1, w1, g1, k⟩
    · omega
    · rw [b, hp] at g1
      have z := x _ _ _ g1
      have e1 := z.1.1
      subst e1
      have z2 := x2 _ _ _ _ k
      exact ⟨z2.1, ⟨z.1.2, z.2⟩, z2.2⟩
end
