section
/-! soundness: ground types -/
/-- the types of a heading, its letters standing for given types -/
def sgT (b : Int → Int) (n : Int) (α : Int → Tm) : List Tm := skT b α n.toNat 0 []
def sgTI (b : Int → Int) (n : Int) (α : Int → Tm) (c : Int) : Tm := match (sgT b n α)[c.toNat]? with
  | some t => t
  | none => tI
theorem popP_map {f : Tm → Tm} (hf : ∀ a b, f (tP a b) = tP (f a) (f b)) (s : List Tm) : (popP s).map f = popP (s.map f) := by
  match s with
  | [] => rfl
  | [_] => rfl
  | a :: b :: s =>
    show f (tP a b) :: s.map f = tP (f a) (f b) :: s.map f
    rw [hf]
theorem popF_map {f : Tm → Tm} {k : Int} (hf : ∀ a, f (tF k a) = tF k (f a)) (s : List Tm) : (popF k s).map f = popF k (s.map f) := by
  match s with
  | [] => rfl
  | a :: s =>
    show f (tF k a) :: s.map f = tF k (f a) :: s.map f
    rw [hf]
theorem skT_sb {b : Int → Int} {α : Int → Tm} {θ : As} : ∀ (r : Nat) (p : Int) (s : List Tm), (skT b α r p s).map (sb θ) = skT b (fun v => sb θ (α v)) r p (s.map (sb θ)) := by
  intro r
  induction r with
  | zero => intro p s; rfl
  | succ r ih =>
    intro p s
    show (actT b α p (skT b α r (p + 1) s)).map (sb θ) = actT b (fun v => sb θ (α v)) p (skT b (fun v => sb θ (α v)) r (p + 1) (s.map (sb θ)))
    rw [← ih]
    unfold actT
    split
    · exact popP_map (f := sb θ) (fun a b => rfl) _
    · split
      · exact popF_map (f := sb θ) (fun a => rfl) _
      · split
        · rfl
        · split
          · rfl
          · split
            · rfl
            · rfl
theorem skT_cg {b : Int → Int} {α α' : Int → Tm} : ∀ (r : Nat) (p : Int) (s : List Tm), (∀ i, p ≤ i → i < p + r → 117 ≤ b i → b i ≤ 119 → α (b i - 117) = α' (b i - 117)) → skT b α r p s = skT b α' r p s := by
  intro r
  induction r with
  | zero => intro p s _; rfl
  | succ r ih =>
    intro p s H
    show actT b α p (skT b α r (p + 1) s) = actT b α' p (skT b α' r (p + 1) s)
    rw [ih (p + 1) s (fun i i0 i1 a c => H i (by omega) (by omega) a c)]
    unfold actT
    split
    · rfl
    · split
      · rfl
      · split
        · rfl
        · split
          · rfl
          · split
            · rename_i h
              rw [H p (by omega) (by omega) h.1 h.2]
            · rfl
theorem sgL_sb {b : Int → Int} {n : Int} {mu : Int → Nat} {θ : As} : (sgL b n mu).map (sb θ) = sgT b n (fun v => θ (mu v)) := skT_sb n.toNat 0 []
theorem sgT_cg {b : Int → Int} {n : Int} {α α' : Int → Tm} (H : ∀ v, 0 ≤ v → v < 3 → Oc b 0 n v → α v = α' v) : sgT b n α = sgT b n α' := by
  refine skT_cg n.toNat 0 [] (fun i i0 i1 a c => H _ (by omega) (by omega) ⟨i, i0, by omega, by omega⟩)
theorem sgI_sb {b : Int → Int} {n c : Int} {mu : Int → Nat} {θ : As} : sb θ (sgI b n mu c) = sgTI b n (fun v => θ (mu v)) c := by
  unfold sgI sgTI
  rw [← sgL_sb (mu := mu) (θ := θ), List.getElem?_map]
  cases (sgL b n mu)[c.toNat]? with
  | none => rfl
  | some t => rfl
theorem sgTI_cg {b : Int → Int} {n c : Int} {α α' : Int → Tm} (H : ∀ v, 0 ≤ v → v < 3 → Oc b 0 n v → α v = α' v) : sgTI b n α c = sgTI b n α' c := by
  unfold sgTI
  rw [sgT_cg H]
/-- a scope made longer, under an assignment -/
theorem exG_sb {Γ : Int → Tm} {sc : Int} {l : List Tm} {θ : As} : (fun i => sb θ (exG Γ sc l i)) = exG (fun i => sb θ (Γ i)) sc (l.map (sb θ)) := by
  funext i
  unfold exG
  split
  · rw [List.getD_eq_getElem?_getD, List.getD_eq_getElem?_getD, List.getElem?_map]
    cases l[(i - sc).toNat]? with
    | none => rfl
    | some t => rfl
  · rfl
/-! ground typing -/
abbrev WX : Type := Int → (Int → Tm) → Int → Tm → Prop
def kiW (X : WX) (e : Int → Int) (Γ : Int → Tm) (sc : Int) : List Tm → Int → Prop
  | [], _ => True
  | t :: l, q => X q Γ sc t ∧ kiW X e Γ sc l (e q)
def caW (B e : Int → Int) (nC : Int) (sb' : Int → Int → Int → Int) (ll pp : Int → Int → Int) (fm : Int → Int) (X : WX) (Γ : Int → Tm) (sc : Int) (k : Int) (a τ : Tm) : Nat → Int → (Int → Prop) → Prop
  | 0, _, _ => False
  | f + 1, q, seen => (B q = 125 ∧ ∀ j α, 0 ≤ j → j < nC → fm j = k - 3 → ¬ seen j → sgTI (sb' 67 j) (ll 67 j) α (pp 67 j) ≠ a) ∨
    (B q ≠ 125 ∧ (∀ α, sgTI (sb' 67 (B q - 48)) (ll 67 (B q - 48)) α (pp 67 (B q - 48)) = a → X (q + 1) (exG Γ sc ((sgT (sb' 67 (B q - 48)) (ll 67 (B q - 48)) α).take (pp 67 (B q - 48)).toNat)) (sc + pp 67 (B q - 48)) τ) ∧ caW B e nC sb' ll pp fm X Γ sc k a τ f (e (q + 1)) (fun j => seen j ∨ j = B q - 48))
def WF (B e : Int → Int) (nC : Int) (sb' : Int → Int → Int → Int) (ll pp : Int → Int → Int) (fm : Int → Int) (X : WX) : WX := fun p Γ sc τ =>
  (lfO (B p) sc ∧ τ = lfT (B p) Γ) ∨
  ((B p = 43 ∨ B p = 45 ∨ B p = 60 ∨ B p = 61) ∧ X (p + 1) Γ sc tI ∧ X (e (p + 1)) Γ sc tI ∧ τ = (if B p = 43 ∨ B p = 45 then tI else tB)) ∨
  (B p = 63 ∧ X (p + 1) Γ sc tB ∧ X (e (p + 1)) Γ sc τ ∧ X (e (e (p + 1))) Γ sc τ) ∨
  (B p = 80 ∧ ∃ a b, τ = tP a b ∧ X (p + 1) Γ sc a ∧ X (e (p + 1)) Γ sc b) ∨
  ((B p = 76 ∨ B p = 82) ∧ ∃ a b, X (p + 1) Γ sc (tP a b) ∧ τ = (if B p = 76 then a else b)) ∨
  ((B p = 67 ∨ B p = 71) ∧ ∃ α, kiW X e Γ sc ((sgT (sb' (B p) (B (p + 1) - 48)) (ll (B p) (B (p + 1) - 48)) α).take (pp (B p) (B (p + 1) - 48)).toNat) (p + 2) ∧ τ = cllT fm (B p) (B (p + 1) - 48) (sgTI (sb' (B p) (B (p + 1) - 48)) (ll (B p) (B (p + 1) - 48)) α (pp (B p) (B (p + 1) - 48)))) ∨
  (B p = 77 ∧ ∃ k a, (3 ≤ k ∧ k ≤ 6) ∧ X (p + 1) Γ sc (tF k a) ∧ ∃ f, caW B e nC sb' ll pp fm X Γ sc k a τ f (e (p + 1) + 1) (fun _ => False))
theorem kiW_mono {X Y : WX} (h : ∀ p Γ sc τ, X p Γ sc τ → Y p Γ sc τ) {e : Int → Int} {Γ : Int → Tm} {sc : Int} : ∀ (l : List Tm) (q : Int), kiW X e Γ sc l q → kiW Y e Γ sc l q := by
  intro l
  induction l with
  | nil => intro q _; exact trivial
  | cons t l ih => intro q H; exact ⟨h _ _ _ _ H.1, ih _ H.2⟩
theorem caW_mono {B e : Int → Int} {nC : Int} {sb' : Int → Int → Int → Int} {ll pp : Int → Int → Int} {fm : Int → Int} {X Y : WX} (h : ∀ p Γ sc τ, X p Γ sc τ → Y p Γ sc τ) {Γ : Int → Tm} {sc k : Int} {a τ : Tm} : ∀ (f : Nat) (q : Int) (seen : Int → Prop), caW B e nC sb' ll pp fm X Γ sc k a τ f q seen → caW B e nC sb' ll pp fm Y Γ sc k a τ f q seen := by
  intro f
  induction f with
  | zero => intro q seen H; exact H
  | succ f ih =>
    intro q seen H
    rcases H with H | ⟨c, H, K⟩
    · exact Or.inl H
    · exact Or.inr ⟨c, fun α e => h _ _ _ _ (H α e), ih _ _ K⟩
theorem WF_mono {B e : Int → Int} {nC : Int} {sb' : Int → Int → Int → Int} {ll pp : Int → Int → Int} {fm : Int → Int} {X Y : WX} (h : ∀ p Γ sc τ, X p Γ sc τ → Y p Γ sc τ) {p : Int} {Γ : Int → Tm} {sc : Int} {τ : Tm} (H : WF B e nC sb' ll pp fm X p Γ sc τ) : WF B e nC sb' ll pp fm Y p Γ sc τ := by
  rcases H with H | ⟨c, a, b, t⟩ | ⟨c, x, y, z⟩ | ⟨c, a, b, t, x, y⟩ | ⟨c, a, b, x, t⟩ | ⟨c, α, x, t⟩ | ⟨c, k, a, kr, x, f, H⟩
  · exact Or.inl H
  · exact Or.inr (Or.inl ⟨c, h _ _ _ _ a, h _ _ _ _ b, t⟩)
  · exact Or.inr (Or.inr (Or.inl ⟨c, h _ _ _ _ x, h _ _ _ _ y, h _ _ _ _ z⟩))
  · exact Or.inr (Or.inr (Or.inr (Or.inl ⟨c, a, b, t, h _ _ _ _ x, h _ _ _ _ y⟩)))
  · exact Or.inr (Or.inr (Or.inr (Or.inr (Or.inl ⟨c, a, b, h _ _ _ _ x, t⟩))))
  · exact Or.inr (Or.inr (Or.inr (Or.inr (Or.inr (Or.inl ⟨c, α, kiW_mono h _ _ x, t⟩)))))
  · exact Or.inr (Or.inr (Or.inr (Or.inr (Or.inr (Or.inr ⟨c, k, a, kr, h _ _ _ _ x, f, caW_mono h _ _ _ H⟩)))))
def WT (B e : Int → Int) (nC : Int) (sb' : Int → Int → Int → Int) (ll pp : Int → Int → Int) (fm : Int → Int) : WX := fun p Γ sc τ => ∃ X : WX, (∀ p Γ sc τ, X p Γ sc τ → WF B e nC sb' ll pp fm X p Γ sc τ) ∧ X p Γ sc τ
theorem WT_out {B e : Int → Int} {nC : Int} {sb' : Int → Int → Int → Int} {ll pp : Int → Int → Int} {fm : Int → Int} {p : Int} {Γ : Int → Tm} {sc : Int} {τ : Tm} (H : WT B e nC sb' ll pp fm p Γ sc τ) : WF B e nC sb' ll pp fm (WT B e nC sb' ll pp fm) p Γ sc τ := by
  obtain ⟨X, cl, x⟩ := H
  exact WF_mono (fun p Γ sc τ y => ⟨X, cl, y⟩) (cl _ _ _ _ x)
theorem WT_in {B e : Int → Int} {nC : Int} {sb' : Int → Int → Int → Int} {ll pp : Int → Int → Int} {fm : Int → Int} {p : Int} {Γ : Int → Tm} {sc : Int} {τ : Tm} (H : WF B e nC sb' ll pp fm (WT B e nC sb' ll pp fm) p Γ sc τ) : WT B e nC sb' ll pp fm p Γ sc τ :=
  ⟨WF B e nC sb' ll pp fm (WT B e nC sb' ll pp fm), fun _ _ _ _ x => WF_mono (fun _ _ _ _ y => WT_out y) x, H⟩
end
