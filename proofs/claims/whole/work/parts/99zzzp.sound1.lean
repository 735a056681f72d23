section
/-! what a check keeps of assignments -/
def AgV (V : Vx) (θ θ' : As) : Prop := ∀ n, 7 ≤ (V n).1 → θ n = θ' n
def Dep (S : Sx) (V : Vx) : Prop := ∀ θ θ', AgV V θ θ' → S θ → S θ'
def VTS (S : Sx) (V : Vx) (t : Tm) : Prop := ∀ θ θ', S θ → S θ' → AgV V θ θ' → sb θ t = sb θ' t
def PVn (V : Vx) (D : Int) (n : Nat) : Prop := (V n).1 = 7 ∨ ((V n).1 = 8 ∧ (V n).2 < D)
def Cl (S : Sx) (V : Vx) (D : Int) : Prop := ∀ θ1 θ2, S θ1 → S θ2 → (∀ n, PVn V D n → Unf S n → θ1 n = θ2 n) → ∀ n, PVn V D n → θ1 n = θ2 n
def VDp (V : Vx) (D : Int) : Prop := ∀ n, 7 ≤ (V n).1 → (V n).1 = 7 ∨ ((V n).1 = 8 ∧ (V n).2 ≤ D)
def IV (S : Sx) (V : Vx) (D : Int) : Prop := Dep S V ∧ Cl S V D ∧ VDp V D
def VX (V V' : Vx) : Prop := ∀ n, 7 ≤ (V n).1 → V' n = V n
def EX (S S' : Sx) (V : Vx) (D : Int) : Prop := ∀ θ, S θ → ∃ θ', S' θ' ∧ ∀ n, PVn V D n → θ' n = θ n
def RS (S : Sx) (V : Vx) (D : Int) (S' : Sx) (V' : Vx) : Prop := (∀ θ, S' θ → S θ) ∧ IV S' V' D ∧ VX V V' ∧ EX S S' V D
theorem RS_refl {S : Sx} {V : Vx} {D : Int} (I : IV S V D) : RS S V D S V := ⟨fun _ z => z, I, fun _ _ => rfl, fun θ h => ⟨θ, h, fun _ _ => rfl⟩⟩
theorem PVn_7 {V : Vx} {D : Int} {n : Nat} (p : PVn V D n) : 7 ≤ (V n).1 := by
  rcases p with a | ⟨a, _⟩ <;> omega
theorem RS_trans {S S1 S2 : Sx} {V V1 V2 : Vx} {D : Int} (a : RS S V D S1 V1) (b : RS S1 V1 D S2 V2) : RS S V D S2 V2 := by
  obtain ⟨a1, a2, a3, a4⟩ := a
  obtain ⟨b1, b2, b3, b4⟩ := b
  refine ⟨fun θ z => a1 θ (b1 θ z), b2, fun n v => ?_, fun θ h => ?_⟩
  · rw [b3 n (by rw [a3 n v]; exact v), a3 n v]
  · obtain ⟨θ1, s1, e1⟩ := a4 θ h
    obtain ⟨θ2, s2, e2⟩ := b4 θ1 s1
    refine ⟨θ2, s2, fun n p => ?_⟩
    have q : PVn V1 D n := by
      have := a3 n (PVn_7 p)
      unfold PVn at p ⊢
      rw [this]
      exact p
    rw [e2 n q, e1 n p]
theorem AgV_VX {V V' : Vx} {θ θ' : As} (x : VX V V') (a : AgV V' θ θ') : AgV V θ θ' := fun n v => a n (by rw [x n v]; exact v)
theorem VTS_mono {S S' : Sx} {V V' : Vx} {t : Tm} (h : VTS S V t) (sub : ∀ θ, S' θ → S θ) (x : VX V V') : VTS S' V' t := fun θ θ' a b c => h θ θ' (sub θ a) (sub θ' b) (AgV_VX x c)
theorem VTS_RS {S S' : Sx} {V V' : Vx} {D : Int} {t : Tm} (h : VTS S V t) (r : RS S V D S' V') : VTS S' V' t := VTS_mono h r.1 r.2.2.1
theorem VTS_eq {S : Sx} {V : Vx} {s t : Tm} (h : VTS S V s) (e : EqS S s t) : VTS S V t := fun θ θ' a b c => by rw [← e θ a, ← e θ' b]; exact h θ θ' a b c
theorem RS_un {S : Sx} {V : Vx} {D : Int} {s t : Tm} (I : IV S V D) (hs : VTS S V s) (ht : VTS S V t) (nf : ¬ FixS S (Snd S s t) V D) (ex : Ext1 S (Snd S s t) V D) : RS S V D (Snd S s t) V := by
  obtain ⟨dp, cl, vd⟩ := I
  have pu : ∀ n, PVn V D n → Unf S n → ∀ θ1 θ2, Snd S s t θ1 → Snd S s t θ2 → (∀ n, PVn V D n → Unf (Snd S s t) n → θ1 n = θ2 n) → θ1 n = θ2 n := by
    intro n p u θ1 θ2 s1 s2 ag
    have one : ∀ n, Prot S V D n → PVn V D n → θ1 n = θ2 n := by
      intro n pr p
      refine ag n p (Classical.byContradiction fun z => nf ⟨n, pr, Or.inl ?_⟩)
      rcases p with a | ⟨a, _⟩
      · exact Or.inl ⟨a, z⟩
      · exact Or.inr ⟨a, Or.inl z⟩
    rcases p with a | ⟨a, b⟩
    · exact one n (Or.inl ⟨a, u⟩) (Or.inl a)
    · rcases Classical.em (RigE S V n) with r | r
      · obtain ⟨m, m7, e⟩ := r
        have um : Unf S m := fun k p q k0 z => u k p q k0 (EqS_trans e z)
        have e1 : θ1 n = θ1 m := e θ1 s1.1
        have e2 : θ2 n = θ2 m := e θ2 s2.1
        rw [e1, e2]
        exact one m (Or.inl ⟨m7, um⟩) (Or.inl m7)
      · exact one n (Or.inr ⟨a, b, u, r⟩) (Or.inr ⟨a, b⟩)
  refine ⟨fun _ z => z.1, ⟨fun θ θ' a z => ?_, fun θ1 θ2 s1 s2 ag n p => ?_, vd⟩, fun _ _ => rfl, fun θ h => ?_⟩
  · have q := dp θ θ' a z.1
    exact ⟨q, by rw [← hs θ θ' z.1 q a, ← ht θ θ' z.1 q a]; exact z.2⟩
  · exact cl θ1 θ2 s1.1 s2.1 (fun n p u => pu n p u θ1 θ2 s1 s2 ag) n p
  · obtain ⟨θ', s', e⟩ := ex θ h
    exact ⟨θ', s', cl θ' θ s'.1 h (fun n p u => e n p u)⟩
theorem IV_vx {S : Sx} {V V' : Vx} {D : Int} (I : IV S V D) (x : VX V V') (nw : ∀ n, 7 ≤ (V' n).1 → 7 ≤ (V n).1 ∨ V' n = (8, D)) : RS S V D S V' := by
  obtain ⟨dp, cl, vd⟩ := I
  have pv : ∀ n, PVn V' D n → PVn V D n := by
    intro n p
    rcases nw n (PVn_7 p) with v | v
    · unfold PVn at p ⊢
      rw [x n v] at p
      exact p
    · unfold PVn at p
      rw [v] at p
      rcases p with p | ⟨_, p⟩
      · exact absurd (show (8 : Int) = 7 from p) (by decide)
      · exact absurd p (Int.lt_irrefl D)
  have pv' : ∀ n, PVn V D n → PVn V' D n := by
    intro n p
    unfold PVn
    rw [x n (PVn_7 p)]
    exact p
  refine ⟨fun _ z => z, ⟨fun θ θ' a z => dp θ θ' (AgV_VX x a) z, fun θ1 θ2 s1 s2 ag n p => cl θ1 θ2 s1 s2 (fun n p u => ag n (pv' n p) u) n (pv n p), fun n v => ?_⟩, x, fun θ h => ⟨θ, h, fun _ _ => rfl⟩⟩
  rcases nw n v with w | w
  · rw [x n w]; exact vd n w
  · rw [w]; exact Or.inr ⟨rfl, Int.le_refl D⟩
theorem RS_up {S : Sx} {V : Vx} {D : Int} {m : Nat} (I : IV S V D) (f : (V m).1 < 7) : RS S V D S (upV V m (8, D)) := by
  refine IV_vx I (fun n v => ?_) (fun n v => ?_)
  · show (if n = m then _ else V n) = V n
    rw [if_neg (fun e => by rw [e] at v; omega)]
  · have v : 7 ≤ (if n = m then ((8 : Int), D) else V n).1 := v
    by_cases e : n = m
    · right; show (if n = m then ((8 : Int), D) else V n) = _; rw [if_pos e]
    · rw [if_neg e] at v; exact Or.inl v
theorem nV_VX {V : Vx} {mu : Int → Nat} {P : Int → Prop} {p : Int × Int} (F : FrN V mu) : VX V (nV V mu P p) := by
  intro n v
  refine nV_out (fun ⟨w, w0, w1, _, e⟩ => ?_)
  have := F.1 w w0 w1
  rw [← e] at this
  omega
theorem RS_nV {S : Sx} {V : Vx} {D : Int} {mu : Int → Nat} {P : Int → Prop} (I : IV S V D) (F : FrN V mu) : RS S V D S (nV V mu P (8, D)) := by
  refine IV_vx I (nV_VX F) (fun n v => ?_)
  rcases Classical.em (∃ w, 0 ≤ w ∧ w < 3 ∧ P w ∧ n = mu w) with h | h
  · exact Or.inr (nV_in h)
  · rw [nV_out h] at v
    exact Or.inl v
/-- an assignment with values for the letters -/
noncomputable def asL (θ : As) (mu : Int → Nat) (α : Int → Tm) : As := fun n => @ite _ (n = mu 0) (Classical.propDecidable _) (α 0) (@ite _ (n = mu 1) (Classical.propDecidable _) (α 1) (@ite _ (n = mu 2) (Classical.propDecidable _) (α 2) (θ n)))
theorem asL_v {V : Vx} {θ : As} {mu : Int → Nat} {α : Int → Tm} (F : FrN V mu) (v : Int) (v0 : 0 ≤ v) (v1 : v < 3) : asL θ mu α (mu v) = α v := by
  have h : v = 0 ∨ v = 1 ∨ v = 2 := by omega
  unfold asL
  rcases h with e | e | e <;> subst e
  · rw [if_pos rfl]
  · rw [if_neg (fun q => absurd (F.2 1 0 (by omega) (by omega) (by omega) (by omega) q) (by decide)), if_pos rfl]
  · rw [if_neg (fun q => absurd (F.2 2 0 (by omega) (by omega) (by omega) (by omega) q) (by decide)), if_neg (fun q => absurd (F.2 2 1 (by omega) (by omega) (by omega) (by omega) q) (by decide)), if_pos rfl]
theorem asL_o {V : Vx} {θ : As} {mu : Int → Nat} {α : Int → Tm} (F : FrN V mu) : AgV V θ (asL θ mu α) := by
  intro n v
  have nv : ∀ w, 0 ≤ w → w < 3 → n ≠ mu w := fun w w0 w1 e => by
    have := F.1 w w0 w1
    rw [← e] at this
    omega
  unfold asL
  rw [if_neg (nv 0 (by omega) (by omega)), if_neg (nv 1 (by omega) (by omega)), if_neg (nv 2 (by omega) (by omega))]
/-- the types of a heading are types of its letters' names -/
theorem sgL_VTS {S : Sx} {V : Vx} {b : Int → Int} {n : Int} {mu : Int → Nat} {p : Int × Int} (p7 : 7 ≤ p.1) {θ θ' : As} (a : AgV (nV V mu (Oc b 0 n) p) θ θ') : sgT b n (fun v => θ (mu v)) = sgT b n (fun v => θ' (mu v)) := by
  refine sgT_cg (fun v v0 v1 oc => a (mu v) ?_)
  rw [nV_in ⟨v, v0, v1, oc, rfl⟩]
  exact p7
end
