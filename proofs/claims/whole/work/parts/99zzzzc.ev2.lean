section
theorem w32_s {z : Int} (a : -2147483648 ≤ z) (b : z < 2147483648) : w32 z = z := by
  unfold w32; omega
theorem w32_r (z : Int) : r32 (w32 z) := by
  unfold w32 r32; omega
/-- what stands when a step has been counted -/
def EvS (h0 : HP) (c p sc base k hs N w r w' : Int) (Γ : Int → Tm) (τ : Tm) (env : Int → Int) (h : HP) : Prop := ((1 ≤ k ∧ k ≤ 60) ∧ Cod h0 c ∧ 0 ≤ p ∧ N ≤ h0 36 5) ∧ gh h0 c N p sc w r w' ∧ wh h0 c p Γ sc τ ∧ KM h0 h ∧ (0 ≤ sc ∧ 0 ≤ base ∧ base + sc ≤ 3 * k) ∧ (h 124 8 = base + sc ∧ h 124 9 = hs ∧ 0 ≤ hs ∧ hs ≤ 3 * (k - 1)) ∧ (0 ≤ h 124 7 ∧ h 124 7 + 1 ≤ h 124 10 ∧ h 124 10 ≤ 1000) ∧ (∀ i, 0 ≤ i → i < sc → h 128 (base + i) = env i ∧ vt h0 h (h 124 7) (env i) (Γ i))
abbrev erb (h0 : HP) (sk sv : Int → Int) : EVX := fun c p sc env k s dp nv out s' dp' nv' => ERB sk sv (fun c => bA (h0 (c + 1)) (h0 c 2)) (fun c => h0 (c + 2)) (ppr h0) (fun f => h0 40 f = 1) (er h0 sk sv) c p sc env k s dp nv out s' dp' nv'
def EvG (h0 : HP) (c p sc base k hs : Int) (env : Int → Int) (τ : Tm) (h : HP) (Q : PQ) : Prop := ∀ v h', EvF h h' (base + sc) hs → h' 124 7 + h 124 10 ≤ h' 124 10 + h 124 7 + 1 → vt h0 h' (h' 124 7) v τ → (∀ sk sv, AGr sk sv h' (h' 124 7) → erb h0 sk sv c p sc env k (h 124 10) (h 124 11) (h 124 7) v (h' 124 10) (h' 124 11) (h' 124 7)) → Q v h'
def EvN (h0 : HP) (c p sc k : Int) (env : Int → Int) (h : HP) (Q : PQ) : Prop := ∀ o h', (o = -7 ∨ o = -8 ∨ o = -9) → KM h0 h' → VSm h h' (h 124 7) → h 124 7 ≤ h' 124 7 → (∀ sk sv, AGr sk sv h' (h' 124 7) → ∃ s' dp' nv', erb h0 sk sv c p sc env k (h 124 10) (h 124 11) (h 124 7) o s' dp' nv') → Q o h'
theorem EvL_fin {h g k1 g2 : HP} {S hs j : Int} (L : EvL h g S hs j) (F : EvF g k1 S hs) (e9 : h 124 9 = hs) (e : g2 = up2 k1 124 9 hs) : EvF h g2 S hs ∧ VSm k1 g2 (k1 124 7) ∧ g2 124 7 = k1 124 7 ∧ g2 124 10 = k1 124 10 ∧ g2 124 11 = k1 124 11 := by
  obtain ⟨l1, l2, l3, l4, l5, l6⟩ := L
  obtain ⟨f1, f2, f3, f4, f5, f6⟩ := F
  have o : ∀ a i, ¬ (a = 124 ∧ i = 9) → g2 a i = k1 a i := fun a i p => by rw [e, up2_ext p]
  have q7 := o 124 7 (by omega)
  have q10 := o 124 10 (by omega)
  have vs : VSm k1 g2 (k1 124 7) := fun v v0 v1 => ⟨o 125 v (by omega), o 126 v (by omega), fun i i0 i1 => o 127 _ (by omega)⟩
  refine ⟨⟨fun a i p => (o a i (by omega)).trans ((f1 a i p).trans (l1 a i p)), ⟨(o 124 8 (by omega)).trans (f2.1.trans l2.1), by rw [e, up2_eq, e9]⟩, fun i p => (o 128 i (by omega)).trans ((f3 i p).trans (l3 i p)), fun i p => (o 129 i (by omega)).trans ((f4 i p).trans (l4 i p)), VSm_trans l6.1 l5 (VSm_trans f6.1 f5 vs), by omega⟩, vs, q7, q10, o 124 11 (by omega)⟩
theorem EvL_0 {h : HP} {S hs : Int} (e9 : h 124 9 = hs) (n : h 124 7 ≤ h 124 10) (n1 : h 124 10 ≤ 1000) : EvL h h S hs 0 := ⟨fun _ _ _ => rfl, ⟨rfl, by omega⟩, fun _ _ => rfl, fun _ _ => rfl, VSm_refl h _, by omega⟩
theorem EvF_id {h : HP} {S hs : Int} (n : h 124 7 ≤ h 124 10) (n1 : h 124 10 ≤ 1000) : EvF h h S hs := ⟨fun _ _ _ => rfl, ⟨rfl, rfl⟩, fun _ _ => rfl, fun _ _ => rfl, VSm_refl h _, by omega⟩
theorem cod_nz {h0 : HP} {c : Int} (C : Cod h0 c) : c ≠ 0 := by
  rcases C.1 with e | ⟨f, hf, e⟩ <;> omega
theorem m_held {d : Nat} {h : HP} {hs j q : Int} {x : Int} {Q : PQ} (e9 : h 124 9 = hs + j) (q0 : 0 ≤ q) (b : hs + j ≤ 192) (H1 : q < hs + j → Q (h 129 q) h) (H0 : hs + j ≤ q → Q 0 h) : Go d M_Machine_heldAt 0 [(13, 124), (0, q)] [] h Q := by
  have z5 : aSZ (124 + 5) = 192 := rfl
  refine V_Machine_heldAt_0 ⟨fun z => by omega, fun _ => ⟨fun z => H0 (by omega), fun z => ⟨by omega, H1 (by omega)⟩⟩⟩
/-- leaves -/
theorem e_leaf {d tg : Nat} {h0 h : HP} {c p sc base k hs N w r w' v6 v7 q : Int} {Γ : Int → Tm} {τ : Tm} {env : Int → Int} {w12 : AV} {Q : PQ} (ht : tg = 11 ∨ tg = 31) (rb : RB0 h0) (hd : 20 < d) (E : EvS h0 c p sc base k hs N w r w' Γ τ env h) (lf : lfO (bA (h0 (c + 1)) (h0 c 2) p) sc) (HG : EvG h0 c p sc base k hs env τ h Q) : Go d M_Machine_evaluate 173 [(13, 124), (tg, c), (0, p), (0, base), (0, k), (0, bA (h0 (c + 1)) (h0 c 2) p), (0, v6), (36, v7), (0, 0), (0, q), (0, hs), (0, 0), w12] [] h Q := by
  obtain ⟨⟨kk, C, p0, N1⟩, G, W, km, ss, ⟨e8, e9, hs0, hs1⟩, nn, ev⟩ := E
  have cz := cod_nz C
  have z4 : aSZ (124 + 4) = 192 := rfl
  have eτ : τ = lfT (bA (h0 (c + 1)) (h0 c 2) p) Γ := by
    have l := lf
    unfold lfO at l
    rcases WT_out W with ⟨_, e⟩ | ⟨x, _⟩ | ⟨x, _⟩ | ⟨x, _⟩ | ⟨x, _⟩ | ⟨x, _⟩ | ⟨x, _⟩
    · exact e
    all_goals omega
  have lf' := lf
  unfold lfO at lf'
  refine VT_Machine_evaluate_173 ht cz ⟨fun _ => ⟨fun n71 => ⟨by omega, ?_⟩, fun z => by omega⟩, fun z => by omega⟩
  refine VT_Machine_compose_0 ht cz ⟨cz, by omega, m_byte C km ⟨by omega, m_held (hs := hs) (j := 0) (x := 0) (by omega) hs0 (by omega) (fun z => by omega) (fun _ => ⟨by omega, ?_⟩)⟩⟩
  rw [w32_s (z := hs + 1) (by omega) (by omega)]
  refine m_held (hs := hs) (j := 0) (x := 0) (by omega) (by omega) (by omega) (fun z => by omega) (fun _ => ?_)
  have L0 := EvL_0 (S := base + sc) e9 (by omega) nn.2.2
  -- a new value without parts
  have nw : ∀ (kd num : Int) (g : HP), (∀ a i, ¬ (a = 124 ∧ i = 7) → ¬ ((a = 125 ∨ a = 126) ∧ i = h 124 7) → ¬ (a = 127 ∧ 3 * h 124 7 ≤ i ∧ i < 3 * h 124 7 + 3) → g a i = h a i) → g 124 7 = h 124 7 + 1 → g 125 (h 124 7) = kd → g 126 (h 124 7) = 0 → g 127 (3 * h 124 7) = num → ((kd = 10 ∧ τ = tI ∧ r32 num) ∨ (kd = 11 ∧ τ = tB ∧ (num = 0 ∨ num = 1))) → (∀ sk sv : Int → Int, sk (h 124 7) = kd → sv (3 * h 124 7) = num → erb h0 sk sv c p sc env k (h 124 10) (h 124 11) (h 124 7) (h 124 7) (h 124 10) (h 124 11) (h 124 7 + 1)) → ∀ g2 : HP, g2 = up2 g 124 9 hs → Q (h 124 7) g2 := by
    intro kd num g o e7 e5 e6 e27 ty erv g2 e2
    have Fn := EvF_new (S := base + sc) (hs := hs) rfl o e7 (by omega) nn.2.2
    obtain ⟨F, vs, q7, q10, q11⟩ := EvL_fin L0 Fn e9 e2
    have g10 : g 124 10 = h 124 10 := o 124 10 (by omega) (by omega) (by omega)
    have g11 : g 124 11 = h 124 11 := o 124 11 (by omega) (by omega) (by omega)
    have vsn := vs (h 124 7) nn.1 (by omega)
    have c0 := vsn.2.2 0 (by omega) (by omega)
    rw [show 3 * h 124 7 + 0 = 3 * h 124 7 by omega] at c0
    refine HG _ g2 F (by omega) ⟨1, ⟨nn.1, by omega⟩, ?_⟩ (fun sk sv ag => ?_)
    · rcases ty with ⟨a, b, c'⟩ | ⟨a, b, c'⟩
      · exact Or.inl ⟨by omega, by omega, b, by rw [c0, e27]; exact c'⟩
      · exact Or.inr (Or.inl ⟨by omega, by omega, b, by rw [c0, e27]; exact c'⟩)
    · have a := AGr_0 ag nn.1 (by omega)
      have q := erv sk sv (by omega) (by omega)
      rw [show g2 124 10 = h 124 10 by omega, show g2 124 11 = h 124 11 by omega, show g2 124 7 = h 124 7 + 1 by omega]
      exact q
  refine ⟨fun z => by omega, fun _ => ⟨fun z => by omega, fun _ => ⟨fun z => by omega, fun _ => ⟨fun z => by omega, fun _ => ⟨fun z => by omega, fun _ => ⟨fun cF => ⟨by omega, ?_⟩, fun nF => ⟨fun z => by omega, fun _ => ⟨fun z => by omega, fun _ => ⟨fun z => by omega, fun _ => ⟨fun cT => ⟨by omega, ?_⟩, fun nT => ⟨fun cd => ⟨by omega, ?_⟩, fun cl => ⟨by omega, ?_⟩⟩⟩⟩⟩⟩⟩⟩⟩⟩⟩⟩
  · refine c_single (by omega) rfl nn.1 (by omega) e9 hs0 (by omega) (fun g o a b c' e => nw 11 0 g o a b c' e (Or.inr ⟨rfl, ?_, Or.inl rfl⟩) (fun sk sv a b => Or.inr (Or.inl ⟨Or.inr cF, a, ?_, rfl, rfl, rfl, rfl⟩)))
    · rw [eτ]; unfold lfT; rw [if_neg (by omega), if_pos (by omega)]
    · show sv (3 * h 124 7) = (if bA (h0 (c + 1)) (h0 c 2) p = 84 then 1 else 0)
      rw [b, if_neg (by omega)]
  · refine c_single (by omega) rfl nn.1 (by omega) e9 hs0 (by omega) (fun g o a b c' e => nw 11 1 g o a b c' e (Or.inr ⟨rfl, ?_, Or.inr rfl⟩) (fun sk sv a b => Or.inr (Or.inl ⟨Or.inl cT, a, ?_, rfl, rfl, rfl, rfl⟩)))
    · rw [eτ]; unfold lfT; rw [if_neg (by omega), if_pos (by omega)]
    · show sv (3 * h 124 7) = (if bA (h0 (c + 1)) (h0 c 2) p = 84 then 1 else 0)
      rw [b, if_pos cT]
  · rw [w32_s (by omega) (by omega)]
    refine c_single (by omega) rfl nn.1 (by omega) e9 hs0 (by omega) (fun g o a b c' e => nw 10 _ g o a b c' e (Or.inl ⟨rfl, ?_, by unfold r32; omega⟩) (fun sk sv a b => Or.inl ⟨(show 48 ≤ bA (h0 (c + 1)) (h0 c 2) p ∧ bA (h0 (c + 1)) (h0 c 2) p ≤ 57 by omega), a, b, rfl, rfl, rfl, rfl⟩))
    rw [eτ]; unfold lfT; rw [if_neg (by omega), if_neg (by omega)]
  · rw [w32_s (z := base + bA (h0 (c + 1)) (h0 c 2) p) (by omega) (by omega), w32_s (by omega) (by omega)]
    have ee := ev (bA (h0 (c + 1)) (h0 c 2) p - 97) (by omega) (by omega)
    refine V_Machine_scopeAt_0 ⟨fun z => by omega, fun _ => ⟨fun z => by omega, fun _ => ⟨by omega, fun g2 e2 => ?_⟩⟩⟩
    have ea : h (124 + 4) (base + bA (h0 (c + 1)) (h0 c 2) p - 97) = env (bA (h0 (c + 1)) (h0 c 2) p - 97) := by
      rw [show base + bA (h0 (c + 1)) (h0 c 2) p - 97 = base + (bA (h0 (c + 1)) (h0 c 2) p - 97) by omega]
      exact ee.1
    rw [ea]
    have Fi := EvF_id (S := base + sc) (hs := hs) (h := h) (by omega) nn.2.2
    obtain ⟨F, vs, q7, q10, q11⟩ := EvL_fin L0 Fi e9 e2
    refine HG _ g2 F (by omega) ?_ (fun sk sv ag => Or.inr (Or.inr (Or.inl ⟨(show 97 ≤ bA (h0 (c + 1)) (h0 c 2) p ∧ bA (h0 (c + 1)) (h0 c 2) p ≤ 122 ∧ bA (h0 (c + 1)) (h0 c 2) p - 97 < sc by omega), rfl, q10, q11, q7⟩)))
    rw [eτ, q7]
    unfold lfT
    rw [if_pos cl]
    exact vt_mono vs (Int.le_refl _) (rb_p3 rb) ee.2
end
