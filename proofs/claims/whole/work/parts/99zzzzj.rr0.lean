section
/-! the reference's runs -/
abbrev Lr (d : Nat) (Q : PQ) (h : HP) : Prop := Go d M_Mo_runs 108 [(22, 135)] [] h Q
def RvB (g0 h : HP) : Prop := ∀ a i, a < 179 ∨ 188 < a → ¬ (a = 135 ∧ (i = 72 ∨ (78 ≤ i ∧ i ≤ 82))) → h a i = g0 a i
def RvV (h0 : HP) (sk sv : Int → Int) (h : HP) (v : Int) : Prop :=
  (sk v = 10 ∧ h 179 v = 0 ∧ h 180 v = sv (3 * v)) ∨ (sk v = 11 ∧ h 179 v = 1 ∧ h 180 v = sv (3 * v)) ∨
  (sk v = 12 ∧ h 179 v = 2 ∧ (h 181 v = sv (3 * v) ∧ h 182 v = sv (3 * v + 1)) ∧ (0 ≤ sv (3 * v) ∧ sv (3 * v) < v) ∧ (0 ≤ sv (3 * v + 1) ∧ sv (3 * v + 1) < v)) ∨
  ((0 ≤ sk v ∧ sk v < h0 36 4) ∧ h 179 v = 3 ∧ h 180 v = sk v ∧ ∀ i, 0 ≤ i → i < ppr h0 67 (sk v) → h (181 + i) v = sv (3 * v + i) ∧ 0 ≤ sv (3 * v + i) ∧ sv (3 * v + i) < v)
def RvS (h0 g0 : HP) (sk sv : Int → Int) (h : HP) (F s dp nv : Int) : Prop := RvB g0 h ∧ (h 135 78 = F ∧ h 135 80 = s ∧ h 135 81 = dp ∧ h 135 72 = nv ∧ h 135 82 = 0) ∧ (0 ≤ nv ∧ nv ≤ s ∧ s ≤ 1000) ∧ ∀ v, 0 ≤ v → v < nv → RvV h0 sk sv h v
def RvX (h h' : HP) (F S : Int) : Prop := ∀ a i, (184 ≤ a ∧ a ≤ 186 ∧ i < F) ∨ (a = 187 ∧ i < 3 * F) ∨ (a = 188 ∧ i < S) → h' a i = h a i
theorem RvX_refl (h : HP) (F S : Int) : RvX h h F S := fun _ _ _ => rfl
theorem RvX_trans {h h1 h2 : HP} {F F1 S S1 : Int} (l : F ≤ F1) (ls : S ≤ S1) (a : RvX h h1 F S) (b : RvX h1 h2 F1 S1) : RvX h h2 F S := fun x i p => (b x i (by omega)).trans (a x i p)
/-- the codes, their trees, what is declared -/
def NB (h0 : HP) (c b N : Int) : Prop := ((c = 30 ∧ b = 600) ∨ ∃ f, (0 ≤ f ∧ f < h0 36 5 ∧ f < 6) ∧ c = 63 + 5 * f ∧ b = 100 * f) ∧ N ≤ h0 36 5
def RN (h0 g0 : HP) (c b N : Int) : YR := fun p k sc => NX (fun x i => g0 x (b + i)) (bA (h0 (c + 1)) (h0 c 2)) (h0 (c + 2)) (nPn (h0 36 4) N) (ppr h0) p k sc ∧ (0 ≤ p ∧ h0 c 2 ≤ 100) ∧ ∃ w r w', gh h0 c N p sc w r w'
theorem KID_G {h0 g0 : HP} {c b N : Int} (c1 : h0 c 2 ≤ 100) : ∀ (n : Nat) (q k sc w r w' : Int), 0 ≤ q → KID (fun x i => g0 x (b + i)) (h0 (c + 2)) (NX (fun x i => g0 x (b + i)) (bA (h0 (c + 1)) (h0 c 2)) (h0 (c + 2)) (nPn (h0 36 4) N) (ppr h0)) n q k sc → GC (gh h0 c N) n q sc w r w' → KID (fun x i => g0 x (b + i)) (h0 (c + 2)) (RN h0 g0 c b N) n q k sc := by
  intro n
  induction n with
  | zero => intro q k sc w r w' q0 H G; trivial
  | succ n ih =>
    intro q k sc w r w' q0 H G
    obtain ⟨r1, w1, G1, G2⟩ := G
    have e := GD_e G1
    refine ⟨⟨H.1, ⟨q0, c1⟩, w, r1, w1, G1⟩, ih _ _ sc w1 r w' (by omega) H.2 ?_⟩
    rw [e.2]
    exact G2
theorem KCA_G {h0 g0 : HP} {c b N : Int} (c1 : h0 c 2 ≤ 100) : ∀ (f f2 : Nat) (q k sc w r w' : Int), 0 ≤ q → KCA (fun x i => g0 x (b + i)) (bA (h0 (c + 1)) (h0 c 2)) (h0 (c + 2)) (nPn (h0 36 4) N) (ppr h0) (NX (fun x i => g0 x (b + i)) (bA (h0 (c + 1)) (h0 c 2)) (h0 (c + 2)) (nPn (h0 36 4) N) (ppr h0)) f q k sc → GK (bA (h0 (c + 1)) (h0 c 2)) (nPn (h0 36 4) N) (ppr h0) (llr h0) (gh h0 c N) f2 q sc w r w' → KCA (fun x i => g0 x (b + i)) (bA (h0 (c + 1)) (h0 c 2)) (h0 (c + 2)) (nPn (h0 36 4) N) (ppr h0) (RN h0 g0 c b N) f q k sc := by
  intro f
  induction f with
  | zero => intro f2 q k sc w r w' q0 H G; exact absurd H (fun z => z)
  | succ f ih =>
    intro f2 q k sc w r w' q0 H G
    rcases H with H | ⟨a, ok, k1, o1, o2, o3, Y, H⟩
    · exact Or.inl H
    · match f2, G with
      | f2 + 1, G =>
        rcases G with ⟨z, _⟩ | ⟨_, _, _, r1, w1, G1, G2⟩
        · exact absurd z a
        · have e := GD_e G1
          refine Or.inr ⟨a, ok, k1, o1, o2, o3, ⟨Y, ⟨by omega, c1⟩, _, r1, w1, G1⟩, ih f2 _ _ sc w1 r w' (by omega) H ?_⟩
          rw [e.2]
          exact G2
theorem RN_out {h0 g0 : HP} {c b N p k sc : Int} (H : RN h0 g0 c b N p k sc) : NXF (fun x i => g0 x (b + i)) (bA (h0 (c + 1)) (h0 c 2)) (h0 (c + 2)) (nPn (h0 36 4) N) (ppr h0) (RN h0 g0 c b N) p k sc := by
  obtain ⟨X, ⟨p0, c1⟩, w, r, w', G⟩ := H
  obtain ⟨A, C⟩ := NX_out X
  refine ⟨A, ?_⟩
  rcases C with l | ⟨a, K⟩ | ⟨a, ok, e, K⟩ | ⟨a, Y, f, K⟩
  · exact Or.inl l
  · obtain ⟨j, hj⟩ : ∃ j : Nat, pO (bA (h0 (c + 1)) (h0 c 2) p) = (j : Int) + 1 := ⟨(pO (bA (h0 (c + 1)) (h0 c 2) p) - 1).toNat, by omega⟩
    have := GD_op G hj
    rw [show (pO (bA (h0 (c + 1)) (h0 c 2) p)).toNat = j + 1 by omega] at K ⊢
    exact Or.inr (Or.inl ⟨a, KID_G c1 _ _ _ _ _ _ _ (by omega) K this⟩)
  · have := (GD_sign G p0 a).2.2
    exact Or.inr (Or.inr (Or.inl ⟨a, ok, e, KID_G c1 _ _ _ _ _ _ _ (by omega) K this⟩))
  · obtain ⟨r1, w1, G1, _, f2, GG⟩ := GD_match G p0 a
    have e' := GD_e G1
    refine Or.inr (Or.inr (Or.inr ⟨a, ⟨Y, ⟨by omega, c1⟩, _, _, _, G1⟩, f, KCA_G c1 f f2 _ _ _ w1 r w' (by omega) K ?_⟩))
    rw [e'.2]
    exact GG
def RvK (h0 g0 : HP) : Prop := (h0 36 4 ≤ 10 ∧ h0 36 5 ≤ 6) ∧ (∀ j, 0 ≤ j → j < h0 36 4 → g0 153 j = ppr h0 67 j ∧ 0 ≤ ppr h0 67 j ∧ ppr h0 67 j ≤ 3) ∧ ∀ f, 0 ≤ f → f < h0 36 5 → (g0 153 (10 + f) = ppr h0 71 f ∧ 0 ≤ ppr h0 71 f ∧ ppr h0 71 f ≤ 3) ∧ ((h0 40 f = 1 ∧ g0 167 f ≠ 0 ∧ ∃ N, N ≤ h0 36 5 ∧ RN h0 g0 (63 + 5 * f) (100 * f) N 0 0 (ppr h0 71 f)) ∨ (h0 40 f ≠ 1 ∧ g0 167 f = 0))
theorem NB_b {h0 : HP} {c b N : Int} (n : NB h0 c b N) : b / 100 * 100 = b ∧ 0 ≤ b ∧ b ≤ 600 := by
  rcases n.1 with ⟨_, e⟩ | ⟨f, hf, _, e⟩ <;> subst e
  · omega
  · omega
theorem RN_r {h0 g0 : HP} {c b N p k sc : Int} (H : RN h0 g0 c b N p k sc) : 0 ≤ k ∧ k < 100 := (NX_out H.1).1.2.2.2
theorem RvV_same {h0 : HP} {sk sv : Int → Int} {h g : HP} {v : Int} (p3 : ∀ j, 0 ≤ j → j < h0 36 4 → ppr h0 67 j ≤ 3) (o : ∀ a, 179 ≤ a → a ≤ 183 → g a v = h a v) (H : RvV h0 sk sv h v) : RvV h0 sk sv g v := by
  unfold RvV at *
  rw [o 179 (by omega) (by omega), o 180 (by omega) (by omega), o 181 (by omega) (by omega), o 182 (by omega) (by omega)]
  rcases H with H | H | H | ⟨a, b, c, d⟩
  · exact Or.inl H
  · exact Or.inr (Or.inl H)
  · exact Or.inr (Or.inr (Or.inl H))
  · refine Or.inr (Or.inr (Or.inr ⟨a, b, c, fun i i0 i1 => ?_⟩))
    have := p3 _ a.1 a.2
    rw [o (181 + i) (by omega) (by omega)]
    exact d i i0 i1
theorem rk_p3 {h0 g0 : HP} (rk : RvK h0 g0) : ∀ j, 0 ≤ j → j < h0 36 4 → ppr h0 67 j ≤ 3 := fun j a b => (rk.2.1 j a b).2.2
/-- only the pile changed -/
theorem RvS_pile {h0 g0 : HP} {sk sv : Int → Int} {h g : HP} {F F' s dp nv : Int} (rk : RvK h0 g0) (T : RvS h0 g0 sk sv h F s dp nv) (o : ∀ a i, a < 184 ∨ 188 < a → ¬ (a = 135 ∧ (i = 78 ∨ i = 79)) → g a i = h a i) (e : g 135 78 = F') : RvS h0 g0 sk sv g F' s dp nv := by
  obtain ⟨b, e1, n, V⟩ := T
  refine ⟨fun a i p q => (o a i (by omega) (by omega)).trans (b a i p q), ⟨e, ?_, ?_, ?_, ?_⟩, n, fun v v0 v1 => RvV_same (rk_p3 rk) (fun a p q => o a v (by omega) (by omega)) (V v v0 v1)⟩
  · exact (o 135 80 (by omega) (by omega)).trans e1.2.1
  · exact (o 135 81 (by omega) (by omega)).trans e1.2.2.1
  · exact (o 135 72 (by omega) (by omega)).trans e1.2.2.2.1
  · exact (o 135 82 (by omega) (by omega)).trans e1.2.2.2.2
theorem r_bad {d : Nat} {h : HP} {out : Int} {Q : PQ} (e : h 135 82 = out) (n : out < 0) (H : Q out h) : Lr d Q h := by
  have H' : Q (h 135 82) h := by rw [e]; exact H
  exact N_Mo_runs_108 ⟨fun _ => ⟨fun z => by omega, fun _ => H'⟩, fun _ => ⟨fun _ => ⟨fun z => by omega, fun _ => H'⟩, fun z => by omega⟩⟩
/-- children -/
theorem c_childB {d : Nat} {h R : HP} {b k : Int} {i : Nat} {Q : PQ} (hb : b / 100 * 100 = b ∧ 0 ≤ b ∧ b ≤ 600) (ag : ∀ x j, 161 ≤ x → x ≤ 166 → h x (b + j) = R x j) (k0 : 0 ≤ k) (k1 : k < 100) (i1 : i < 1000) (rg : ∀ j : Nat, j ≤ i → 0 ≤ nxt R j (R 164 k) ∧ nxt R j (R 164 k) < 100) (H : Q (b + nxt R i (R 164 k)) h) : Go d M_Mo_childOf 0 [(22, 135), (0, b + k), (0, (i : Int)), (2, 0), (2, 0), (2, 0)] [] h Q := by
  have e : (b + k) / 100 * 100 = b := by omega
  have loop : ∀ (r j : Nat), j + r = i → Go d M_Mo_childOf 19 [(22, 135), (0, b + k), (0, (i : Int)), (0, b), (0, nxt R j (R 164 k)), (0, (j : Int))] [] h Q := by
    intro r
    induction r with
    | zero =>
      intro j hj
      have : j = i := by omega
      subst this
      have q := rg j (Nat.le_refl _)
      exact N_Mo_childOf_19 ⟨fun _ => ⟨by unfold r32; omega, H⟩, fun z => by omega⟩
    | succ r ih =>
      intro j hj
      have q := rg j (by omega)
      refine N_Mo_childOf_19 ⟨fun z => by omega, fun _ => ⟨by unfold r32; omega, by omega, by unfold r32; omega, ?_⟩⟩
      have := ih (j + 1) (by omega)
      rw [nxt_succ] at this
      rw [ag 165 _ (by omega) (by omega)]
      exact this
  refine N_Mo_childOf_0 ⟨⟨by omega, by omega⟩, by unfold r32; omega, by omega, ?_⟩
  rw [e, ag 164 k (by omega) (by omega)]
  exact loop i 0 (by omega)
theorem c_hasB {d : Nat} {h R : HP} {b k : Int} {i : Nat} {Q : PQ} (hb : b / 100 * 100 = b ∧ 0 ≤ b ∧ b ≤ 600) (ag : ∀ x j, 161 ≤ x → x ≤ 166 → h x (b + j) = R x j) (k0 : 0 ≤ k) (k1 : k < 100) (i1 : i < 1000) (rg : ∀ j : Nat, j < i → 0 ≤ nxt R j (R 164 k) ∧ nxt R j (R 164 k) < 100) (H0 : nxt R i (R 164 k) = -1 → Q 0 h) (H1 : nxt R i (R 164 k) ≠ -1 → Q 1 h) : Go d M_Mo_hasChild 0 [(22, 135), (0, b + k), (0, (i : Int)), (2, 0), (2, 0), (2, 0)] [] h Q := by
  have e : (b + k) / 100 * 100 = b := by omega
  have loop : ∀ (r j : Nat), j + r = i → Go d M_Mo_hasChild 19 [(22, 135), (0, b + k), (0, (i : Int)), (0, b), (0, nxt R j (R 164 k)), (0, (j : Int))] [] h Q := by
    intro r
    induction r with
    | zero =>
      intro j hj
      have : j = i := by omega
      subst this
      exact N_Mo_hasChild_19 ⟨fun _ => ⟨H0, H1⟩, fun z => by omega⟩
    | succ r ih =>
      intro j hj
      have q := rg j (by omega)
      refine N_Mo_hasChild_19 ⟨fun z => by omega, fun _ => ⟨fun z => by omega, fun _ => ⟨by unfold r32; omega, by omega, by unfold r32; omega, ?_⟩⟩⟩
      have := ih (j + 1) (by omega)
      rw [nxt_succ] at this
      rw [ag 165 _ (by omega) (by omega)]
      exact this
  refine N_Mo_hasChild_0 ⟨⟨by omega, by omega⟩, by unfold r32; omega, by omega, ?_⟩
  rw [e, ag 164 k (by omega) (by omega)]
  exact loop i 0 (by omega)
/-- the contract, by the steps that are left -/
def RvT (h0 g0 : HP) (sk sv : Int → Int) (N : Nat) : Prop := ∀ (c b Nn p k sc base F s dp nv out s' dp' nv' : Int) (env : Int → Int) (h : HP) (d : Nat) (Q : PQ), 30 < d → 1001 - s ≤ N → NB h0 c b Nn → RN h0 g0 c b Nn p k sc → (0 ≤ F ∧ F ≤ 59) → RvS h0 g0 sk sv h (F + 1) s dp nv → nv + 1 ≤ s → (h 184 F = b + k ∧ h 185 F = base ∧ h 186 F = 0) → (0 ≤ sc ∧ 0 ≤ base ∧ base + sc ≤ 3 * (F + 1)) → (∀ i, 0 ≤ i → i < sc → h 188 (base + i) = env i ∧ 0 ≤ env i ∧ env i < nv) → erb h0 sk sv c p sc env (F + 1) s dp nv out s' dp' nv' →
  (0 ≤ out → ∀ h', RvS h0 g0 sk sv h' F s' dp' nv' → RvX h h' F (base + sc) → h' 135 79 = out → (out < nv' ∧ nv ≤ nv' ∧ s ≤ s' ∧ nv' + s ≤ s' + nv + 1) → Lr d Q h') → (out < 0 → ∀ h', RvB g0 h' → h' 135 82 = out → Q out h') → Lr d Q h
theorem r_ch {h0 g0 : HP} {sk sv : Int → Int} {N : Nat} {c b Nn p k sc base F s dp nv out s' dp' nv' : Int} {env : Int → Int} {h : HP} {d d' : Nat} {Q : PQ} (rk : RvK h0 g0) (R : RvT h0 g0 sk sv N) (hd : 30 < d) (hN : 1001 - s ≤ N + 1) (nb : NB h0 c b Nn) (nn : RN h0 g0 c b Nn p k sc) (F0 : 0 ≤ F) (F1 : F ≤ 60) (T : RvS h0 g0 sk sv h F s dp nv) (ss : 0 ≤ sc ∧ 0 ≤ base ∧ base + sc ≤ 3 * (F + 1)) (ev : ∀ i, 0 ≤ i → i < sc → h 188 (base + i) = env i ∧ 0 ≤ env i ∧ env i < nv) (E : er h0 sk sv c p sc env (F + 1) s dp nv out s' dp' nv')
    (HG : 0 ≤ out → ∀ h', RvS h0 g0 sk sv h' F s' dp' nv' → RvX h h' F (base + sc) → h' 135 79 = out → (out < nv' ∧ nv ≤ nv' ∧ s ≤ s' ∧ nv' + s ≤ s' + nv) → Lr d Q h') (HB : out < 0 → ∀ h', RvB g0 h' → h' 135 82 = out → Q out h') : Go d' M_Mo_runBegins 0 [(22, 135), (0, b + k), (0, base)] [] h (fun _ k => Lr d Q k) := by
  obtain ⟨B, ⟨e78, e80, e81, e72, e82⟩, nn1, V⟩ := T
  have bad : ∀ (o : Int) (g1 g3 : HP), out = o → o < 0 → g1 = up2 h 135 80 (h 135 80 + 1) → g3 = up2 g1 135 82 o → Lr d Q g3 := by
    intro o g1 g3 eo o0 e1 e3
    subst eo
    have q : g3 135 82 = out := by rw [e3, up2_eq]
    refine r_bad q o0 (HB o0 g3 (fun a i p q => ?_) q)
    rw [e3, up2_ext (by omega), e1, up2_ext (by omega)]
    exact B a i p q
  have C := ER_out E
  refine N_Mo_runBegins_0 ⟨by unfold r32; omega, fun g1 e1 => ?_⟩
  have q80 : g1 135 80 = s + 1 := by rw [e1, up2_eq, e80]
  have q78 : g1 135 78 = F := by rw [e1, up2_ext (by omega)]; exact e78
  rw [q80, q78]
  refine ⟨fun a => ⟨fun z => by omega, fun _ g3 e3 => ?_⟩, fun a => ⟨fun n60 => ⟨by omega, fun g4 e4 => ?_⟩, fun e60 => ⟨fun _ g3 e3 => ?_, fun z => by omega⟩⟩⟩
  · refine bad (-8) g1 g3 ?_ (by omega) e1 e3
    rcases C with ⟨_, x⟩ | ⟨x, _⟩ | ⟨x, _⟩
    · exact x
    · omega
    · omega
  · have p78 : g4 135 78 = F := by rw [e4, up2_nc (by decide)]; exact q78
    rw [p78]
    refine ⟨by omega, fun g5 e5 => ?_⟩
    have r78 : g5 135 78 = F := by rw [e5, up2_nc (by decide)]; exact p78
    rw [r78]
    refine ⟨by omega, fun g6 e6 => ?_⟩
    have s78 : g6 135 78 = F := by rw [e6, up2_nc (by decide)]; exact r78
    rw [s78]
    refine ⟨by unfold r32; omega, fun g7 e7 => ?_⟩
    have o7 : ∀ a i, ¬ ((a = 184 ∨ a = 185 ∨ a = 186) ∧ i = F) → ¬ (a = 135 ∧ (i = 78 ∨ i = 80)) → g7 a i = h a i := fun a i p q => by rw [e7, up2_ext (by omega), e6, up2_ext (by omega), e5, up2_ext (by omega), e4, up2_ext (by omega), e1, up2_ext (by omega)]
    have t78 : g7 135 78 = F + 1 := by rw [e7, up2_eq]
    have t80 : g7 135 80 = s + 1 := by rw [e7, up2_ext (by omega), e6, up2_nc (by decide), e5, up2_nc (by decide), e4, up2_nc (by decide)]; exact q80
    have t81 : g7 135 81 = dp := (o7 135 81 (by omega) (by omega)).trans e81
    have t4 : g7 184 F = b + k := by rw [e7, up2_ext (by omega), e6, up2_ext (by omega), e5, up2_ext (by omega), e4, up2_eq]
    have t5 : g7 185 F = base := by rw [e7, up2_ext (by omega), e6, up2_ext (by omega), e5, up2_eq]
    have t6 : g7 186 F = 0 := by rw [e7, up2_ext (by omega), e6, up2_eq]
    have go : ∀ g8 : HP, g8 = up2 g7 135 81 (max dp (F + 1)) → Lr d Q g8 := by
      intro g8 e8
      have o8 : ∀ a i, ¬ ((a = 184 ∨ a = 185 ∨ a = 186) ∧ i = F) → ¬ (a = 135 ∧ (i = 78 ∨ i = 80 ∨ i = 81)) → g8 a i = h a i := fun a i p q => by rw [e8, up2_ext (by omega)]; exact o7 a i p (by omega)
      have eb : erb h0 sk sv c p sc env (F + 1) (s + 1) (max dp (F + 1)) nv out s' dp' nv' := by
        rcases C with ⟨x, _⟩ | ⟨_, x, _⟩ | ⟨_, x⟩
        · omega
        · omega
        · exact x
      refine R c b Nn p k sc base F (s + 1) (max dp (F + 1)) nv out s' dp' nv' env g8 d Q hd (by omega) nb nn ⟨F0, by omega⟩ ⟨fun a i p q => (o8 a i (by omega) (by omega)).trans (B a i p q), ⟨?_, ?_, ?_, ?_, ?_⟩, by omega, fun v v0 v1 => RvV_same (rk_p3 rk) (fun a p q => o8 a v (by omega) (by omega)) (V v v0 v1)⟩ (by omega) ⟨?_, ?_, ?_⟩ ss (fun i i0 i1 => ?_) eb (fun o0 h' T' X l q => HG o0 h' T' (fun a i p => (X a i p).trans (o8 a i (by omega) (by omega))) l (by omega)) HB
      · rw [e8, up2_ext (by omega)]; exact t78
      · rw [e8, up2_ext (by omega)]; exact t80
      · rw [e8, up2_eq]
      · exact (o8 135 72 (by omega) (by omega)).trans e72
      · exact (o8 135 82 (by omega) (by omega)).trans e82
      · rw [e8, up2_ext (by omega)]; exact t4
      · rw [e8, up2_ext (by omega)]; exact t5
      · rw [e8, up2_ext (by omega)]; exact t6
      · rw [o8 188 _ (by omega) (by omega)]; exact ev i i0 i1
    rw [t78, t81]
    exact ⟨fun l g8 e8 => go g8 (by rw [e8, show max dp (F + 1) = dp by omega]), fun l g8 e8 => go g8 (by rw [e8, show max dp (F + 1) = F + 1 by omega])⟩
  · refine bad (-9) g1 g3 ?_ (by omega) e1 e3
    rcases C with ⟨x, _⟩ | ⟨_, _, x⟩ | ⟨x, _⟩
    · omega
    · exact x
    · omega
/-- a step -/
def sto (h : HP) (F st : Int) : HP := if 0 < st ∧ st < 4 then up2 h 187 (3 * F + st - 1) (h 135 79) else h
def stp (h : HP) (F st : Int) : HP := up2 (sto h F st) 186 F (st + 1)
theorem sto_o {h : HP} {F st a i : Int} (p : ¬ (a = 187 ∧ i = 3 * F + st - 1)) : sto h F st a i = h a i := by
  unfold sto
  split
  · exact up2_ext p
  · rfl
theorem sto_1 {h : HP} {F st : Int} (a : 0 < st) (b : st < 4) : sto h F st 187 (3 * F + st - 1) = h 135 79 := by
  unfold sto
  rw [if_pos ⟨a, b⟩, up2_eq]
theorem stp_o {h : HP} {F st a i : Int} (p : ¬ (a = 187 ∧ i = 3 * F + st - 1)) (q : ¬ (a = 186 ∧ i = F)) : stp h F st a i = h a i := by
  unfold stp
  rw [up2_ext q, sto_o p]
theorem sto_lo {h : HP} {F st a i : Int} (p : ¬ (a = 187 ∧ 3 * F ≤ i)) : sto h F st a i = h a i := by
  unfold sto
  split
  · rename_i z
    exact up2_ext (by omega)
  · rfl
theorem stp_lo {h : HP} {F st a i : Int} (p : ¬ (a = 187 ∧ 3 * F ≤ i)) (q : ¬ (a = 186 ∧ i = F)) : stp h F st a i = h a i := by
  unfold stp
  rw [up2_ext q, sto_lo p]
def rP (g : HP) (nd c P : Int) : Prop := (c = 67 ∧ (0 ≤ g 163 nd ∧ g 163 nd < 16) ∧ g 153 (g 163 nd) = P) ∨ (c = 71 ∧ (0 ≤ g 163 nd ∧ g 163 nd < 6) ∧ g 153 (10 + g 163 nd) = P) ∨ (c ≠ 67 ∧ c ≠ 71 ∧ P = (if c = 77 then 1 else pO c))
theorem r_top {d : Nat} {h : HP} {F nd st c P : Int} {Q : PQ} (hd : 4 < d) (eF : h 135 78 = F + 1) (e82 : h 135 82 = 0) (F0 : 0 ≤ F) (F1 : F ≤ 59) (en : h 184 F = nd) (n0 : 0 ≤ nd) (n1 : nd < 700) (es : h 186 F = st) (st0 : 0 ≤ st) (st1 : st < 1000) (ec : h 161 nd = c) (hp : rP h nd c P)
    (H : Go (d - 1) M_Mo_runStep 83 [(22, 135), (0, F), (0, nd), (0, c), (0, st), (0, P)] [] (sto h F st) (fun _ k => Lr d Q k)) : Lr d Q h := by
  have ef : h 135 78 - 1 = F := by omega
  refine N_Mo_runs_108 ⟨fun z => by omega, fun _ => ⟨fun z => absurd e82 z, fun _ => ⟨by omega, N_Mo_runStep_0 ?_⟩⟩⟩
  rw [ef, en, es, ec]
  have fin : (st ≤ 0 → Go (d - 1) M_Mo_runStep 83 [(22, 135), (0, F), (0, nd), (0, c), (0, st), (0, P)] [] h (fun _ k => Lr d Q k)) ∧ (0 < st → (4 ≤ st → Go (d - 1) M_Mo_runStep 83 [(22, 135), (0, F), (0, nd), (0, c), (0, st), (0, P)] [] h (fun _ k => Lr d Q k)) ∧ (st < 4 → r32 (3 * F) ∧ r32 ((3 * F) + st) ∧ r32 (((3 * F) + st) - 1) ∧ (0 ≤ ((3 * F) + st) - 1 ∧ ((3 * F) + st) - 1 < 183) ∧ ∀ g2 : HP, g2 = up2 h 187 (((3 * F) + st) - 1) (h 135 79) → Go (d - 1) M_Mo_runStep 83 [(22, 135), (0, F), (0, nd), (0, c), (0, st), (0, P)] [] g2 (fun _ k => Lr d Q k))) := by
    unfold sto at H
    refine ⟨fun z => ?_, fun z => ⟨fun z2 => ?_, fun z2 => ⟨by unfold r32; omega, by unfold r32; omega, by unfold r32; omega, by omega, fun g2 e2 => ?_⟩⟩⟩
    · rw [if_neg (by omega)] at H; exact H
    · rw [if_neg (by omega)] at H; exact H
    · rw [if_pos ⟨z, z2⟩] at H
      rw [e2]; exact H
  refine ⟨by unfold r32; omega, by omega, by omega, by omega, fun c1 => ⟨by omega, ?_⟩, fun c1 => ⟨fun c2 => ⟨by omega, ?_⟩, fun c2 => ⟨by omega, ?_⟩⟩⟩
  · rcases hp with ⟨_, r, e⟩ | ⟨x, _⟩ | ⟨x, _⟩
    · refine N_Mo_manyParts_0 ⟨by omega, fun z => by omega, fun _ => ⟨by omega, r, ?_⟩⟩
      rw [e]
      exact fin
    · omega
    · omega
  · rcases hp with ⟨x, _⟩ | ⟨x, _⟩ | ⟨_, _, e⟩
    · omega
    · omega
    · refine c_pO ?_
      rw [← e]
      exact fin
  · rcases hp with ⟨x, _⟩ | ⟨_, r, e⟩ | ⟨_, x, _⟩
    · omega
    · refine N_Mo_manyParts_0 ⟨by omega, fun _ => ⟨by omega, by unfold r32; omega, by omega, ?_⟩, fun z => by omega⟩
      rw [e]
      exact fin
    · omega
theorem r_go {d : Nat} {h : HP} {F nd st c P : Int} {Q : PQ} (hd : 4 < d) (eF : h 135 78 = F + 1) (e82 : h 135 82 = 0) (F0 : 0 ≤ F) (F1 : F ≤ 59) (en : h 184 F = nd) (n0 : 0 ≤ nd) (n1 : nd < 700) (es : h 186 F = st) (st0 : 0 ≤ st) (st1 : st < 1000) (ec : h 161 nd = c) (c63 : c ≠ 63) (hp : rP h nd c P)
    (H : Go (d - 1) M_Mo_runStep 164 [(22, 135), (0, F), (0, nd), (0, c), (0, st), (0, P)] [] (stp h F st) (fun _ k => Lr d Q k)) : Lr d Q h := by
  have q6 : sto h F st 186 F = st := (sto_o (by omega)).trans es
  refine r_top hd eF e82 F0 F1 en n0 n1 es st0 st1 ec hp (N_Mo_runStep_83 ?_)
  rw [q6]
  refine ⟨by omega, by unfold r32; omega, by omega, fun g1 e1 => ⟨fun _ => ⟨fun _ => ?_, fun z => absurd z c63⟩, fun z => absurd z c63⟩⟩
  rw [e1]
  exact H
end
