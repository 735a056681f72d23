section
theorem r_fin {h0 g0 : HP} {sk sv : Int → Int} {h g : HP} {F S s nv out s' dp' nv' : Int} {d : Nat} {Q : PQ} (rk : RvK h0 g0) (F0 : 0 ≤ F) (F1 : F ≤ 59) (HG : RvG h0 g0 sk sv h F S s nv out s' dp' nv' d Q) (Tg : RvS h0 g0 sk sv g (F + 1) s' dp' nv') (X : RvX h g F S) (v0 : 0 ≤ out) (q : out < nv' ∧ nv ≤ nv' ∧ s ≤ s' ∧ nv' + s ≤ s' + nv + 1) : ∀ g2 : HP, g2 = up2 g 135 79 out → r32 ((g2 135 78) - 1) ∧ ∀ g3 : HP, g3 = up2 g2 135 78 ((g2 135 78) - 1) → Lr d Q g3 :=
  r_giv rk F0 F1 Tg (fun g3 T3 o3 l3 => HG v0 g3 T3 (fun a i p => (o3 a i (by omega)).trans (X a i p)) l3 q)
theorem rv_num {h0 : HP} {sk sv : Int → Int} {h : HP} {v : Int} (V : RvV h0 sk sv h v) (n10 : h0 36 4 ≤ 10) (e : sk v = 10) : h 180 v = sv (3 * v) := by
  rcases V with ⟨_, _, x⟩ | ⟨x, -⟩ | ⟨x, -⟩ | ⟨x, -⟩
  · exact x
  · omega
  · omega
  · omega
theorem rv_two {h0 : HP} {sk sv : Int → Int} {h : HP} {v : Int} (V : RvV h0 sk sv h v) (n10 : h0 36 4 ≤ 10) (e : sk v = 12) : (h 181 v = sv (3 * v) ∧ h 182 v = sv (3 * v + 1)) ∧ (0 ≤ sv (3 * v) ∧ sv (3 * v) < v) ∧ (0 ≤ sv (3 * v + 1) ∧ sv (3 * v + 1) < v) := by
  rcases V with ⟨x, -⟩ | ⟨x, -⟩ | ⟨_, _, x⟩ | ⟨x, -⟩
  · omega
  · omega
  · exact x
  · omega
theorem rv_tru {h0 : HP} {sk sv : Int → Int} {h : HP} {v : Int} (V : RvV h0 sk sv h v) (n10 : h0 36 4 ≤ 10) (e : sk v = 11) : h 180 v = sv (3 * v) := by
  rcases V with ⟨x, -⟩ | ⟨_, _, x⟩ | ⟨x, -⟩ | ⟨x, -⟩
  · omega
  · exact x
  · omega
  · omega
theorem rv_made {h0 : HP} {sk sv : Int → Int} {h : HP} {v : Int} (V : RvV h0 sk sv h v) (e : 0 ≤ sk v ∧ sk v < 10) : sk v < h0 36 4 ∧ h 180 v = sk v ∧ ∀ i, 0 ≤ i → i < ppr h0 67 (sk v) → h (181 + i) v = sv (3 * v + i) ∧ 0 ≤ sv (3 * v + i) ∧ sv (3 * v + i) < v := by
  rcases V with ⟨x, -⟩ | ⟨x, -⟩ | ⟨x, -⟩ | ⟨a, _, b, c⟩
  · omega
  · omega
  · omega
  · exact ⟨a.2, b, c⟩
theorem r_two {d : Nat} {h0 g0 : HP} {sk sv : Int → Int} {h : HP} {F s dp nv c a b : Int} {P : PQ} (rk : RvK h0 g0) (hd : 0 < d) (T : RvS h0 g0 sk sv h F s dp nv) (l : nv + 1 ≤ s) (cc : c = 43 ∨ c = 45 ∨ c = 60 ∨ c = 61) (ek : sk nv = (if c = 43 ∨ c = 45 then 10 else 11)) (ex : sv (3 * nv) = opV c a b) (H : ∀ g : HP, RvS h0 g0 sk sv g F s dp (nv + 1) → (∀ a i, ¬ (a = 135 ∧ i = 72) → ¬ (179 ≤ a ∧ a ≤ 183 ∧ i = nv) → g a i = h a i) → P nv g) : Go d M_Mo_ofTwo 0 [(22, 135), (0, c), (0, a), (0, b)] [] h P := by
  unfold opV at ex
  refine N_Mo_ofTwo_0 ⟨fun e => ⟨hd, ?_⟩, fun n43 => ⟨fun e => ⟨hd, ?_⟩, fun n45 => ⟨fun e => ⟨fun q => ⟨hd, ?_⟩, fun q => ⟨hd, ?_⟩⟩, fun n60 => ⟨fun q => ⟨hd, ?_⟩, fun q => ⟨hd, ?_⟩⟩⟩⟩⟩
  · rw [if_pos e] at ex
    rw [if_pos (Or.inl e)] at ek
    exact r_val rk T l (Or.inl ⟨rfl, ek⟩) ex H
  · rw [if_neg n43, if_pos e] at ex
    rw [if_pos (Or.inr e)] at ek
    exact r_val rk T l (Or.inl ⟨rfl, ek⟩) ex H
  · rw [if_neg n43, if_neg n45, if_pos e, if_neg (by omega)] at ex
    rw [if_neg (by omega)] at ek
    exact r_val rk T l (Or.inr ⟨rfl, ek⟩) ex H
  · rw [if_neg n43, if_neg n45, if_pos e, if_pos q] at ex
    rw [if_neg (by omega)] at ek
    exact r_val rk T l (Or.inr ⟨rfl, ek⟩) ex H
  · rw [if_neg n43, if_neg n45, if_neg n60, if_neg q] at ex
    rw [if_neg (by omega)] at ek
    exact r_val rk T l (Or.inr ⟨rfl, ek⟩) ex H
  · rw [if_neg n43, if_neg n45, if_neg n60, if_pos q] at ex
    rw [if_neg (by omega)] at ek
    exact r_val rk T l (Or.inr ⟨rfl, ek⟩) ex H
/-- + - < = -/
theorem s_op {h0 g0 : HP} {sk sv : Int → Int} {N : Nat} {c b Nn p k sc base F s dp nv out s' dp' nv' : Int} {env : Int → Int} {h : HP} {d : Nat} {Q : PQ} (rk : RvK h0 g0) (R : RvT h0 g0 sk sv N) (hd : 30 < d) (hN : 1001 - s ≤ N + 1) (I : RvI h0 g0 sk sv c b Nn p k sc base F s dp nv env h) (cc : bA (h0 (c + 1)) (h0 c 2) p = 43 ∨ bA (h0 (c + 1)) (h0 c 2) p = 45 ∨ bA (h0 (c + 1)) (h0 c 2) p = 60 ∨ bA (h0 (c + 1)) (h0 c 2) p = 61) (E : erb h0 sk sv c p sc env (F + 1) s dp nv out s' dp' nv') (HG : RvG h0 g0 sk sv h F (base + sc) s nv out s' dp' nv' d Q) (HB : RvD g0 out Q) : Lr d Q h := by
  obtain ⟨nb, nn, ⟨F0, F1⟩, T, nl, top, ss, ev⟩ := I
  have N1 := RN_out nn
  have kr := RN_r nn
  have b3 := NB_b nb
  have np : pO (bA (h0 (c + 1)) (h0 c 2) p) = 2 := by
    unfold pO
    rw [if_neg (by omega), if_pos (by omega)]
  have kid : KID (fun x i => g0 x (b + i)) (h0 (c + 2)) (RN h0 g0 c b Nn) 2 (p + 1) (g0 164 (b + k)) sc := by
    rcases N1.2 with l | ⟨_, K⟩ | ⟨x, _⟩ | ⟨x, _⟩
    · unfold lfO at l; omega
    · rw [np] at K; exact K
    · omega
    · omega
  have E' := EB_op (CB := fun c => bA (h0 (c + 1)) (h0 c 2)) E cc
  clear E
  refine r_prt (n := 2) rk R hd hN nb kr kid N1.1.1 (by omega) (Or.inr (Or.inr ⟨by omega, by omega, by rw [if_neg (by omega), np]; rfl⟩)) (by omega) F0 F1 ss ev (fun acc h' s2 d2 n2 kk al T2 X2 top2 sto2 dl => ?_) HB 2 0 [] h s dp nv rfl rfl E' T (RvX_refl _ _ _) top (fun i x ex => by rw [List.getElem?_nil] at ex; cases ex) (by omega)
  obtain ⟨x, y, el, kx, ky, kn, vn, e1, e2, e3, e4⟩ := kk
  subst el e2 e3
  obtain ⟨sx, x0, x1⟩ := sto2 0 x rfl
  obtain ⟨sy, y0, y1⟩ := sto2 1 y rfl
  have sx : h' 187 (3 * F) = x := by
    rw [show 3 * F + ((0 : Nat) : Int) = 3 * F by omega] at sx
    exact sx
  have sy : h' 187 (3 * F + 1) = y := sy
  have T2s := T2.2.2.1
  have ex : h' 180 x = sv (3 * x) := rv_num (T2.2.2.2 x x0 x1) rk.1.1 kx
  have ey : h' 180 y = sv (3 * y) := rv_num (T2.2.2.2 y y0 y1) rk.1.1 ky
  have eo : h' 161 (b + k) = bA (h0 (c + 1)) (h0 c 2) p := (T2.1 161 _ (by omega) (by omega)).trans N1.1.1
  refine N_Mo_runStep_164 ⟨fun _ => ⟨fun z => by omega, fun _ => ⟨fun _ => ⟨fun _ => ⟨by omega, ?_⟩, fun z => absurd z (by decide)⟩, fun z => by omega⟩⟩, fun z => absurd z (Int.lt_irrefl _)⟩
  refine N_Mo_whole_0 ?_
  rw [eo, sx, sy]
  refine ⟨by unfold r32; omega, by omega, by unfold r32; omega, by unfold r32; omega, by omega, by omega, fun z => by omega, fun _ => ⟨fun _ => ⟨fun z => by omega, fun _ => ⟨fun z => by omega, fun _ => ⟨by omega, by omega, by omega, ?_⟩⟩⟩, fun z => by omega⟩⟩
  rw [ex, ey]
  refine r_two rk (by omega) T2 (by omega) cc kn vn (fun g Tg og => ⟨by omega, ?_⟩)
  subst e1 e4
  exact r_fin rk F0 F1 HG Tg (fun a i p => (og a i (by omega) (by omega)).trans (X2 a i p)) (by omega) (by omega)
/-- a value with parts -/
theorem r_mk {h0 g0 : HP} {sk sv : Int → Int} {h : HP} {F s dp nv kd num f : Int} {P : Int → HP → Prop} (T : RvS h0 g0 sk sv h F s dp nv) (l : nv + 1 ≤ s) (f0 : 0 ≤ f) (f1 : f ≤ 59)
    (H : ∀ g : HP, (∀ a i, ¬ (a = 135 ∧ i = 72) → ¬ (179 ≤ a ∧ a ≤ 183 ∧ i = nv) → g a i = h a i) → g 135 72 = nv + 1 → g 179 nv = kd → g 180 nv = num → g 181 nv = h 187 (3 * f) → g 182 nv = h 187 (3 * f + 1) → g 183 nv = h 187 (3 * f + 2) → P nv g) : (0 ≤ h 135 72 ∧ h 135 72 < 1010) ∧ ∀ g1 : HP, g1 = up2 h 179 (h 135 72) kd → (0 ≤ g1 135 72 ∧ g1 135 72 < 1010) ∧ ∀ g2 : HP, g2 = up2 g1 180 (g1 135 72) num → r32 ((g2 135 72) + 1) ∧ ∀ g3 : HP, g3 = up2 g2 135 72 ((g2 135 72) + 1) → r32 ((g3 135 72) - 1) ∧ (0 ≤ (g3 135 72) - 1 ∧ (g3 135 72) - 1 < 1010) ∧ ∀ g4 : HP, g4 = up2 g3 181 ((g3 135 72) - 1) (h 187 (3 * f)) → (0 ≤ (g3 135 72) - 1 ∧ (g3 135 72) - 1 < 1010) ∧ ∀ g5 : HP, g5 = up2 g4 182 ((g3 135 72) - 1) (h 187 ((3 * f) + 1)) → r32 (3 * f) ∧ r32 ((3 * f) + 2) ∧ (0 ≤ (3 * f) + 2 ∧ (3 * f) + 2 < 183) ∧ (0 ≤ (g3 135 72) - 1 ∧ (g3 135 72) - 1 < 1010) ∧ ∀ g6 : HP, g6 = up2 g5 183 ((g3 135 72) - 1) (g5 187 ((3 * f) + 2)) → P ((g3 135 72) - 1) g6 := by
  have e72 := T.2.1.2.2.2.1
  have n := T.2.2.1
  rw [e72]
  refine ⟨by omega, fun g1 e1 => ?_⟩
  have q1 : g1 135 72 = nv := by rw [e1, up2_nc (by decide)]; exact e72
  rw [q1]
  refine ⟨by omega, fun g2 e2 => ?_⟩
  have q2 : g2 135 72 = nv := by rw [e2, up2_nc (by decide)]; exact q1
  rw [q2]
  refine ⟨by unfold r32; omega, fun g3 e3 => ?_⟩
  have q3 : g3 135 72 = nv + 1 := by rw [e3, up2_eq]
  rw [q3, show nv + 1 - 1 = nv by omega]
  refine ⟨by unfold r32; omega, by omega, fun g4 e4 => ⟨by omega, fun g5 e5 => ⟨by unfold r32; omega, by unfold r32; omega, by omega, by omega, fun g6 e6 => ?_⟩⟩⟩
  have h187 : g5 187 (3 * f + 2) = h 187 (3 * f + 2) := by rw [e5, up2_nc (by decide), e4, up2_nc (by decide), e3, up2_nc (by decide), e2, up2_nc (by decide), e1, up2_nc (by decide)]
  rw [h187] at e6
  refine H g6 (fun a i p q => by rw [e6, up2_ext (by omega), e5, up2_ext (by omega), e4, up2_ext (by omega), e3, up2_ext (by omega), e2, up2_ext (by omega), e1, up2_ext (by omega)]) ?_ ?_ ?_ ?_ ?_ ?_
  · rw [e6, up2_nc (by decide), e5, up2_nc (by decide), e4, up2_nc (by decide)]; exact q3
  · rw [e6, up2_nc (by decide), e5, up2_nc (by decide), e4, up2_nc (by decide), e3, up2_nc (by decide), e2, up2_nc (by decide), e1, up2_eq]
  · rw [e6, up2_nc (by decide), e5, up2_nc (by decide), e4, up2_nc (by decide), e3, up2_nc (by decide), e2, up2_eq]
  · rw [e6, up2_nc (by decide), e5, up2_nc (by decide), e4, up2_eq]
  · rw [e6, up2_nc (by decide), e5, up2_eq]
  · rw [e6, up2_eq]
/-- P -/
theorem s_pair {h0 g0 : HP} {sk sv : Int → Int} {N : Nat} {c b Nn p k sc base F s dp nv out s' dp' nv' : Int} {env : Int → Int} {h : HP} {d : Nat} {Q : PQ} (rk : RvK h0 g0) (R : RvT h0 g0 sk sv N) (hd : 30 < d) (hN : 1001 - s ≤ N + 1) (I : RvI h0 g0 sk sv c b Nn p k sc base F s dp nv env h) (cc : bA (h0 (c + 1)) (h0 c 2) p = 80) (E : erb h0 sk sv c p sc env (F + 1) s dp nv out s' dp' nv') (HG : RvG h0 g0 sk sv h F (base + sc) s nv out s' dp' nv' d Q) (HB : RvD g0 out Q) : Lr d Q h := by
  obtain ⟨nb, nn, ⟨F0, F1⟩, T, nl, top, ss, ev⟩ := I
  have N1 := RN_out nn
  have kr := RN_r nn
  have b3 := NB_b nb
  have np : pO (bA (h0 (c + 1)) (h0 c 2) p) = 2 := by
    unfold pO
    rw [if_neg (by omega), if_pos (by omega)]
  have kid : KID (fun x i => g0 x (b + i)) (h0 (c + 2)) (RN h0 g0 c b Nn) 2 (p + 1) (g0 164 (b + k)) sc := by
    rcases N1.2 with l | ⟨_, K⟩ | ⟨x, _⟩ | ⟨x, _⟩
    · unfold lfO at l; omega
    · rw [np] at K; exact K
    · omega
    · omega
  have E' := EB_P (CB := fun c => bA (h0 (c + 1)) (h0 c 2)) E cc
  clear E
  refine r_prt (n := 2) rk R hd hN nb kr kid N1.1.1 (by omega) (Or.inr (Or.inr ⟨by omega, by omega, by rw [if_neg (by omega), np]; rfl⟩)) (by omega) F0 F1 ss ev (fun acc h' s2 d2 n2 kk al T2 X2 top2 sto2 dl => ?_) HB 2 0 [] h s dp nv rfl rfl E' T (RvX_refl _ _ _) top (fun i x ex => by rw [List.getElem?_nil] at ex; cases ex) (by omega)
  obtain ⟨x, y, el, kn, vx, vy, e1, e2, e3, e4⟩ := kk
  subst el e2 e3
  obtain ⟨sx, x0, x1⟩ := sto2 0 x rfl
  obtain ⟨sy, y0, y1⟩ := sto2 1 y rfl
  have sx : h' 187 (3 * F) = x := by
    rw [show 3 * F + ((0 : Nat) : Int) = 3 * F by omega] at sx
    exact sx
  have sy : h' 187 (3 * F + 1) = y := sy
  have T2s := T2.2.2.1
  have eo : h' 161 (b + k) = bA (h0 (c + 1)) (h0 c 2) p := (T2.1 161 _ (by omega) (by omega)).trans N1.1.1
  refine N_Mo_runStep_164 ⟨fun _ => ⟨fun z => by omega, fun _ => ⟨fun _ => ⟨fun _ => ⟨by omega, ?_⟩, fun z => absurd z (by decide)⟩, fun z => by omega⟩⟩, fun z => absurd z (Int.lt_irrefl _)⟩
  refine N_Mo_whole_0 ?_
  rw [eo]
  refine ⟨by unfold r32; omega, by omega, by unfold r32; omega, by unfold r32; omega, by omega, by omega, fun z => by omega, fun _ => ⟨fun _ => ⟨fun _ => ⟨fun z => absurd cc z, fun _ => ⟨by omega, by omega, ?_⟩⟩, fun z => absurd cc z⟩, fun z => by omega⟩⟩
  refine r_mk (P := fun y1 k1 => 0 < d - 1 ∧ ∀ g2 : HP, g2 = up2 k1 135 79 y1 → r32 ((g2 135 78) - 1) ∧ ∀ g3 : HP, g3 = up2 g2 135 78 ((g2 135 78) - 1) → Lr d Q g3) T2 (by omega) F0 F1 (fun g og g7 gk gn ga gb gc => ⟨by omega, ?_⟩)
  have Tg : RvS h0 g0 sk sv g (F + 1) s' dp' (n2 + 1) := RvS_new rk T2 (by omega) og g7 (Or.inr (Or.inr (Or.inl ⟨kn, gk, ⟨by omega, by omega⟩, by omega, by omega⟩)))
  subst e1 e4
  exact r_fin rk F0 F1 HG Tg (fun a i p => (og a i (by omega) (by omega)).trans (X2 a i p)) (by omega) (by omega)
/-- L, R -/
theorem s_side {h0 g0 : HP} {sk sv : Int → Int} {N : Nat} {c b Nn p k sc base F s dp nv out s' dp' nv' : Int} {env : Int → Int} {h : HP} {d : Nat} {Q : PQ} (rk : RvK h0 g0) (R : RvT h0 g0 sk sv N) (hd : 30 < d) (hN : 1001 - s ≤ N + 1) (I : RvI h0 g0 sk sv c b Nn p k sc base F s dp nv env h) (cc : bA (h0 (c + 1)) (h0 c 2) p = 76 ∨ bA (h0 (c + 1)) (h0 c 2) p = 82) (E : erb h0 sk sv c p sc env (F + 1) s dp nv out s' dp' nv') (HG : RvG h0 g0 sk sv h F (base + sc) s nv out s' dp' nv' d Q) (HB : RvD g0 out Q) : Lr d Q h := by
  obtain ⟨nb, nn, ⟨F0, F1⟩, T, nl, top, ss, ev⟩ := I
  have N1 := RN_out nn
  have kr := RN_r nn
  have b3 := NB_b nb
  have np : pO (bA (h0 (c + 1)) (h0 c 2) p) = 1 := by
    unfold pO
    rw [if_pos cc]
  have kid : KID (fun x i => g0 x (b + i)) (h0 (c + 2)) (RN h0 g0 c b Nn) 1 (p + 1) (g0 164 (b + k)) sc := by
    rcases N1.2 with l | ⟨_, K⟩ | ⟨x, _⟩ | ⟨x, _⟩
    · unfold lfO at l; omega
    · rw [np] at K; exact K
    · omega
    · omega
  have E' := EB_S (CB := fun c => bA (h0 (c + 1)) (h0 c 2)) E cc
  clear E
  refine r_prt (n := 1) rk R hd hN nb kr kid N1.1.1 (by omega) (Or.inr (Or.inr ⟨by omega, by omega, by rw [if_neg (by omega), np]; rfl⟩)) (by omega) F0 F1 ss ev (fun acc h' s2 d2 n2 kk al T2 X2 top2 sto2 dl => ?_) HB 1 0 [] h s dp nv rfl rfl E' T (RvX_refl _ _ _) top (fun i x ex => by rw [List.getElem?_nil] at ex; cases ex) (by omega)
  obtain ⟨x, el, kx, e1, e2, e3, e4⟩ := kk
  subst el e2 e3 e4
  obtain ⟨sx, x0, x1⟩ := sto2 0 x rfl
  have sx : h' 187 (3 * F) = x := by
    rw [show 3 * F + ((0 : Nat) : Int) = 3 * F by omega] at sx
    exact sx
  have T2s := T2.2.2.1
  obtain ⟨⟨va, vb⟩, ra, rb'⟩ := rv_two (T2.2.2.2 x x0 x1) rk.1.1 kx
  have eo : h' 161 (b + k) = bA (h0 (c + 1)) (h0 c 2) p := (T2.1 161 _ (by omega) (by omega)).trans N1.1.1
  refine N_Mo_runStep_164 ⟨fun _ => ⟨fun z => by omega, fun _ => ⟨fun _ => ⟨fun _ => ⟨by omega, ?_⟩, fun z => absurd z (by decide)⟩, fun z => by omega⟩⟩, fun z => absurd z (Int.lt_irrefl _)⟩
  refine N_Mo_whole_0 ?_
  rw [eo, sx, va, vb]
  refine ⟨by unfold r32; omega, by omega, by unfold r32; omega, by unfold r32; omega, by omega, by omega, fun c1 => ⟨fun z => absurd c1 z, fun _ => ⟨by omega, by omega, ?_⟩⟩, fun n1 => ⟨fun z => by omega, fun _ => ⟨fun _ => ⟨by omega, by omega, ?_⟩, fun z => absurd z n1⟩⟩⟩
  · rw [if_pos c1] at e1
    subst e1
    exact r_fin rk F0 F1 HG T2 X2 (by omega) (by omega)
  · rw [if_neg n1] at e1
    subst e1
    exact r_fin rk F0 F1 HG T2 X2 (by omega) (by omega)
/-- C -/
theorem s_cons {h0 g0 : HP} {sk sv : Int → Int} {N : Nat} {c b Nn p k sc base F s dp nv out s' dp' nv' : Int} {env : Int → Int} {h : HP} {d : Nat} {Q : PQ} (rk : RvK h0 g0) (R : RvT h0 g0 sk sv N) (hd : 30 < d) (hN : 1001 - s ≤ N + 1) (I : RvI h0 g0 sk sv c b Nn p k sc base F s dp nv env h) (cc : bA (h0 (c + 1)) (h0 c 2) p = 67) (E : erb h0 sk sv c p sc env (F + 1) s dp nv out s' dp' nv') (HG : RvG h0 g0 sk sv h F (base + sc) s nv out s' dp' nv' d Q) (HB : RvD g0 out Q) : Lr d Q h := by
  obtain ⟨nb, nn, ⟨F0, F1⟩, T, nl, top, ss, ev⟩ := I
  have N1 := RN_out nn
  have kr := RN_r nn
  have b3 := NB_b nb
  have Nk : okD (bA (h0 (c + 1)) (h0 c 2)) (nPn (h0 36 4) Nn) 67 (p + 1) ∧ g0 163 (b + k) = bA (h0 (c + 1)) (h0 c 2) (p + 1) - 48 ∧ KID (fun x i => g0 x (b + i)) (h0 (c + 2)) (RN h0 g0 c b Nn) (ppr h0 67 (bA (h0 (c + 1)) (h0 c 2) (p + 1) - 48)).toNat (p + 2) (g0 164 (b + k)) sc := by
    rcases N1.2 with l | ⟨x, _⟩ | ⟨_, K⟩ | ⟨x, _⟩
    · unfold lfO at l; omega
    · rw [cc] at x; exact absurd x (by decide)
    · rw [cc] at K; exact K
    · omega
  obtain ⟨ok, e163, kid⟩ := Nk
  have ok1 := ok.1
  have ok3 : bA (h0 (c + 1)) (h0 c 2) (p + 1) - 48 < h0 36 4 := ok.2.2
  have E' := EB_C (CB := fun c => bA (h0 (c + 1)) (h0 c 2)) E cc
  clear E
  generalize hj : bA (h0 (c + 1)) (h0 c 2) (p + 1) - 48 = j at *
  have rj := rk.2.1 j (by omega) ok3
  have n10 := rk.1.1
  refine r_prt (n := (ppr h0 67 j).toNat) rk R hd hN nb kr kid N1.1.1 (by omega) (Or.inl ⟨cc, by omega, ?_⟩) (by omega) F0 F1 ss ev (fun acc h' s2 d2 n2 kk al T2 X2 top2 sto2 dl => ?_) HB (ppr h0 67 j).toNat 0 [] h s dp nv (by omega) rfl E' T (RvX_refl _ _ _) top (fun i x ex => by rw [List.getElem?_nil] at ex; cases ex) (by omega)
  · rw [e163, rj.1]; omega
  obtain ⟨kn, vs, e1, e2, e3, e4⟩ := kk
  subst e2 e3
  have T2s := T2.2.2.1
  have eo : h' 161 (b + k) = 67 := ((T2.1 161 _ (by omega) (by omega)).trans N1.1.1).trans cc
  have ef : h' 163 (b + k) = j := (T2.1 163 _ (by omega) (by omega)).trans e163
  have key : 0 < d - 1 ∧ Go (d - 1 - 1) M_Mo_whole 0 [(22, 135), (0, F), (0, b + k), (2, 0), (2, 0), (2, 0), (2, 0)] [] h' (fun y1 k1 => 0 < d - 1 ∧ ∀ g2 : HP, g2 = up2 k1 135 79 y1 → r32 ((g2 135 78) - 1) ∧ ∀ g3 : HP, g3 = up2 g2 135 78 ((g2 135 78) - 1) → Lr d Q g3) := by
    refine ⟨by omega, N_Mo_whole_0 ?_⟩
    rw [eo]
    refine ⟨by unfold r32; omega, by omega, by unfold r32; omega, by unfold r32; omega, by omega, by omega, fun z => absurd z (by decide), fun _ => ⟨fun _ => ⟨fun z => absurd z (by decide), fun _ => ⟨fun _ => ⟨fun _ => ⟨by omega, by omega, ?_⟩, fun z => absurd z (by decide)⟩, fun z => absurd rfl z⟩⟩, fun z => absurd z (by decide)⟩⟩
    refine r_mk (P := fun y1 k1 => 0 < d - 1 ∧ ∀ g2 : HP, g2 = up2 k1 135 79 y1 → r32 ((g2 135 78) - 1) ∧ ∀ g3 : HP, g3 = up2 g2 135 78 ((g2 135 78) - 1) → Lr d Q g3) T2 (by omega) F0 F1 (fun g og g7 gk gn ga gb gc => ⟨by omega, ?_⟩)
    have Tg : RvS h0 g0 sk sv g (F + 1) s' dp' (n2 + 1) := RvS_new rk T2 (by omega) og g7 (Or.inr (Or.inr (Or.inr ⟨by omega, gk, by omega, fun i i0 i1 => ?_⟩)))
    · subst e1 e4
      exact r_fin rk F0 F1 HG Tg (fun a i p => (og a i (by omega) (by omega)).trans (X2 a i p)) (by omega) (by omega)
    · rw [kn] at i1
      have il : i.toNat < acc.length := by omega
      have gx : acc[i.toNat]? = some acc[i.toNat] := List.getElem?_eq_getElem il
      obtain ⟨a1, a2, a3⟩ := sto2 _ _ gx
      have a4 := vs _ _ gx
      rw [show ((i.toNat : Nat) : Int) = i by omega] at a1 a4
      have hr : g (181 + i) n2 = h' 187 (3 * F + i) := by
        have : i = 0 ∨ i = 1 ∨ i = 2 := by omega
        rcases this with z | z | z <;> subst z
        · rw [show (181 : Int) + 0 = 181 by omega, show 3 * F + 0 = 3 * F by omega]; exact ga
        · exact gb
        · exact gc
      rw [hr, a1, a4]
      exact ⟨rfl, a2, a3⟩
  refine N_Mo_runStep_164 ⟨fun _ => ⟨fun z => by omega, fun _ => ⟨fun _ => ⟨fun _ => key, fun _ => ⟨fun _ => key, fun z => absurd cc z⟩⟩, fun z => by omega⟩⟩, fun z => absurd z (Int.lt_irrefl _)⟩
end
