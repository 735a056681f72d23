section
/-- leaves -/
theorem s_leaf {h0 g0 : HP} {sk sv : Int → Int} {c b Nn p k sc base F s dp nv out s' dp' nv' : Int} {env : Int → Int} {h : HP} {d : Nat} {Q : PQ} (rk : RvK h0 g0) (hd : 30 < d) (I : RvI h0 g0 sk sv c b Nn p k sc base F s dp nv env h) (lf : lfO (bA (h0 (c + 1)) (h0 c 2) p) sc) (E : erb h0 sk sv c p sc env (F + 1) s dp nv out s' dp' nv') (HG : RvG h0 g0 sk sv h F (base + sc) s nv out s' dp' nv' d Q) : Lr d Q h := by
  obtain ⟨nb, nn, ⟨F0, F1⟩, T, nl, top, ss, ev⟩ := I
  have b3 := NB_b nb
  have N1 := (RN_out nn).1
  have kr := RN_r nn
  have T1 := T.2.1
  have B := T.1
  have nr := T.2.2.1
  have ec : h 161 (b + k) = bA (h0 (c + 1)) (h0 c 2) p := (B 161 _ (by omega) (by omega)).trans N1.1
  have lf' := lf
  unfold lfO at lf'
  have np : pO (bA (h0 (c + 1)) (h0 c 2) p) = 0 := by
    unfold pO
    rw [if_neg (by omega), if_neg (by omega), if_neg (by omega)]
  have E' : ((48 ≤ bA (h0 (c + 1)) (h0 c 2) p ∧ bA (h0 (c + 1)) (h0 c 2) p ≤ 57) ∧ sk nv = 10 ∧ sv (3 * nv) = bA (h0 (c + 1)) (h0 c 2) p - 48 ∧ out = nv ∧ s' = s ∧ dp' = dp ∧ nv' = nv + 1) ∨
  ((bA (h0 (c + 1)) (h0 c 2) p = 84 ∨ bA (h0 (c + 1)) (h0 c 2) p = 70) ∧ sk nv = 11 ∧ sv (3 * nv) = (if bA (h0 (c + 1)) (h0 c 2) p = 84 then 1 else 0) ∧ out = nv ∧ s' = s ∧ dp' = dp ∧ nv' = nv + 1) ∨
  ((97 ≤ bA (h0 (c + 1)) (h0 c 2) p ∧ bA (h0 (c + 1)) (h0 c 2) p ≤ 122 ∧ bA (h0 (c + 1)) (h0 c 2) p - 97 < sc) ∧ out = env (bA (h0 (c + 1)) (h0 c 2) p - 97) ∧ s' = s ∧ dp' = dp ∧ nv' = nv) := by
    exact EB_leaf (CB := fun c => bA (h0 (c + 1)) (h0 c 2)) E (show (48 ≤ bA (h0 (c + 1)) (h0 c 2) p ∧ bA (h0 (c + 1)) (h0 c 2) p ≤ 57) ∨ bA (h0 (c + 1)) (h0 c 2) p = 84 ∨ bA (h0 (c + 1)) (h0 c 2) p = 70 ∨ 97 ≤ bA (h0 (c + 1)) (h0 c 2) p by omega)
  clear E
  refine r_go (by omega) T1.1 T1.2.2.2.2 F0 F1 top.1 (by omega) (by omega) top.2.2 (by omega) (by omega) ec (by omega) (Or.inr (Or.inr ⟨by omega, by omega, (by rw [if_neg (by omega), np] : (0 : Int) = _)⟩)) ?_
  have T' : RvS h0 g0 sk sv (stp h F 0) (F + 1) s dp nv := RvS_pile rk T (fun a i p q => stp_lo (by omega) (by omega)) ((stp_lo (by omega) (by omega)).trans T1.1)
  have X' : RvX h (stp h F 0) F (base + sc) := fun a i p => stp_lo (by omega) (by omega)
  have fin : ∀ (g : HP) (v : Int), out = v → 0 ≤ v → v < nv' → s' = s → dp' = dp → (nv' = nv ∨ nv' = nv + 1) → RvS h0 g0 sk sv g (F + 1) s dp nv' → (∀ a i, ¬ (a = 135 ∧ i = 72) → ¬ (179 ≤ a ∧ a ≤ 183 ∧ i = nv) → g a i = stp h F 0 a i) → ∀ g2 : HP, g2 = up2 g 135 79 v → r32 ((g2 135 78) - 1) ∧ ∀ g3 : HP, g3 = up2 g2 135 78 ((g2 135 78) - 1) → Lr d Q g3 := by
    intro g v eo v0 v1 es ed en Tg og
    refine r_giv rk F0 F1 Tg (fun g3 T3 o3 l3 => ?_)
    subst es ed
    exact HG (by omega) g3 T3 (fun a i p => ((o3 a i (by omega)).trans (og a i (by omega) (by omega))).trans (X' a i p)) (l3.trans eo.symm) (by omega)
  have q5 : stp h F 0 185 F = base := (stp_lo (by omega) (by omega)).trans top.2.1
  refine N_Mo_runStep_164 ⟨fun _ => ⟨fun z => by omega, fun _ => ⟨fun _ => ⟨fun z => by omega, fun _ => ⟨fun z => by omega, fun _ => ⟨by omega, by omega, ?_⟩⟩⟩, fun z => by omega⟩⟩, fun z => by omega⟩
  rw [q5]
  refine N_Mo_leaf_0 ⟨by omega, c_in (fun a1 a2 => ⟨fun z => by omega, fun _ => ⟨by unfold r32; omega, by omega, ?_⟩⟩) (fun na => ⟨fun _ => ⟨fun c84 => ⟨fun z => absurd c84 z, fun _ => ⟨by omega, ?_⟩⟩, fun n84 => ⟨fun n70 => ?_, fun c70 => ⟨fun _ => ⟨by omega, ?_⟩, fun z => absurd z n84⟩⟩⟩, fun z => absurd rfl z⟩)⟩
  · rcases E' with ⟨_, e1, e2, e3, e4, e5, e6⟩ | ⟨x, _⟩ | ⟨x, _⟩
    · exact r_val (P := fun y7 k7 => 0 < d - 1 ∧ ∀ g8 : HP, g8 = up2 k7 135 79 y7 → r32 ((g8 135 78) - 1) ∧ ∀ g9 : HP, g9 = up2 g8 135 78 ((g8 135 78) - 1) → Lr d Q g9) rk T' nl (Or.inl ⟨rfl, e1⟩) e2 (fun g Tg og => ⟨by omega, fin g nv e3 (by omega) (by omega) e4 e5 (Or.inr e6) (by rw [e6]; exact Tg) og⟩)
    · omega
    · omega
  · rcases E' with ⟨x, _⟩ | ⟨_, e1, e2, e3, e4, e5, e6⟩ | ⟨x, _⟩
    · omega
    · rw [if_pos c84] at e2
      exact r_val (P := fun y7 k7 => 0 < d - 1 ∧ ∀ g8 : HP, g8 = up2 k7 135 79 y7 → r32 ((g8 135 78) - 1) ∧ ∀ g9 : HP, g9 = up2 g8 135 78 ((g8 135 78) - 1) → Lr d Q g9) rk T' nl (Or.inr ⟨rfl, e1⟩) e2 (fun g Tg og => ⟨by omega, fin g nv e3 (by omega) (by omega) e4 e5 (Or.inr e6) (by rw [e6]; exact Tg) og⟩)
    · omega
  · rcases E' with ⟨x, _⟩ | ⟨x, _⟩ | ⟨x, e3, e4, e5, e6⟩
    · omega
    · omega
    · have ee := ev (bA (h0 (c + 1)) (h0 c 2) p - 97) (by omega) (by omega)
      have ea : stp h F 0 188 (base + bA (h0 (c + 1)) (h0 c 2) p - 97) = env (bA (h0 (c + 1)) (h0 c 2) p - 97) := by
        rw [stp_lo (by omega) (by omega), show base + bA (h0 (c + 1)) (h0 c 2) p - 97 = base + (bA (h0 (c + 1)) (h0 c 2) p - 97) by omega]
        exact ee.1
      rw [ea]
      exact ⟨by unfold r32; omega, by unfold r32; omega, by omega, by omega, fin _ _ e3 ee.2.1 (by omega) e4 e5 (Or.inl e6) (by rw [e6]; exact T') (fun _ _ _ _ => rfl)⟩
  · rcases E' with ⟨x, _⟩ | ⟨_, e1, e2, e3, e4, e5, e6⟩ | ⟨x, _⟩
    · omega
    · rw [if_neg n84] at e2
      exact r_val (P := fun y7 k7 => 0 < d - 1 ∧ ∀ g8 : HP, g8 = up2 k7 135 79 y7 → r32 ((g8 135 78) - 1) ∧ ∀ g9 : HP, g9 = up2 g8 135 78 ((g8 135 78) - 1) → Lr d Q g9) rk T' nl (Or.inr ⟨rfl, e1⟩) e2 (fun g Tg og => ⟨by omega, fin g nv e3 (by omega) (by omega) e4 e5 (Or.inr e6) (by rw [e6]; exact Tg) og⟩)
    · omega
end
