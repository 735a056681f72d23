section
/-- M -/
theorem s_match {h0 g0 : HP} {sk sv : Int → Int} {N : Nat} {c b Nn p k sc base F s dp nv out s' dp' nv' : Int} {env : Int → Int} {h : HP} {d : Nat} {Q : PQ} (rk : RvK h0 g0) (R : RvT h0 g0 sk sv N) (hd : 30 < d) (hN : 1001 - s ≤ N + 1) (I : RvI h0 g0 sk sv c b Nn p k sc base F s dp nv env h) (cc : bA (h0 (c + 1)) (h0 c 2) p = 77) (E : erb h0 sk sv c p sc env (F + 1) s dp nv out s' dp' nv') (HG : RvG h0 g0 sk sv h F (base + sc) s nv out s' dp' nv' d Q) (HB : RvD g0 out Q) : Lr d Q h := by
  obtain ⟨nb, nn, ⟨F0, F1⟩, T, nl, top, ss, ev⟩ := I
  have N1 := RN_out nn
  have kr := RN_r nn
  have b3 := NB_b nb
  have cn := nn.2.1.2
  have p0 := nn.2.1.1
  have Nk : RN h0 g0 c b Nn (p + 1) (g0 164 (b + k)) sc ∧ ∃ f, KCA (fun x i => g0 x (b + i)) (bA (h0 (c + 1)) (h0 c 2)) (h0 (c + 2)) (nPn (h0 36 4) Nn) (ppr h0) (RN h0 g0 c b Nn) f (h0 (c + 2) (p + 1) + 1) (g0 165 (b + g0 164 (b + k))) sc := by
    rcases N1.2 with l | ⟨x, _⟩ | ⟨x, _⟩ | ⟨_, H⟩
    · unfold lfO at l; omega
    · rw [cc] at x; exact absurd x (by decide)
    · omega
    · exact H
  obtain ⟨nd0, f, kca⟩ := Nk
  have E' := EB_M (CB := fun c => bA (h0 (c + 1)) (h0 c 2)) E cc
  clear E
  have e166 : g0 166 (b + k) = sc := N1.1.2.2.1
  have eo0 : g0 161 (b + k) = 77 := N1.1.1.trans cc
  have hp : ∀ g : HP, rP g (b + k) 77 1 := fun g => Or.inr (Or.inr ⟨by omega, by omega, by rw [if_pos rfl]⟩)
  have r0 := RN_r nd0
  obtain ⟨o, s1, d1, n1, X1, E2⟩ := E'
  have B := T.1
  have T1 := T.2.1
  have TP : ∀ (g : HP) (st s2 d2 n2 : Int), RvS h0 g0 sk sv g (F + 1) s2 d2 n2 → RvS h0 g0 sk sv (stp g F st) (F + 1) s2 d2 n2 := fun g st s2 d2 n2 Tg => RvS_pile rk Tg (fun a i p q => stp_lo (by omega) (by omega)) ((stp_lo (by omega) (by omega)).trans Tg.2.1.1)
  have XP : ∀ (g : HP) (st : Int), RvX h g F (base + sc) → RvX h (stp g F st) F (base + sc) := fun g st Xg a i p => (stp_lo (by omega) (by omega)).trans (Xg a i p)
  refine r_go (by omega) T1.1 T1.2.2.2.2 F0 F1 top.1 (by omega) (by omega) top.2.2 (by omega) (by omega) ((B 161 _ (by omega) (by omega)).trans eo0) (by omega) (hp h) ?_
  refine N_Mo_runStep_164 ⟨fun z => absurd z (by decide), fun _ => ⟨by omega, ?_⟩⟩
  refine c_childB (i := 0) (R := fun x i => g0 x (b + i)) b3 (fun x i p q => ?_) kr.1 kr.2 (by omega) (fun j hj => ?_) ?_
  · rw [stp_lo (by omega) (by omega)]; exact B x _ (by omega) (by omega)
  · have : j = 0 := by omega
    subst this
    exact r0
  refine ⟨by omega, by omega, ?_⟩
  rw [show stp h F 0 185 F = base from (stp_lo (by omega) (by omega)).trans top.2.1]
  refine r_ch rk R hd hN nb nd0 (by omega) (by omega) (TP _ _ _ _ _ T) ⟨ss.1, ss.2.1, by omega⟩ (fun i i0 i1 => ?_) X1 (fun o0 h2 T2 X2 l2 q2 => ?_) (fun o0 h2 b2 e2 => ?_)
  · rw [stp_lo (by omega) (by omega)]; exact ev i i0 i1
  · rcases E2 with ⟨z, _⟩ | ⟨_, k10, f2, q', env2, fc, ⟨ea, eb⟩, E2⟩
    · omega
    · have X2' : RvX h h2 F (base + sc) := RvX_trans (by omega) (Int.le_refl _) (XP h 0 (RvX_refl _ _ _)) X2
      have t2a : h2 184 F = b + k := by rw [X2 184 F (by omega)]; exact (stp_lo (by omega) (by omega)).trans top.1
      have t2b : h2 185 F = base := by rw [X2 185 F (by omega)]; exact (stp_lo (by omega) (by omega)).trans top.2.1
      have t2c : h2 186 F = 1 := by rw [X2 186 F (by omega)]; exact up2_eq
      have B2 := T2.1
      have T21 := T2.2.1
      have T2s := T2.2.2.1
      obtain ⟨kC, vk, vp⟩ := rv_made (T2.2.2.2 o o0 q2.1) k10
      have pj := rk.2.1 (sk o) k10.1 kC
      have n0 := pj.2.1
      have n3 := pj.2.2
      have gl : stp h2 F 1 135 79 = o := (stp_lo (by omega) (by omega)).trans l2
      have gS := TP _ 1 _ _ _ T2
      refine r_go (by omega) T21.1 T21.2.2.2.2 F0 F1 t2a (by omega) (by omega) t2c (by omega) (by omega) ((B2 161 _ (by omega) (by omega)).trans eo0) (by omega) (hp h2) ?_
      refine N_Mo_runStep_164 ⟨fun _ => ⟨fun _ => ?_, fun z => absurd rfl z⟩, fun z => absurd z (by decide)⟩
      refine N_Mo_runStep_203 ⟨fun _ => ⟨fun z => absurd rfl z, fun _ => ⟨by omega, N_Mo_runCase_0 ?_⟩⟩, fun z => absurd z (by decide)⟩
      rw [gl]
      have ge : p + 1 < h0 (c + 2) (p + 1) := by
        obtain ⟨_, _, w, r, w', G⟩ := nd0
        have := GD_e G
        omega
      refine r_case (h0 := h0) (g0 := g0) (c := c) (Nn := Nn) (j := sk o) (q' := q') (base := base) (sc := sc) (by omega) b3 kr cn gS.1 F0 F1 o0 (by omega) ((stp_lo (by omega) (by omega)).trans t2b) e166 (by omega) ((stp_lo (by omega) (by omega)).trans vk) (fun kx g ndx ok ez og lg => ?_) f f2 1 _ kca fc (by omega) (fun t ht => ?_)
      · have Tg : RvS h0 g0 sk sv g (F + 1) s1 d1 n1 := RvS_pile rk gS (fun a i p q => og a i (by omega)) ((og 135 78 (by omega)).trans gS.2.1.1)
        have Xg : RvX h g F (base + sc) := fun a i p => (og a i (by omega)).trans (XP h2 1 X2' a i p)
        refine r_ch rk R hd (by omega) nb ndx (by omega) (by omega) Tg ⟨by omega, ss.2.1, by omega⟩ (fun i i0 i1 => ?_) E2 (fun v0 h3 T3 X3 l3 q3 => ?_) HB
        · by_cases z : i < sc
          · have := ev i i0 z
            rw [Xg 188 _ (by omega), ea i i0 z]
            exact ⟨this.1, this.2.1, by omega⟩
          · have a := eb (i - sc) (by omega) (by omega)
            have v := vp (i - sc) (by omega) (by omega)
            have w := lg (i - sc) (by omega) (by omega)
            rw [show sc + (i - sc) = i by omega] at a
            rw [show base + sc + (i - sc) = base + i by omega, stp_lo (by omega) (by omega)] at w
            rw [w, v.1, a]
            exact ⟨rfl, v.2.1, by omega⟩
        · refine r_again (st := 2) (c := 77) (P := 1) rk hd F0 F1 (by omega) (by omega) HG T3 (RvX_trans (by omega) (by omega) Xg X3) ?_ ?_ (by omega) (by omega) eo0 (Or.inr rfl) (hp g0) (by omega) l3 v0 (by omega)
          · rw [X3 184 F (by omega), og 184 F (by omega)]; exact (stp_lo (by omega) (by omega)).trans t2a
          · rw [X3 186 F (by omega), og 186 F (by omega)]; exact up2_eq
      · have : t = 0 := by omega
        subst this
        exact r0
  · rcases E2 with ⟨_, z⟩ | ⟨z, _⟩
    · subst z
      exact HB o0 h2 b2 e2
    · omega
theorem pO_k {x : Int} (a : 0 < pO x) : (x = 76 ∨ x = 82) ∨ (x = 43 ∨ x = 45 ∨ x = 60 ∨ x = 61) ∨ x = 80 ∨ x = 63 := by
  unfold pO at a
  split at a
  · omega
  · split at a
    · omega
    · split at a
      · omega
      · omega
/-- every expression -/
theorem rv_all {h0 g0 : HP} {sk sv : Int → Int} (rk : RvK h0 g0) : ∀ N, RvT h0 g0 sk sv N := by
  intro N
  induction N with
  | zero =>
    intro c b Nn p k sc base F s dp nv out s' dp' nv' env h d Q hd hN nb nn ff T
    have := T.2.2.1
    omega
  | succ N R =>
    intro c b Nn p k sc base F s dp nv out s' dp' nv' env h d Q hd hN nb nn ff T nl top ss ev E HG HB
    have I : RvI h0 g0 sk sv c b Nn p k sc base F s dp nv env h := ⟨nb, nn, ff, T, nl, top, ss, ev⟩
    have hN' : 1001 - s ≤ N + 1 := by omega
    rcases (RN_out nn).2 with lf | ⟨a, _⟩ | ⟨a, _⟩ | ⟨a, _⟩
    · exact s_leaf rk hd I lf E HG
    · have kd : (bA (h0 (c + 1)) (h0 c 2) p = 76 ∨ bA (h0 (c + 1)) (h0 c 2) p = 82) ∨ (bA (h0 (c + 1)) (h0 c 2) p = 43 ∨ bA (h0 (c + 1)) (h0 c 2) p = 45 ∨ bA (h0 (c + 1)) (h0 c 2) p = 60 ∨ bA (h0 (c + 1)) (h0 c 2) p = 61) ∨ bA (h0 (c + 1)) (h0 c 2) p = 80 ∨ bA (h0 (c + 1)) (h0 c 2) p = 63 := by
        exact pO_k a
      rcases kd with z | z | z | z
      · exact s_side rk R hd hN' I z E HG HB
      · exact s_op rk R hd hN' I z E HG HB
      · exact s_pair rk R hd hN' I z E HG HB
      · exact s_choose rk R hd hN' I z E HG HB
    · rcases a with z | z
      · exact s_cons rk R hd hN' I z E HG HB
      · exact s_call rk R hd hN' I z E HG HB
    · exact s_match rk R hd hN' I a E HG HB
end
