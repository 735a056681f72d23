section
/-- ? -/
theorem s_choose {h0 g0 : HP} {sk sv : Int → Int} {N : Nat} {c b Nn p k sc base F s dp nv out s' dp' nv' : Int} {env : Int → Int} {h : HP} {d : Nat} {Q : PQ} (rk : RvK h0 g0) (R : RvT h0 g0 sk sv N) (hd : 30 < d) (hN : 1001 - s ≤ N + 1) (I : RvI h0 g0 sk sv c b Nn p k sc base F s dp nv env h) (cc : bA (h0 (c + 1)) (h0 c 2) p = 63) (E : erb h0 sk sv c p sc env (F + 1) s dp nv out s' dp' nv') (HG : RvG h0 g0 sk sv h F (base + sc) s nv out s' dp' nv' d Q) (HB : RvD g0 out Q) : Lr d Q h := by
  obtain ⟨nb, nn, ⟨F0, F1⟩, T, nl, top, ss, ev⟩ := I
  have N1 := RN_out nn
  have kr := RN_r nn
  have b3 := NB_b nb
  have np : pO (bA (h0 (c + 1)) (h0 c 2) p) = 3 := by rw [cc]; rfl
  have kid : KID (fun x i => g0 x (b + i)) (h0 (c + 2)) (RN h0 g0 c b Nn) 3 (p + 1) (g0 164 (b + k)) sc := by
    rcases N1.2 with l | ⟨_, K⟩ | ⟨x, _⟩ | ⟨x, _⟩
    · unfold lfO at l; omega
    · rw [np] at K; exact K
    · omega
    · omega
  have E' := EB_Q (CB := fun c => bA (h0 (c + 1)) (h0 c 2)) E cc
  clear E
  have eo0 : g0 161 (b + k) = 63 := N1.1.1.trans cc
  have hp : ∀ g : HP, rP g (b + k) 63 3 := fun g => Or.inr (Or.inr ⟨by omega, by omega, by rw [if_neg (by omega)]; rfl⟩)
  have rg : ∀ i : Nat, i ≤ 2 → 0 ≤ nxt (fun x i => g0 x (b + i)) i (g0 164 (b + k)) ∧ nxt (fun x i => g0 x (b + i)) i (g0 164 (b + k)) < 100 := fun i ij => RN_r (KID_nth i 3 _ _ _ (by omega) kid)
  have nd0 := KID_nth 0 3 _ _ _ (by omega) kid
  have nd1 : RN h0 g0 c b Nn (h0 (c + 2) (p + 1)) (nxt (fun x i => g0 x (b + i)) 1 (g0 164 (b + k))) sc := KID_nth 1 3 _ _ _ (by omega) kid
  have nd2 : RN h0 g0 c b Nn (h0 (c + 2) (h0 (c + 2) (p + 1))) (nxt (fun x i => g0 x (b + i)) 2 (g0 164 (b + k))) sc := KID_nth 2 3 _ _ _ (by omega) kid
  obtain ⟨o, s1, d1, n1, X1, E2⟩ := E'
  have B := T.1
  have T1 := T.2.1
  have TP : ∀ (g : HP) (st s2 d2 n2 : Int), RvS h0 g0 sk sv g (F + 1) s2 d2 n2 → RvS h0 g0 sk sv (stp g F st) (F + 1) s2 d2 n2 := fun g st s2 d2 n2 Tg => RvS_pile rk Tg (fun a i p q => stp_lo (by omega) (by omega)) ((stp_lo (by omega) (by omega)).trans Tg.2.1.1)
  have XP : ∀ (g : HP) (st : Int), RvX h g F (base + sc) → RvX h (stp g F st) F (base + sc) := fun g st Xg a i p => (stp_lo (by omega) (by omega)).trans (Xg a i p)
  have q6 : sto h F 0 186 F = 0 := (sto_o (by omega)).trans top.2.2
  refine r_top (by omega) T1.1 T1.2.2.2.2 F0 F1 top.1 (by omega) (by omega) top.2.2 (by omega) (by omega) ((B 161 _ (by omega) (by omega)).trans eo0) (hp h) (N_Mo_runStep_83 ?_)
  rw [q6]
  refine ⟨by omega, by unfold r32; omega, by omega, fun g1 e1 => ⟨fun z => absurd rfl z, fun _ => ⟨fun _ => ⟨fun z => absurd rfl z, fun _ => ⟨fun _ => ?_, fun z => absurd z (by decide)⟩⟩, fun z => absurd z (by decide)⟩⟩⟩
  have e1 : g1 = stp h F 0 := e1
  subst e1
  refine N_Mo_runStep_164 ⟨fun z => absurd z (by decide), fun _ => ⟨by omega, ?_⟩⟩
  refine c_childB (i := 0) (R := fun x i => g0 x (b + i)) b3 (fun x i p q => ?_) kr.1 kr.2 (by omega) (fun j hj => rg j (by omega)) ?_
  · rw [stp_lo (by omega) (by omega)]; exact B x _ (by omega) (by omega)
  refine ⟨by omega, by omega, ?_⟩
  rw [show stp h F 0 185 F = base from (stp_lo (by omega) (by omega)).trans top.2.1]
  refine r_ch rk R hd hN nb nd0 (by omega) (by omega) (TP _ _ _ _ _ T) ⟨ss.1, ss.2.1, by omega⟩ (fun i i0 i1 => ?_) X1 (fun o0 h2 T2 X2 l2 q2 => ?_) (fun o0 h2 b2 e2 => ?_)
  · rw [stp_lo (by omega) (by omega)]; exact ev i i0 i1
  · rcases E2 with ⟨z, _⟩ | ⟨_, ⟨k11, v01⟩, E2⟩
    · omega
    · have X2' : RvX h h2 F (base + sc) := RvX_trans (by omega) (Int.le_refl _) (XP h 0 (RvX_refl _ _ _)) X2
      have t2a : h2 184 F = b + k := by rw [X2 184 F (by omega)]; exact (stp_lo (by omega) (by omega)).trans top.1
      have t2b : h2 185 F = base := by rw [X2 185 F (by omega)]; exact (stp_lo (by omega) (by omega)).trans top.2.1
      have t2c : h2 186 F = 1 := by rw [X2 186 F (by omega)]; exact up2_eq
      have B2 := T2.1
      have T21 := T2.2.1
      have T2s := T2.2.2.1
      have vo : h2 180 o = sv (3 * o) := rv_tru (T2.2.2.2 o o0 q2.1) rk.1.1 k11
      have q61 : sto h2 F 1 186 F = 1 := (sto_o (by omega)).trans t2c
      refine r_top (by omega) T21.1 T21.2.2.2.2 F0 F1 t2a (by omega) (by omega) t2c (by omega) (by omega) ((B2 161 _ (by omega) (by omega)).trans eo0) (hp h2) (N_Mo_runStep_83 ?_)
      rw [q61]
      refine ⟨by omega, by unfold r32; omega, by omega, fun g1 e1 => ?_⟩
      have e1 : g1 = stp h2 F 1 := e1
      subst e1
      have gl : stp h2 F 1 135 79 = o := (stp_lo (by omega) (by omega)).trans l2
      have gv : stp h2 F 1 180 o = sv (3 * o) := (stp_lo (by omega) (by omega)).trans vo
      rw [gl, gv]
      have ag : ∀ x j, 161 ≤ x → x ≤ 166 → stp h2 F 1 x (b + j) = (fun x i => g0 x (b + i)) x j := fun x j p q => by
        rw [stp_lo (by omega) (by omega)]; exact B2 x _ (by omega) (by omega)
      have g5 : stp h2 F 1 185 F = base := (stp_lo (by omega) (by omega)).trans t2b
      -- the branch taken
      have go : ∀ (x kx : Int), RN h0 g0 c b Nn x kx sc → x = (if sv (3 * o) = 1 then h0 (c + 2) (p + 1) else h0 (c + 2) (h0 (c + 2) (p + 1))) → Go (d - 1 - 1) M_Mo_runBegins 0 [(22, 135), (0, b + kx), (0, base)] [] (stp h2 F 1) (fun _ k => Lr d Q k) := by
        intro x kx ndx ex
        rw [← ex] at E2
        refine r_ch rk R hd (by omega) nb ndx (by omega) (by omega) (TP _ _ _ _ _ T2) ⟨ss.1, ss.2.1, by omega⟩ (fun i i0 i1 => ?_) E2 (fun v0 h3 T3 X3 l3 q3 => ?_) HB
        · have := ev i i0 i1
          rw [stp_lo (by omega) (by omega), X2' 188 _ (by omega)]
          exact ⟨this.1, this.2.1, by omega⟩
        · have X3' : RvX h h3 F (base + sc) := RvX_trans (by omega) (Int.le_refl _) (XP h2 1 X2') X3
          have t3a : h3 184 F = b + k := by rw [X3 184 F (by omega)]; exact (stp_lo (by omega) (by omega)).trans t2a
          have t3c : h3 186 F = 2 := by rw [X3 186 F (by omega)]; exact up2_eq
          have B3 := T3.1
          have T31 := T3.2.1
          have q62 : sto h3 F 2 186 F = 2 := (sto_o (by omega)).trans t3c
          refine r_top (by omega) T31.1 T31.2.2.2.2 F0 F1 t3a (by omega) (by omega) t3c (by omega) (by omega) ((B3 161 _ (by omega) (by omega)).trans eo0) (hp h3) (N_Mo_runStep_83 ?_)
          rw [q62]
          refine ⟨by omega, by unfold r32; omega, by omega, fun g1 e1 => ?_⟩
          have e1 : g1 = stp h3 F 2 := e1
          subst e1
          have gl3 : stp h3 F 2 135 79 = out := (stp_lo (by omega) (by omega)).trans l3
          refine ⟨fun z => absurd rfl z, fun _ => ⟨fun _ => ⟨fun z => absurd rfl z, fun _ => ⟨fun z => absurd rfl z, fun _ => ⟨by omega, ?_⟩⟩⟩, fun z => absurd z (by decide)⟩⟩
          rw [gl3]
          exact r_fin rk F0 F1 HG (TP _ _ _ _ _ T3) (XP h3 2 X3') v0 (by omega)
      refine ⟨fun z => absurd rfl z, fun _ => ⟨fun z => absurd rfl z, fun _ => ⟨by omega, fun n1' => ⟨by omega, ?_⟩, fun y1 => ⟨by omega, ?_⟩⟩⟩⟩
      · refine c_childB (i := 2) (R := fun x i => g0 x (b + i)) b3 ag kr.1 kr.2 (by omega) (fun j hj => rg j (by omega)) ⟨by omega, by omega, ?_⟩
        rw [g5]
        exact go _ _ nd2 (by rw [if_neg n1'])
      · refine c_childB (i := 1) (R := fun x i => g0 x (b + i)) b3 ag kr.1 kr.2 (by omega) (fun j hj => rg j (by omega)) ⟨by omega, by omega, ?_⟩
        rw [g5]
        exact go _ _ nd1 (by rw [if_pos y1])
  · rcases E2 with ⟨_, z⟩ | ⟨z, _⟩
    · subst z
      exact HB o0 h2 b2 e2
    · omega
/-- the case is found -/
theorem r_case {h0 g0 : HP} {c b Nn k sc base F v j q' : Int} {h : HP} {d : Nat} {Q : PQ} (hd : 6 < d) (b3 : b / 100 * 100 = b ∧ 0 ≤ b ∧ b ≤ 600) (kr : 0 ≤ k ∧ k < 100) (cn : h0 c 2 ≤ 100) (B : RvB g0 h) (F0 : 0 ≤ F) (F1 : F ≤ 59) (v0 : 0 ≤ v) (v1 : v < 1010) (e185 : h 185 F = base) (e166 : g0 166 (b + k) = sc) (ss : 0 ≤ sc ∧ 0 ≤ base ∧ base + sc ≤ 400) (ej : h 180 v = j)
    (H : ∀ (kx : Int) (g : HP), RN h0 g0 c b Nn (q' + 1) kx (sc + ppr h0 67 j) → okD (bA (h0 (c + 1)) (h0 c 2)) (nPn (h0 36 4) Nn) 67 q' → bA (h0 (c + 1)) (h0 c 2) q' - 48 = j → (∀ a i, ¬ (a = 188 ∧ base + sc ≤ i) → g a i = h a i) → (∀ i, 0 ≤ i → i < 3 → g 188 (base + sc + i) = h (181 + i) v) → Go (d - 1) M_Mo_runBegins 0 [(22, 135), (0, b + kx), (0, base)] [] g (fun _ k => Q 0 k)) :
    ∀ (f f2 i : Nat) (q : Int), KCA (fun x i => g0 x (b + i)) (bA (h0 (c + 1)) (h0 c 2)) (h0 (c + 2)) (nPn (h0 36 4) Nn) (ppr h0) (RN h0 g0 c b Nn) f q (nxt (fun x i => g0 x (b + i)) i (g0 164 (b + k))) sc → FC (fun c => bA (h0 (c + 1)) (h0 c 2)) (fun c => h0 (c + 2)) c j f2 q q' → (i : Int) ≤ q → (∀ t : Nat, t < i → 0 ≤ nxt (fun x i => g0 x (b + i)) t (g0 164 (b + k)) ∧ nxt (fun x i => g0 x (b + i)) t (g0 164 (b + k)) < 100) → Go d M_Mo_runCase 8 [(22, 135), (0, F), (0, b + k), (0, v), (0, (i : Int)), (2, 0)] [] h Q := by
  intro f
  induction f with
  | zero => intro f2 i q K; exact absurd K (fun z => z)
  | succ f ih =>
    intro f2 i q K fc iq rg
    match f2, fc with
    | f2 + 1, fc =>
      obtain ⟨n125, fc⟩ := fc
      have n125 : bA (h0 (c + 1)) (h0 c 2) q ≠ 125 := n125
      rcases K with ⟨z, _⟩ | ⟨_, ok, kx, _, _, fg, Y, K⟩
      · exact absurd z n125
      · have ok1 := ok.1
        have qn := (bA_lt (b := h0 (c + 1)) (n := h0 c 2) (p := q) (by omega)).2
        have rg' : ∀ t : Nat, t ≤ i → 0 ≤ nxt (fun x i => g0 x (b + i)) t (g0 164 (b + k)) ∧ nxt (fun x i => g0 x (b + i)) t (g0 164 (b + k)) < 100 := fun t ht => by
          rcases Nat.lt_or_ge t i with z | z
          · exact rg t z
          · have : t = i := by omega
            subst this
            exact kx
        have ag : ∀ (g : HP), (∀ a i, ¬ (a = 188 ∧ base + sc ≤ i) → g a i = h a i) → ∀ x t, 161 ≤ x → x ≤ 166 → g x (b + t) = (fun x i => g0 x (b + i)) x t := fun g og x t p q => (og x _ (by omega)).trans (B x _ (by omega) (by omega))
        have fg : g0 163 (b + nxt (fun x i => g0 x (b + i)) i (g0 164 (b + k))) = bA (h0 (c + 1)) (h0 c 2) q - 48 := fg
        have e166h : h 166 (b + k) = sc := (B 166 _ (by omega) (by omega)).trans e166
        -- this one
        have fin : bA (h0 (c + 1)) (h0 c 2) q - 48 = j → (0 ≤ F ∧ F < 61) ∧ (0 ≤ b + k ∧ b + k < 700) ∧ r32 ((h 185 F) + (h 166 (b + k))) ∧ (0 ≤ v ∧ v < 1010) ∧ (0 ≤ (h 185 F) + (h 166 (b + k)) ∧ (h 185 F) + (h 166 (b + k)) < 500) ∧ ∀ g2 : HP, g2 = up2 h 188 ((h 185 F) + (h 166 (b + k))) (h 181 v) → r32 (((h 185 F) + (h 166 (b + k))) + 1) ∧ (0 ≤ v ∧ v < 1010) ∧ (0 ≤ ((h 185 F) + (h 166 (b + k))) + 1 ∧ ((h 185 F) + (h 166 (b + k))) + 1 < 500) ∧ ∀ g3 : HP, g3 = up2 g2 188 (((h 185 F) + (h 166 (b + k))) + 1) (g2 182 v) → r32 (((h 185 F) + (h 166 (b + k))) + 2) ∧ (0 ≤ v ∧ v < 1010) ∧ (0 ≤ ((h 185 F) + (h 166 (b + k))) + 2 ∧ ((h 185 F) + (h 166 (b + k))) + 2 < 500) ∧ ∀ g4 : HP, g4 = up2 g3 188 (((h 185 F) + (h 166 (b + k))) + 2) (g3 183 v) → 0 < d ∧ Go (d - 1) M_Mo_childOf 0 [(22, 135), (0, b + k), (0, (i : Int)), (2, 0), (2, 0), (2, 0)] [] g4 (fun y5 k5 => 0 < d ∧ Go (d - 1) M_Mo_childOf 0 [(22, 135), (0, y5), (0, 0), (2, 0), (2, 0), (2, 0)] [] k5 (fun y6 k6 => (0 ≤ F ∧ F < 61) ∧ 0 < d ∧ Go (d - 1) M_Mo_runBegins 0 [(22, 135), (0, y6), (0, k6 185 F)] [] k6 (fun _ k7 => Q 0 k7))) := by
          intro ez
          have qe : q' = q := by
            rcases fc with ⟨_, x⟩ | ⟨x, _⟩
            · exact x
            · exact absurd ez x
          subst qe
          rw [e185, e166h]
          refine ⟨by omega, by omega, by unfold r32; omega, by omega, by omega, fun g2 e2 => ?_⟩
          rw [show g2 182 v = h 182 v by rw [e2, up2_nc (by decide)]]
          refine ⟨by unfold r32; omega, by omega, by omega, fun g3 e3 => ?_⟩
          rw [show g3 183 v = h 183 v by rw [e3, up2_nc (by decide), e2, up2_nc (by decide)]]
          refine ⟨by unfold r32; omega, by omega, by omega, fun g4 e4 => ⟨by omega, ?_⟩⟩
          have og : ∀ a i, ¬ (a = 188 ∧ base + sc ≤ i) → g4 a i = h a i := fun a i p => by rw [e4, up2_ext (by omega), e3, up2_ext (by omega), e2, up2_ext (by omega)]
          refine c_childB (R := fun x i => g0 x (b + i)) b3 (ag g4 og) kr.1 kr.2 (by omega) rg' ⟨by omega, ?_⟩
          refine c_childB (i := 0) (R := fun x i => g0 x (b + i)) b3 (ag g4 og) kx.1 kx.2 (by omega) (fun t ht => ?_) ⟨by omega, by omega, ?_⟩
          · have : t = 0 := by omega
            subst this
            exact RN_r Y
          · rw [og 185 F (by omega), e185]
            rw [ez] at Y
            refine H _ g4 Y ok ez og (fun i i0 i1 => ?_)
            have : i = 0 ∨ i = 1 ∨ i = 2 := by omega
            rcases this with z | z | z <;> subst z
            · rw [show base + sc + 0 = base + sc by omega, e4, up2_ext (by omega), e3, up2_ext (by omega), e2, up2_eq]; rfl
            · rw [e4, up2_ext (by omega), e3, up2_eq]; rfl
            · rw [e4, up2_eq]; rfl
        refine N_Mo_runCase_8 ⟨by unfold r32; omega, by omega, ?_⟩
        refine c_hasB (i := i + 1) (R := fun x i => g0 x (b + i)) b3 (ag h (fun _ _ _ => rfl)) kr.1 kr.2 (by omega) (fun t ht => rg' t (by omega)) (fun e => ⟨fun _ => fin ?_, fun z => absurd rfl z⟩) (fun ne => ⟨fun z => absurd z (by decide), fun _ => ⟨by omega, ?_⟩⟩)
        · rcases fc with ⟨x, _⟩ | ⟨x, fc⟩
          · exact x
          · rw [nxt_succ] at e
            exfalso
            have K' : KCA (fun x i => g0 x (b + i)) (bA (h0 (c + 1)) (h0 c 2)) (h0 (c + 2)) (nPn (h0 36 4) Nn) (ppr h0) (RN h0 g0 c b Nn) f (h0 (c + 2) (q + 1)) (g0 165 (b + nxt (fun x i => g0 x (b + i)) i (g0 164 (b + k)))) sc := K
            rw [show g0 165 (b + nxt (fun x i => g0 x (b + i)) i (g0 164 (b + k))) = -1 from e] at K'
            match f, f2, K', fc with
            | f + 1, f2 + 1, K', fc =>
              have n2 : bA (h0 (c + 1)) (h0 c 2) (h0 (c + 2) (q + 1)) ≠ 125 := fc.1
              rcases K' with ⟨z, _⟩ | ⟨_, _, z, _⟩
              · exact n2 z
              · omega
        · refine c_childB (R := fun x i => g0 x (b + i)) b3 (ag h (fun _ _ _ => rfl)) kr.1 kr.2 (by omega) rg' ⟨by omega, by omega, ?_⟩
          rw [B 163 _ (by omega) (by omega), fg, ej]
          refine ⟨fin, fun ne' => ⟨by unfold r32; omega, ?_⟩⟩
          obtain ⟨_, _, w, r, w', G⟩ := Y
          have ge := GD_e G
          have := ih f2 (i + 1) (h0 (c + 2) (q + 1)) (by rw [nxt_succ]; exact K) ?_ (by omega) (fun t ht => rg' t (by omega))
          · exact this
          · rcases fc with ⟨x, _⟩ | ⟨_, fc⟩
            · exact absurd x ne'
            · exact fc
end
