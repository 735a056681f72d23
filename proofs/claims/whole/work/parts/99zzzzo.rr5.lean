section
/-- the body or the case is done: the same value -/
theorem r_again {h0 g0 : HP} {sk sv : Int → Int} {h h3 : HP} {b k F S s nv out s' dp' nv' st c P : Int} {d : Nat} {Q : PQ} (rk : RvK h0 g0) (hd : 30 < d) (F0 : 0 ≤ F) (F1 : F ≤ 59) (n0 : 0 ≤ b + k) (n1 : b + k < 700) (HG : RvG h0 g0 sk sv h F S s nv out s' dp' nv' d Q) (T : RvS h0 g0 sk sv h3 (F + 1) s' dp' nv') (X : RvX h h3 F S) (en : h3 184 F = b + k) (es : h3 186 F = st) (st0 : 0 ≤ st) (st1 : st < 1000) (eo : g0 161 (b + k) = c) (cc : c = 71 ∨ c = 77) (hp : rP g0 (b + k) c P) (Ps : P < st) (l : h3 135 79 = out) (v0 : 0 ≤ out) (q : out < nv' ∧ nv ≤ nv' ∧ s ≤ s' ∧ nv' + s ≤ s' + nv + 1) : Lr d Q h3 := by
  have B := T.1
  have T1 := T.2.1
  have hp' : rP h3 (b + k) c P := by
    unfold rP at *
    rw [B 163 _ (by omega) (by omega), B 153 _ (by omega) (by omega), B 153 _ (by omega) (by omega)]
    exact hp
  refine r_go (by omega) T1.1 T1.2.2.2.2 F0 F1 en n0 n1 es st0 st1 ((B 161 _ (by omega) (by omega)).trans eo) (by omega) hp' ?_
  have Tg : RvS h0 g0 sk sv (stp h3 F st) (F + 1) s' dp' nv' := RvS_pile rk T (fun a i p q => stp_lo (by omega) (by omega)) ((stp_lo (by omega) (by omega)).trans T1.1)
  have ll : stp h3 F st 135 79 = out := (stp_lo (by omega) (by omega)).trans l
  have fin : Go (d - 1) M_Mo_runStep 203 [(22, 135), (0, F), (0, b + k), (0, c), (0, st), (0, P)] [] (stp h3 F st) (fun _ k => Lr d Q k) := by
    refine N_Mo_runStep_203 ⟨fun z => by omega, fun _ => ⟨by omega, ?_⟩⟩
    rw [ll]
    exact r_fin rk F0 F1 HG Tg (fun a i p => (stp_lo (by omega) (by omega)).trans (X a i p)) v0 q
  exact N_Mo_runStep_164 ⟨fun _ => ⟨fun _ => fin, fun _ => ⟨fun z => by omega, fun _ => fin⟩⟩, fun z => by omega⟩
theorem r_lts3 {d : Nat} {h : HP} {F nd j bs : Int} {Q : PQ} (hd : 0 < d) (F0 : 0 ≤ F) (F1 : F ≤ 59) (b0 : 0 ≤ bs) (b1 : bs ≤ 400) (j0 : 0 ≤ j ∧ j < 6) (H : ∀ g : HP, (∀ a i, ¬ (a = 188 ∧ bs ≤ i) → g a i = h a i) → (∀ i, 0 ≤ i → i < 3 → g 188 (bs + i) = h 187 (3 * F + i)) → Go (d - 1) M_Mo_runBegins 0 [(22, 135), (0, 100 * j), (0, bs)] [] g (fun _ k => Q 0 k)) : Go d M_Mo_runBody 41 [(22, 135), (0, F), (0, nd), (0, j), (0, bs), (0, 0)] [] h Q := by
  refine up_loop (P := fun t => ∀ g : HP, (∀ a i, ¬ (a = 188 ∧ bs ≤ i) → g a i = h a i) → (∀ i, 0 ≤ i → i < t → g 188 (bs + i) = h 187 (3 * F + i)) → Go d M_Mo_runBody 41 [(22, 135), (0, F), (0, nd), (0, j), (0, bs), (0, t)] [] g Q) (show (0 : Int) ≤ 3 by omega) ?_ ?_ h (fun _ _ _ => rfl) (fun i i0 i1 => by omega)
  · intro g o e
    exact N_Mo_runBody_41 ⟨fun _ => ⟨by unfold r32; omega, hd, H g o e⟩, fun z => absurd z (by decide)⟩
  · intro t t0 t1 ih g o e
    refine N_Mo_runBody_41 ⟨fun z => by omega, fun _ => ⟨by unfold r32; omega, by unfold r32; omega, by unfold r32; omega, by omega, by omega, fun g2 e2 => ⟨by unfold r32; omega, ih g2 (fun a i p => ?_) (fun i i0 i1 => ?_)⟩⟩⟩
    · rw [e2, up2_ext (by omega)]; exact o a i p
    · by_cases z : i = t
      · rw [e2, z, up2_eq]; exact o 187 _ (by omega)
      · rw [e2, up2_ext (by omega)]; exact e i i0 (by omega)
/-- G -/
theorem s_call {h0 g0 : HP} {sk sv : Int → Int} {N : Nat} {c b Nn p k sc base F s dp nv out s' dp' nv' : Int} {env : Int → Int} {h : HP} {d : Nat} {Q : PQ} (rk : RvK h0 g0) (R : RvT h0 g0 sk sv N) (hd : 30 < d) (hN : 1001 - s ≤ N + 1) (I : RvI h0 g0 sk sv c b Nn p k sc base F s dp nv env h) (cc : bA (h0 (c + 1)) (h0 c 2) p = 71) (E : erb h0 sk sv c p sc env (F + 1) s dp nv out s' dp' nv') (HG : RvG h0 g0 sk sv h F (base + sc) s nv out s' dp' nv' d Q) (HB : RvD g0 out Q) : Lr d Q h := by
  obtain ⟨nb, nn, ⟨F0, F1⟩, T, nl, top, ss, ev⟩ := I
  have N1 := RN_out nn
  have kr := RN_r nn
  have b3 := NB_b nb
  have Nk : okD (bA (h0 (c + 1)) (h0 c 2)) (nPn (h0 36 4) Nn) 71 (p + 1) ∧ g0 163 (b + k) = bA (h0 (c + 1)) (h0 c 2) (p + 1) - 48 ∧ KID (fun x i => g0 x (b + i)) (h0 (c + 2)) (RN h0 g0 c b Nn) (ppr h0 71 (bA (h0 (c + 1)) (h0 c 2) (p + 1) - 48)).toNat (p + 2) (g0 164 (b + k)) sc := by
    rcases N1.2 with l | ⟨x, _⟩ | ⟨_, K⟩ | ⟨x, _⟩
    · unfold lfO at l; omega
    · rw [cc] at x; exact absurd x (by decide)
    · rw [cc] at K; exact K
    · omega
  obtain ⟨ok, e163, kid⟩ := Nk
  have ok1 := ok.1
  have nbN := nb.2
  have ok3 : bA (h0 (c + 1)) (h0 c 2) (p + 1) - 48 < h0 36 5 := by
    have : bA (h0 (c + 1)) (h0 c 2) (p + 1) - 48 < Nn := ok.2.2
    omega
  have E' := EB_G (CB := fun c => bA (h0 (c + 1)) (h0 c 2)) E cc
  clear E
  have e166 : g0 166 (b + k) = sc := N1.1.2.2.1
  have eo0 : g0 161 (b + k) = 71 := N1.1.1.trans cc
  generalize hj : bA (h0 (c + 1)) (h0 c 2) (p + 1) - 48 = j at *
  have rj := rk.2.2 j (by omega) ok3
  have n6 := rk.1.2
  have hp0 : rP g0 (b + k) 71 ((ppr h0 71 j).toNat : Nat) := Or.inr (Or.inl ⟨rfl, by omega, by rw [e163, rj.1.1]; omega⟩)
  refine r_prt (n := (ppr h0 71 j).toNat) rk R hd hN nb kr kid eo0 (by omega) hp0 (by omega) F0 F1 ss ev (fun acc h' s2 d2 n2 kk al T2 X2 top2 sto2 dl => ?_) HB (ppr h0 71 j).toNat 0 [] h s dp nv (by omega) rfl E' T (RvX_refl _ _ _) top (fun i x ex => by rw [List.getElem?_nil] at ex; cases ex) (by omega)
  have T2s := T2.2.2.1
  have ef : h' 163 (b + k) = j := (T2.1 163 _ (by omega) (by omega)).trans e163
  have es : h' 166 (b + k) = sc := (T2.1 166 _ (by omega) (by omega)).trans e166
  have em : h' 167 j = g0 167 j := T2.1 167 _ (by omega) (by omega)
  refine N_Mo_runStep_164 ⟨fun _ => ⟨fun z => absurd z (by decide), fun _ => ⟨fun z => absurd rfl z, fun _ => N_Mo_runStep_203 ⟨fun _ => ⟨fun _ => ⟨by omega, N_Mo_runBody_0 ?_⟩, fun z => absurd z (by decide)⟩, fun z => absurd z (Int.lt_irrefl _)⟩⟩⟩, fun z => absurd z (Int.lt_irrefl _)⟩
  rw [ef, es, em, top2.2.1]
  refine ⟨by omega, by omega, fun nz => ⟨by omega, by omega, by unfold r32; omega, ?_⟩, fun z g1 e1 => ?_⟩
  · -- the body
    have bod : h0 40 j = 1 ∧ ∃ N, N ≤ h0 36 5 ∧ RN h0 g0 (63 + 5 * j) (100 * j) N 0 0 (ppr h0 71 j) := by
      rcases rj.2 with ⟨a, _, x⟩ | ⟨_, a⟩
      · exact ⟨a, x⟩
      · exact absurd a nz
    obtain ⟨h40, N', N1', nn'⟩ := bod
    have kk' : er h0 sk sv (63 + 5 * j) 0 (ppr h0 71 j) (fun i => acc.getD i.toNat 0) (F + 1 + 1) s2 d2 n2 out s' dp' nv' := by
      rcases kk with ⟨x, _⟩ | ⟨_, x⟩
      · exact absurd h40 x
      · exact x
    refine r_lts3 (by omega) F0 F1 (by omega) (by omega) (by omega) (fun g og lg => ?_)
    have Tg : RvS h0 g0 sk sv g (F + 1) s2 d2 n2 := RvS_pile rk T2 (fun a i p q => og a i (by omega)) ((og 135 78 (by omega)).trans T2.2.1.1)
    have Xg : RvX h g F (base + sc) := fun a i p => (og a i (by omega)).trans (X2 a i p)
    have := r_ch (d' := d - 1 - 1 - 1) (base := base + sc) (k := 0) (b := 100 * j) (c := 63 + 5 * j) (p := 0) (Nn := N') (sc := ppr h0 71 j) (Q := Q) (d := d) rk R hd (by omega) ⟨Or.inr ⟨j, by omega, rfl, rfl⟩, N1'⟩ nn' (by omega) (by omega) Tg (by omega) (fun i i0 i1 => ?_) kk' (fun o0 h3 T3 X3 l3 q3 => ?_) HB
    · rw [Int.add_zero] at this
      exact this
    · have il : i.toNat < acc.length := by omega
      have gx : acc[i.toNat]? = some acc[i.toNat] := List.getElem?_eq_getElem il
      obtain ⟨a1, a2, a3⟩ := sto2 _ _ gx
      have ex : acc.getD i.toNat 0 = acc[i.toNat] := by rw [List.getD_eq_getElem?_getD, gx]; rfl
      rw [lg i i0 (by omega)]
      show _ = acc.getD i.toNat 0 ∧ 0 ≤ acc.getD i.toNat 0 ∧ acc.getD i.toNat 0 < n2
      rw [ex]
      rw [show ((i.toNat : Nat) : Int) = i by omega] at a1
      exact ⟨a1, a2, a3⟩
    · refine r_again (st := (ppr h0 71 j).toNat + 1) rk hd F0 F1 (by omega) (by omega) HG T3 (RvX_trans (by omega) (by omega) Xg X3) ?_ ?_ (by omega) (by omega) eo0 (Or.inl rfl) hp0 (by omega) l3 o0 (by omega)
      · rw [X3 184 F (by omega), og 184 F (by omega)]; exact top2.1
      · rw [X3 186 F (by omega), og 186 F (by omega)]; exact top2.2.2
  · -- no body
    have x : ¬ h0 40 j = 1 := by
      rcases rj.2 with ⟨_, a, _⟩ | ⟨a, _⟩
      · exact absurd z a
      · exact a
    have eout : out = -7 := by
      rcases kk with ⟨_, y⟩ | ⟨y, _⟩
      · exact y
      · exact absurd y x
    have e82 : g1 135 82 = -7 := by rw [e1, up2_eq]
    refine r_bad e82 (by omega) ?_
    subst eout
    exact HB (by omega) g1 (fun a i p q => by rw [e1, up2_ext (by omega)]; exact T2.1 a i p q) e82
end
