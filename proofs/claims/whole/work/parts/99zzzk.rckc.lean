section
/-! a case of a match in the reference -/
theorem q_lets {d : Nat} {h : HP} {f nd one L j n sc : Int} {Q : PQ} (n0 : 0 ≤ n) (n3 : n ≤ 3) (hn : h 153 j = n) (j0 : 0 ≤ j) (j1 : j < 16) (sc0 : 0 ≤ sc) (sc1 : sc + n ≤ 140) (nd0 : 0 ≤ nd) (nd1 : nd < 700) (e166 : h 166 nd = sc) (H : ∀ g : HP, (∀ a i, ¬ (a = 178 ∧ sc ≤ i) → g a i = h a i) → (∀ i, 0 ≤ i → i < n → g 178 (sc + i) = h 158 i) → Go d M_Mo_opensCase 94 [(22, 135), (0, f), (0, nd), (0, one), (0, L), (0, j), (0, n)] [] g Q) : Go d M_Mo_opensCase 94 [(22, 135), (0, f), (0, nd), (0, one), (0, L), (0, j), (0, 0)] [] h Q := by
  have loop : ∀ v, 0 ≤ v → v ≤ n → ∀ g : HP, (∀ a i, ¬ (a = 178 ∧ sc ≤ i) → g a i = h a i) → (∀ i, 0 ≤ i → i < v → g 178 (sc + i) = h 158 i) → Go d M_Mo_opensCase 94 [(22, 135), (0, f), (0, nd), (0, one), (0, L), (0, j), (0, v)] [] g Q := by
    intro v v0 v1
    refine up_loop (P := fun v => ∀ g : HP, (∀ a i, ¬ (a = 178 ∧ sc ≤ i) → g a i = h a i) → (∀ i, 0 ≤ i → i < v → g 178 (sc + i) = h 158 i) → Go d M_Mo_opensCase 94 [(22, 135), (0, f), (0, nd), (0, one), (0, L), (0, j), (0, v)] [] g Q) v1 ?_ ?_
    · intro g o e
      exact H g o e
    · intro u u0 u1 ih g o e
      have e1 : g 153 j = n := (o 153 j (by omega)).trans hn
      have e2 : g 166 nd = sc := (o 166 nd (by omega)).trans e166
      refine N_Mo_opensCase_94 ⟨by omega, fun z => by omega, fun _ => ?_⟩
      rw [e2]
      refine ⟨by omega, by unfold r32; omega, by omega, by omega, fun g2 e2 => ⟨by unfold r32; omega, ih g2 (fun a i q => ?_) (fun i i0 i1 => ?_)⟩⟩
      · rw [e2, up2_ext (by omega)]; exact o a i q
      · by_cases z : i = u
        · rw [e2, z, up2_eq]; exact o 158 u (by omega)
        · rw [e2, up2_ext (by omega)]; exact e i i0 (by omega)
  exact loop 0 (by omega) n0 h (fun _ _ _ => rfl) (fun i i0 i1 => by omega)
theorem exG_lo {Γ : Int → Tm} {sc : Int} {l : List Tm} {i : Int} (h : i < sc) : exG Γ sc l i = Γ i := if_neg (by omega)
theorem exG_hi {Γ : Int → Tm} {sc : Int} {l : List Tm} {i : Int} {t : Tm} (h : sc ≤ i) (e : l[(i - sc).toNat]? = some t) : exG Γ sc l i = t := by
  unfold exG
  rw [if_pos h, List.getD_eq_getElem?_getD, e]
  rfl
theorem q_case {q0 g0 g3 : HP} {A p k sc D f m1 z ty L x j q wq r1 u1 one st y v : Int} {N : Nat} {tm1 : Int → Tm} {S1 : Sx} {V1 : Vx} {Γ : Int → Tm} {g a : Tm} {mu : Int → Nat} {K : Prop} {d : Nat} {Q : PQ} (bc : BD q0 g0 A) (R : RkT q0 g0 A N) (hd : 40 < d) (p0 : 0 ≤ p) (hN : q0 A 2 - p ≤ N) (s1 : 0 ≤ sc ∧ sc ≤ 3 + p) (d0 : 0 ≤ D) (s3 : 4 * D ≤ p) (f0 : 0 ≤ f) (f1 : f ≤ 2 * p) (k0 : 0 ≤ k) (k1 : k < 100) (eo : g0 161 (600 + k) = 77) (efc : g0 166 (600 + k) = sc) (o0 : 0 ≤ one) (o1 : one < 100) (ep : g0 162 (600 + one) = q) (nk : nx q0 g0 A (q + 1) (g0 164 (600 + one)) (sc + ppr q0 67 j)) (G1 : gd q0 A (q + 1) (sc + ppr q0 67 j) (wq + llr q0 67 j) r1 u1) (q3 : p + 3 ≤ q) (qn : q < q0 A 2) (w0 : wq + llr q0 67 j ≤ 240) (w1 : q0 A 2 ≤ wq) (hm : m1 ≤ 148 + 4 * q + 2 * (wq - q0 A 2)) (j0 : 0 ≤ j) (j1 : j < q0 36 4) (st0 : 0 ≤ st) (st1 : st < 500)
    (T : QT g0 g3 tm1 S1 V1 D sc Γ (f + 1) m1) (F : FrN V1 mu) (xr : 100 ≤ x ∧ x < g3 135 15) (ex : EqS S1 (tm1 x) a) (yr : 100 ≤ y ∧ y < g3 135 15) (ye : EqS S1 (tm1 y) g) (fr : g3 173 f = 600 + k ∧ g3 174 f = y ∧ g3 175 f = st + 1 ∧ g3 176 f = L ∧ g3 177 (4 * f) = v) (st2 : 1 ≤ st)
    (hz : (¬ Sat (Snd S1 (sgR' (sbr q0) (llr q0) (ppr q0) 67 j mu) a) ∧ z = 10 * q + 8) ∨ ((Sat (Snd S1 (sgR' (sbr q0) (llr q0) (ppr q0) 67 j mu) a) ∧ ClA (Snd S1 (sgR' (sbr q0) (llr q0) (ppr q0) 67 j mu) a) (nV V1 mu (Oc (sbr q0 67 j) 0 (llr q0 67 j)) (7, D + 1))) ∧ thJ (jj q0 A) (q + 1) (exG Γ sc (sgF (sbr q0) (llr q0) (ppr q0) 67 j mu)) (sc + ppr q0 67 j) (some g) (Snd S1 (sgR' (sbr q0) (llr q0) (ppr q0) 67 j mu) a) (nV V1 mu (Oc (sbr q0 67 j) 0 (llr q0 67 j)) (7, D + 1)) (D + 1) z (fun _ _ _ => K)))
    (H1 : K → ∀ g8, QT g0 g8 tm1 S1 V1 D sc Γ (f + 1) m1 → XM g3 tm1 g8 tm1 → QX g3 g8 f sc → (g8 173 f = 600 + k ∧ g8 174 f = y ∧ g8 175 f = st + 2 ∧ g8 176 f = L ∧ g8 177 (4 * f) = v) → Go (d - 1 - 1) M_Mo_match 109 [(22, 135), (0, f), (0, 600 + k), (0, st + 1), (2, 0)] [] g8 (fun _ k => Lp d ty Q k)) (H0 : z ≠ 0 → ∀ h', QF g0 h' z → Q 0 h') :
    Go (d - 1 - 1 - 1 - 1) M_Mo_branchClashes 0 [(22, 135), (0, j), (0, x)] [] g3 (fun y4 k4 => (y4 = 0 → Go (d - 1 - 1 - 1) M_Mo_opensCase 94 [(22, 135), (0, f), (0, 600 + k), (0, 600 + one), (0, L), (0, j), (0, 0)] [] k4 (fun _ k8 => Lp d ty Q k8)) ∧ (y4 ≠ 0 → 0 < d - 1 - 1 - 1 ∧ (0 ≤ 600 + one ∧ 600 + one < 700) ∧ ∀ g5 : HP, g5 = up2 k4 135 65 (k4 162 (600 + one)) → ∀ g6 : HP, g6 = up2 g5 135 66 8 → Lp d ty Q g6)) := by
  have bn := bc.1.2.1
  have dd := bc.1.2.2.1.1
  have eq : Snd S1 (sgR' (sbr q0) (llr q0) (ppr q0) 67 j mu) (tm1 x) = Snd S1 (sgR' (sbr q0) (llr q0) (ppr q0) 67 j mu) a := Snd_eq EqS_rfl ex
  obtain ⟨_, _, e153, _, _, _⟩ := q_sig bc (Or.inl rfl) j0 (show j < nPr q0 67 from j1)
  rw [show sI 67 j = j from rfl] at e153
  obtain ⟨_, _, _, _, _, ⟨l0, l1⟩, ⟨n0, n3⟩, O⟩ := cel_ok bc.1 (Or.inl rfl) j0 (show j < nPr q0 67 from j1)
  have lL := sgL_len (mu := mu) l0 n0 O
  have lF := sgF_get (sb' := sbr q0) (ll := llr q0) (pp := ppr q0) (k := 67) (j := j) (mu := mu) rfl n0 lL
  have lw := bc_w bc.1 _ _ _ _ _ (by omega) G1
  have x14 := T.2.2.1.2.1.1
  replace hz := hid_in hz
  refine q_brC (mu := mu) bc (by omega) j0 j1 T d0 (by omega) F (by omega) xr (fun sa g4 tm4 T4 X4 o4 tl => ⟨fun _ => ?_, fun z => absurd rfl z⟩) (fun ns g4 tm4 b4 l4 X4 o4 h15 => ⟨fun z => absurd z (by decide), fun _ => ⟨by omega, by omega, ?_⟩⟩)
  · -- the branch stands
    rw [eq] at sa T4
    have J : thJ (jj q0 A) (q + 1) (exG Γ sc (sgF (sbr q0) (llr q0) (ppr q0) 67 j mu)) (sc + ppr q0 67 j) (some g) (Snd S1 (sgR' (sbr q0) (llr q0) (ppr q0) 67 j mu) a) (nV V1 mu (Oc (sbr q0 67 j) 0 (llr q0 67 j)) (7, D + 1)) (D + 1) z (fun _ _ _ => K) := by
      rcases hid_out hz with ⟨n, _⟩ | ⟨_, H⟩
      · exact absurd sa n
      · exact H
    refine q_lets (n := ppr q0 67 j) (sc := sc) n0 n3 ((T4.1.1 153 _ (by omega)).trans e153) j0 (by omega) s1.1 (by omega) (by omega) (by omega) ((T4.1.1 166 _ (by omega)).trans efc) (fun g5 o5 r5 => ?_)
    have e15b : (brH g3) 135 15 = g3 135 15 := brH_o (by decide) (by decide) (by omega)
    have e14b : (brH g3) 135 14 = g3 135 14 := brH_o (by decide) (by decide) (by omega)
    have x4 := X4.1.2.1
    have y14 := T4.2.2.1.2.1.1
    have lc : LcM g4 g5 := ⟨fun i p q => o5 _ _ (by omega), fun a i p q r => o5 _ _ (by omega)⟩
    have T5 : QT g0 g5 tm4 (Snd S1 (sgR' (sbr q0) (llr q0) (ppr q0) 67 j mu) a) (nV V1 mu (Oc (sbr q0 67 j) 0 (llr q0 67 j)) (7, D + 1)) (D + 1) (sc + ppr q0 67 j) (exG Γ sc (sgF (sbr q0) (llr q0) (ppr q0) 67 j mu)) (f + 1) (m1 + 2 * llr q0 67 j) := by
      obtain ⟨tb, tl', ⟨M0, q00, t62, ts⟩, tm0⟩ := T4
      refine ⟨QB_trans tb ⟨fun a i p => o5 a i (by omega), fun i p => o5 _ _ (by omega)⟩, LO_trans tl' (LcM_LO lc), ⟨MV_loc lc M0, ?_, ?_, fun i i0 i1 => ?_⟩, ?_⟩
      · rw [o5 135 14 (by omega), o5 135 18 (by omega), o5 135 19 (by omega)]; exact q00
      · rw [o5 135 62 (by omega), o5 135 65 (by omega)]; exact t62
      · rw [o5 135 15 (by omega)]
        by_cases c : i < sc
        · rw [o5 178 i (by omega), exG_lo c]
          exact ts i i0 c
        · have e := r5 (i - sc) (by omega) (by omega)
          rw [show sc + (i - sc) = i by omega] at e
          have il : (i - sc).toNat < (sgF (sbr q0) (llr q0) (ppr q0) 67 j mu).length := by have := lF.1; omega
          have gt : (sgF (sbr q0) (llr q0) (ppr q0) 67 j mu)[(i - sc).toNat]? = some ((sgF (sbr q0) (llr q0) (ppr q0) 67 j mu)[(i - sc).toNat]) := List.getElem?_eq_getElem il
          have gt2 := gt
          rw [lF.2 _ (by omega)] at gt2
          have u := (tl _ _ gt2).1 (by omega)
          rw [show (0 : Int) + (((i - sc).toNat : Nat) : Int) = i - sc by omega] at u
          rw [e, exG_hi (by omega) gt]
          refine ⟨by have := u.1; omega, u.2.1, ?_⟩
          rw [u.2.2]
          exact EqS_rfl
      · rw [o5 135 15 (by omega)]; exact tm0
    have fr5 : g5 173 f = 600 + k ∧ g5 174 f = y ∧ g5 175 f = st + 1 ∧ g5 176 f = L ∧ g5 177 (4 * f) = v := by
      have e : ∀ a i, 160 < a → a < 178 → g5 a i = g3 a i := fun a i p q => (o5 a i (by omega)).trans (o4.1 a i (by omega))
      rw [e 173 f (by omega) (by omega), e 174 f (by omega) (by omega), e 175 f (by omega) (by omega), e 176 f (by omega) (by omega), e 177 _ (by omega) (by omega)]
      exact fr
    have nkr := nx_r nk
    have y5 : y < g5 135 15 := by rw [o5 135 15 (by omega)]; omega
    refine N_Mo_opensCase_94 ⟨by omega, fun _ => ⟨by omega, c_child (R := fun x i => g0 x (600 + i)) (i := 0) (QB_ag T5.1) o0 o1 (by omega) (fun i hi => ?_) ⟨by omega, by omega, q_psh (F := f + 1) T5.2.2.1.2.2.1.1 (by omega) (by omega) ?_⟩⟩, fun z => ?_⟩
    · have : i = 0 := by omega
      subst this
      exact nkr
    · rw [fr5.2.1]
      refine q_th (R (some g)) hd ⟨⟨by omega, by omega⟩, G1, ⟨w0, by omega⟩, ⟨by omega, by omega, by omega⟩, ⟨by omega, by show f + 1 ≤ 2 * (q + 1); omega⟩, by omega⟩ nk T5 ⟨⟨yr.1, y5⟩, ?_⟩ J (fun S6 V6 t6 h6 tm6 J6 T6 X6 q6 _ _ sub6 => ?_) H0
      · rw [X4.2 y (by omega) (by omega)]
        exact EqS_sub (fun _ z => z.1) ye
      · have fr6 := QX_f q6
        have v6 : h6 177 (4 * f) = v := (q6 177 _ (by omega)).trans fr5.2.2.2.2
        have op6 : h6 161 (600 + k) = 77 := (T6.1.1 161 _ (by omega)).trans eo
        refine q_match (by omega) T6.2.2.1.2.2.1.1 T6.2.2.1.2.2.1.2 f0 (by omega) (show h6 173 f = 600 + k by omega) (by omega) (by omega) (show h6 175 f = st + 1 by omega) (by omega) (by omega) op6 ?_
        obtain ⟨T7, X7, q7⟩ := QT_st (f := f) (v := st + 1 + 1) T6
        have fr7 : up2 h6 175 f (st + 1 + 1) 173 f = 600 + k ∧ up2 h6 175 f (st + 1 + 1) 174 f = y ∧ up2 h6 175 f (st + 1 + 1) 175 f = st + 2 ∧ up2 h6 175 f (st + 1 + 1) 176 f = L ∧ up2 h6 175 f (st + 1 + 1) 177 (4 * f) = v := ⟨by rw [up2_nc (by decide)]; omega, by rw [up2_nc (by decide)]; omega, by rw [up2_eq]; omega, by rw [up2_nc (by decide)]; omega, by rw [up2_nc (by decide)]; exact v6⟩
        generalize up2 h6 175 f (st + 1 + 1) = h7 at T7 X7 q7 fr7 ⊢
        have qx : QX g3 h7 f sc := by
          intro a' i' pp'
          rw [q7 a' i' (by omega), q6 a' i' (by omega), o5 a' i' (by omega)]
          exact o4.1 a' i' (by omega)
        have X45 : XM g4 tm4 g5 tm4 := XM_loc (LcM_of fun _ _ _ => rfl) lc (XM_refl g4 tm4)
        refine N_Mo_match_0 ⟨by omega, fun _ => ⟨fun _ => ⟨fun _ => ⟨by omega, ?_⟩, fun z => by omega⟩, fun z => by omega⟩, fun z => by omega⟩
        refine q_unbr (by omega) T d0 (by omega) (XM_trans X4 (XM_trans X45 (XM_trans X6 X7))) T7.1 (fun i il => qx 178 i (by omega)) (by rw [T7.2.2.1.2.2.1.1, T.2.2.1.2.2.1.1]) (by rw [T7.2.2.1.2.2.1.2, T.2.2.1.2.2.1.2]) (MV_b T7.2.2.1.1).2.2 (fun v8 g8 T8 o8 X8 => ?_)
        refine H1 J6 g8 T8 X8 (QX_trans (Int.le_refl _) (Int.le_refl _) qx (OuM_QX o8)) ?_
        rw [o8.1 173 f (by omega), o8.1 174 f (by omega), o8.1 175 f (by omega), o8.1 176 f (by omega), o8.1 177 _ (by omega)]
        exact fr7
    · have e : g5 153 j = ppr q0 67 j := (T5.1.1 153 _ (by omega)).trans e153
      omega
  · rw [eq] at ns
    have ez : z = 10 * q + 8 := by
      rcases hid_out hz with ⟨_, e⟩ | ⟨sa, _⟩
      · exact e
      · exact absurd sa.1 ns
    have e2 : g4 162 (600 + one) = q := (b4.1 162 _ (by omega)).trans ep
    refine q_flt b4 l4 (by omega) (by omega) (by omega) (fun g9 F9 => ?_)
    rw [e2, ← ez] at F9
    exact q_end F9 (H0 (by omega) g9 F9)
end
