section
theorem r_bodies {d : Nat} {q0 h1 : HP} {f r w' m z : Int} {S' : Sx} {V' : Vx} {t : Tm} {Q : PQ} (hd : 60 < d) (rf : ∀ a i, 134 < a → h1 a i = q0 a i) (T : TxR q0) (D : DcR q0) (O : DcO q0) (b : h1 135 14 = 0 ∧ h1 135 16 = 0 ∧ h1 135 19 = 0) (f0 : 0 ≤ f) (f1 : f < q0 36 5) (rd : RD (bA (q0 31) (q0 30 2)) (q0 32) (nPr q0) (ppr q0) (llr q0) 0 (ppr q0 71 f) (q0 30 2) r w' m) (rg : -300 ≤ r) (rg2 : r ≤ 100) (zb : z ≤ 1010)
    (HF : r ≠ q0 30 2 → ∀ k3 : HP, RdF h1 k3 → (r < 0 → r = -(2 * k3 135 36 + k3 135 37) ∧ 1 ≤ k3 135 37 ∧ k3 135 37 ≤ 2) → (0 ≤ r → k3 135 36 = r ∧ k3 135 37 = 1) → ∀ g : HP, g = up2 k3 135 24 (k3 135 37) → Q (-10 - k3 135 36) g)
    (J : r = q0 30 2 → jj q0 30 0 (Gf q0 f) (ppr q0 71 f) (some (tf q0 f)) S0x (Vf q0 f) 0 z S' V' t)
    (HZ : r = q0 30 2 → z ≠ 0 → ∀ k g : HP, BfR h1 k → z = 10 * k 135 65 + k 135 66 → (1 ≤ k 135 66 ∧ k 135 66 ≤ 9) → g = up2 k 135 24 (k 135 66) → Q (-10 - k 135 65) g)
    (HG : r = q0 30 2 → z = 0 → ∀ (k g : HP) (N : Int), BfR h1 k → (0 < N ∧ N ≤ 100) → (∀ x i, ¬ (161 ≤ x ∧ x ≤ 166 ∧ 100 * f ≤ i ∧ i < 100 * f + N) → ¬ (x = 167 ∧ i = f) → g x i = k x i) → NX (fun x i => g x (100 * f + i)) (bA (q0 31) (q0 30 2)) (q0 32) (nPr q0) (ppr q0) 0 0 (ppr q0 71 f) → g 167 f = m → Q m g) :
    Go d M_Mo_bodies 0 [(22, 135), (0, f), (2, 0)] [] h1 Q := by
  have d1 := D.1
  have bc : BC q0 30 := ⟨Or.inl rfl, ⟨T.1.1, T.1.2.1⟩, D, O⟩
  have s := (D.2.2 f f0 f1).1
  have sp : q0 153 (10 + f) = ppr q0 71 f := s.2.1
  have s3 : 0 ≤ ppr q0 71 f ∧ ppr q0 71 f ≤ 3 := s.2.2.2.2.1
  have e31 : h1 135 31 = q0 36 5 := (rf 135 31 (by omega)).trans d1.2.2.2.2.2
  refine N_Mo_bodies_0 ⟨by omega, c_isFunc (by omega) (by omega) (by omega) (fun _ _ => ⟨fun _ => ⟨by omega, c_takes (n := q0 30 2) ((rf 135 33 (by omega)).trans T.1.2.2) T.1.1 T.1.2.1 (fun k2 o2 l2 z2 r2 => ⟨by unfold r32; omega, by omega, by omega, ?_⟩)⟩, fun z => absurd z (by decide)⟩) (fun z => by omega)⟩
  rw [(o2 153 (10 + f) (by omega) (by omega) (by omega)).trans ((rf 153 _ (by omega)).trans sp)]
  refine r_tree (by omega) rf T D o2 l2 z2 r2 s3.1 s3.2 rd (fun e k3 R3 m3 na nb N3 => ⟨fun _ => ⟨by omega, ?_⟩, fun z => absurd z (by decide)⟩) (fun ne k3 R3 ea eb => ⟨fun z => absurd rfl z, fun _ => ⟨by omega, fun g14 e14 => ⟨?_, HF ne k3 R3 ea eb g14 e14⟩⟩⟩)
  · refine q_apart (fun g0 o0 v0 e0 => ⟨by unfold r32; omega, by omega, ?_⟩)
    have J := J e
    have G : gd q0 30 0 (ppr q0 71 f) (q0 30 2) r w' := ⟨m, rd, by have := T.1.1; omega⟩
    have og : ∀ a i, 150 < a → a < 157 → g0 a i = q0 a i := fun a i p q => by rw [o0 a i (by omega), R3.1 a i (by omega) (by omega) (by omega) (by omega), rf a i (by omega)]
    have bd : BD q0 g0 30 := ⟨bc, fun a i p q => og a i p (by omega), by rw [o0 135 30 (by omega), R3.1 135 30 (by omega) (by omega) (by omega) (by omega), rf 135 30 (by omega)]⟩
    obtain ⟨⟨s0', s1'⟩, e152, e153, e151, _, fmG⟩ := q_sig bd (Or.inr rfl) f0 (show f < nPr q0 71 from f1)
    rw [show sI 71 f = 10 + f from rfl] at s0' s1' e152 e153 e151
    have ce := cel_ok bc (Or.inr rfl) f0 (show f < nPr q0 71 from f1)
    obtain ⟨_, _, _, _, _, ⟨l0, l1⟩, ⟨n0, n3⟩, Od⟩ := ce
    have M0 : MV g0 (fun _ => tI) S0x V0x := MV_0 (by omega) (by omega) (by omega) (by omega) (by omega) _
    have f6 := fmG rfl
    refine c_tells (b := sbr q0 71 f) (n := llr q0 71 f) (mu := mu0) (by omega) M0 FrN_0 (Or.inl rfl) (by omega) s0' s1' l0 l1 e152 e151 (by rw [Od]; exact n0) (by omega) (fun k4 tm4 M4 X4 tl n4 o4 => ?_)
    rw [v0.2.2.2.2.1] at M4
    refine r_lets f0 f6 n0 n3 ((o4.1 153 _ (by omega)).trans e153) (fun k5 o5 r5 => ?_)
    have lL := sgL_len (mu := mu0) l0 n0 Od
    have lF := sgF_get (sb' := sbr q0) (ll := llr q0) (pp := ppr q0) (k := 71) (j := f) (mu := mu0) rfl n0 lL
    have gI := sgI_get (mu := mu0) l0 n0 Od
    have la := (tl _ _ gI).2 (by omega)
    have lc : LcM k4 k5 := ⟨fun i p q => o5 _ _ (by omega), fun a i p q r => o5 _ _ (by omega)⟩
    have qb5 : QB g0 k5 := QB_trans (OuT_QB o4) ⟨fun a i p => o5 a i (by omega), fun i p => o5 _ _ (by omega)⟩
    have lo5 : LO g0 k5 := LO_trans (ExN_LO M0 ⟨v0.1, v0.2.2.2.2.1, v0.2.2.2.2.2⟩ (Int.le_refl 0) X4.1) (LcM_LO lc)
    have x14 : k4 135 14 = 100 := X4.1.1.1.trans v0.1
    have x18 : k4 135 18 = 0 := X4.1.1.2.2.1.trans v0.2.2.2.2.1
    have x19 : k4 135 19 = 16 := X4.1.1.2.2.2.trans v0.2.2.2.2.2
    have e15 : k5 135 15 = k4 135 15 := o5 135 15 (by omega)
    have nn : nx q0 g0 30 0 0 (ppr q0 71 f) := N3 _ (fun x i x0 x1 i0 i1 _ => o0 x _ (by omega))
    have e1 : k5 153 (10 + f) = ppr q0 71 f := by rw [o5 153 _ (by omega), o4.1 153 _ (by omega)]; exact e153
    refine N_Mo_bodies_64 ⟨by unfold r32; omega, by omega, fun _ => ⟨by omega, by omega, ?_⟩, fun z => by omega⟩
    refine r_check (S := S0x) (V := Vf q0 f) (Γ := Gf q0 f) (tm := tm4) (by omega) bd qb5 lo5 (MV_loc lc M4) ⟨(o5 135 14 (by omega)).trans x14, (o5 135 18 (by omega)).trans x18, (o5 135 19 (by omega)).trans x19⟩ (fun i i0 i1 => ?_) (by omega) nn G n0 n3 ?_ J (fun z0 k6 tm6 T6 _ _ => ⟨by omega, ?_⟩) (fun z0 k6 F6 => ⟨by omega, ?_⟩)
    · have il : (i - 0).toNat < (sgF (sbr q0) (llr q0) (ppr q0) 71 f mu0).length := by have := lF.1; omega
      have gt : (sgF (sbr q0) (llr q0) (ppr q0) 71 f mu0)[(i - 0).toNat]? = some ((sgF (sbr q0) (llr q0) (ppr q0) 71 f mu0)[(i - 0).toNat]) := List.getElem?_eq_getElem il
      have gt2 := gt
      rw [lF.2 _ (by omega)] at gt2
      have u := (tl _ _ gt2).1 (by omega)
      rw [show (0 : Int) + (((i - 0).toNat : Nat) : Int) = i by omega] at u
      rw [r5 i i0 i1, e15]
      refine ⟨by have := u.1; omega, u.2.1, ?_⟩
      show EqS S0x _ (exG (fun _ => tI) 0 (sgF (sbr q0) (llr q0) (ppr q0) 71 f mu0) i)
      rw [exG_hi i0 gt, u.2.2]
      exact EqS_rfl
    · refine ⟨?_, ?_⟩
      · rw [o5 158 3 (by omega), e15]
        exact ⟨by have := la.1; omega, la.2.1⟩
      · rw [o5 158 3 (by omega), la.2.2]
        exact EqS_rfl
    · refine q_together (fun g7 o7 e7 => ?_)
      have F := BfR_of b R3 o0 e0 T6.1 T6.2.1 o7 e7
      have e65 : g7 135 65 = -1 := (o7 135 65 (by omega)).trans T6.2.2.1.2.2.1.2
      have e48 : g7 135 48 = k3 135 48 := by rw [o7 135 48 (by omega), T6.1.2 48 (by omega), o0 135 48 (by omega)]
      have e49 : g7 135 49 = m := by rw [o7 135 49 (by omega), T6.1.2 49 (by omega), o0 135 49 (by omega)]; exact m3
      refine ⟨fun _ => ⟨by omega, c_keepsBody (N := k3 135 48) f0 f6 e48 (by omega) nb (fun g8 o8 r8 e8 => ?_)⟩, fun z => absurd e65 z⟩
      have e89 : g8 135 49 = m := (o8 135 49 (by omega) (by omega)).trans e49
      rw [e89]
      refine HG e z0 g7 g8 (k3 135 48) F ⟨na, nb⟩ o8 (N3 _ (fun x i x0 x1 i0 i1 _ => ?_)) (e8.trans e49)
      show g8 x (100 * f + i) = k3 x (600 + i)
      rw [r8 x i x0 x1 i0 i1, o7 x _ (by omega), T6.1.1 x _ (by omega), o0 x _ (by omega)]
    · refine q_together (fun g7 o7 e7 => ?_)
      have F := BfR_of b R3 o0 e0 F6.1 F6.2.1 o7 e7
      have f65 : g7 135 65 = k6 135 65 := o7 135 65 (by omega)
      have f66 : g7 135 66 = k6 135 66 := o7 135 66 (by omega)
      have fz := F6.2.2
      refine ⟨fun z => by omega, fun _ => ⟨by omega, fun g9 e9 => ⟨?_, HZ e z0 g7 g9 F (by omega) (by omega) e9⟩⟩⟩
      unfold r32
      omega
  · by_cases c : r < 0
    · have := ea c
      unfold r32
      omega
    · have := eb (by omega)
      unfold r32
      omega
end
