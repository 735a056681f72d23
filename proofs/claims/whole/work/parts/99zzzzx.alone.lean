section
/-! an expression alone: its type, in the class and in the reference -/
theorem k_alone {d : Nat} {h : HP} {A r w' : Int} {Q : PQ} (bc : BC h A) (hd : 500 < d) (G : gd h A 0 0 (h A 2) r w')
    (H1 : ∀ (g : HP) tm S' V' x, jj h A 0 (fun _ => tI) 0 none S0x V0x 0 0 S' V' (tm x) → CV g 96 512 tm S' V' → 0 ≤ x → x < g 96 13 → (∀ a i, a < 92 ∨ 122 < a → g a i = h a i) → Q x g)
    (H0 : ∀ (g : HP) k S' V' t, jj h A 0 (fun _ => tI) 0 none S0x V0x 0 k S' V' t → k = 10 * g A 4 + g A 5 → (1 ≤ g A 5 ∧ g A 5 ≤ 9 ∧ 0 ≤ g A 4 ∧ g A 4 ≤ 100) → (∀ a i, a < 92 ∨ 122 < a → ¬ (a = A ∧ (i = 4 ∨ i = 5)) → g a i = h a i) → Q (-1) g) :
    Go d M_Checker_inferAlone 0 [(10, 92), (11, A)] [] h Q := by
  have a0 := bc.1
  have bn := bc.2.1
  refine V_Checker_inferAlone_0 ⟨by omega, k_begin (Γ := fun _ => tI) (by omega) a0 (fun g1 t1 K1 m1 o1 => ⟨by omega, ?_⟩)⟩
  have kb : KB h g1 A := fun a i p q => o1 a i (by omega)
  have s : ST h A g1 t1 S0x V0x 0 0 0 (fun _ => tI) 26 := ⟨kb, K1, by omega⟩
  refine (k_all bc (h A 2 + 1).toNat).2 0 0 (h A 2) r w' 0 0 26 g1 t1 S0x V0x (fun _ => tI) (d - 1) _ (by omega) (by omega) (by omega) G (by omega) (by omega) (by omega) (by omega) (by omega) (by omega) s (fun x g4 t4 S4 V4 j4 x0 x1 s4 X4 k4 => ?_) (fun g4 k S4 V4 u4 j4 ek b z fo => ?_)
  · exact H1 g4 t4 S4 V4 x j4 s4.2.1.1 x0 x1 (fun a i p => (k4 a i (by omega) (by omega) (by omega)).trans (o1 a i (by omega)))
  · exact H0 g4 k S4 V4 u4 j4 ek b (fun a i p q => (z a i (by omega) (by omega) (by omega) (by omega) q).trans (o1 a i (by omega)))
/-- an expression that the checker lets pass has a ground type -/
theorem a_WT {h : HP} {A r w' : Int} {S' : Sx} {V' : Vx} {t : Tm} (bc : BC h A) (G : gd h A 0 0 (h A 2) r w') (J : jj h A 0 (fun _ => tI) 0 none S0x V0x 0 0 S' V' t) : ∃ τ, wt h A 0 (fun _ => tI) 0 τ := by
  have bn := bc.2.1
  have v7 : ∀ n, 7 ≤ (V0x n).1 → (V0x n).1 = 7 := fun n q => absurd q (by show ¬ ((7 : Int) ≤ 0); omega)
  obtain ⟨R, _, _, w⟩ := jw_all bc (h A 2 + 1).toNat none 0 0 (h A 2) r w' (fun _ => tI) S0x V0x 0 S' V' t (by omega) (by omega) G J (IV_0 v7) (fun i il => VTS_c (fun _ => rfl)) trivial
  obtain ⟨θ, s, _⟩ := R.2.2.2 (fun _ => tI) trivial
  exact ⟨_, w θ s⟩
theorem r_runs {d : Nat} {q0 h1 : HP} {r w' m z : Int} {S' : Sx} {V' : Vx} {t : Tm} {Q : PQ} (hd : 60 < d) (rf : ∀ a i, 134 < a → h1 a i = q0 a i) (T : TxR q0) (D : DcR q0) (O : DcO q0) (b : h1 135 14 = 0 ∧ h1 135 16 = 0 ∧ h1 135 19 = 0) (rd : RD (bA (q0 31) (q0 30 2)) (q0 32) (nPr q0) (ppr q0) (llr q0) 0 0 (q0 30 2) r w' m) (rg : -300 ≤ r) (rg2 : r ≤ 100) (zb : z ≤ 1010)
    (HF : r ≠ q0 30 2 → ∀ k3 : HP, RdF h1 k3 → (r < 0 → r = -(2 * k3 135 36 + k3 135 37) ∧ 1 ≤ k3 135 37 ∧ k3 135 37 ≤ 2) → (0 ≤ r → k3 135 36 = r ∧ k3 135 37 = 1) → ∀ g : HP, g = up2 k3 135 24 (k3 135 37) → Q (-10 - k3 135 36) g)
    (J : r = q0 30 2 → jj q0 30 0 (fun _ => tI) 0 none S0x V0x 0 z S' V' t)
    (HZ : r = q0 30 2 → z ≠ 0 → ∀ k g : HP, BfR h1 k → z = 10 * k 135 65 + k 135 66 → (1 ≤ k 135 66 ∧ k 135 66 ≤ 9) → g = up2 k 135 24 (k 135 66) → Q (-10 - k 135 65) g)
    (HG : r = q0 30 2 → z = 0 → ∀ kz g : HP, BfR h1 kz → (∀ a i, a ≠ 192 → a ≠ 193 → ¬ (a = 135 ∧ (i = 87 ∨ i = 72 ∨ i = 78 ∨ (80 ≤ i ∧ i ≤ 82))) → g a i = kz a i) → OuR g 135 87 192 (tWr S' 200 [t]) → NX (fun x i => g x (600 + i)) (bA (q0 31) (q0 30 2)) (q0 32) (nPr q0) (ppr q0) 0 0 0 → (g 135 72 = 0 ∧ g 135 78 = 0 ∧ g 135 80 = 0 ∧ g 135 81 = 0 ∧ g 135 82 = 0) → Go (d - 1) M_Mo_runBegins 0 [(22, 135), (0, 600), (0, 0)] [] g (fun _ k => Lr d Q k)) :
    Go d M_Mo_runs 0 [(22, 135)] [] h1 Q := by
  have bc : BC q0 30 := ⟨Or.inl rfl, ⟨T.1.1, T.1.2.1⟩, D, O⟩
  refine N_Mo_runs_0 ⟨by omega, c_takes (n := q0 30 2) ((rf 135 33 (by omega)).trans T.1.2.2) T.1.1 T.1.2.1 (fun k2 o2 l2 z2 r2 => ⟨by omega, ?_⟩)⟩
  refine r_tree (sc := 0) (by omega) rf T D o2 l2 z2 r2 (by omega) (by omega) rd (fun e k3 R3 m3 na nb N3 => ⟨fun _ => ⟨by omega, ?_⟩, fun z => absurd z (by decide)⟩) (fun ne k3 R3 ea eb => ⟨fun z => absurd rfl z, fun _ => ⟨by omega, fun g14 e14 => ⟨?_, HF ne k3 R3 ea eb g14 e14⟩⟩⟩)
  · refine q_apart (fun g0 o0 v0 e0 => ⟨by omega, ?_⟩)
    have J := J e
    have G : gd q0 30 0 0 (q0 30 2) r w' := ⟨m, rd, by have := T.1.1; omega⟩
    have og : ∀ a i, 150 < a → a < 157 → g0 a i = q0 a i := fun a i p q => by rw [o0 a i (by omega), R3.1 a i (by omega) (by omega) (by omega) (by omega), rf a i (by omega)]
    have bd : BD q0 g0 30 := ⟨bc, fun a i p q => og a i p (by omega), by rw [o0 135 30 (by omega), R3.1 135 30 (by omega) (by omega) (by omega) (by omega), rf 135 30 (by omega)]⟩
    have M0 : MV g0 (fun _ => tI) S0x V0x := MV_0 (by omega) (by omega) (by omega) (by omega) (by omega) _
    have nn : nx q0 g0 30 0 0 0 := N3 _ (fun x i x0 x1 i0 i1 _ => o0 x _ (by omega))
    refine r_check (S := S0x) (V := V0x) (Γ := fun _ => tI) (tm := fun _ => tI) (go := none) (by omega) bd ⟨fun _ _ _ => rfl, fun _ _ => rfl⟩ ⟨fun _ _ _ _ => rfl, fun _ _ _ _ => rfl⟩ M0 ⟨v0.1, v0.2.2.2.2.1, v0.2.2.2.2.2⟩ (fun i i0 i1 => by omega) (by omega) nn G (by omega) (by omega) rfl J (fun z0 k6 tm6 T6 gr ge => ?_) (fun z0 k6 F6 => ?_)
    · have e65 : k6 135 65 = -1 := T6.2.2.1.2.2.1.2
      have M6 : MV k6 tm6 S' V' := T6.2.2.1.1
      have q14 : k6 135 14 = 100 := T6.2.2.1.2.1.1
      refine ⟨fun z => absurd e65 z, fun _ => ⟨by omega, r_write (by omega) M6 (by omega) gr.2 ge (fun k26 o26 f26 => ⟨by omega, ?_⟩)⟩⟩
      refine q_together (fun g7 o7 e7 => ?_)
      have f20 : k26 135 20 = k6 135 20 := f26 _ _ (by omega) (by omega) (by omega)
      have f21 : k26 135 21 = k6 135 21 := f26 _ _ (by omega) (by omega) (by omega)
      have f22 : k26 135 22 = k6 135 22 := f26 _ _ (by omega) (by omega) (by omega)
      have e7' : g7 135 65 = -1 := by rw [o7 135 65 (by omega), f26 135 65 (by omega) (by omega) (by omega), e65]
      obtain ⟨gz, egz⟩ : ∃ gz : HP, gz = fun a i => if a = 135 ∧ 14 ≤ i ∧ i ≤ 19 then g7 a i else k6 a i := ⟨_, rfl⟩
      have z1 : ∀ a i, ¬ (a = 135 ∧ 14 ≤ i ∧ i ≤ 19) → gz a i = k6 a i := fun a i p => by rw [egz]; exact if_neg p
      have z2' : ∀ i, 14 ≤ i → i ≤ 19 → gz 135 i = g7 135 i := fun i p q => by rw [egz]; exact if_pos ⟨rfl, p, q⟩
      have F : BfR h1 gz := BfR_of b R3 o0 e0 T6.1 T6.2.1 z1 ⟨(z2' 14 (by omega) (by omega)).trans e7.1, by rw [z2' 15 (by omega) (by omega), e7.2.1, f20], (z2' 16 (by omega) (by omega)).trans e7.2.2.1, by rw [z2' 17 (by omega) (by omega), e7.2.2.2.1, f21], by rw [z2' 18 (by omega) (by omega), e7.2.2.2.2.1, f22], (z2' 19 (by omega) (by omega)).trans e7.2.2.2.2.2⟩
      have zz : ∀ a i, a ≠ 192 → a ≠ 193 → ¬ (a = 135 ∧ i = 87) → g7 a i = gz a i := by
        intro a i p q r
        by_cases c : a = 135 ∧ 14 ≤ i ∧ i ≤ 19
        · obtain ⟨c1, c2, c3⟩ := c
          subst c1
          exact (z2' i c2 c3).symm
        · rw [z1 a i c, o7 a i c, f26 a i p q r]
      refine ⟨fun _ g33 e33 g34 e34 g35 e35 g36 e36 g37 e37 => ⟨by omega, ?_⟩, fun z => absurd e7' z⟩
      have p37 : ∀ a i, ¬ (a = 135 ∧ (i = 72 ∨ i = 78 ∨ (80 ≤ i ∧ i ≤ 82))) → g37 a i = g7 a i := fun a i p => by rw [e37, up2_ext (by omega), e36, up2_ext (by omega), e35, up2_ext (by omega), e34, up2_ext (by omega), e33, up2_ext (by omega)]
      refine HG e z0 gz g37 F (fun a i p q r => by rw [p37 a i (by omega), zz a i p q (by omega)]) (OuR_ag o26 ?_ (fun i => ?_)) (N3 _ (fun x i x0 x1 i0 i1 _ => ?_)) ⟨?_, ?_, ?_, ?_, ?_⟩
      · rw [p37 135 87 (by omega), o7 135 87 (by omega)]
      · rw [p37 192 i (by omega), o7 192 i (by omega)]
      · show g37 x (600 + i) = k3 x (600 + i)
        rw [p37 x _ (by omega), zz x _ (by omega) (by omega) (by omega), z1 x _ (by omega), T6.1.1 x _ (by omega), o0 x _ (by omega)]
      · rw [e37, up2_ext (by omega), e36, up2_ext (by omega), e35, up2_ext (by omega), e34, up2_ext (by omega), e33, up2_eq]
      · rw [e37, up2_ext (by omega), e36, up2_ext (by omega), e35, up2_ext (by omega), e34, up2_eq]
      · rw [e37, up2_ext (by omega), e36, up2_ext (by omega), e35, up2_eq]
      · rw [e37, up2_ext (by omega), e36, up2_eq]
      · rw [e37, up2_eq]
    · have fz := F6.2.2
      refine ⟨fun _ => ⟨by omega, ?_⟩, fun z => by omega⟩
      refine q_together (fun g7 o7 e7 => ?_)
      have F := BfR_of b R3 o0 e0 F6.1 F6.2.1 o7 e7
      have f65 : g7 135 65 = k6 135 65 := o7 135 65 (by omega)
      have f66 : g7 135 66 = k6 135 66 := o7 135 66 (by omega)
      refine ⟨fun z => by omega, fun _ => ⟨by omega, fun g9 e9 => ⟨?_, HZ e z0 g7 g9 F (by omega) (by omega) e9⟩⟩⟩
      unfold r32
      omega
  · by_cases c : r < 0
    · have := ea c
      unfold r32
      omega
    · have := eb (by omega)
      unfold r32
      omega
/-- what the reference's runs read -/
theorem rvk_of {h0 g0 : HP} (D : DcR h0) (Bd : BdR h0) (o : ∀ a i, a = 153 ∨ a = 167 → g0 a i = h0 a i) (o6 : ∀ x i, 161 ≤ x → x ≤ 166 → i < 600 → g0 x i = h0 x i) : RvK h0 g0 := by
  have d1 := D.1
  refine ⟨⟨d1.2.1, d1.2.2.2.2.1⟩, fun j j0 j1 => ?_, fun f f0 f1 => ?_⟩
  · have s := (D.2.1 j j0 j1).1
    exact ⟨(o 153 j (Or.inl rfl)).trans s.2.1, s.2.2.2.2.1.1, s.2.2.2.2.1.2⟩
  · have s := D.2.2 f f0 f1
    refine ⟨⟨(o 153 _ (Or.inl rfl)).trans s.1.2.1, s.1.2.2.2.2.1.1, s.1.2.2.2.2.1.2⟩, ?_⟩
    rcases s.2 with ⟨a, b⟩ | ⟨a, b, c⟩
    · exact Or.inr ⟨by omega, (o 167 f (Or.inr rfl)).trans b⟩
    · obtain ⟨N, w', m, n, l, _, rd, nx⟩ := Bd f f0 f1 a
      refine Or.inl ⟨a, by rw [o 167 f (Or.inr rfl)]; omega, N, n.2, NX_cg (fun x i x0 x1 i0 i1 => o6 x _ x0 x1 (by omega)) (fun _ _ _ _ _ => rfl) nx, ⟨by omega, l.2⟩, _, _, _, m, rd, by omega⟩
/-- the run of the reference, to its end -/
theorem r_run2 {d d' : Nat} {h0 h1 g : HP} {out s' dp' nv' : Int} {pt : List Int} {Q : PQ} (hd : 30 < d) (rb : RB0 h0) (rk : RvK h0 g) (nn : RN h0 g 30 600 (h0 36 5) 0 0 0) (z : g 135 72 = 0 ∧ g 135 78 = 0 ∧ g 135 80 = 0 ∧ g 135 81 = 0 ∧ g 135 82 = 0) (ho : OuR g 135 87 192 pt) (E : er h0 (h1 125) (h1 127) 30 0 0 (fun _ => 0) 1 0 0 0 out s' dp' nv')
    (HG : 0 ≤ out → (nv' ≤ 1000 ∧ ∃ τ, vt h0 h1 nv' out τ) ∧ ∀ k : HP, OuR k 189 2 190 pt → OuR k 189 3 191 (vWr h1 200 [out]) → (k 189 0 = s' ∧ k 189 1 = dp') → (∀ a i, a < 179 → ¬ (a = 135 ∧ (i = 87 ∨ i = 72 ∨ (78 ≤ i ∧ i ≤ 82))) → k a i = g a i) → Q s' k)
    (HB : out < 0 → ∀ k : HP, RvB g k → Q out k) : Go d' M_Mo_runBegins 0 [(22, 135), (0, 600), (0, 0)] [] g (fun _ k => Lr d Q k) := by
  have T : RvS h0 g (h1 125) (h1 127) g 0 0 0 0 := ⟨fun _ _ _ _ => rfl, ⟨z.2.1, z.2.2.1, z.2.2.2.1, z.1, z.2.2.2.2⟩, ⟨by omega, by omega, by omega⟩, fun v v0 v1 => by omega⟩
  refine r_ch (b := 600) (k := 0) (env := fun _ => 0) rk (rv_all rk 1000) hd (by omega) ⟨Or.inl ⟨rfl, rfl⟩, Int.le_refl _⟩ nn (by omega) (by omega) T ⟨by omega, by omega, by omega⟩ (fun i i0 i1 => by omega) E (fun o0 h' T' X' e79 b' => ?_) (fun o0 h' B' e82 => HB o0 h' B')
  obtain ⟨⟨n1, tv⟩, HG⟩ := HG o0
  obtain ⟨B, ⟨e78, e80, e81, e72, e82⟩, nn1, V⟩ := T'
  have fin : Go (d - 1) M_Mo_ends 0 [(22, 135), (2, 0)] [] h' Q := by
    refine r_ends (h0 := h0) (h1 := h1) (n := nv') (by omega) rb n1 V (fun j j0 j1 => (B 153 j (by omega) (by omega)).trans (rk.2.1 j j0 j1).1) tv e79 (OuR_ag ho (B _ _ (by omega) (by omega)) (fun i => B _ _ (by omega) (by omega))) (fun k o1 o2 oo fr => ?_)
    rw [e80]
    refine HG k o1 o2 ⟨oo.1.trans e80, oo.2.trans e81⟩ (fun a i p q => (fr a i (by omega) (by omega)).trans (B a i (by omega) (by omega)))
  exact N_Mo_runs_108 ⟨fun _ => ⟨fun _ => ⟨by omega, fin⟩, fun z => by omega⟩, fun z => by omega⟩
end
