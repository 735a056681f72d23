section
theorem QX_f {h g : HP} {f sc : Int} (q : QX h g (f + 1) sc) : g 173 f = h 173 f ∧ g 174 f = h 174 f ∧ g 175 f = h 175 f ∧ g 176 f = h 176 f := ⟨q 173 f (by omega), q 174 f (by omega), q 175 f (by omega), q 176 f (by omega)⟩
/-- + - < = -/
theorem r_arith {q0 g0 : HP} {A : Int} {N : Nat} (bc : BD q0 g0 A) (R : RkT q0 g0 A N) : RkP q0 g0 A (N + 1) none (fun c _ => c = 43 ∨ c = 45 ∨ c = 60 ∨ c = 61) := by
  intro p k sc w r w' D f m z h tm S V Γ S' V' t d ty Q lf hd P nn T en es gy J H1 H0
  obtain ⟨⟨p0, hN⟩, G, ⟨w0, w1⟩, ⟨s1, d0, s3⟩, ⟨f0, f1⟩, hm⟩ := P
  have bn := bc.1.2.1
  have pn := GD_n G p0
  have nr := nx_r nn
  have f1' : f ≤ 2 * p + 1 := f1
  have gn : h 174 f = -1 := gy
  have J' : JN (bA (q0 (A + 1)) (q0 A 2)) (q0 (A + 2)) (sbr q0) (llr q0) (ppr q0) (fun j => q0 (41 + 2 * j) 4) (jj q0 A) p Γ sc S V D z S' V' t := JJ_out J
  have nx1 := NX_out nn
  have op : ∀ (g : HP), QB g0 g → g 161 (600 + k) = bA (q0 (A + 1)) (q0 A 2) p := fun g b => (b.1 161 _ (by omega)).trans nx1.1.1
  have p2 : pO (bA (q0 (A + 1)) (q0 A 2) p) = 2 := by
    have lf' : bA (q0 (A + 1)) (q0 A 2) p = 43 ∨ bA (q0 (A + 1)) (q0 A 2) p = 45 ∨ bA (q0 (A + 1)) (q0 A 2) p = 60 ∨ bA (q0 (A + 1)) (q0 A 2) p = 61 := lf
    unfold pO
    rw [if_neg (by omega), if_pos (by omega)]
  have kid : KID (fun x i => g0 x (600 + i)) (q0 (A + 2)) (nx q0 g0 A) 2 (p + 1) (g0 164 (600 + k)) sc := by
    rcases nx1.2 with l | ⟨_, K⟩ | ⟨c, _⟩ | ⟨c, _⟩
    · unfold lfO at l; omega
    · rw [p2] at K; exact K
    · omega
    · omega
  obtain ⟨r1, v1, G1, r2, v2, G2, er, ew⟩ := GD_op G (j := 1) (by omega)
  subst er ew
  have l1 := bc_w bc.1 _ _ _ _ _ (by omega) G1
  have l2 := bc_w bc.1 _ _ _ _ _ (by omega) G2
  have ee : q0 (A + 2) (p + 1) = r1 := (GD_e G1).2
  have kr : ∀ j : Nat, j ≤ 1 → 0 ≤ nxt (fun x i => g0 x (600 + i)) j (g0 164 (600 + k)) ∧ nxt (fun x i => g0 x (600 + i)) j (g0 164 (600 + k)) < 100 := fun j j1 => nx_r (KID_nth j 2 _ _ _ (by omega) kid)
  have n1 := KID_nth 0 2 _ _ _ (by omega) kid
  have n2 := KID_nth 1 2 _ _ _ (by omega) kid
  have n2' : nx q0 g0 A r1 (nxt (fun x i => g0 x (600 + i)) 1 (g0 164 (600 + k))) sc := by
    have : plc (q0 (A + 2)) 1 (p + 1) = r1 := ee
    rw [this] at n2
    exact n2
  generalize hc : bA (q0 (A + 1)) (q0 A 2) p = c at lf op J'
  have J2 : thJ (jj q0 A) (p + 1) Γ sc (some tI) S V D z (fun S1 V1 _ => thJ (jj q0 A) (q0 (A + 2) (p + 1)) Γ sc (some tI) S1 V1 D z (fun S2 V2 _ => z = 0 ∧ S' = S2 ∧ V' = V2 ∧ t = (if c = 43 ∨ c = 45 then tI else tB))) := by
    rcases J' with ⟨x, _⟩ | ⟨_, H⟩ | ⟨x, _⟩ | ⟨x, _⟩ | ⟨x, _⟩ | ⟨x, _⟩ | ⟨x, _⟩
    · rw [hc] at x; unfold lfO at x; omega
    · rw [hc] at H; exact H
    all_goals (rw [hc] at x; omega)
  rw [ee] at J2
  have lf' : c = 43 ∨ c = 45 ∨ c = 60 ∨ c = 61 := lf
  clear lf J'
  -- the types of its parts
  have two : ∀ (st : Nat) (h1 : HP) (tm1 : Int → Tm) (S1 : Sx) (V1 : Vx) (m1 : Int) (W : PQ), QT g0 h1 tm1 S1 V1 D sc Γ (f + 1) m1 → m1 + 3 < 1000 → (∀ (y3 y4 : Int) (g : HP) (tm' : Int → Tm), QT g0 g tm' S1 V1 D sc Γ (f + 1) (m1 + 2) → XM h1 tm1 g tm' → QX h1 g (f + 1) sc → (100 ≤ y3 ∧ y3 < g 135 15 ∧ tm' y3 = tI) → (100 ≤ y4 ∧ y4 < g 135 15 ∧ tm' y4 = tI) → Go (d - 1 - 1 - 1) M_Mo_against 0 [(22, 135), (0, 600 + k), (0, (st : Int)), (0, y3), (0, y4)] [] g (fun y5 k5 => (y5 = 0 → W 0 k5) ∧ (y5 ≠ 0 → (c = 43 → Go (d - 1 - 1) M_Mo_finds 130 [(22, 135), (0, 600 + k), (0, (st : Int)), (0, c)] [(22, 135)] k5 W) ∧ (c ≠ 43 → (c ≠ 45 → 0 < d - 1 - 1 ∧ Go (d - 1 - 1 - 1) M_Mo_truth 0 [(22, 135)] [] k5 (fun y6 k6 => Go (d - 1 - 1) M_Mo_finds 141 [(22, 135), (0, 600 + k), (0, (st : Int)), (0, c)] [(0, y6), (22, 135)] k6 W)) ∧ (c = 45 → Go (d - 1 - 1) M_Mo_finds 130 [(22, 135), (0, 600 + k), (0, (st : Int)), (0, c)] [(22, 135)] k5 W))))) → Go (d - 1 - 1) M_Mo_finds 0 [(22, 135), (0, 600 + k), (0, (st : Int)), (2, 0)] [] h1 W := by
    intro st h1 tm1 S1 V1 m1 W T1 hm1 K
    have e1 := op h1 T1.1
    refine N_Mo_finds_0 ?_
    rw [e1]
    refine ⟨by omega, by omega, c_in (fun a b => by omega) (fun _ => ⟨fun _ => ⟨fun z => by omega, fun _ => ⟨fun _ => ⟨by omega, c_in (fun a b => by omega) (fun _ => ⟨fun _ => ⟨fun z => by omega, fun _ => ⟨fun _ => ⟨by omega, ?_⟩, fun z => by omega⟩⟩, fun z => absurd rfl z⟩)⟩, fun z => by omega⟩⟩, fun z => absurd rfl z⟩)⟩
    refine q_int (by omega) T1 d0 (by omega) (by omega) (fun y3 g3 t3 T3 X3 o3 a3 b3 i3 => ⟨by omega, q_int (by omega) T3 d0 (by omega) (by omega) (fun y4 g4 t4 T4 X4 o4 a4 b4 i4 => ⟨by omega, ?_⟩)⟩)
    have n4 := X4.1.2.1
    have x14 := T3.2.2.1.2.1.1
    exact K y3 y4 g4 t4 (QT_le T4 (by omega)) (XM_trans X3 X4) (QX_trans (Int.le_refl _) (Int.le_refl _) (OuM_QX o3) (OuM_QX o4)) ⟨a3, by omega, by rw [X4.2 y3 (by omega) b3]; exact i3⟩ ⟨a4, b4, i4⟩
  -- a part is asked
  have ask : ∀ (st : Nat) (h : HP) (tm : Int → Tm) (S : Sx) (V : Vx) (m : Int), st ≤ 1 → QT g0 h tm S V D sc Γ (f + 1) m → m + 3 < 1000 → h 173 f = 600 + k → h 174 f = -1 → h 175 f = (st : Int) → (∀ (y : Int) (g : HP) (tm' : Int → Tm), QT g0 g tm' S V D sc Γ (f + 1) (m + 2) → XM h tm g tm' → QX h g f sc → (g 173 f = 600 + k ∧ g 174 f = -1 ∧ g 175 f = (st : Int) + 1) → 100 ≤ y → y < g 135 15 → tm' y = tI → Lp d ty Q (psh g (f + 1) (600 + nxt (fun x i => g0 x (600 + i)) st (g0 164 (600 + k))) y)) → Lp d ty Q h := by
    intro st h tm S V m st1 T hm en e4 es K
    refine q_finds (by omega) T.2.2.1.2.2.1.1 T.2.2.1.2.2.1.2 f0 (by omega) en (by omega) (by omega) es (by omega) (by omega) ⟨by rw [op h T.1]; omega, e4⟩ ?_
    obtain ⟨T1, X1, q1⟩ := QT_st (f := f) (v := (st : Int) + 1) T
    have fr : up2 h 175 f ((st : Int) + 1) 173 f = 600 + k ∧ up2 h 175 f ((st : Int) + 1) 174 f = -1 ∧ up2 h 175 f ((st : Int) + 1) 175 f = (st : Int) + 1 := ⟨by rw [up2_nc (by decide)]; exact en, by rw [up2_nc (by decide)]; exact e4, up2_eq⟩
    generalize up2 h 175 f ((st : Int) + 1) = h1 at T1 X1 q1 fr ⊢
    refine two st h1 tm S V m _ T1 hm (fun y3 y4 g tm' T4 X4 q4 i3 i4 => ?_)
    have fq := QX_f q4
    have K' := fun y a b c' => K y g tm' T4 (XM_trans X1 X4) (QX_trans (by omega) (Int.le_refl _) q1 q4) ⟨by omega, by omega, by omega⟩ a b c'
    have e62 := T4.2.2.1.2.2.1.1
    refine N_Mo_against_0 ⟨fun z => by omega, fun _ => ⟨by omega, c_child (R := fun x i => g0 x (600 + i)) (QB_ag T4.1) nr.1 nr.2 (by omega) (fun j hj => kr j (by omega)) ⟨fun s0 => ⟨by omega, q_psh (F := f + 1) e62 (by omega) (by omega) ⟨fun _ => ⟨fun _ => K' y4 i4.1 i4.2.1 i4.2.2, fun z => absurd rfl z⟩, fun z => by omega⟩⟩, fun s0 => ⟨by omega, q_psh (F := f + 1) e62 (by omega) (by omega) ⟨fun _ => ⟨fun _ => K' y3 i3.1 i3.2.1 i3.2.2, fun z => absurd rfl z⟩, fun z => by omega⟩⟩⟩⟩⟩
  refine ask 0 h tm S V m (by omega) T (by omega) en gn es (fun y g tm1 T1 X1 q1 fr1 y0 y1 ye => ?_)
  refine q_th (R (some tI)) hd ⟨⟨by omega, by omega⟩, G1, ⟨w0, w1⟩, ⟨by omega, d0, by omega⟩, ⟨by omega, by show f + 1 ≤ 2 * (p + 1); omega⟩, by omega⟩ n1 T1 ⟨⟨y0, y1⟩, by rw [ye]; exact EqS_rfl⟩ J2 (fun S1 V1 t1 h2 tm2 J3 T2 X2 q2 _ _ sub1 => ?_) H0
  have fq2 := QX_f q2
  refine ask 1 h2 tm2 S1 V1 _ (by omega) T2 (by omega) (by omega) (by omega) (by omega) (fun y g3 tm3 T3 X3 q3 fr3 y0 y1 ye => ?_)
  refine q_th (R (some tI)) hd ⟨⟨by omega, by omega⟩, G2, ⟨by omega, by omega⟩, ⟨by omega, d0, by omega⟩, ⟨by omega, by show f + 1 ≤ 2 * r1; omega⟩, by omega⟩ n2' T3 ⟨⟨y0, y1⟩, by rw [ye]; exact EqS_rfl⟩ J3 (fun S2 V2 t2 h4 tm4 J4 T4 X4 q4 _ _ sub2 => ?_) H0
  have fq4 := QX_f q4
  obtain ⟨z0, eS, eV, et⟩ := J4
  subst eS eV
  have H1 := H1 z0
  have X04 := XM_trans X1 (XM_trans X2 (XM_trans X3 X4))
  have q04 : QX h h4 f sc := QX_trans (by omega) (Int.le_refl _) (QX_trans (Int.le_refl _) (Int.le_refl _) (QX_trans (by omega) (Int.le_refl _) q1 q2) q3) q4
  refine q_finds (by omega) T4.2.2.1.2.2.1.1 T4.2.2.1.2.2.1.2 f0 (by omega) (show h4 173 f = 600 + k by omega) (by omega) (by omega) (show h4 175 f = 2 by omega) (by omega) (by omega) ⟨by rw [op h4 T4.1]; omega, by omega⟩ ?_
  obtain ⟨T5, X5, q5⟩ := QT_st (f := f) (v := 2 + 1) T4
  generalize up2 h4 175 f (2 + 1) = h5 at T5 X5 q5 ⊢
  refine two 2 h5 tm4 _ _ _ _ T5 (by omega) (fun y3 y4 g6 tm6 T6 X6 q6 i3 i4 => ?_)
  have fin : ∀ (x : Int) (g : HP) (tm' : Int → Tm), QT g0 g tm' S' V' D sc Γ (f + 1) (m + 2 + 4 * (r1 - (p + 1)) - 3 + 2 * (v1 - w) + 2 + 4 * (r - r1) - 3 + 2 * (w' - v1) + 2 + 1) → XM g6 tm6 g tm' → OuM g6 g → 100 ≤ x → x < g 135 15 → tm' x = t → Go (d - 1 - 1) M_Mo_finds 141 [(22, 135), (0, 600 + k), (0, 2), (0, c)] [(0, x), (22, 135)] g (fun _ k => Lp d ty Q k) := fun x g tm' T' X' o' x0 x1 ex => N_Mo_finds_141 ⟨by omega, q_giv (F := f) T'.2.2.1.2.2.1.1 f0 (by omega) (q_fin T' (XM_trans X04 (XM_trans X5 (XM_trans X6 X'))) (QX_trans (Int.le_refl _) (Int.le_refl _) (QX_trans (by omega) (Int.le_refl _) (QX_trans (Int.le_refl _) (Int.le_refl _) q04 q5) q6) (OuM_QX o')) ⟨x0, x1⟩ (by rw [ex]; exact EqS_rfl) (fun θ q => sub1 θ (sub2 θ q)) (by omega) H1)⟩
  refine N_Mo_against_0 ⟨fun _ => ⟨fun z => by omega, fun _ => ⟨fun z => absurd z (by decide), fun _ => ⟨fun c1 => ?_, fun c1 => ⟨fun c2 => ⟨by omega, ?_⟩, fun c2 => ?_⟩⟩⟩⟩, fun z => by omega⟩
  · exact N_Mo_finds_130 ⟨by omega, q_int (by omega) T6 d0 (by omega) (by omega) (fun x g tm' T' X' o' x0 x1 ex => fin x g tm' T' X' o' x0 x1 (by rw [ex, et, if_pos (Or.inl c1)]))⟩
  · exact q_tru (by omega) T6 d0 (by omega) (by omega) (fun x g tm' T' X' o' x0 x1 ex => fin x g tm' T' X' o' x0 x1 (by rw [ex, et, if_neg (by omega)]))
  · exact N_Mo_finds_130 ⟨by omega, q_int (by omega) T6 d0 (by omega) (by omega) (fun x g tm' T' X' o' x0 x1 ex => fin x g tm' T' X' o' x0 x1 (by rw [ex, et, if_pos (Or.inr c2)]))⟩
end
