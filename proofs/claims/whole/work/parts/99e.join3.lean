section
/-- back to where the types stood -/
theorem c_undoTo {d : Nat} {h k : HP} {T R L : Int} {tm : Int → Tm} {S : Sx} {c c' : Int → Int} {Q : PQ} {w2 w3 : AV} (W : CW h T R tm S c) (X : ExC T h k) (F : FB k T R (h T 13) L c') (H : ∀ g, CW g T R tm S c → ExC T h g → g T 13 = h T 13 → g T 14 = h T 14 → (∀ a i, T + 14 ≤ a → a ≤ T + 24 → g a i = k a i) → Q 0 g) : Go d M_Types_undo 0 [(17, T), (0, h T 14), w2, w3] [] k Q := by
  have L0 := CW_L0 W
  obtain ⟨hT, ⟨hn, n0, nR⟩, hL, eL, Fr, M1, M2, Hs, H8⟩ := F
  have bd := cnt_bd (p := fun x => c' x = x) n0
  obtain ⟨⟨x1, x2, x3⟩, x4, x5, x6, x7, x8⟩ := X
  refine c_undo hT n0 nR (k := h T 14) L0.1 (k T 14 - h T 14).toNat k _ _ (by omega) (by omega) (by rw [hL]; exact Hs) (fun g U => ?_)
  obtain ⟨u1, u2, u3⟩ := U
  have go : ∀ a i, (a < T + 7 ∨ T + 10 < a) → a ≠ T → g a i = k a i := fun a i q r => u3 a i q (by omega)
  have ag : Ag (h T 13) (ar4 h T) (ar4 g T) := by rw [u1]; exact Ag_symm x7
  have rows : ∀ i, 0 ≤ i → i < h T 13 → g (T + 3) i = h (T + 3) i ∧ g (T + 4) i = h (T + 4) i ∧ g (T + 5) i = h (T + 5) i ∧ g (T + 6) i = h (T + 6) i := by
    intro i i0 i1
    rw [go (T + 3) i (by omega) (by omega), go (T + 4) i (by omega) (by omega), go (T + 5) i (by omega) (by omega), go (T + 6) i (by omega) (by omega)]
    exact x4 i i0 i1
  have lg : ∀ i, 0 ≤ i → i < h T 14 → g (T + 11) i = h (T + 11) i ∧ g (T + 12) i = h (T + 12) i ∧ g (T + 13) i = h (T + 13) i := by
    intro i i0 i1
    rw [go (T + 11) i (by omega) (by omega), go (T + 12) i (by omega) (by omega), go (T + 13) i (by omega) (by omega)]
    exact x5 i i0 i1
  have e13 : g T 13 = h T 13 := by rw [u3 T 13 (by omega) (by omega), hn]
  have e15 : g T 15 = h T 15 := by rw [u3 T 15 (by omega) (by omega), x3]
  refine H g (CW_ag W e13 u2 e15 rows ag lg) ⟨⟨by omega, by omega, e15⟩, rows, lg, fun i i0 i1 => ?_, ?_, fun a i q => ?_⟩ e13 u2 (fun a i p q => go a i (by omega) (by omega))
  · rw [go (T + 1) i (by omega) (by omega), go (T + 2) i (by omega) (by omega)]
    exact x6 i i0 i1
  · rw [u2, show (h T 14 - h T 14).toNat = 0 by omega]
    exact Ag_symm ag
  · rw [go a i (by omega) (by omega), x8 a i q]
theorem UJ_mono {h g : HP} {T R : Int} {tm : Int → Tm} {S' : Sx} {Rl Rl' : Int → Int → Prop} {c0 c : Int → Int} (U : UJ h g T R tm S' Rl c0 c) (hR : ∀ u v, Rl' u v → Rl u v) : UJ h g T R tm S' Rl' c0 c := by
  obtain ⟨a, b, e, f, i, j1, j2, j3, j4, j5⟩ := U
  exact ⟨a, b, e, f, i, j1, j2, j3, fun u v q => j4 u v (hR u v q), j5⟩
theorem c_join {d : Nat} {h : HP} {T R x y pr : Int} {tm : Int → Tm} {S : Sx} {V : Vx} {c0 : Int → Int} {Q : PQ} (hd : 10 < d) (W : CW h T R tm S c0) (hV : VOk 0 (h T 13) (h (T + 3)) (h (T + 6)) tm V) (x0 : 0 ≤ x) (x1 : x < h T 13) (y0 : 0 ≤ y) (y1 : y < h T 13)
    (H1 : Sat (Snd S (tm x) (tm y)) → (pr = 0 ∨ ¬ FixS S (Snd S (tm x) (tm y)) V (h T 15)) → ∀ g c, CW g T R tm (Snd S (tm x) (tm y)) c → ExC T h g → g T 13 = h T 13 → ∀ r, r = ncl tm S 0 (h T 13) - ncl tm (Snd S (tm x) (tm y)) 0 (h T 13) → g T 14 = h T 14 + r → 0 ≤ r → Q r g)
    (H2 : ¬ Sat (Snd S (tm x) (tm y)) → ∀ g, CW g T R tm S c0 → ExC T h g → g T 13 = h T 13 → g T 14 = h T 14 → Q (-5) g)
    (H3 : Sat (Snd S (tm x) (tm y)) → pr ≠ 0 → FixS S (Snd S (tm x) (tm y)) V (h T 15) → ∀ g, CW g T R tm S c0 → ExC T h g → g T 13 = h T 13 → g T 14 = h T 14 → Q (-6) g) :
    Go d M_Unifier_join 0 [(18, T + 20), (0, x), (0, y), (0, pr), (2, 0), (2, 0), (2, 0)] [] h Q := by
  have W0 := W
  have L0 := CW_L0 W
  obtain ⟨F0, P, Uq, NA, hb, hd0⟩ := W
  have hT := F0.1
  have tr := TR_le hT
  have n0 := F0.2.1.2.1
  have nR := F0.2.1.2.2
  have Ws := P.1
  have Ar := Wst_arg Ws
  have Ld0 := (FB_lead F0).1
  have hbm : ∀ x y, 0 ≤ x → x ≤ y → y < h T 13 → h (T + 6) x ≤ h (T + 6) y := fun x y a b e => (hb x y a b e).2.1
  generalize hS : Snd S (tm x) (tm y) = S' at *
  have sS : ∀ θ, S' θ ↔ (S θ ∧ sb θ (tm x) = sb θ (tm y)) := fun θ => by rw [← hS]
  -- the clash
  have clash : ¬ Sat S' → ∀ g L c, FB g T R (h T 13) L c → ExC T h g → ∀ v5, Go d M_Unifier_join 144 [(18, T + 20), (0, x), (0, y), (0, pr), (0, h T 14), (0, v5), (0, -5)] [] g Q := by
    intro ns g L c F X v5
    exact W_Unifier_join_144 hT ⟨fun w => absurd w (by decide), fun _ => ⟨by omega, c_undoTo W0 X F (fun g' W' X' a b _ => H2 ns g' W' X' a b)⟩⟩
  -- the end
  have fin : ∀ (g : HP) (c : Int → Int) (v6 : Int), UJ h g T R tm S' (fun a b => a = x ∧ b = y) c0 c → g (T + 20) 6 = 0 → h T 14 ≤ g T 14 → (g T 14 = h T 14 → c = c0) → (h T 14 < g T 14 → Upw 0 (h T 13) (h (T + 3)) (h (T + 4)) (h (T + 5)) c) → Go d M_Unifier_join 82 [(18, T + 20), (0, x), (0, y), (0, pr), (0, h T 14), (0, 1), (0, v6)] [] g Q := by
    intro g c v6 U p6 ll lc up
    obtain ⟨F, X, rows, d15, p0, J⟩ := U
    rw [p6] at J
    have Lb : g T 14 ≤ h T 13 := by
      have e := F.2.2.2.1
      have bd := cnt_bd (p := fun x => c x = x) n0
      omega
    have cxy : c x = c y := GenE_0 (Int.le_refl _) x0 x1 y0 y1 (J.2.2.2.1 x y ⟨rfl, rfl⟩)
    have D : Dwn 0 (h T 13) (h (T + 3)) (h (T + 4)) (h (T + 5)) c := by
      intro a b a0 a1 b0 b1 e ha hb'
      obtain ⟨k1, k2, k3⟩ := J.2.2.2.2.1 a b a0 a1 b0 b1 e ha hb'
      refine ⟨k1, fun z => ?_, fun z => ?_⟩
      · have u1 := (Ar a a0 a1).1 z ha
        have u2 := (Ar b b0 b1).1 (by omega) hb'
        exact GenE_0 (Int.le_refl _) u1.1 u1.2 u2.1 u2.2 (k2 z)
      · have u1 := (Ar a a0 a1).2 z
        have u2 := (Ar b b0 b1).2 (by omega)
        exact GenE_0 (Int.le_refl _) u1.1 u1.2 u2.1 u2.2 (k3 z)
    have rsp : ∀ θ, S' θ ↔ Rsp 0 (h T 13) tm c θ := by
      intro θ
      refine ⟨J.1 θ, fun r => (sS θ).mpr ⟨(P.2.2.2.2.1 θ).mpr (fun a b a0 a1 b0 b1 e => r a b a0 a1 b0 b1 (J.2.1 a b a0 a1 b0 b1 e)), r x y x0 x1 y0 y1 cxy⟩⟩
    have cc : ∀ z, 0 ≤ z → z < h T 13 → 0 ≤ c z := fun z a b => (F.2.2.2.2.1 z a b).2.1.1
    have mono := J.2.1
    have r3 := rows 3 (by omega) (by omega)
    have r4 := rows 4 (by omega) (by omega)
    have r5 := rows 5 (by omega) (by omega)
    have r6 := rows 6 (by omega) (by omega)
    -- the end without a clash
    have good : ∀ k : HP, ScC T g k → k (T + 20) 7 = g (T + 20) 7 → Upw 0 (h T 13) (h (T + 3)) (h (T + 4)) (h (T + 5)) c → (∃ rk, Acy 0 (h T 13) (h (T + 3)) (h (T + 4)) (h (T + 5)) c rk) → (pr = 0 → Go d M_Unifier_join 144 [(18, T + 20), (0, x), (0, y), (0, pr), (0, h T 14), (0, 1), (0, g T 14 - h T 14)] [] k Q) ∧ (pr ≠ 0 → (k (T + 20) 7 = 0 → Go d M_Unifier_join 144 [(18, T + 20), (0, x), (0, y), (0, pr), (0, h T 14), (0, 1), (0, g T 14 - h T 14)] [] k Q) ∧ (k (T + 20) 7 ≠ 0 → Go d M_Unifier_join 144 [(18, T + 20), (0, x), (0, y), (0, pr), (0, h T 14), (0, 1), (0, -6)] [] k Q)) := by
      intro k sk k7 upw acy
      have PT : Ptn 0 (h T 13) (h (T + 3)) (h (T + 4)) (h (T + 5)) tm c S' := ⟨Ws, upw, D, acy, rsp, cc⟩
      have sat := Ptn_sat PT
      have kT : ∀ i, k T i = g T i := fun i => sk T i (by omega)
      have Fk : FB k T R (h T 13) (g T 14) c := FB_scr sk F
      have Xk : ExC T h k := ExC_trans F L0.1 X (ScC_ExC sk)
      have kr : ∀ j, 3 ≤ j → j ≤ 6 → k (T + j) = h (T + j) := fun j a b => by rw [ScC_row sk j (by omega), rows j a b]
      have LdK : Led 0 (h T 13) (h (T + 3)) c (ldC k T c) := by
        have := (FB_lead Fk).1
        rw [kr 3 (by omega) (by omega)] at this
        exact this
      have ft := Fix_Tch (dp := h T 15) (S := S) (S' := S') P PT Ld0 LdK hV hbm mono
      have k13 : k T 13 = h T 13 := by rw [kT, F.2.1.1]
      have CWk : CW k T R tm S' c := by
        refine ⟨by rw [k13, kT 14]; exact Fk, ?_⟩
        rw [k13, kT 15, d15, kr 3 (by omega) (by omega), kr 4 (by omega) (by omega), kr 5 (by omega) (by omega), kr 6 (by omega) (by omega)]
        exact ⟨PT, Uq, NA, hb, hd0⟩
      have num : g T 14 - h T 14 = ncl tm S 0 (h T 13) - ncl tm S' 0 (h T 13) := by
        have a := FB_ncl (tm := tm) (S := S) F0 (fun x y a b a' b' => Ptn_eq P a b a' b')
        have b := FB_ncl (tm := tm) (S := S') F (fun x y a b a' b' => Ptn_eq PT a b a' b')
        have e1 := F0.2.2.2.1
        have e2 := F.2.2.2.1
        omega
      have ok : (pr = 0 ∨ ¬ FixS S S' V (h T 15)) → Go d M_Unifier_join 144 [(18, T + 20), (0, x), (0, y), (0, pr), (0, h T 14), (0, 1), (0, g T 14 - h T 14)] [] k Q := fun q => W_Unifier_join_144 hT ⟨fun _ => H1 sat q k c CWk Xk k13 _ num (by rw [kT]; omega) (by omega), fun w => by omega⟩
      refine ⟨fun q => ok (Or.inl q), fun q => ⟨fun z => ok (Or.inr (fun f => ?_)), fun z => ?_⟩⟩
      · rw [k7] at z
        rcases J.2.2.2.2.2 with ⟨j, _⟩ | ⟨_, j⟩
        · omega
        · exact j (ft.mp f)
      · rw [k7] at z
        refine W_Unifier_join_144 hT ⟨fun w => absurd w (by decide), fun _ => ⟨by omega, c_undoTo W0 Xk Fk (fun g' W' X' a b _ => H3 sat q (ft.mpr ?_) g' W' X' a b)⟩⟩
        rcases J.2.2.2.2.2 with ⟨_, j⟩ | ⟨j, _⟩
        · exact j
        · exact absurd j z
    refine W_Unifier_join_82 hT ⟨by unfold r32; omega, fun w => absurd w (by decide), fun _ => ⟨fun w => ?_, fun w => ⟨by omega, ?_⟩⟩⟩
    · have e : c = c0 := lc (by omega)
      have acy := P.2.2.2.1
      have upw := P.2.1
      rw [← e] at acy upw
      exact good g (ScC_refl T g) rfl upw acy
    · have g13 : g T 13 = h T 13 := F.2.1.1
      rw [g13]
      have nA : NoA (h T 13) (g (T + 3)) (g (T + 4)) (g (T + 5)) := by rw [r3, r4, r5]; exact NA
      have wS : Wst 0 (h T 13) (g (T + 3)) (g (T + 4)) (g (T + 5)) tm := by rw [r3, r4, r5]; exact Ws
      refine c_visit (P := fun _ => True) (by omega) F (Int.le_refl _) n0 (Int.le_refl _) (fun _ _ _ => trivial) (fun _ _ _ _ _ _ => trivial) (fun _ _ _ _ _ _ => trivial) (fun k sk ok ko => ⟨fun _ => good k sk (ko _ _ (by omega)) (up (by omega)) ?_, fun z => absurd z (by decide)⟩) (fun no k sk _ => ⟨fun z => absurd rfl z, fun _ => clash ?_ k (g T 14) c (FB_scr sk F) (ExC_trans F L0.1 X (ScC_ExC sk)) 1⟩)
      · have := Ord_acy F wS (by rw [r3, r4, r5]; exact D) ok
        rw [r3, r4, r5] at this
        exact this
      · rintro ⟨θ, hθ⟩
        obtain ⟨rk, A⟩ := Rsp_acy Ws ((rsp θ).mp hθ)
        have A' : Acy 0 (h T 13) (g (T + 3)) (g (T + 4)) (g (T + 5)) c rk := by rw [r3, r4, r5]; exact A
        exact no rk (FB_rank F wS nA A')
  -- the rounds
  have rounds : ∀ (k : Nat) (g : HP) (c : Int → Int) (v6 : Int), UJ h g T R tm S' (fun a b => a = x ∧ b = y) c0 c → g (T + 20) 6 = 0 → h T 14 ≤ g T 14 → (g T 14 = h T 14 → c = c0) → 0 ≤ v6 → v6 ≤ g T 14 - h T 14 → (h T 13 - g T 14).toNat < k → Go d M_Unifier_join 34 [(18, T + 20), (0, x), (0, y), (0, pr), (0, h T 14), (0, 1), (0, v6)] [] g Q := by
    intro k
    induction k with
    | zero =>
      intro g c v6 U p6 ll lc v0 v1 hk
      have F := U.1
      have e := F.2.2.2.1
      have pos := cnt_pos (p := fun z => c z = z) (F.2.2.2.2.1 x x0 x1).2.1.1 (F.2.2.2.2.1 x x0 x1).2.1.2 (Frs_cc F.2.2.2.2.1 x0 x1)
      omega
    | succ k ih =>
      intro g c v6 U p6 ll lc v0 v1 hk
      have F := U.1
      have e := F.2.2.2.1
      have pos := cnt_pos (p := fun z => c z = z) (F.2.2.2.2.1 x x0 x1).2.1.1 (F.2.2.2.2.1 x x0 x1).2.1.2 (Frs_cc F.2.2.2.2.1 x0 x1)
      refine W_Unifier_join_34 hT ?_
      rw [F.2.1.1]
      refine ⟨fun w => by omega, fun _ => ⟨fun w => absurd w (by decide), fun _ => ⟨fun w => fin g c v6 U p6 ll lc (fun z => by omega), fun w => ⟨by omega, c_pushTwins (by omega) W0 U p6 (fun up g' U' p' l' => ⟨fun _ => fin g' c v6 U' p' (by omega) (fun z => lc (by omega)) (fun _ => up), fun z => absurd rfl z⟩) (fun g' u v u0 u1 w0 w1 ne U' p' l' => ⟨fun z => absurd z (by decide), fun _ => ⟨by omega, c_settle (by omega) W0 U' p' (fun g2 c2 U2 p2 l2 lc2 => ⟨by unfold r32; omega, ?_⟩) (fun ns g2 c2 F2 X2 => ⟨by unfold r32; omega, ?_⟩)⟩⟩)⟩⟩⟩⟩
      · have cuv : c2 u = c2 v := GenE_0 (by omega) u0 u1 w0 w1 (U2.2.2.2.2.2.2.2.2.1 u v (Or.inr ⟨rfl, rfl⟩))
        have grow : g' T 14 < g2 T 14 := by
          rcases Int.lt_or_le (g' T 14) (g2 T 14) with z | z
          · exact z
          · have := lc2 (by omega)
            rw [this] at cuv
            exact absurd cuv ne
        have F2 := U2.1
        have e2 := F2.2.2.2.1
        have bd2 := cnt_bd (p := fun x => c2 x = x) n0
        exact ih g2 c2 (v6 + 1) (UJ_mono U2 (fun a b z => Or.inl z)) p2 (by omega) (fun z => by omega) (by omega) (by omega) (by omega)
      · refine W_Unifier_join_34 hT ⟨fun z => ?_, fun z => ⟨fun _ => ?_, fun z => absurd rfl z⟩⟩
        · exact W_Unifier_join_82 hT ⟨by
            have e2 := F2.2.2.2.1
            have bd2 := cnt_bd (p := fun x => c2 x = x) n0
            unfold r32; omega, fun _ => clash ns g2 _ c2 F2 X2 0, fun z => absurd rfl z⟩
        · exact W_Unifier_join_82 hT ⟨by
            have e2 := F2.2.2.2.1
            have bd2 := cnt_bd (p := fun x => c2 x = x) n0
            unfold r32; omega, fun _ => clash ns g2 _ c2 F2 X2 0, fun z => absurd rfl z⟩
  refine W_Unifier_join_0 hT ?_
  intro g1 e1 g2 e2
  have a6 : g2 (T + 20) 6 = 0 := by rw [e2, up2_ni (by decide), e1, up2_eq]
  have a7 : g2 (T + 20) 7 = 0 := by rw [e2, up2_eq]
  have ao : ∀ a i, a ≠ T + 20 → g2 a i = h a i := fun a i q => by rw [e2, up2_nc q, e1, up2_nc q]
  clear e1 e2
  refine ⟨by omega, c_push hT (by omega) (by omega) (fun g3 Pu => ⟨by omega, ?_⟩)⟩
  rcases Pu with ⟨z, _⟩ | ⟨_, _, u1, u2, u3, u4⟩
  · omega
  · rw [a6] at u1 u2 u3
    have bo : ∀ a i, (a < T + 20 ∨ T + 22 < a) → g3 a i = h a i := fun a i q => by rw [u4 a i (by omega) (by omega) (by omega), ao a i (by omega)]
    have b7 : g3 (T + 20) 7 = 0 := by rw [u4 _ _ (by omega) (by omega) (by omega), a7]
    have sc : ScC T h g3 := fun a i q => bo a i (by omega)
    have gT : ∀ i, g3 T i = h T i := fun i => bo T i (by omega)
    have U3 : UJ h g3 T R tm S' (fun a b => a = x ∧ b = y) c0 c0 := by
      refine ⟨by rw [gT 14]; exact FB_scr sc F0, ScC_ExC sc, fun k k1 k2 => ScC_row sc k (by omega), gT 15, by omega, ?_⟩
      rw [u3, b7]
      refine ⟨fun θ hθ => (P.2.2.2.2.1 θ).mp ((sS θ).mp hθ).1, fun a b _ _ _ _ e => e, fun i i0 i1 => ?_, fun a b q => ?_, fun a b a0 a1 b0 b1 e ha hb' => ?_, Or.inr ⟨rfl, ?_⟩⟩
      · rw [show i = 0 by omega, u1, u2, upf_eq, upf_eq]
        exact ⟨⟨x0, x1⟩, ⟨y0, y1⟩, fun θ hθ => ((sS θ).mp hθ).2⟩
      · rw [q.1, q.2]
        exact GenE_p (i := 0) (by omega) (by omega) (by rw [u1, upf_eq]) (by rw [u2, upf_eq])
      · obtain ⟨k1, k2, k3⟩ := P.2.2.1 a b a0 a1 b0 b1 e ha hb'
        refine ⟨k1, fun z => ?_, fun z => ?_⟩
        · have v1 := (Ar a a0 a1).1 z ha
          have v2 := (Ar b b0 b1).1 (by omega) hb'
          exact GenE_c v1.1 v1.2 v2.1 v2.2 (k2 z)
        · have v1 := (Ar a a0 a1).2 z
          have v2 := (Ar b b0 b1).2 (by omega)
          exact GenE_c v1.1 v1.2 v2.1 v2.2 (k3 z)
      · rintro ⟨a, b, _, _, _, _, e, ne, _⟩
        exact ne e
    refine c_settle (by omega) W0 U3 (by omega) (fun g4 c4 U4 p4 l4 lc4 => ?_) (fun ns g4 c4 F4 X4 => ?_)
    · rw [gT 14] at l4 lc4
      exact rounds _ g4 c4 0 U4 p4 l4 lc4 (Int.le_refl _) (by omega) (Nat.lt_succ_self _)
    · refine W_Unifier_join_34 hT ⟨fun z => ?_, fun z => ⟨fun _ => ?_, fun z => absurd rfl z⟩⟩
      · exact W_Unifier_join_82 hT ⟨by
          have e2 := F4.2.2.2.1
          have bd2 := cnt_bd (p := fun x => c4 x = x) n0
          unfold r32; omega, fun _ => clash ns g4 _ c4 F4 X4 0, fun z => absurd rfl z⟩
      · exact W_Unifier_join_82 hT ⟨by
          have e2 := F4.2.2.2.1
          have bd2 := cnt_bd (p := fun x => c4 x = x) n0
          unfold r32; omega, fun _ => clash ns g4 _ c4 F4 X4 0, fun z => absurd rfl z⟩
end
