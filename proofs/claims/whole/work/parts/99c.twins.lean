section
/-- the chains of the leads with arguments -/
def TwI (n : Int) (hd fb c L pl : Int → Int) (Ad : Int → Prop) (bk nx : Int → Int) (i : Int) : Prop :=
  (∀ q, 0 ≤ q → q < n → bk q = -1 ∨ (Ad (bk q) ∧ pl (bk q) = q)) ∧ (∀ z, Ad z → (0 ≤ z ∧ z < i) ∧ L z = z ∧ pl z ≠ -1 ∧ (nx z = -1 ∨ (Ad (nx z) ∧ pl (nx z) = pl z ∧ nx z < z))) ∧ (∀ z, Ad z → bk (pl z) ≠ -1 ∧ z ≤ bk (pl z)) ∧ (∀ z z', Ad z → Ad z' → pl z = pl z' → z' < z → nx z ≠ -1 ∧ z' ≤ nx z)
theorem c_twinIn {d : Nat} {T R n L0 : Int} {g : HP} {c L pl : Int → Int} {Ad : Int → Prop} {i q x : Int} {Q : PQ} (hd : 0 < d) (F : FB g T R n L0 c) (I : TwI n (g (T + 3)) (g (T + 5)) c L pl Ad (g (T + 23)) (g (T + 24)) i) (hi : i ≤ n) (q0 : 0 ≤ q) (q1 : q < n) (x0 : 0 ≤ x) (x1 : x < n)
    (H1 : ∀ o, Ad o → pl o = q → g (T + 3) o = g (T + 3) x → c1 c n (g (T + 5) o) = c1 c n (g (T + 5) x) → Q o g)
    (H0 : (∀ z, Ad z → pl z = q → ¬ (g (T + 3) z = g (T + 3) x ∧ c1 c n (g (T + 5) z) = c1 c n (g (T + 5) x))) → Q (-1) g) :
    Go d M_Unifier_twinIn 0 [(18, T + 20), (0, g (T + 23) q), (0, x), (2, 0), (2, 0), (2, 0)] [] g Q := by
  have hT := F.1
  have tr := TR_le hT
  have nR := F.2.1.2.2
  have n0 := F.2.1.2.1
  have hn := F.2.1.1
  obtain ⟨i1, i2, i3, i4⟩ := I
  have loop : ∀ (m : Nat) (o k : Int), (n - k).toNat = m → 0 ≤ k → (o = -1 ∨ (Ad o ∧ pl o = q ∧ o + k < n)) → (∀ z, Ad z → pl z = q → o < z → ¬ (g (T + 3) z = g (T + 3) x ∧ c1 c n (g (T + 5) z) = c1 c n (g (T + 5) x))) → Go d M_Unifier_twinIn 23 [(18, T + 20), (0, g (T + 23) q), (0, x), (0, c1 c n (g (T + 5) x)), (0, o), (0, k)] [] g Q := by
    intro m
    induction m with
    | zero =>
      intro o k hm k0 ho no
      refine W_Unifier_twinIn_23 hT ⟨fun _ => H0 (fun z z1 z2 => no z z1 z2 ?_), fun w => by omega⟩
      have := (i2 z z1).1
      rcases ho with ho | ⟨ho, _, h3⟩
      · omega
      · have := (i2 o ho).1
        omega
    | succ m ih =>
      intro o k hm k0 ho no
      refine W_Unifier_twinIn_23 hT ⟨fun w => by omega, fun _ => ⟨fun w => H0 (fun z z1 z2 => no z z1 z2 (by have := (i2 z z1).1; omega)), fun w => ?_⟩⟩
      rcases ho with ho | ⟨a1, a2, a3⟩
      · exact absurd ho w
      · obtain ⟨b1, b2, b3, b4⟩ := i2 o a1
        have go : ¬ (g (T + 3) o = g (T + 3) x ∧ c1 c n (g (T + 5) o) = c1 c n (g (T + 5) x)) → Go d M_Unifier_twinIn 23 [(18, T + 20), (0, g (T + 23) q), (0, x), (0, c1 c n (g (T + 5) x)), (0, g (T + 24) o), (0, k + 1)] [] g Q := by
          intro nm
          refine ih _ _ (by omega) (by omega) ?_ (fun z z1 z2 z3 => ?_)
          · rcases b4 with b4 | ⟨b4, b5, b6⟩
            · exact Or.inl b4
            · exact Or.inr ⟨b4, by rw [b5, a2], by omega⟩
          · rcases Int.lt_trichotomy o z with y | y | y
            · exact no z z1 z2 y
            · rw [← y]; exact nm
            · have := i4 o z a1 z1 (by rw [a2, z2]) y
              omega
        refine ⟨⟨by omega, by omega⟩, ⟨x0, by omega⟩, fun u => ⟨⟨by omega, by omega⟩, by unfold r32; omega, go (fun z => u z.1)⟩, fun u => ⟨⟨by omega, by omega⟩, hd, c_root1 F ⟨fun t => ⟨⟨by omega, by omega⟩, by unfold r32; omega, go (fun z => t z.2)⟩, fun t => H1 o a1 a2 u t⟩⟩⟩
  refine W_Unifier_twinIn_0 hT ⟨⟨x0, by omega⟩, hd, c_root1 F (loop _ _ 0 rfl (Int.le_refl _) ?_ (fun z z1 z2 z3 => ?_))⟩
  · rcases i1 q q0 q1 with z | ⟨z1, z2⟩
    · exact Or.inl z
    · have := (i2 _ z1).1
      exact Or.inr ⟨z1, z2, by omega⟩
  · have := (i3 z z1).2
    rw [z2] at this
    omega
theorem c_pushTwins {d : Nat} {h : HP} {T R : Int} {tm : Int → Tm} {S S' : Sx} {Rl : Int → Int → Prop} {c0 c : Int → Int} {gs : HP} {Q : PQ} (hd : 2 < d) (W : CW h T R tm S c0) (U : UJ h gs T R tm S' Rl c0 c) (hp : gs (T + 20) 6 = 0)
    (H0 : Upw 0 (h T 13) (h (T + 3)) (h (T + 4)) (h (T + 5)) c → ∀ g, UJ h g T R tm S' Rl c0 c → g (T + 20) 6 = 0 → g T 14 = gs T 14 → Q 0 g)
    (H1 : ∀ g u v, 0 ≤ u → u < h T 13 → 0 ≤ v → v < h T 13 → c u ≠ c v → UJ h g T R tm S' (fun a b => Rl a b ∨ (a = u ∧ b = v)) c0 c → g (T + 20) 6 ≤ h T 13 → g T 14 = gs T 14 → Q 1 g) :
    Go d M_Unifier_pushTwins 0 [(18, T + 20), (2, 0), (2, 0), (2, 0)] [] gs Q := by
  have L0 := CW_L0 W
  obtain ⟨F0, P, Uq, NA, hb, hd0⟩ := W
  have hT := F0.1
  have tr := TR_le hT
  have n0 := F0.2.1.2.1
  have nR := F0.2.1.2.2
  have H8 := F0.2.2.2.2.2.2.2.2
  have Ws := P.1
  have Ar := Wst_arg Ws
  have U0 := U
  obtain ⟨F, X, rows, d15, p0, J⟩ := U
  rw [hp] at J
  generalize hn : h T 13 = n at *
  have Ld := FB_lead F
  have r3 := rows 3 (by omega) (by omega)
  have r4 := rows 4 (by omega) (by omega)
  have r5 := rows 5 (by omega) (by omega)
  have LdH : Led 0 n (h (T + 3)) c (ldC gs T c) := by rw [← r3]; exact Ld.1
  have J5 : ∀ a b, 0 ≤ a → a < n → 0 ≤ b → b < n → c a = c b → h (T + 3) a ≤ 6 → h (T + 3) b ≤ 6 → h (T + 3) a = h (T + 3) b ∧ (2 ≤ h (T + 3) a → c (h (T + 4) a) = c (h (T + 4) b)) ∧ (h (T + 3) a = 2 → c (h (T + 5) a) = c (h (T + 5) b)) := by
    intro a b a0 a1 b0 b1 e ha hb'
    obtain ⟨k1, k2, k3⟩ := J.2.2.2.2.1 a b a0 a1 b0 b1 e ha hb'
    refine ⟨k1, fun z => ?_, fun z => ?_⟩
    · have x1 := (Ar a a0 a1).1 z ha
      have x2 := (Ar b b0 b1).1 (by omega) hb'
      exact GenE_0 (Int.le_refl _) x1.1 x1.2 x2.1 x2.2 (k2 z)
    · have x1 := (Ar a a0 a1).2 z
      have x2 := (Ar b b0 b1).2 (by omega)
      exact GenE_0 (Int.le_refl _) x1.1 x1.2 x2.1 x2.2 (k3 z)
  -- the rounds
  have main : ∀ (g : HP) (Ad : Int → Prop) (w2 w3 : AV), (∀ a i, a < T + 20 ∨ T + 24 < a → g a i = gs a i) → g (T + 20) 7 = gs (T + 20) 7 → TwI n (h (T + 3)) (h (T + 5)) c (ldC gs T c) (fun z => c1 c n (h (T + 4) z)) Ad (g (T + 23)) (g (T + 24)) 0 → (0 ≤ g (T + 20) 6 ∧ g (T + 20) 6 ≤ 0) → (∀ j, 0 ≤ j → j < g (T + 20) 6 → (0 ≤ g (T + 21) j ∧ g (T + 21) j < n) ∧ (0 ≤ g (T + 22) j ∧ g (T + 22) j < n) ∧ EqS S' (tm (g (T + 21) j)) (tm (g (T + 22) j)) ∧ c (g (T + 21) j) ≠ c (g (T + 22) j)) → (g (T + 20) 6 = 0 → (∀ z, 0 ≤ z → z < 0 → ldC gs T c z = z → c1 c n (h (T + 4) z) ≠ -1 → Ad z) ∧ (∀ z z', Ad z → Ad z' → c1 c n (h (T + 4) z) = c1 c n (h (T + 4) z') → h (T + 3) z = h (T + 3) z' → c1 c n (h (T + 5) z) = c1 c n (h (T + 5) z') → z = z')) → Go d M_Unifier_pushTwins 28 [(18, T + 20), (0, 0), w2, w3] [] g Q := by
    refine up_loop (i := 0) (hi := n) n0 (P := fun i => ∀ (g : HP) (Ad : Int → Prop) (w2 w3 : AV), (∀ a i, a < T + 20 ∨ T + 24 < a → g a i = gs a i) → g (T + 20) 7 = gs (T + 20) 7 → TwI n (h (T + 3)) (h (T + 5)) c (ldC gs T c) (fun z => c1 c n (h (T + 4) z)) Ad (g (T + 23)) (g (T + 24)) i → (0 ≤ g (T + 20) 6 ∧ g (T + 20) 6 ≤ i) → (∀ j, 0 ≤ j → j < g (T + 20) 6 → (0 ≤ g (T + 21) j ∧ g (T + 21) j < n) ∧ (0 ≤ g (T + 22) j ∧ g (T + 22) j < n) ∧ EqS S' (tm (g (T + 21) j)) (tm (g (T + 22) j)) ∧ c (g (T + 21) j) ≠ c (g (T + 22) j)) → (g (T + 20) 6 = 0 → (∀ z, 0 ≤ z → z < i → ldC gs T c z = z → c1 c n (h (T + 4) z) ≠ -1 → Ad z) ∧ (∀ z z', Ad z → Ad z' → c1 c n (h (T + 4) z) = c1 c n (h (T + 4) z') → h (T + 3) z = h (T + 3) z' → c1 c n (h (T + 5) z) = c1 c n (h (T + 5) z') → z = z')) → Go d M_Unifier_pushTwins 28 [(18, T + 20), (0, i), w2, w3] [] g Q) ?_ ?_
    · intro g Ad w2 w3 so s7 I pb pj pz
      have sc : ScC T gs g := fun a i q => so a i (by omega)
      have gT : ∀ i, g T i = gs T i := fun i => so T i (by omega)
      have Xg : ExC T h g := ExC_trans F L0.1 X (ScC_ExC sc)
      have base : ∀ Rl' : Int → Int → Prop, (∀ u v, Rl' u v → GenE n c (g (T + 20) 6) (g (T + 21)) (g (T + 22)) u v) → UJ h g T R tm S' Rl' c0 c := by
        intro Rl' hR
        refine ⟨by rw [hn, gT 14]; exact FB_scr sc F, Xg, fun k k1 k2 => by rw [ScC_row sc k (by omega), rows k k1 k2], by rw [gT 15, d15], pb.1, ?_⟩
        rw [hn, s7]
        have gm : ∀ u v, GenE n c 0 (gs (T + 21)) (gs (T + 22)) u v → GenE n c (g (T + 20) 6) (g (T + 21)) (g (T + 22)) u v := fun u v G E h1 h2 h3 h4 h5 => G E h1 h2 h3 h4 (fun i a b => by omega)
        refine ⟨J.1, J.2.1, fun i i0 i1 => ⟨(pj i i0 i1).1, (pj i i0 i1).2.1, (pj i i0 i1).2.2.1⟩, hR, fun a b a0 a1 b0 b1 e ha hb' => ?_, J.2.2.2.2.2⟩
        obtain ⟨k1, k2, k3⟩ := J.2.2.2.2.1 a b a0 a1 b0 b1 e ha hb'
        exact ⟨k1, fun z => gm _ _ (k2 z), fun z => gm _ _ (k3 z)⟩
      have gm : ∀ u v, GenE n c 0 (gs (T + 21)) (gs (T + 22)) u v → GenE n c (g (T + 20) 6) (g (T + 21)) (g (T + 22)) u v := fun u v G E h1 h2 h3 h4 h5 => G E h1 h2 h3 h4 (fun i a b => by omega)
      refine W_Unifier_pushTwins_28 hT ⟨fun _ => ⟨fun w => H0 ?_ g (base Rl (fun u v q => gm _ _ (J.2.2.2.1 u v q))) (by omega) (gT 14), fun w => ?_⟩, fun w => by rw [gT 13, F.2.1.1] at w; omega⟩
      · -- no twins: congruence
        obtain ⟨z1, z2⟩ := pz (by omega)
        intro a b a0 a1 b0 b1 e h6 ea eb
        rcases Int.lt_or_le (h (T + 3) a) 2 with y | y
        · rw [Uq a b a0 a1 b0 b1 e (by omega) (fun q => by omega) (fun q => by omega)]
        · have la := LdH a a0 a1
          have lb := LdH b b0 b1
          have fA := Led_form LdH a0 a1 a0 a1 rfl h6
          have fB := Led_form LdH b0 b1 b0 b1 rfl (by omega)
          obtain ⟨kA1, kA2, kA3⟩ := J5 _ a la.1 la.2.1 a0 a1 la.2.2.1 fA h6
          obtain ⟨kB1, kB2, kB3⟩ := J5 _ b lb.1 lb.2.1 b0 b1 lb.2.2.1 fB (by omega)
          have xA := (Ar _ la.1 la.2.1).1 (by omega) fA
          have xB := (Ar _ lb.1 lb.2.1).1 (by omega) fB
          have cA := (F.2.2.2.2.1 _ xA.1 xA.2).2.1
          have cB := (F.2.2.2.2.1 _ xB.1 xB.2).2.1
          have adA := z1 (ldC gs T c a) la.1 la.2.1 (Led_best LdH la.1 la.2.1 a0 a1 la.2.2.1) (by rw [c1_in xA.1 xA.2]; omega)
          have adB := z1 (ldC gs T c b) lb.1 lb.2.1 (Led_best LdH lb.1 lb.2.1 b0 b1 lb.2.2.1) (by rw [c1_in xB.1 xB.2]; omega)
          have ab := z2 _ _ adA adB (by rw [c1_in xA.1 xA.2, c1_in xB.1 xB.2, kA2 (by omega), kB2 (by omega)]; exact ea y) (by omega) (by
            by_cases q : h (T + 3) a = 2
            · have yA := (Ar _ la.1 la.2.1).2 (by omega)
              have yB := (Ar _ lb.1 lb.2.1).2 (by omega)
              rw [c1_in yA.1 yA.2, c1_in yB.1 yB.2, kA3 (by omega), kB3 (by omega)]
              exact eb q
            · rw [(NA _ la.1 la.2.1).2 (by omega), (NA _ lb.1 lb.2.1).2 (by omega)])
          rw [← la.2.2.1, ← lb.2.2.1, ab]
      · obtain ⟨q1, q2, q3, q4⟩ := pj 0 (by omega) w
        refine H1 g (g (T + 21) 0) (g (T + 22) 0) q1.1 q1.2 q2.1 q2.2 q4 (base _ (fun u v q => ?_)) pb.2 (gT 14)
        rcases q with q | ⟨e1, e2⟩
        · exact gm _ _ (J.2.2.2.1 u v q)
        · subst e1 e2
          exact GenE_p (i := 0) (by omega) w rfl rfl
    · intro i i0 i1 ih g Ad w2 w3 so s7 I pb pj pz
      have sc : ScC T gs g := fun a i q => so a i (by omega)
      have gT : ∀ i, g T i = gs T i := fun i => so T i (by omega)
      have Fg : FB g T R n (gs T 14) c := FB_scr sc F
      have g3 : g (T + 3) = h (T + 3) := by rw [ScC_row sc 3 (by omega), r3]
      have g4 : g (T + 4) = h (T + 4) := by rw [ScC_row sc 4 (by omega), r4]
      have g5 : g (T + 5) = h (T + 5) := by rw [ScC_row sc 5 (by omega), r5]
      have lde : ldC g T c i = ldC gs T c i := by unfold ldC; rw [ScC_row sc 9 (by omega)]
      have I' := I
      obtain ⟨t1, t2, t3, t4⟩ := I'
      -- passing by
      have pass : (ldC gs T c i ≠ i ∨ c1 c n (h (T + 4) i) = -1) → ∀ w2 w3, Go d M_Unifier_pushTwins 28 [(18, T + 20), (0, i + 1), w2, w3] [] g Q := by
        intro q w2 w3
        refine ih g Ad w2 w3 so s7 ⟨t1, fun z hz => ?_, t3, t4⟩ ⟨pb.1, by omega⟩ pj (fun hz => ⟨fun z z0 z1 z2 z3 => ?_, (pz hz).2⟩)
        · obtain ⟨x1, x2⟩ := t2 z hz
          exact ⟨⟨x1.1, by omega⟩, x2⟩
        · by_cases y : z = i
          · rw [y] at z2 z3
            rcases q with q | q
            · exact absurd z2 q
            · exact absurd q z3
          · exact (pz hz).1 z z0 (by omega) z2 z3
      refine W_Unifier_pushTwins_28 hT ?_
      rw [gT 13, F.2.1.1, g4]
      refine ⟨fun w => by omega, fun _ => ⟨⟨by omega, by omega⟩, by omega, c_root1 Fg ⟨fun w => ⟨by unfold r32; omega, pass (Or.inr w) _ _⟩, fun w => ⟨by omega, c_leadOf (by omega) Fg i0 i1 ?_⟩⟩⟩⟩
      rw [lde]
      have kd := Kid_of F.2.2.2.2.1 (h (T + 4) i)
      refine ⟨fun le => ?_, fun u => ⟨by unfold r32; omega, pass (Or.inl u) _ _⟩⟩
      have q01 : 0 ≤ c1 c n (h (T + 4) i) ∧ c1 c n (h (T + 4) i) < n := by
        rcases kd with z | z
        · exact absurd z w
        · exact ⟨z.1, z.2.1⟩
      have fi : 2 ≤ h (T + 3) i ∧ h (T + 3) i ≤ 6 := by
        have na := NA i i0 i1
        rcases Int.lt_or_le (h (T + 3) i) 2 with z | z
        · rw [na.1 (Or.inl z), c1_out (by omega)] at w; exact absurd rfl w
        · rcases Int.lt_or_le 6 (h (T + 3) i) with y | y
          · rw [na.1 (Or.inr y), c1_out (by omega)] at w; exact absurd rfl w
          · exact ⟨z, y⟩
      have ai := (Ar i i0 i1).1 fi.1 fi.2
      refine ⟨⟨by omega, by omega⟩, by omega, c_twinIn (Ad := Ad) (L := ldC gs T c) (pl := fun z => c1 c n (h (T + 4) z)) (i := i) (by omega) Fg (by rw [g3, g5]; exact I) (by omega) q01.1 q01.2 i0 i1 (fun o o1 o2 o3 o4 => ?_) (fun none => ?_)⟩
      · -- a twin
        rw [g3] at o3
        rw [g5] at o4
        obtain ⟨⟨ob0, ob1⟩, ol, op, _⟩ := t2 o o1
        have ao := (Ar o ob0 (by omega)).1 (by omega) (by omega)
        have o2 : c1 c n (h (T + 4) o) = c1 c n (h (T + 4) i) := o2
        have ne : c o ≠ c i := by
          intro e
          have := Led_best LdH ob0 (by omega) i0 i1 e
          omega
        have eqo : EqS S' (tm o) (tm i) := by
          intro θ hθ
          have rs := J.1 θ hθ
          rw [(Ws.1 o ob0 (by omega)).2.2.2.1 (by omega), (Ws.1 i i0 i1).2.2.2.1 (by omega), sb_mk, sb_mk, o3]
          refine mkT_congr (by omega) (fun z => ?_) (fun z => ?_)
          · rw [c1_in ao.1 ao.2, c1_in ai.1 ai.2] at o2
            exact rs _ _ ao.1 ao.2 ai.1 ai.2 o2
          · have bo := (Ar o ob0 (by omega)).2 (by omega)
            have bi := (Ar i i0 i1).2 z
            rw [c1_in bo.1 bo.2, c1_in bi.1 bi.2] at o4
            exact rs _ _ bo.1 bo.2 bi.1 bi.2 o4
        refine ⟨fun _ => ⟨by omega, c_push hT pb.1 (by omega) (fun g' Pu => ⟨by unfold r32; omega, ?_⟩)⟩, fun z => by omega⟩
        rcases Pu with ⟨z, _⟩ | ⟨_, _, u1, u2, u3, u4⟩
        · omega
        · refine ih g' Ad _ _ (fun a j q => by rw [u4 a j (by omega) (by omega) (by omega), so a j q]) (by rw [u4 _ _ (by omega) (by omega) (by omega), s7]) ?_ ⟨by omega, by omega⟩ (fun j j0 j1 => ?_) (fun z => by omega)
          · rw [show g' (T + 23) = g (T + 23) from funext fun j => u4 _ j (by omega) (by omega) (by omega), show g' (T + 24) = g (T + 24) from funext fun j => u4 _ j (by omega) (by omega) (by omega)]
            refine ⟨t1, fun z hz => ?_, t3, t4⟩
            obtain ⟨x1, x2⟩ := t2 z hz
            exact ⟨⟨x1.1, by omega⟩, x2⟩
          · rw [u1, u2]
            by_cases y : j = g (T + 20) 6
            · rw [y, upf_eq, upf_eq]
              exact ⟨⟨ob0, by omega⟩, ⟨i0, i1⟩, eqo, ne⟩
            · rw [upf_ne y, upf_ne y]
              exact pj j j0 (by omega)
      · -- none: into the chain
        refine ⟨fun z => absurd rfl z, fun _ => ⟨⟨by omega, by omega⟩, ⟨by omega, by omega⟩, ?_⟩⟩
        intro g5' e5
        refine ⟨⟨by omega, by omega⟩, ?_⟩
        intro g6 e6
        refine ⟨by unfold r32; omega, ?_⟩
        have f24 : g6 (T + 24) = upf (g (T + 24)) i (g (T + 23) (c1 c n (h (T + 4) i))) := by rw [e6, up2_rown (by omega), e5, up2_row]
        have f23 : g6 (T + 23) = upf (g (T + 23)) (c1 c n (h (T + 4) i)) i := by rw [e6, up2_row, e5, up2_rown (by omega)]
        have fo : ∀ a j, a ≠ T + 23 → a ≠ T + 24 → g6 a j = g a j := fun a j x1 x2 => by rw [e6, up2_nc x1, e5, up2_nc x2]
        clear e5 e6
        have f20 : ∀ j, g6 (T + 20) j = g (T + 20) j := fun j => fo _ j (by omega) (by omega)
        have f21 : g6 (T + 21) = g (T + 21) := funext fun j => fo _ j (by omega) (by omega)
        have f22 : g6 (T + 22) = g (T + 22) := funext fun j => fo _ j (by omega) (by omega)
        refine ih g6 (fun z => Ad z ∨ z = i) _ _ (fun a j q => by rw [fo a j (by omega) (by omega), so a j q]) (by rw [f20, s7]) ?_ (by rw [f20]; exact ⟨pb.1, by omega⟩) (by rw [f20, f21, f22]; exact pj) ?_
        · rw [f23, f24]
          have adlt : ∀ z, Ad z → z < i := fun z hz => (t2 z hz).1.2
          refine ⟨fun q q0 q1 => ?_, fun z hz => ?_, fun z hz => ?_, fun z z' hz hz' e l => ?_⟩
          · by_cases y : q = c1 c n (h (T + 4) i)
            · rw [y, upf_eq]; exact Or.inr ⟨Or.inr rfl, rfl⟩
            · rw [upf_ne y]
              rcases t1 q q0 q1 with x | ⟨x1, x2⟩
              · exact Or.inl x
              · exact Or.inr ⟨Or.inl x1, x2⟩
          · rcases hz with hz | hz
            · obtain ⟨x1, x2, x3, x4⟩ := t2 z hz
              rw [upf_ne (show z ≠ i by omega)]
              refine ⟨⟨x1.1, by omega⟩, x2, x3, ?_⟩
              rcases x4 with x4 | ⟨x4, x5, x6⟩
              · exact Or.inl x4
              · exact Or.inr ⟨Or.inl x4, x5, x6⟩
            · rw [hz, upf_eq]
              refine ⟨⟨i0, by omega⟩, le, w, ?_⟩
              rcases t1 _ q01.1 q01.2 with x | ⟨x1, x2⟩
              · exact Or.inl x
              · exact Or.inr ⟨Or.inl x1, x2, adlt _ x1⟩
          · rcases hz with hz | hz
            · have x := t3 z hz
              have zl := adlt z hz
              by_cases y : c1 c n (h (T + 4) z) = c1 c n (h (T + 4) i)
              · show upf (g (T + 23)) (c1 c n (h (T + 4) i)) i (c1 c n (h (T + 4) z)) ≠ -1 ∧ z ≤ upf (g (T + 23)) (c1 c n (h (T + 4) i)) i (c1 c n (h (T + 4) z))
                rw [y, upf_eq]; omega
              · show upf (g (T + 23)) (c1 c n (h (T + 4) i)) i (c1 c n (h (T + 4) z)) ≠ -1 ∧ z ≤ upf (g (T + 23)) (c1 c n (h (T + 4) i)) i (c1 c n (h (T + 4) z))
                rw [upf_ne y]; exact x
            · rw [hz]
              show upf (g (T + 23)) (c1 c n (h (T + 4) i)) i (c1 c n (h (T + 4) i)) ≠ -1 ∧ i ≤ upf (g (T + 23)) (c1 c n (h (T + 4) i)) i (c1 c n (h (T + 4) i))
              rw [upf_eq]; omega
          · rcases hz with hz | hz
            · have zl := adlt z hz
              rcases hz' with hz' | hz'
              · rw [upf_ne (show z ≠ i by omega)]
                exact t4 z z' hz hz' e l
              · omega
            · rcases hz' with hz' | hz'
              · rw [hz] at e ⊢
                rw [upf_eq]
                have x := t3 z' hz'
                have e : c1 c n (h (T + 4) i) = c1 c n (h (T + 4) z') := e
                rw [e]
                exact x
              · omega
        · intro hz
          rw [f20] at hz
          obtain ⟨z1, z2⟩ := pz hz
          refine ⟨fun z za zb zc zd => ?_, fun z z' hz hz' e1 e2 e3 => ?_⟩
          · by_cases y : z = i
            · exact Or.inr y
            · exact Or.inl (z1 z za (by omega) zc zd)
          · rw [g3, g5] at none
            rcases hz with hz | hz <;> rcases hz' with hz' | hz'
            · exact z2 z z' hz hz' e1 e2 e3
            · subst hz'; exact absurd ⟨e2, e3⟩ (none z hz e1)
            · subst hz; exact absurd ⟨e2.symm, e3.symm⟩ (none z' hz' e1.symm)
            · rw [hz, hz']
  refine W_Unifier_pushTwins_0 hT ?_
  have loop : ∀ g : HP, g = setR gs (T + 23) 0 0 (fun _ => -1) → Go d M_Unifier_pushTwins 2 [(18, T + 20), (0, 0), (2, 0), (2, 0)] [] g Q := by
    refine up_loop (i := 0) (hi := n) n0 (P := fun i => ∀ g : HP, g = setR gs (T + 23) 0 i (fun _ => -1) → Go d M_Unifier_pushTwins 2 [(18, T + 20), (0, i), (2, 0), (2, 0)] [] g Q) ?_ ?_
    · intro g hg
      have gb : ∀ i, 0 ≤ i → i < n → g (T + 23) i = -1 := fun i a b => by rw [hg, setR_in a b]
      have go : ∀ a i, a ≠ T + 23 → g a i = gs a i := fun a i q => by rw [hg, setR_ne q]
      clear hg
      refine W_Unifier_pushTwins_2 hT ⟨fun _ => main g (fun _ => False) _ _ (fun a i q => go a i (by omega)) (go _ _ (by omega)) ⟨fun q q0 q1 => Or.inl (gb q q0 q1), fun z hz => hz.elim, fun z hz => hz.elim, fun z z' hz => hz.elim⟩ ?_ (fun j j0 j1 => ?_) (fun _ => ⟨fun z z0 z1 => by omega, fun z z' hz => hz.elim⟩), fun w => ?_⟩
      · rw [go _ _ (by omega), hp]; omega
      · rw [go _ _ (by omega), hp] at j1; omega
      · rw [go _ _ (by omega), F.2.1.1] at w; omega
    · intro i i0 i1 ih g hg
      refine W_Unifier_pushTwins_2 hT ?_
      rw [show g T 13 = n by rw [hg, setR_ne (by omega), F.2.1.1]]
      refine ⟨fun w => by omega, fun _ => ⟨⟨by omega, by omega⟩, ?_⟩⟩
      intro q e
      refine ⟨by unfold r32; omega, ih q ?_⟩
      rw [e, hg, setR_snoc i0 rfl]
  exact loop _ (by rw [setR_nil (Int.le_refl _)])
end
