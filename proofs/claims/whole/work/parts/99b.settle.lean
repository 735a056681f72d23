section
def PuR (T : Int) (g g' : HP) (a b : Int) : Prop := ((a = -1 ∨ b = -1) ∧ g' = g) ∨ (a ≠ -1 ∧ b ≠ -1 ∧ g' (T + 21) = upf (g (T + 21)) (g (T + 20) 6) a ∧ g' (T + 22) = upf (g (T + 22)) (g (T + 20) 6) b ∧ g' (T + 20) 6 = g (T + 20) 6 + 1 ∧ (∀ x i, x ≠ T + 21 → x ≠ T + 22 → ¬ (x = T + 20 ∧ i = 6) → g' x i = g x i))
theorem c_push {d : Nat} {T R a b : Int} {g : HP} {Q : PQ} (hT : TR T R) (p0 : 0 ≤ g (T + 20) 6) (p1 : g (T + 20) 6 < 2 * R) (H : ∀ g', PuR T g g' a b → Q 0 g') : Go d M_Unifier_push 0 [(18, T + 20), (0, a), (0, b)] [] g Q := by
  have tr := TR_le hT
  refine W_Unifier_push_0 hT ⟨fun w => H g (Or.inl ⟨Or.inl w, rfl⟩), fun w => ⟨fun v => H g (Or.inl ⟨Or.inr v, rfl⟩), fun v => ⟨fun u => by omega, fun _ => ⟨⟨p0, p1⟩, ?_⟩⟩⟩⟩
  rintro g1 rfl
  rw [up2_nc (show T + 20 ≠ T + 21 by omega)]
  refine ⟨⟨p0, p1⟩, ?_⟩
  rintro g2 rfl
  rw [up2_nc (show T + 20 ≠ T + 22 by omega), up2_nc (show T + 20 ≠ T + 21 by omega)]
  refine ⟨by unfold r32; omega, ?_⟩
  rintro g3 rfl
  refine H _ (Or.inr ⟨w, v, ?_, ?_, up2_eq, fun x i q1 q2 q3 => ?_⟩)
  · rw [up2_rown (by omega), up2_rown (by omega), up2_row]
  · rw [up2_rown (by omega), up2_row, up2_rown (by omega)]
  · rw [up2_ext q3, up2_nc q2, up2_nc q1]
theorem PuR_sc {T : Int} {g g' : HP} {a b : Int} (P : PuR T g g' a b) : ScC T g g' := by
  rcases P with ⟨_, e⟩ | ⟨_, _, _, _, _, o⟩
  · rw [e]; exact ScC_refl T g
  · intro x i q
    exact o x i (by omega) (by omega) (by omega)
theorem PuR_7 {T : Int} {g g' : HP} {a b : Int} (P : PuR T g g' a b) : g' (T + 20) 7 = g (T + 20) 7 := by
  rcases P with ⟨_, e⟩ | ⟨_, _, _, _, _, o⟩
  · rw [e]
  · exact o _ _ (by omega) (by omega) (by omega)
/-- the heap on the way -/
def UJ (h g : HP) (T R : Int) (tm : Int → Tm) (S' : Sx) (Rl : Int → Int → Prop) (c0 c : Int → Int) : Prop := FB g T R (h T 13) (g T 14) c ∧ ExC T h g ∧ (∀ k, 3 ≤ k → k ≤ 6 → g (T + k) = h (T + k)) ∧ g T 15 = h T 15 ∧ 0 ≤ g (T + 20) 6 ∧ JI (h T 13) (h (T + 3)) (h (T + 4)) (h (T + 5)) (h (T + 6)) (h T 15) tm S' Rl c0 (ldC h T c0) c (g (T + 20) 6) (g (T + 21)) (g (T + 22)) (g (T + 20) 7)
theorem c_settle {d : Nat} {h : HP} {T R : Int} {tm : Int → Tm} {S S' : Sx} {Rl : Int → Int → Prop} {c0 cs : Int → Int} {gs : HP} {Q : PQ} (hd : 9 < d) (W : CW h T R tm S c0) (U : UJ h gs T R tm S' Rl c0 cs) (hp : gs (T + 20) 6 ≤ h T 13)
    (H1 : ∀ g c, UJ h g T R tm S' Rl c0 c → g (T + 20) 6 = 0 → gs T 14 ≤ g T 14 → (g T 14 = gs T 14 → c = cs) → Q 1 g)
    (H0 : ¬ Sat S' → ∀ g c, FB g T R (h T 13) (g T 14) c → ExC T h g → Q 0 g) :
    Go d M_Unifier_settle 0 [(18, T + 20), (2, 0), (2, 0), (2, 0), (2, 0), (2, 0), (2, 0)] [] gs Q := by
  have L0 := CW_L0 W
  obtain ⟨F0, P, Uq, NA, hb, hd0⟩ := W
  have hT := F0.1
  have tr := TR_le hT
  have n0 := F0.2.1.2.1
  have nR := F0.2.1.2.2
  have H8 := F0.2.2.2.2.2.2.2.2
  have Ld0 := (FB_lead F0).1
  have Ws := P.1
  have Ar := Wst_arg Ws
  generalize hn : h T 13 = n at *
  have main : ∀ (k : Nat) (g : HP) (c : Int → Int) (v : Int) (w2 w3 w4 w5 w6 : AV), UJ h g T R tm S' Rl c0 c → gs T 14 ≤ g T 14 → (g T 14 = gs T 14 → c = cs) → 0 ≤ v → v + g (T + 20) 6 ≤ n + 2 * (g T 14 - gs T 14) → g (T + 20) 6 ≤ n + (g T 14 - gs T 14) → (8 * R - v).toNat = k → Go d M_Unifier_settle 2 [(18, T + 20), (0, v), w2, w3, w4, w5, w6] [] g Q := by
    intro k
    induction k with
    | zero =>
      intro g c v w2 w3 w4 w5 w6 U1 l1 l2 v0 m1 m2 hk
      obtain ⟨F, _, _, _, p0, _⟩ := U1
      have e := F.2.2.2.1
      have bd := cnt_bd (p := fun x => c x = x) n0
      have eg := U.1.2.2.2.1
      have bg := cnt_bd (p := fun x => cs x = x) n0
      rw [hn] at e eg
      omega
    | succ k ih =>
      intro g c v w2 w3 w4 w5 w6 U1 l1 l2 v0 m1 m2 hk
      have U1' := U1
      obtain ⟨F, X, rows, d15, p0, J⟩ := U1
      rw [hn] at F J
      have Lb : 0 ≤ g T 14 ∧ g T 14 ≤ n := by
        have e := F.2.2.2.1
        have bd := cnt_bd (p := fun x => c x = x) n0
        omega
      have Gb : 0 ≤ gs T 14 ∧ gs T 14 ≤ n := by
        have e := U.1.2.2.2.1
        rw [hn] at e
        have bd := cnt_bd (p := fun x => cs x = x) n0
        omega
      refine W_Unifier_settle_2 hT ⟨by unfold r32; omega, fun w => by omega, fun _ => ⟨fun w => H1 g c U1' (by omega) l1 l2, fun w => ⟨by unfold r32; omega, ?_⟩⟩⟩
      intro g1 e1
      have a6 : g1 (T + 20) 6 = g (T + 20) 6 - 1 := by rw [e1, up2_eq]
      have a7 : g1 (T + 20) 7 = g (T + 20) 7 := by rw [e1, up2_ni (by decide)]
      have ao : ∀ a i, a ≠ T + 20 → g1 a i = g a i := fun a i q => by rw [e1, up2_nc q]
      clear e1
      have F1 : FB g1 T R n (g T 14) c := FB_scr (fun a i q => ao a i (by omega)) F
      have X1 : ExC T h g1 := ExC_trans F L0.1 X (ScC_ExC (fun a i q => ao a i (by omega)))
      have ar : ∀ j, j ≠ 20 → g1 (T + j) = g (T + j) := fun j q => funext fun i => ao _ i (by omega)
      have aT : ∀ i, g1 T i = g T i := fun i => ao T i (by omega)
      rw [a6, ar 21 (by decide)]
      generalize hp' : g (T + 20) 6 - 1 = p at *
      have pe : g (T + 20) 6 = p + 1 := by omega
      rw [pe] at J m1 m2
      obtain ⟨⟨a0, a1⟩, ⟨b0, b1⟩, eqab⟩ := J.2.2.1 p (by omega) (by omega)
      have Ld := FB_lead F1
      refine ⟨⟨by omega, by omega⟩, by omega, c_root F1 (fun _ _ => ?_) (fun z => by omega)⟩
      rw [a6, ar 22 (by decide)]
      refine ⟨⟨by omega, by omega⟩, by omega, c_root F1 (fun _ _ => ?_) (fun z => by omega)⟩
      have ca := (F1.2.2.2.2.1 _ a0 a1).2.1
      have cb := (F1.2.2.2.2.1 _ b0 b1).2.1
      have cca := Frs_cc F1.2.2.2.2.1 a0 a1
      have ccb := Frs_cc F1.2.2.2.2.1 b0 b1
      refine ⟨fun ne => ?_, fun e => ⟨by unfold r32; omega, ?_⟩⟩
      · have lxa := Ld.2 _ a0 a1
        have lxb := Ld.2 _ b0 b1
        have la := Ld.1 _ a0 a1
        have lb := Ld.1 _ b0 b1
        refine ⟨by omega, c_leadAt hT F1.2.1.1 nR ca.1 ca.2 lxa ⟨by omega, c_leadAt hT F1.2.1.1 nR cb.1 cb.2 lxb ?_⟩⟩
        have exA : g1 (T + 9) (c (g (T + 21) p)) % 1024 = ldC g1 T c (g (T + 21) p) := rfl
        have exB : g1 (T + 9) (c (g (T + 22) p)) % 1024 = ldC g1 T c (g (T + 22) p) := rfl
        rw [exA, exB]
        have r3 : g1 (T + 3) = h (T + 3) := by rw [ar 3 (by decide), rows 3 (by omega) (by omega)]
        have r6 : g1 (T + 6) = h (T + 6) := by rw [ar 6 (by decide), rows 6 (by omega) (by omega)]
        have LdH : Led 0 n (h (T + 3)) c (ldC g1 T c) := by rw [← r3]; exact Ld.1
        rw [r3]
        generalize hA : ldC g1 T c (g (T + 21) p) = A at *
        generalize hB : ldC g1 T c (g (T + 22) p) = B at *
        -- linking
        have link : ∀ (t' fm : Int), isB t' → ((fm = 0 ∧ ¬ (h (T + 3) A ≤ 6 ∧ h (T + 3) B ≤ 6)) ∨ (fm = 1 ∧ h (T + 3) A ≤ 6 ∧ h (T + 3) B ≤ 6 ∧ h (T + 3) A = h (T + 3) B)) → ((t' = 1 ∧ (g (T + 20) 7 = 1 ∨ (¬ (h (T + 3) A ≤ 6 ∧ h (T + 3) B ≤ 6) ∧ ¬ Fre (h (T + 3)) (h (T + 6)) (h T 15) A ∧ ¬ Fre (h (T + 3)) (h (T + 6)) (h T 15) B))) ∨ (t' = 0 ∧ g (T + 20) 7 = 0 ∧ ¬ (¬ (h (T + 3) A ≤ 6 ∧ h (T + 3) B ≤ 6) ∧ ¬ Fre (h (T + 3)) (h (T + 6)) (h T 15) A ∧ ¬ Fre (h (T + 3)) (h (T + 6)) (h T 15) B))) → Go d M_Unifier_settle 195 [(18, T + 20), (0, v), (0, c (g (T + 21) p)), (0, c (g (T + 22) p)), (0, A), (0, B), (0, fm)] [(0, t'), (18, T + 20)] g1 Q := by
          intro t' fm bt hfm ht'
          refine W_Unifier_settle_195 hT ⟨bt, ?_⟩
          intro g2 e2
          have s7 : g2 (T + 20) 7 = t' := by rw [e2, up2_eq]
          have s6 : g2 (T + 20) 6 = p := by rw [e2, up2_ni (by decide), a6]
          have so : ∀ a i, a ≠ T + 20 → g2 a i = g a i := fun a i q => by rw [e2, up2_nc q, ao a i q]
          clear e2
          have F2 : FB g2 T R n (g T 14) c := FB_scr (fun a i q => so a i (by omega)) F
          have X2 : ExC T h g2 := ExC_trans F L0.1 X (ScC_ExC (fun a i q => so a i (by omega)))
          refine ⟨by omega, c_link (by omega) F2 ca.1 ca.2 cb.1 cb.2 cca ccb ne (fun g3 s gg hsg K F3 => ?_)⟩
          have hs : 0 ≤ s ∧ s < n ∧ c s = s ∧ s ≠ gg := by
            rcases hsg with ⟨q1, q2⟩ | ⟨q1, q2⟩
            · subst q1 q2; exact ⟨ca.1, ca.2, cca, ne⟩
            · subst q1 q2; exact ⟨cb.1, cb.2, ccb, fun z => ne z.symm⟩
          have X3 : ExC T h g3 := ExC_trans F2 L0.1 X2 (ExC_link F2 hs.1 hs.2.1 hs.2.2.1 hs.2.2.2 K)
          obtain ⟨_, _, _, _, k5, k6⟩ := K
          have e14 : g3 T 14 = g T 14 + 1 := by rw [k5, so T 14 (by omega)]
          have Lb3 : g T 14 + 1 ≤ n := by
            have e := F3.2.2.2.1
            have bd := cnt_bd (p := fun x => jnC c s gg x = x) n0
            omega
          have e20 : ∀ i, g3 (T + 20) i = g2 (T + 20) i := fun i => k6 _ i (by omega) (by omega)
          have e21 : g3 (T + 21) = g (T + 21) := funext fun i => by rw [k6 _ i (by omega) (by omega), so _ i (by omega)]
          have e22 : g3 (T + 22) = g (T + 22) := funext fun i => by rw [k6 _ i (by omega) (by omega), so _ i (by omega)]
          have er : ∀ j, 3 ≤ j → j ≤ 6 → g3 (T + j) = h (T + j) := fun j q1 q2 => funext fun i => by rw [k6 _ i (by omega) (by omega), so _ i (by omega), rows j q1 q2]
          have e15 : g3 T 15 = h T 15 := by rw [k6 T 15 (by omega) (by omega), so T 15 (by omega), d15]
          -- what is left behind the pushes
          have fin : ∀ g4 : HP, ScC T g3 g4 → g4 (T + 20) 7 = t' → p ≤ g4 (T + 20) 6 → g4 (T + 20) 6 ≤ p + 2 → (∀ i, 0 ≤ i → i < p → g4 (T + 21) i = g (T + 21) i ∧ g4 (T + 22) i = g (T + 22) i) → (∀ i, p ≤ i → i < g4 (T + 20) 6 → (0 ≤ g4 (T + 21) i ∧ g4 (T + 21) i < n) ∧ (0 ≤ g4 (T + 22) i ∧ g4 (T + 22) i < n) ∧ EqS S' (tm (g4 (T + 21) i)) (tm (g4 (T + 22) i))) → (h (T + 3) A ≤ 6 → h (T + 3) B ≤ 6 → 2 ≤ h (T + 3) A → ∃ i, 0 ≤ i ∧ i < g4 (T + 20) 6 ∧ g4 (T + 21) i = h (T + 4) A ∧ g4 (T + 22) i = h (T + 4) B) → (h (T + 3) A ≤ 6 → h (T + 3) B ≤ 6 → h (T + 3) A = 2 → ∃ i, 0 ≤ i ∧ i < g4 (T + 20) 6 ∧ g4 (T + 21) i = h (T + 5) A ∧ g4 (T + 22) i = h (T + 5) B) → ∀ w2 w3 w4 w5 w6, Go d M_Unifier_settle 2 [(18, T + 20), (0, v + 1), w2, w3, w4, w5, w6] [] g4 Q := by
            have m3 : (8 * R - (v + 1)).toNat = k := by omega
            intro g4 s4 t4 q1 q2 q3 q4 q5 q6 w2 w3 w4 w5 w6
            have f14 : g4 T 14 = g T 14 + 1 := by rw [s4 T 14 (by omega), e14]
            refine ih g4 (jnC c s gg) (v + 1) _ _ _ _ _ ⟨?_, ?_, ?_, ?_, by omega, ?_⟩ (by omega) (fun z => by omega) (by omega) (by omega) (by omega) m3
            · rw [hn, f14]; exact FB_scr s4 F3
            · exact ExC_trans F3 L0.1 X3 (ScC_ExC s4)
            · intro j j1 j2
              rw [ScC_row s4 j (by omega), er j j1 j2]
            · rw [s4 T 15 (by omega), e15]
            · rw [hn]
              refine JI_link (L := ldC g1 T c) (by omega) J H8 Ar Ld0 LdH (fun x y q1 q2 q3 => (hb x y q1 q2 q3).2.1) ne hsg ?_ q1 q3 q4 ?_ ?_ ?_
              · rw [hA, hB]
                intro z1 z2
                rcases hfm with ⟨_, z⟩ | ⟨_, _, _, z⟩
                · exact absurd ⟨z1, z2⟩ z
                · exact z
              · rw [hA, hB]; exact q5
              · rw [hA, hB]; exact q6
              · rw [hA, hB, t4]; exact ht'
          refine ⟨fun z => ⟨by unfold r32; omega, ?_⟩, fun z => ?_⟩
          · have nf : ¬ (h (T + 3) A ≤ 6 ∧ h (T + 3) B ≤ 6) := by
              rcases hfm with ⟨_, q⟩ | ⟨q, _⟩
              · exact q
              · omega
            refine fin g3 (ScC_refl T g3) (by rw [e20, s7]) (by rw [e20, s6]; omega) (by rw [e20, s6]; omega) (fun i _ _ => by rw [e21, e22]; exact ⟨rfl, rfl⟩) (fun i q1 q2 => by rw [e20, s6] at q2; omega) (fun q1 q2 => absurd ⟨q1, q2⟩ nf) (fun q1 q2 => absurd ⟨q1, q2⟩ nf) _ _ _ _ _
          · have fm1 : h (T + 3) A ≤ 6 ∧ h (T + 3) B ≤ 6 ∧ h (T + 3) A = h (T + 3) B := by
              rcases hfm with ⟨q, _⟩ | ⟨_, q⟩
              · exact absurd q z
              · exact q
            obtain ⟨fA, fB, fE⟩ := fm1
            have naA := NA A la.1 la.2.1
            have naB := NA B lb.1 lb.2.1
            have eqAB : EqS S' (tm A) (tm B) := by
              intro θ hθ
              have rs := J.1 θ hθ
              rw [rs A (g (T + 21) p) la.1 la.2.1 a0 a1 la.2.2.1, rs B (g (T + 22) p) lb.1 lb.2.1 b0 b1 lb.2.2.1]
              exact eqab θ hθ
            have args : ∀ θ, S' θ → (2 ≤ h (T + 3) A → sb θ (tm (h (T + 4) A)) = sb θ (tm (h (T + 4) B))) ∧ (h (T + 3) A = 2 → sb θ (tm (h (T + 5) A)) = sb θ (tm (h (T + 5) B))) := by
              intro θ hθ
              have e := eqAB θ hθ
              rw [(Ws.1 A la.1 la.2.1).2.2.2.1 fA, (Ws.1 B lb.1 lb.2.1).2.2.2.1 fB, sb_mk, sb_mk] at e
              exact (mkT_inj (Ws.1 A la.1 la.2.1).1.1 (Ws.1 B lb.1 lb.2.1).1.1 e).2
            rw [er 4 (by omega) (by omega)]
            refine ⟨⟨by omega, by omega⟩, ⟨by omega, by omega⟩, by omega, c_push hT (by rw [e20, s6]; omega) (by rw [e20, s6]; omega) (fun g4 P4 => ?_)⟩
            have sc4 := PuR_sc P4
            have r5 : g4 (T + 5) = h (T + 5) := by rw [ScC_row sc4 5 (by omega), er 5 (by omega) (by omega)]
            rw [r5]
            have p4 : 0 ≤ g4 (T + 20) 6 ∧ g4 (T + 20) 6 ≤ p + 1 := by
              rcases P4 with ⟨_, e⟩ | ⟨_, _, _, _, e, _⟩
              · rw [e, e20, s6]; omega
              · rw [e, e20, s6]; omega
            refine ⟨⟨by omega, by omega⟩, ⟨by omega, by omega⟩, by omega, c_push hT p4.1 (by omega) (fun g5 P5 => ?_)⟩
            have t5 : g5 (T + 20) 7 = t' := by rw [PuR_7 P5, PuR_7 P4, e20, s7]
            refine ⟨by unfold r32; omega, ?_⟩
            have sc5 := ScC_trans sc4 (PuR_sc P5)
            rcases Int.lt_or_le (h (T + 3) A) 2 with k2 | k2
            · -- no arguments
              have z1 : g4 = g3 := by
                rcases P4 with ⟨_, e⟩ | ⟨q, _⟩
                · exact e
                · exact absurd (naA.1 (Or.inl k2)) q
              have z2 : g5 = g4 := by
                rcases P5 with ⟨_, e⟩ | ⟨q, _⟩
                · exact e
                · exact absurd (naA.2 (by omega)) q
              subst z2 z1
              refine fin _ sc5 t5 (by rw [e20, s6]; omega) (by rw [e20, s6]; omega) (fun i _ _ => by rw [e21, e22]; exact ⟨rfl, rfl⟩) (fun i q1 q2 => by rw [e20, s6] at q2; omega) (fun _ _ q => by omega) (fun _ _ q => by omega) _ _ _ _ _
            · have aA := (Ar A la.1 la.2.1).1 k2 fA
              have aB := (Ar B lb.1 lb.2.1).1 (by omega) fB
              have z4 : g4 (T + 21) = upf (g (T + 21)) p (h (T + 4) A) ∧ g4 (T + 22) = upf (g (T + 22)) p (h (T + 4) B) ∧ g4 (T + 20) 6 = p + 1 := by
                rcases P4 with ⟨q, _⟩ | ⟨_, _, q1, q2, q3, _⟩
                · omega
                · rw [e20, s6] at q1 q2 q3
                  rw [e21] at q1
                  rw [e22] at q2
                  exact ⟨q1, q2, q3⟩
              obtain ⟨y1, y2, y3⟩ := z4
              by_cases k3 : h (T + 3) A = 2
              · have cA := (Ar A la.1 la.2.1).2 k3
                have cB := (Ar B lb.1 lb.2.1).2 (by omega)
                have z5 : g5 (T + 21) = upf (upf (g (T + 21)) p (h (T + 4) A)) (p + 1) (h (T + 5) A) ∧ g5 (T + 22) = upf (upf (g (T + 22)) p (h (T + 4) B)) (p + 1) (h (T + 5) B) ∧ g5 (T + 20) 6 = p + 1 + 1 := by
                  rcases P5 with ⟨q, _⟩ | ⟨_, _, q1, q2, q3, _⟩
                  · omega
                  · rw [y3] at q1 q2 q3
                    rw [y1] at q1
                    rw [y2] at q2
                    exact ⟨q1, q2, q3⟩
                obtain ⟨x1, x2, x3⟩ := z5
                refine fin g5 sc5 t5 (by omega) (by omega) (fun i i0 i1 => ?_) (fun i i0 i1 => ?_) (fun _ _ _ => ⟨p, by omega, by omega, ?_, ?_⟩) (fun _ _ _ => ⟨p + 1, by omega, by omega, ?_, ?_⟩) _ _ _ _ _
                · rw [x1, x2, upf_ne (by omega), upf_ne (by omega), upf_ne (by omega), upf_ne (by omega)]; exact ⟨rfl, rfl⟩
                · rw [x1, x2]
                  by_cases q : i = p
                  · have w1 : upf (upf (g (T + 21)) p (h (T + 4) A)) (p + 1) (h (T + 5) A) p = h (T + 4) A := by rw [upf_ne (by omega), upf_eq]
                    have w2 : upf (upf (g (T + 22)) p (h (T + 4) B)) (p + 1) (h (T + 5) B) p = h (T + 4) B := by rw [upf_ne (by omega), upf_eq]
                    rw [q, w1, w2]
                    exact ⟨aA, aB, fun θ hθ => (args θ hθ).1 k2⟩
                  · rw [show i = p + 1 by omega, upf_eq, upf_eq]
                    exact ⟨cA, cB, fun θ hθ => (args θ hθ).2 k3⟩
                · rw [x1, upf_ne (by omega), upf_eq]
                · rw [x2, upf_ne (by omega), upf_eq]
                · rw [x1, upf_eq]
                · rw [x2, upf_eq]
              · have z2 : g5 = g4 := by
                  rcases P5 with ⟨_, e⟩ | ⟨q, _⟩
                  · exact e
                  · exact absurd (naA.2 k3) q
                subst z2
                refine fin _ sc5 t5 (by omega) (by omega) (fun i i0 i1 => ?_) (fun i i0 i1 => ?_) (fun _ _ _ => ⟨p, by omega, by omega, ?_, ?_⟩) (fun _ _ q => absurd q k3) _ _ _ _ _
                · rw [y1, y2, upf_ne (by omega), upf_ne (by omega)]; exact ⟨rfl, rfl⟩
                · rw [y1, y2, show i = p by omega, upf_eq, upf_eq]
                  exact ⟨aA, aB, fun θ hθ => (args θ hθ).1 k2⟩
                · rw [y1, upf_eq]
                · rw [y2, upf_eq]
        -- touched
        have t01 : g (T + 20) 7 = 1 ∨ g (T + 20) 7 = 0 := by
          rcases J.2.2.2.2.2 with ⟨q, _⟩ | ⟨q, _⟩
          · exact Or.inl q
          · exact Or.inr q
        have free : ∀ (Q : PQ) (z : Int), 0 ≤ z → z < n → (Fre (h (T + 3)) (h (T + 6)) (h T 15) z → Q 1 g1) → (¬ Fre (h (T + 3)) (h (T + 6)) (h T 15) z → Q 0 g1) → Go (d - 1) M_Unifier_isFree 0 [(18, T + 20), (0, z)] [] g1 Q := by
          intro Q z z0 z1 q1 q2
          refine W_Unifier_isFree_0 hT ?_
          rw [r3, r6, aT 15, d15]
          exact ⟨⟨z0, by omega⟩, fun w => q2 (fun f => w f.1), fun w => ⟨⟨z0, by omega⟩, fun u => q2 (fun f => by have := f.2; omega), fun u => q1 ⟨w, u⟩⟩⟩
        have s159 : ∀ fm : Int, ((fm = 0 ∧ ¬ (h (T + 3) A ≤ 6 ∧ h (T + 3) B ≤ 6)) ∨ (fm = 1 ∧ h (T + 3) A ≤ 6 ∧ h (T + 3) B ≤ 6 ∧ h (T + 3) A = h (T + 3) B)) → Go d M_Unifier_settle 159 [(18, T + 20), (0, v), (0, c (g (T + 21) p)), (0, c (g (T + 22) p)), (0, A), (0, B), (0, fm)] [] g1 Q := by
          intro fm hfm
          refine W_Unifier_settle_159 hT ?_
          rw [a7]
          refine ⟨fun w => link 1 fm (Or.inr rfl) hfm (Or.inl ⟨rfl, Or.inl ?_⟩), fun w => ⟨fun u => link 0 fm (Or.inl rfl) hfm (Or.inr ⟨rfl, w, fun q => ?_⟩), fun u => ⟨by omega, free _ A la.1 la.2.1 (fun fr => ⟨fun _ => link 0 fm (Or.inl rfl) hfm (Or.inr ⟨rfl, w, fun q => q.2.1 fr⟩), fun z => absurd z (by decide)⟩) (fun nfr => ⟨fun z => absurd rfl z, fun _ => ⟨by omega, free _ B lb.1 lb.2.1 (fun fr => ⟨fun _ => link 0 fm (Or.inl rfl) hfm (Or.inr ⟨rfl, w, fun q => q.2.2 fr⟩), fun z => absurd z (by decide)⟩) (fun nfr2 => ⟨fun z => absurd rfl z, fun _ => link 1 fm (Or.inr rfl) hfm (Or.inl ⟨rfl, Or.inr ⟨?_, nfr, nfr2⟩⟩)⟩)⟩⟩)⟩⟩⟩
          · rcases t01 with z | z
            · exact z
            · exact absurd z w
          · rcases hfm with ⟨z, _⟩ | ⟨_, z1, z2, _⟩
            · exact u z
            · exact q.1 ⟨z1, z2⟩
          · rcases hfm with ⟨_, z⟩ | ⟨z, _⟩
            · exact z
            · omega
        refine ⟨⟨by omega, by omega⟩, fun w1 => s159 0 (Or.inl ⟨rfl, fun z => by omega⟩), fun w1 => ⟨⟨by omega, by omega⟩, fun w2 => s159 0 (Or.inl ⟨rfl, fun z => by omega⟩), fun w2 => ⟨⟨by omega, by omega⟩, ⟨by omega, by omega⟩, fun w3 => s159 1 (Or.inr ⟨rfl, by omega, by omega, w3⟩), fun w3 => H0 ?_ g1 c (by rw [aT 14]; exact F1) X1⟩⟩⟩
        rintro ⟨θ, hθ⟩
        have rs := J.1 θ hθ
        have e : sb θ (tm A) = sb θ (tm B) := by
          rw [rs A (g (T + 21) p) la.1 la.2.1 a0 a1 la.2.2.1, rs B (g (T + 22) p) lb.1 lb.2.1 b0 b1 lb.2.2.1]
          exact eqab θ hθ
        rw [(Ws.1 A la.1 la.2.1).2.2.2.1 (by omega), (Ws.1 B lb.1 lb.2.1).2.2.2.1 (by omega), sb_mk, sb_mk] at e
        exact w3 (mkT_inj (Ws.1 A la.1 la.2.1).1.1 (Ws.1 B lb.1 lb.2.1).1.1 e).1
      · refine ih g1 c (v + 1) _ _ _ _ _ ⟨?_, X1, ?_, ?_, by omega, ?_⟩ (by rw [aT 14]; exact l1) (fun z => l2 (by rw [aT 14] at z; exact z)) (by omega) (by rw [aT 14]; omega) (by rw [aT 14]; omega) (by omega)
        · rw [hn, aT 14]; exact F1
        · intro j j1 j2
          rw [ar j (by omega), rows j j1 j2]
        · rw [aT 15, d15]
        · rw [hn, a6, a7, ar 21 (by decide), ar 22 (by decide)]
          exact JI_skip (by omega) J e
  refine W_Unifier_settle_0 hT (main _ gs cs 0 _ _ _ _ _ U (Int.le_refl _) (fun _ => rfl) (Int.le_refl _) (by omega) (by omega) rfl)
end
