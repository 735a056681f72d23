section
abbrev cj (h0 : HP) (A p : Int) (Γ : Int → Tm) (sc : Int) (S : Sx) (V : Vx) (D : Int) (g : Tm) (k : Int) (a : Tm) (z : Int) (f : Nat) (q : Int) (seen : Int → Prop) : Prop := caJ (bA (h0 (A + 1)) (h0 A 2)) (h0 (A + 2)) (h0 36 4) (sbr h0) (llr h0) (ppr h0) (fun j => h0 (41 + 2 * j) 4) (jj h0 A) p Γ sc S V D g k a z f q seen
/-- the cases of a match -/
theorem m_loop {d : Nat} {h0 : HP} {A : Int} {N : Nat} {p sc r w' hs D g x y k m : Int} {tm : Int → Tm} {S : Sx} {V : Vx} {Γ : Int → Tm} {mu : Int → Nat} {Q : PQ} (bc : BC h0 A) (ck : CkT h0 A N) (p0 : 0 ≤ p) (hN : h0 A 2 - p ≤ N) (hd : 4 * N + 35 < d) (s1 : sc ≤ 3 + p) (s2 : 2 * hs ≤ 3 * p) (s3 : 4 * D ≤ p) (F : FrN V mu) : ∀ (f : Nat) (q w : Int) (seen : Int → Prop) (v6 v8 : Int) (w9 w10 : AV) (h : HP), GK (bA (h0 (A + 1)) (h0 A 2)) (nPr h0) (ppr h0) (llr h0) (gd h0 A) f q sc w r w' → p + 3 ≤ q → w ≤ 240 → h0 A 2 ≤ w → m ≤ 26 + 3 * q + (w - h0 A 2) → (∀ j, 0 ≤ j → j < 10 → (bAnd v6 (bShl 1 j) = 0 ↔ ¬ seen j)) → 0 ≤ v8 → v8 ≤ q → ST h0 A h tm S V D sc hs Γ m → 0 ≤ y → y < h 96 13 → 0 ≤ g → g < h 96 13 →
    (∀ h', cj h0 A p Γ sc S V D (tm g) k (tm y) 0 f q seen → ST h0 A h' tm S V D sc hs Γ m → XB 96 h tm h' tm → KX h h' sc hs → Q 1 h') →
    (∀ h' z, cj h0 A p Γ sc S V D (tm g) k (tm y) z f q seen → z = 10 * h' A 4 + h' A 5 → (1 ≤ h' A 5 ∧ h' A 5 ≤ 9 ∧ 0 ≤ h' A 4 ∧ h' A 4 ≤ 100) → KZ h h' sc hs A → FO h h' → Q 0 h') →
    Go d M_Checker_checkMatch 84 [(10, 92), (0, p), (0, g), (0, x), (0, k - 3), (0, y), (0, v6), (0, q), (0, v8), w9, w10] [] h Q := by
  have a0 := bc.1
  have bn := bc.2.1
  have n10 := bc.2.2.1.1
  intro f
  induction f with
  | zero => intro q w seen v6 v8 w9 w10 h G; exact absurd G (fun z => z)
  | succ f ih =>
    intro q w seen v6 v8 w9 w10 h G q3 w0 w1 hm hw v0 vq s y0 y1 g0 g1 HG HB
    have k7 : h 92 7 = A := s.2.1.2.2.1.2.2.1
    rcases G with ⟨b, er, ew⟩ | ⟨nb, ok, hl, r1, u1, G1, rest⟩
    · have qn := (bA_lt (b := h0 (A + 1)) (n := h0 A 2) (p := q) (by omega)).2
      have fin : Go d M_Checker_checkMatch 209 [(10, 92), (0, p), (0, g), (0, x), (0, k - 3), (0, y), (0, v6), (0, q), (0, v8), w9, w10] [] h Q := by
        refine V_Checker_checkMatch_209 ⟨by omega, k_admits (k := k) (mu := mu) bc (by omega) s F (by omega) (by omega) y0 y1 hw (fun hj g2 s2 X2 o2 => ⟨fun z => absurd z (by decide), fun _ => ⟨by omega, ?_, by omega, fun g3 e3 g4 e4 => ?_⟩⟩) (fun nj g2 s2 X2 o2 => ⟨fun _ => V_Checker_checkMatch_239 (HG g2 (Or.inl ⟨b, mu, F, Or.inr ⟨nj, rfl⟩⟩) s2 X2 o2), fun z => absurd rfl z⟩)⟩
        · have e7 : g2 92 7 = A := s2.2.1.2.2.1.2.2.1
          omega
        · have e7 : g2 92 7 = A := s2.2.1.2.2.1.2.2.1
          rw [e7] at e3 e4
          obtain ⟨f4, f5, z, fo⟩ := k_flt (sc := sc) (hs := hs) a0 s2.2.1.1 e3 e4
          exact HB g4 (10 * p + 9) (Or.inl ⟨b, mu, F, Or.inl ⟨hj, rfl⟩⟩) (by omega) (by omega) (KX_KZ o2 z) (FO_trans s.2.1.1 s2.2.1.1 X2.1 fo)
      refine V_Checker_checkMatch_84 ⟨fun _ => fin, fun _ => ⟨by omega, by omega, ?_⟩⟩
      rw [k7]
      exact k_dig bc s.1 (fun u v => by omega) (fun _ => ⟨fun _ => fin, fun z => absurd rfl z⟩)
    · have qn := (bA_lt (b := h0 (A + 1)) (n := h0 A 2) (p := q) (by have := ok.1; omega)).2
      have ok1 := ok.1
      have ok2 := ok.2.1
      have ok3 : bA (h0 (A + 1)) (h0 A 2) q - 48 < h0 36 4 := ok.2.2
      have e4 : h 36 4 = h0 36 4 := s.1 36 4 (by omega) (by omega)
      have ql := bc_w bc _ _ _ _ _ (by omega) G1
      have ce := cel_ok bc (Or.inl rfl) (j := bA (h0 (A + 1)) (h0 A 2) q - 48) (by omega) ok.2.2
      have ll := ce.2.2.2.2.2.1
      have eF : h (41 + 2 * (bA (h0 (A + 1)) (h0 A 2) q - 48)) 4 = h0 (41 + 2 * (bA (h0 (A + 1)) (h0 A 2) q - 48)) 4 := s.1 _ 4 (by omega) (by omega)
      have frn : ∀ (v9 v10 : Int), (h0 (41 + 2 * (bA (h0 (A + 1)) (h0 A 2) q - 48)) 4 ≠ k - 3 ∨ seen (bA (h0 (A + 1)) (h0 A 2) q - 48)) → Go d M_Checker_checkMatch 158 [(10, 92), (0, p), (0, g), (0, x), (0, k - 3), (0, y), (0, v6), (0, q), (0, v8), (0, v9), (36, v10)] [] h Q := by
        intro v9 v10 c
        refine V_Checker_checkMatch_158 ⟨by omega, by omega, by omega, fun g3 e3 g4 e4 => ?_⟩
        rw [k7] at e3 e4
        obtain ⟨f4, f5, z, fo⟩ := k_flt (sc := sc) (hs := hs) a0 s.2.1.1 e3 e4
        exact HB g4 (10 * q + 7) (Or.inr ⟨nb, Or.inl ⟨c, rfl⟩⟩) (by omega) (by omega) z fo
      refine V_Checker_checkMatch_84 ⟨fun z => by omega, fun _ => ⟨by omega, by omega, ?_⟩⟩
      rw [k7]
      refine k_dig bc s.1 (fun _ _ => ⟨fun z => by omega, fun _ => ⟨by omega, by omega, ?_⟩⟩) (fun z => absurd ⟨ok1, ok2⟩ z)
      rw [k7]
      refine k_dig bc s.1 (fun _ _ => ⟨by omega, by omega, ?_⟩) (fun z => absurd ⟨ok1, ok2⟩ z)
      rw [k7]
      refine k_dig bc s.1 (fun _ _ => ⟨by omega, ?_⟩) (fun z => absurd ⟨ok1, ok2⟩ z)
      refine c_consOf (by omega) (fun j0 j1 => ⟨fun z => by omega, fun _ => ⟨by omega, fun nf => frn _ _ (Or.inl (by rw [← eF]; exact nf)), fun ef => ⟨fun ns => ⟨by omega, ?_⟩, fun sn => frn _ _ (Or.inr (Classical.byContradiction fun z => sn ((hw _ j0 (by omega)).2 z)))⟩⟩⟩) (fun z => by omega)
      rw [eF] at ef
      have ns' := (hw _ j0 (by omega)).1 ns
      refine k_case (mu := mu) bc ck (by omega) (by omega) (by omega) (by omega) ⟨j0, ok3⟩ rfl rfl G1 hl (by omega) (by omega) (by omega) (by omega) hm s F y0 y1 g0 g1 (fun h' S1 V1 t1 sa j1 s' X' e13 kx => ⟨fun _ => ⟨by unfold r32; omega, ?_, by omega, ?_⟩, fun z => absurd z (by decide)⟩) (fun h' ns4 e4 e5 z fo => ⟨fun z => absurd rfl z, fun _ => HB h' (10 * q + 8) (Or.inr ⟨nb, Or.inr ⟨⟨ef, ns'⟩, mu, F, Or.inl ⟨ns4, rfl⟩⟩⟩) (by omega) (by omega) z fo⟩) (fun h' z S1 V1 t1 sa j1 ez b zz fo => ⟨fun z => absurd rfl z, fun _ => HB h' z (Or.inr ⟨nb, Or.inr ⟨⟨ef, ns'⟩, mu, F, Or.inr ⟨sa, z, S1, V1, t1, j1, Or.inl ⟨by omega, rfl⟩⟩⟩⟩) ez b zz fo⟩)
      · have e7 : h' 92 7 = A := s'.2.1.2.2.1.2.2.1
        omega
      · have e7 : h' 92 7 = A := s'.2.1.2.2.1.2.2.1
        rw [e7]
        refine k_beh (by omega) bc s'.1 (by omega) (fun y6 hy => ⟨by unfold r32; omega, ?_⟩)
        have ey := hy _ _ _ _ G1
        subst ey
        have ee : h0 (A + 2) (q + 1) = y6 := (GD_e G1).2
        refine ih y6 u1 (fun j => seen j ∨ j = bA (h0 (A + 1)) (h0 A 2) q - 48) _ _ _ _ h' rest (by omega) (by omega) (by omega) (by omega) (fun j j0' j1' => ?_) (by omega) (by omega) s' y0 (by omega) g0 (by omega) (fun h2 c2 s2 X2 o2 => ?_) (fun h2 z c2 ez b zz fo => ?_)
        · rw [bit_or j0 (by omega) j0' j1', hw j j0' j1']
          exact ⟨fun ⟨a, b⟩ c => c.elim a b, fun a => ⟨fun b => a (Or.inl b), fun b => a (Or.inr b)⟩⟩
        · refine HG h2 (Or.inr ⟨nb, Or.inr ⟨⟨ef, ns'⟩, mu, F, Or.inr ⟨sa, 0, S1, V1, t1, j1, Or.inr ⟨rfl, ?_⟩⟩⟩⟩) s2 (ST_X s s' X' X2) (KX_trans kx o2)
          rw [ee]
          exact c2
        · refine HB h2 z (Or.inr ⟨nb, Or.inr ⟨⟨ef, ns'⟩, mu, F, Or.inr ⟨sa, 0, S1, V1, t1, j1, Or.inr ⟨rfl, ?_⟩⟩⟩⟩) ez b (KX_KZ kx zz) (FO_trans s.2.1.1 s'.2.1.1 X'.1 fo)
          rw [ee]
          exact c2
end
