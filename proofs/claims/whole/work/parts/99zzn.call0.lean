section
/-- the parts of a construction or call, one after the other -/
theorem k_parts {h0 : HP} {A : Int} {N : Nat} (bc : BC h0 A) (ck : CkT h0 A N) {p sc hs D sg v1 v2 v4 n r w' : Int} {Γ : Int → Tm} {d : Nat} {Q : PQ} (p0 : 0 ≤ p) (hN : h0 A 2 - p ≤ N) (hd : 4 * N + 33 < d) (s1 : sc ≤ 3 + p) (s2 : 2 * hs ≤ 3 * p) (hs0 : 0 ≤ hs) (s3 : 4 * D ≤ p) (n3 : n ≤ 3) (p98 : p ≤ 100) (sg0 : sg ≠ 0) (sg1 : sg < 92) (sgA : sg ≠ A) (en : h0 sg 2 = n) : ∀ (L : List Tm) (q w m v7 : Int) (h : HP) (tm : Int → Tm) (S : Sx) (V : Vx), v7 + L.length = n → 0 ≤ v7 → p + 2 ≤ q → GC (gd h0 A) L.length q sc w r w' → w ≤ 240 → h0 A 2 ≤ w → m ≤ 26 + 3 * q + (w - h0 A 2) → ST h0 A h tm S V D sc (hs + n) Γ m → (∀ i : Nat, i < L.length → 0 ≤ h 122 (hs + v7 + i) ∧ h 122 (hs + v7 + i) < h 96 13 ∧ L[i]? = some (tm (h 122 (hs + v7 + i)))) →
    (∀ h' tm' S' V', (∀ K : Sx → Vx → Prop, K S' V' → kiJ (jj h0 A) (h0 (A + 2)) Γ sc D 0 L q S V K) → ST h0 A h' tm' S' V' D sc (hs + n) Γ (m + 3 * (r - q) + (w' - w)) → XB 96 h tm h' tm' → KX h h' sc (hs + n) → Q v4 (up2 h' 92 6 hs)) →
    (∀ h' k, (∀ K : Sx → Vx → Prop, kiJ (jj h0 A) (h0 (A + 2)) Γ sc D k L q S V K) → k = 10 * h' A 4 + h' A 5 → (1 ≤ h' A 5 ∧ h' A 5 ≤ 9 ∧ 0 ≤ h' A 4 ∧ h' A 4 ≤ 100) → KZ h h' sc (hs + n) A → FO h h' → Q (-1) h') →
    Go d M_Checker_call 179 [(10, 92), (0, v1), (0, v2), (36, sg), (0, v4), (0, hs), (0, q), (0, v7)] [] h Q := by
  have a0 := bc.1
  have hl := bc_w bc
  intro L
  induction L with
  | nil =>
    intro q w m v7 h tm S V e v0 hq c w0 w1 hm s hx HG HB
    have eh : h sg 2 = n := by rw [s.1 sg 2 (by omega) (by omega)]; exact en
    have e0 : v7 = n := by simpa using e
    have z1 := c.1
    have z2 := c.2
    refine V_Checker_call_179 ⟨sg0, fun _ g1 e1 => ?_, fun z => by omega⟩
    rw [e1]
    exact HG h tm S V (fun K k => k) (ST_le s (by omega)) (XB_refl 96 h tm) (KX_refl h sc _)
  | cons t L ih =>
    intro q w m v7 h tm S V e v0 hq c w0 w1 hm s hx HG HB
    have eh : h sg 2 = n := by rw [s.1 sg 2 (by omega) (by omega)]; exact en
    have e0 : v7 + (L.length + 1) = n := by simpa using e
    obtain ⟨r1, u1, g1, c⟩ := c
    have l1 := hl _ _ _ _ _ (by omega) g1
    have ee : h0 (A + 2) q = r1 := (GD_e g1).2
    have x0 := hx 0 (by simp)
    rw [show hs + v7 + ((0 : Nat) : Int) = hs + v7 by omega] at x0
    have xt : tm (h 122 (hs + v7)) = t := by
      have := x0.2.2
      simp at this
      exact this.symm
    refine V_Checker_call_179 ⟨sg0, fun z => by omega, fun _ => ⟨by unfold r32; omega, ⟨by omega, by show hs + v7 < 192; omega⟩, by omega, ?_⟩⟩
    refine ck q sc w _ _ (hs + n) D (h 122 (hs + v7)) m h tm S V Γ (d - 1) _ (by omega) (by omega) (by omega) g1 w0 w1 (by omega) (by omega) (by omega) hm s x0.1 x0.2.1 (fun h1 tm1 S1 V1 t1 j1 s1' X1 o1 => ⟨fun _ => ?_, fun z => absurd z (by decide)⟩) (fun h' k S' V' t' a b c z f => ⟨fun y => absurd rfl y, fun _ => ?_⟩)
    · rw [xt] at j1
      have k7 : h1 92 7 = A := s1'.2.1.2.2.1.2.2.1
      have n1 := X1.1.1.1
      refine ⟨by omega, by omega, ?_⟩
      rw [k7]
      refine k_beh (by omega) bc s1'.1 (by omega) (fun y hy => ⟨by unfold r32; omega, ?_⟩)
      have ey := hy _ _ _ _ g1
      subst ey
      refine ih y u1 _ (v7 + 1) h1 tm1 S1 V1 (by omega) (by omega) (by omega) c (by omega) (by omega) (by omega) s1' (fun i il => ?_) (fun h' tm' S' V' kj s' X o => ?_) (fun h' k kj b c z f => ?_)
      · have q := hx (i + 1) (by simp; omega)
        rw [show hs + v7 + ((i + 1 : Nat) : Int) = hs + (v7 + 1) + i by omega] at q
        rw [o1 122 _ (by omega) (by omega) (by omega)]
        refine ⟨q.1, by omega, ?_⟩
        rw [X1.2 _ q.1 q.2.1, ← q.2.2]
        simp
      · exact HG h' tm' S' V' (fun K kk => ⟨0, S1, V1, t1, j1, Or.inr ⟨rfl, by rw [ee]; exact kj K kk⟩⟩) (ST_le s' (by omega)) (ST_X s s1' X1 X) (KX_trans o1 o)
      · exact HB h' k (fun K => ⟨0, S1, V1, t1, j1, Or.inr ⟨rfl, by rw [ee]; exact kj K⟩⟩) b c (KX_KZ o1 z) (FO_trans s.2.1.1 s1'.2.1.1 X1.1 f)
    · rw [xt] at a
      exact HB h' k (fun K => ⟨k, S', V', t', a, Or.inl ⟨by omega, rfl⟩⟩) b c z f
/-- the scope is made longer by a signature's parts -/
theorem k_ext {d : Nat} {A : Int} {D sc hs n : Int} {Γ : Int → Tm} {tm : Int → Tm} {S : Sx} {V : Vx} {L : List Tm} {Q : PQ} {h : HP} (hd : 0 < d) (hn : 0 ≤ n) (ln : (L.length : Int) = n + 1) (n3 : n ≤ 3) (sm : sc + n ≤ 192) (K : KS h tm S V D sc hs A Γ) (tp : h 93 5 = L.length) (St : StkL (h 95) 0 (h 96 13) tm L)
    (H : ∀ h', KS h' tm S V D (sc + n) hs A (exG Γ sc (L.take n.toNat)) → (∀ a i, ¬ (a = 92 ∧ i = 5) → ¬ (a = 121 ∧ sc ≤ i) → h' a i = h a i) → Q 0 h') : Go d M_Checker_extendScope 0 [(10, 92), (0, n), (2, 0)] [] h Q := by
  obtain ⟨C, kD, ⟨k5, k6, k7, kA⟩, k8, k9, kr, ks⟩ := K
  have hT := (CV_L0 C).2.2.2.2
  have go : ∀ (j : Nat) (g : HP), (j : Int) ≤ n → g 92 5 = sc + (n - j) → (∀ a i, ¬ (a = 92 ∧ i = 5) → ¬ (a = 121 ∧ sc ≤ i) → g a i = h a i) → (∀ i, sc ≤ i → i < sc + (n - j) → 0 ≤ g 121 i ∧ g 121 i < h 96 13 ∧ L[(i - sc).toNat]? = some (tm (g 121 i))) → Go d M_Checker_extendScope 2 [(10, 92), (0, n), (0, n - j)] [] g Q := by
    intro j
    induction j with
    | zero =>
      intro g _ g5 go gr
      refine V_Checker_extendScope_2 ⟨fun _ => H g ⟨CV_loc (fun a i p q => go a i (by omega) (by omega)) C, ?_, ⟨by omega, ?_, ?_, kA⟩, ?_, ?_, by omega, fun i i0 i1 => ?_⟩ go, fun z => by omega⟩
      · rw [go 96 15 (by omega) (by omega)]; exact kD
      · rw [go 92 6 (by omega) (by omega)]; exact k6
      · rw [go 92 7 (by omega) (by omega)]; exact k7
      · rw [go 92 8 (by omega) (by omega), go 96 13 (by omega) (by omega)]; exact k8
      · rw [go 92 9 (by omega) (by omega), go 96 13 (by omega) (by omega)]; exact k9
      · rw [go 96 13 (by omega) (by omega)]
        unfold exG
        by_cases z : sc ≤ i
        · have q := gr i z (by omega)
          refine ⟨q.1, q.2.1, ?_⟩
          rw [if_pos z, List.getD_eq_getElem?_getD, List.getElem?_take, if_pos (by omega), q.2.2]
          rfl
        · have q := ks i i0 (by omega)
          rw [if_neg z, go 121 i (by omega) (by omega)]
          exact q
    | succ j ih =>
      intro g jn g5 go gr
      refine V_Checker_extendScope_2 ⟨fun z => by omega, fun _ => ⟨fun z => by omega, fun _ => ⟨hd, ?_⟩⟩⟩
      have e95 : g 95 = h 95 := funext fun i => go 95 i (by omega) (by omega)
      have e13 : g 96 13 = h 96 13 := go 96 13 (by omega) (by omega)
      have lt : (n - (j + 1 : Nat)).toNat < L.length := by omega
      have gt : L[(n - (j + 1 : Nat)).toNat]? = some L[(n - (j + 1 : Nat)).toNat] := List.getElem?_eq_getElem lt
      have en : n - ((j + 1 : Nat) : Int) = ((n - (j + 1 : Nat)).toNat : Int) := by omega
      rw [en]
      refine c_partAt (T := 96) (R := 512) (tm := tm) (L := L) hT (by show g 93 5 = _; rw [go 93 5 (by omega) (by omega)]; exact tp) (by omega) (by show StkL (g 95) 0 (g 96 13) tm L; rw [e95, e13]; exact St) gt (fun x x0 x1 ex => ⟨⟨by omega, by show g 92 5 < 192; omega⟩, fun g2 e2 => ⟨?_, fun g3 e3 => ⟨by unfold r32; omega, ?_⟩⟩⟩)
      · rw [e2, up2_nc (by omega)]; unfold r32; omega
      · rw [← en, show n - ((j + 1 : Nat) : Int) + 1 = n - (j : Int) by omega]
        have e25 : g2 92 5 = g 92 5 := by rw [e2, up2_nc (by omega)]
        refine ih g3 (by omega) (by rw [e3, up2_eq, e25]; omega) (fun a i p q => ?_) (fun i i0 i1 => ?_)
        · rw [e3, up2_ext (by omega), e2]
          by_cases z : a = 92 + 29 ∧ i = g 92 5
          · omega
          · rw [up2_ext z]; exact go a i p q
        · rw [e3, up2_nc (by omega), e2]
          by_cases z : i = g 92 5
          · rw [z]
            show 0 ≤ up2 g (92 + 29) (g 92 5) x (92 + 29) (g 92 5) ∧ up2 g (92 + 29) (g 92 5) x (92 + 29) (g 92 5) < h 96 13 ∧ L[(g 92 5 - sc).toNat]? = some (tm (up2 g (92 + 29) (g 92 5) x (92 + 29) (g 92 5)))
            rw [up2_eq]
            refine ⟨x0, by omega, ?_⟩
            rw [ex, ← gt, g5]
            congr 1
            omega
          · rw [up2_ext (by omega)]
            exact gr i i0 (by omega)
  refine V_Checker_extendScope_0 ?_
  have := go n.toNat h (by omega) (by omega) (fun _ _ _ _ => rfl) (fun i i0 i1 => by omega)
  rw [show n - (n.toNat : Int) = 0 by omega] at this
  exact this
end
