section
/-- one case of a match -/
theorem k_case {d : Nat} {h0 h : HP} {A : Int} {N : Nat} {q sc w r1 u1 hs D m y g j sg n : Int} {tm : Int → Tm} {S : Sx} {V : Vx} {Γ : Int → Tm} {mu : Int → Nat} {Q : PQ} (bc : BC h0 A) (ck : CkT h0 A N) (q0 : 0 ≤ q) (q100 : q ≤ 100) (hN : h0 A 2 - q ≤ N) (hd : 4 * N + 33 < d) (hj : 0 ≤ j ∧ j < h0 36 4) (es : sg = cel 67 j) (en : n = ppr h0 67 j) (G : gd h0 A (q + 1) (sc + n) (w + llr h0 67 j) r1 u1) (w0 : w + llr h0 67 j ≤ 240) (w1 : h0 A 2 ≤ w) (q1 : sc ≤ q) (q2 : 2 * hs ≤ 3 * q) (q3 : 4 * D + 3 ≤ q) (hm : m ≤ 26 + 3 * q + (w - h0 A 2)) (s : ST h0 A h tm S V D sc hs Γ m) (F : FrN V mu) (y0 : 0 ≤ y) (yl : y < h 96 13) (g0 : 0 ≤ g) (gl : g < h 96 13)
    (HG : ∀ h' S1 V1 t1, (Sat (Snd S (sgR' (sbr h0) (llr h0) (ppr h0) 67 j mu) (tm y)) ∧ ClA (Snd S (sgR' (sbr h0) (llr h0) (ppr h0) 67 j mu) (tm y)) (nV V mu (Oc (sbr h0 67 j) 0 (llr h0 67 j)) (7, D + 1))) → jj h0 A (q + 1) (exG Γ sc (sgF (sbr h0) (llr h0) (ppr h0) 67 j mu)) (sc + n) (some (tm g)) (Snd S (sgR' (sbr h0) (llr h0) (ppr h0) 67 j mu) (tm y)) (nV V mu (Oc (sbr h0 67 j) 0 (llr h0 67 j)) (7, D + 1)) (D + 1) 0 S1 V1 t1 → ST h0 A h' tm S V D sc hs Γ m → XB 96 h tm h' tm → h' 96 13 = h 96 13 → KX h h' sc hs → Q 1 h')
    (HI : ∀ h', ¬ Sat (Snd S (sgR' (sbr h0) (llr h0) (ppr h0) 67 j mu) (tm y)) → h' A 4 = q → h' A 5 = 8 → KZ h h' sc hs A → FO h h' → Q 0 h')
    (HB : ∀ h' k S1 V1 t1, (Sat (Snd S (sgR' (sbr h0) (llr h0) (ppr h0) 67 j mu) (tm y)) ∧ ClA (Snd S (sgR' (sbr h0) (llr h0) (ppr h0) 67 j mu) (tm y)) (nV V mu (Oc (sbr h0 67 j) 0 (llr h0 67 j)) (7, D + 1))) → jj h0 A (q + 1) (exG Γ sc (sgF (sbr h0) (llr h0) (ppr h0) 67 j mu)) (sc + n) (some (tm g)) (Snd S (sgR' (sbr h0) (llr h0) (ppr h0) 67 j mu) (tm y)) (nV V mu (Oc (sbr h0 67 j) 0 (llr h0 67 j)) (7, D + 1)) (D + 1) k S1 V1 t1 → k = 10 * h' A 4 + h' A 5 → (1 ≤ h' A 5 ∧ h' A 5 ≤ 9 ∧ 0 ≤ h' A 4 ∧ h' A 4 ≤ 100) → KZ h h' sc hs A → FO h h' → Q 0 h') :
    Go d M_Checker_checkCase 0 [(10, 92), (0, q), (36, sg), (0, y), (0, g), (2, 0), (2, 0)] [] h Q := by
  have a0 := bc.1
  have bn := bc.2.1
  have pn := GD_n G (by omega)
  have s' := s
  obtain ⟨kb, K, cn⟩ := s'
  have K' := K
  obtain ⟨C, kD, ⟨k5, k6, k7, kA⟩, k8, k9, kr, ks⟩ := K'
  have ce := cel_ok bc (Or.inl rfl) hj.1 (show j < nPr h0 67 from hj.2)
  rw [← es] at ce
  obtain ⟨⟨c1, c2⟩, csz, cl, cp, cb, ⟨l0, l1⟩, ⟨n0, n3⟩, O⟩ := ce
  have ll := sgL_len (mu := mu) l0 n0 O
  rw [← en] at cp n0 n3 ll
  have e1 : h sg 1 = llr h0 67 j := by rw [kb sg 1 (by omega) (by omega)]; exact cl
  have e2 : h sg 2 = n := by rw [kb sg 2 (by omega) (by omega)]; exact cp
  have eb : h (sg + 1) = sbr h0 67 j := by rw [← cb]; exact funext fun i => kb _ i (by omega) (by omega)
  have hT := (CV_L0 C).2.2.2.2
  refine V_Checker_checkCase_0 ⟨by omega, c_open (T := 96) (R := 512) hT (CV_L0 C).2.2.2.1 (by omega) ⟨by omega, ?_⟩⟩
  refine c_bpj (T := 96) (R := 512) (s := sg) (y := y) (by omega) C F csz (by omega) (by omega) (by omega) (by omega) (by omega) (by omega) (by rw [eb, e1, e2, O, en]) (by omega) y0 yl (fun rr k4 tm4 X4 tp St nb o4 hh => ?_)
  rw [eb, e1, e2, kD] at hh
  rw [eb, e1] at tp St
  rw [e1] at nb
  have hh' : (Sat (Snd S (sgR' (sbr h0) (llr h0) (ppr h0) 67 j mu) (tm y)) ∧ 0 ≤ rr ∧ CV k4 96 512 tm4 (Snd S (sgR' (sbr h0) (llr h0) (ppr h0) 67 j mu) (tm y)) (nV V mu (Oc (sbr h0 67 j) 0 (llr h0 67 j)) (7, D + 1))) ∨ (¬ Sat (Snd S (sgR' (sbr h0) (llr h0) (ppr h0) 67 j mu) (tm y)) ∧ rr = -5 ∧ CV k4 96 512 tm4 S (nV V mu (Oc (sbr h0 67 j) 0 (llr h0 67 j)) (7, D + 1))) := by
    rw [en] at hh
    exact hh
  clear hh
  have oo : ∀ a i, a < 93 ∨ 120 < a → k4 a i = h a i := fun a i p => o4 a i (by omega)
  have e47 : k4 92 7 = A := by rw [oo 92 7 (by omega)]; exact k7
  have e15 : (opH h 96) 96 15 = h 96 15 + 1 := up2_eq
  have e13 : (opH h 96) 96 13 = h 96 13 := opH_o (by omega) (by omega) (by omega)
  refine ⟨fun z => ?_, fun z => ?_⟩
  · rcases hh' with ⟨sa0, _, C4⟩ | ⟨_, b, _⟩
    · have sa : Sat (Snd S (sgR' (sbr h0) (llr h0) (ppr h0) 67 j mu) (tm y)) ∧ ClA (Snd S (sgR' (sbr h0) (llr h0) (ppr h0) 67 j mu) (tm y)) (nV V mu (Oc (sbr h0 67 j) 0 (llr h0 67 j)) (7, D + 1)) := by
        obtain ⟨c4, W4, hV4⟩ := C4
        exact ⟨sa0, ClA_of W4.2.1 hV4⟩
      have oq : ∀ a i, a < 93 ∨ 120 < a → opH h 96 a i = h a i := fun a i p => opH_o (by omega) (by omega) (by omega)
      have Ko : KS (opH h 96) tm S V (D + 1) sc hs A Γ := by
        refine ⟨CV_opH C, by rw [e15, kD], ⟨?_, ?_, ?_, kA⟩, ?_, ?_, kr, fun i i0 i1 => ?_⟩
        · rw [oq 92 5 (by omega)]; exact k5
        · rw [oq 92 6 (by omega)]; exact k6
        · rw [oq 92 7 (by omega)]; exact k7
        · rw [oq 92 8 (by omega), e13]; exact k8
        · rw [oq 92 9 (by omega), e13]; exact k9
        · rw [oq 121 i (by omega), e13]; exact ks i i0 i1
      have K4 := KS_step Ko C4 X4 (KX_out (fun a i p => (oo a i p).trans (oq a i p).symm))
      have e42 : k4 sg 2 = n := by rw [oo sg 2 (by omega)]; exact e2
      refine ⟨by omega, by omega, ?_⟩
      rw [e42]
      refine k_ext (n := n) (L := sgL (sbr h0 67 j) (llr h0 67 j) mu) (by omega) n0 ll n3 (by omega) K4 tp St (fun h5 K5 o5 => ⟨by unfold r32; omega, by omega, ?_⟩)
      rw [show (sgL (sbr h0 67 j) (llr h0 67 j) mu).take n.toNat = sgF (sbr h0) (llr h0) (ppr h0) 67 j mu by rw [en]] at K5
      have lc : LcC 96 k4 h5 := fun a i p u => o5 a i (by omega) (by omega)
      have X5 : XB 96 (opH h 96) tm h5 tm4 := XB_loc (LcC_refl 96 _) lc X4
      have n5 := X5.1.1.1
      have f13 : h5 96 13 = k4 96 13 := lc 96 13 (by omega) (by omega)
      have gg : tm4 g = tm g := X5.2 g g0 (by omega)
      have h5h : ∀ a i, a < 93 ∨ 120 < a → ¬ (a = 92 ∧ i = 5) → ¬ (a = 121 ∧ sc ≤ i) → h5 a i = h a i := fun a i p u v => (o5 a i u v).trans (oo a i p)
      have s5 : ST h0 A h5 tm4 _ _ (D + 1) (sc + n) hs (exG Γ sc (sgF (sbr h0) (llr h0) (ppr h0) 67 j mu)) (m + llr h0 67 j) := ⟨fun a i p u => by rw [h5h a i (by omega) (by omega) (by omega)]; exact kb a i p u, K5, by omega⟩
      refine ck (q + 1) (sc + n) (w + llr h0 67 j) _ _ hs (D + 1) g _ h5 tm4 _ _ _ (d - 1) _ (by omega) (by omega) (by omega) G w0 (by omega) (by omega) (by omega) (by omega) (by omega) s5 g0 (by omega) (fun h6 tm6 S6 V6 t6 j6 s6 X6 o6 => ⟨by omega, ?_⟩) (fun h6 k S6 V6 t6 j6 b1 b2 z6 f6 => ⟨by omega, ?_⟩)
      · rw [gg] at j6
        refine c_closeV (T := 96) (R := 512) (by omega) C (by omega) (XB_trans Ko.1 s5.2.1.1 X5 X6).1 s6.2.1.1 (fun h7 C7 X7 e7 o7 g8 e8 => ⟨Or.inr rfl, ?_⟩)
        have kx : KX h g8 sc hs := by
          intro a i p u v
          by_cases t : a = 92 ∧ i = 5
          · rw [e8, t.1, t.2, up2_eq]
          · rw [e8, up2_ext t, o7 a i (by omega), o6 a i p (by omega) v]
            exact h5h a i p t u
        have lc8 : LcC 96 h7 g8 := fun a i p u => by rw [e8, up2_nc (by omega)]
        have xb : XB 96 h tm g8 tm := XB_loc (LcC_refl 96 h) lc8 ⟨X7, fun _ _ _ => rfl⟩
        have f8 : g8 96 13 = h 96 13 := by rw [e8, up2_nc (by omega)]; exact e7
        exact HG g8 S6 V6 t6 sa j6 (ST_step s (CV_loc lc8 C7) xb kx (by omega)) xb f8 kx
      · rw [gg] at j6
        refine k_close (by omega) C (by omega) s5.2.1.1 X5.1 f6 (fun h7 F7 o7 g8 e8 => ⟨Or.inl rfl, ?_⟩)
        have e84 : g8 A 4 = h6 A 4 := by rw [e8, up2_nc (by omega)]; exact o7 A 4 (by omega)
        have e85 : g8 A 5 = h6 A 5 := by rw [e8, up2_nc (by omega)]; exact o7 A 5 (by omega)
        refine HB g8 k S6 V6 t6 sa j6 (by omega) (by omega) (fun a i p u v t x => ?_) (FO_loc (h1 := h7) (fun a i p u => by rw [e8, up2_nc (by omega)]) F7)
        rw [e8, up2_ext (by omega), o7 a i (by omega), z6 a i p (by omega) v t x]
        exact h5h a i p (by omega) u
    · omega
  · rcases hh' with ⟨_, b, _⟩ | ⟨ns, _, C4⟩
    · omega
    · refine ⟨by omega, by omega, by omega, fun g9 e9 g10 e10 => ?_⟩
      rw [e47] at e9 e10
      refine HI g10 ns ?_ ?_ (fun a i p _ _ _ u => ?_) (FO_loc (h1 := k4) (fun a i p u => ?_) (Or.inr ⟨h, tm, S, V, _, _, _, C, ExB_refl 96 h, by omega, C4, X4.1⟩))
      · rw [e10, up2_ext (by omega), e9, up2_eq]
      · rw [e10, up2_eq]
      · rw [e10, up2_ext (by omega), e9, up2_ext (by omega)]; exact oo a i p
      · rw [e10, up2_nc (by omega), e9, up2_nc (by omega)]
end
