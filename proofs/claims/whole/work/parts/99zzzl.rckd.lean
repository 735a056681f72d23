section
/-! a match in the reference -/
theorem q_mloop {q0 g0 h : HP} {A p k sc r w' D f m1 M z ty L kk x : Int} {N : Nat} {tm tm1 : Int → Tm} {S S1 : Sx} {V1 : Vx} {Γ : Int → Tm} {g a : Tm} {d : Nat} {Q : PQ} (bc : BD q0 g0 A) (R : RkT q0 g0 A N) (hd : 40 < d) (p0 : 0 ≤ p) (hN : q0 A 2 - p ≤ N) (s1 : 0 ≤ sc ∧ sc ≤ 3 + p) (d0 : 0 ≤ D) (s3 : 4 * D ≤ p) (f0 : 0 ≤ f) (f1 : f ≤ 2 * p) (k0 : 0 ≤ k) (k1 : k < 100) (ep : g0 162 (600 + k) = p) (eo : g0 161 (600 + k) = 77) (efc : g0 166 (600 + k) = sc) (sub1 : ∀ θ, S1 θ → S θ) (gy : goY h tm S (h 174 f) (some g)) (e14 : h 135 14 = 100) (kr : 3 ≤ kk ∧ kk ≤ 6) (lM : m1 ≤ M)
    (H1 : z = 0 → ∀ h' tm', QT g0 h' tm' S1 V1 D sc Γ f M → XM h tm h' tm' → QX h h' f sc → (100 ≤ h' 135 63 ∧ h' 135 63 < h' 135 15) → EqS S1 (tm' (h' 135 63)) g → (∀ θ, S1 θ → S θ) → Lp d ty Q h') (H0 : z ≠ 0 → ∀ h', QF g0 h' z → Q 0 h') :
    ∀ (fg fk fj st : Nat) (q wq v : Int) (seen : Int → Prop) (w4 : AV) (g1 : HP), 1 ≤ st → GK (bA (q0 (A + 1)) (q0 A 2)) (nPr q0) (ppr q0) (llr q0) (gd q0 A) fg q sc wq r w' → KCA (fun x i => g0 x (600 + i)) (bA (q0 (A + 1)) (q0 A 2)) (q0 (A + 2)) (nPr q0) (ppr q0) (nx q0 g0 A) fk q (nxt (fun x i => g0 x (600 + i)) st (g0 164 (600 + k))) sc → cj q0 A p Γ sc S1 V1 D g kk a z fj q seen → (∀ i : Nat, i < st → 0 ≤ nxt (fun x i => g0 x (600 + i)) i (g0 164 (600 + k)) ∧ nxt (fun x i => g0 x (600 + i)) i (g0 164 (600 + k)) < 100) → p + 3 ≤ q → (st : Int) ≤ q → q ≤ 100 → wq ≤ 240 → q0 A 2 ≤ wq → m1 ≤ 148 + 4 * q + 2 * (wq - q0 A 2) → m1 ≤ 900 → sn1 v seen → QT g0 g1 tm1 S1 V1 D sc Γ (f + 1) m1 → XM h tm g1 tm1 → QX h g1 f sc → (g1 173 f = 600 + k ∧ g1 174 f = h 174 f ∧ g1 175 f = (st : Int) + 1 ∧ g1 176 f = L ∧ g1 177 (4 * f) = v) → (100 ≤ L ∧ L < g1 135 15 ∧ g1 137 L = kk ∧ g1 138 L = x) → (100 ≤ x ∧ x < g1 135 15 ∧ EqS S1 (tm1 x) a) → Go (d - 1 - 1) M_Mo_match 109 [(22, 135), (0, f), (0, 600 + k), (0, (st : Int)), w4] [] g1 (fun _ k => Lp d ty Q k) := by
  have bn := bc.1.2.1
  have dd := bc.1.2.2.1.1
  intro fg
  induction fg with
  | zero => intro fk fj st q wq v seen w4 g1 _ G; exact absurd G (fun z => z)
  | succ fg ih =>
    intro fk fj st q wq v seen w4 g1 st1 G K J rg q3 sq q100 w0 w1 hm m900 sn T X qx fr Lr xr
    have gy1 : goY g1 tm1 S1 (h 174 f) (some g) := goY_mono gy X e14 sub1
    have gy2 : (100 ≤ h 174 f ∧ h 174 f < g1 135 15) ∧ EqS S1 (tm1 (h 174 f)) g := gy1
    cases fk with
    | zero => exact absurd K (fun z => z)
    | succ fk =>
    cases fj with
    | zero => exact absurd J (fun z => z)
    | succ fj =>
    replace J := hid_in J
    replace K := hid_in K
    replace G := hid_in G
    have b15 := (MV_b T.2.2.1.1).2.2
    refine N_Mo_match_109 ⟨by omega, c_hasC (R := fun x i => g0 x (600 + i)) (QB_ag T.1) k0 k1 (by omega) rg (fun e => ⟨fun _ => ⟨by omega, by omega, ?_⟩, fun z => absurd rfl z⟩) (fun ne => ⟨fun z => absurd z (by decide), fun _ => ⟨by omega, ?_⟩⟩)⟩
    · -- all cases are done
      have b : bA (q0 (A + 1)) (q0 A 2) q = 125 := by
        rcases hid_out K with ⟨b, _⟩ | ⟨_, _, kr2, _⟩
        · exact b
        · have e' : nxt (fun x i => g0 x (600 + i)) st (g0 164 (600 + k)) = -1 := e
          rw [e'] at kr2
          exact absurd kr2.1 (by decide)
      have Jm : ∃ mu, FrN V1 mu ∧ (((∃ j, mj q0 seen kk a S1 mu j) ∧ z = 10 * p + 9) ∨ ((¬ ∃ j, mj q0 seen kk a S1 mu j) ∧ z = 0)) := by
        rcases hid_out J with ⟨_, H⟩ | ⟨nb, _⟩
        · exact H
        · exact absurd b nb
      obtain ⟨mu, F, hz⟩ := Jm
      replace hz := hid_in hz
      rw [fr.2.2.2.1]
      refine q_left (mu := mu) (kk := kk) (x := x) (v := v) (seen := seen) (a := a) bc (by omega) T d0 (by omega) F (by omega) f0 (by omega) ⟨Lr.1, Lr.2.1⟩ Lr.2.2.1 Lr.2.2.2 ⟨xr.1, xr.2.1⟩ xr.2.2 fr.2.2.2.2 sn (fun he g2 T2 X2 o2 => ⟨fun z => absurd z (by decide), fun _ => ⟨by omega, by omega, ?_⟩⟩) (fun he g2 T2 X2 o2 => ⟨fun _ => ⟨by omega, by omega, ?_⟩, fun z => absurd rfl z⟩)
      · have ez : z = 10 * p + 9 := by
          rcases hid_out hz with ⟨_, e⟩ | ⟨n, _⟩
          · exact e
          · exact absurd he n
        have e2 : g2 162 (600 + k) = p := (T2.1.1 162 _ (by omega)).trans ep
        refine q_flt T2.1 T2.2.1 (by omega) (by omega) (by omega) (fun g9 F9 => ?_)
        rw [e2, ← ez] at F9
        exact q_end F9 (H0 (by omega) g9 F9)
      · have ez : z = 0 := by
          rcases hid_out hz with ⟨n, _⟩ | ⟨_, e⟩
          · exact absurd n he
          · exact e
        have x2 := X2.1.2.1
        rw [o2.1 174 f (by omega), fr.2.1]
        exact q_giv (F := f) T2.2.2.1.2.2.1.1 f0 (by omega) (q_fin T2 (XM_trans X X2) (QX_trans (Int.le_refl _) (Int.le_refl _) qx (OuT_QX o2)) (by omega) gy2.2 sub1 lM (H1 ez))
    · -- one more
      have K2 : bA (q0 (A + 1)) (q0 A 2) q ≠ 125 ∧ okD (bA (q0 (A + 1)) (q0 A 2)) (nPr q0) 67 q ∧ (0 ≤ nxt (fun x i => g0 x (600 + i)) st (g0 164 (600 + k)) ∧ nxt (fun x i => g0 x (600 + i)) st (g0 164 (600 + k)) < 100) ∧ g0 162 (600 + nxt (fun x i => g0 x (600 + i)) st (g0 164 (600 + k))) = q ∧ g0 163 (600 + nxt (fun x i => g0 x (600 + i)) st (g0 164 (600 + k))) = bA (q0 (A + 1)) (q0 A 2) q - 48 ∧ nx q0 g0 A (q + 1) (g0 164 (600 + nxt (fun x i => g0 x (600 + i)) st (g0 164 (600 + k)))) (sc + ppr q0 67 (bA (q0 (A + 1)) (q0 A 2) q - 48)) ∧ KCA (fun x i => g0 x (600 + i)) (bA (q0 (A + 1)) (q0 A 2)) (q0 (A + 2)) (nPr q0) (ppr q0) (nx q0 g0 A) fk (q0 (A + 2) (q + 1)) (g0 165 (600 + nxt (fun x i => g0 x (600 + i)) st (g0 164 (600 + k)))) sc := by
        rcases hid_out K with ⟨_, e⟩ | ⟨nb, ok, kr2, _, o2, o3, nk, K'⟩
        · exact absurd e ne
        · exact ⟨nb, ok, kr2, o2, o3, nk, K'⟩
      obtain ⟨nb, ok, kr2, o2, o3, nk, K'⟩ := K2
      have rg2 : ∀ i : Nat, i ≤ st → 0 ≤ nxt (fun x i => g0 x (600 + i)) i (g0 164 (600 + k)) ∧ nxt (fun x i => g0 x (600 + i)) i (g0 164 (600 + k)) < 100 := fun i il => by
        rcases Nat.lt_or_ge i st with z | z
        · exact rg i z
        · rw [show i = st by omega]; exact kr2
      have nS : nxt (fun x i => g0 x (600 + i)) (st + 1) (g0 164 (600 + k)) = g0 165 (600 + nxt (fun x i => g0 x (600 + i)) st (g0 164 (600 + k))) := nxt_succ _ st _
      rw [← nS] at K'
      clear K ne
      generalize hone : nxt (fun x i => g0 x (600 + i)) st (g0 164 (600 + k)) = one at kr2 o2 o3 nk nS
      have G2 : okD (bA (q0 (A + 1)) (q0 A 2)) (nPr q0) 67 q ∧ wq + llr q0 67 (bA (q0 (A + 1)) (q0 A 2) q - 48) ≤ 240 ∧ ∃ r1 u1, gd q0 A (q + 1) (sc + ppr q0 67 (bA (q0 (A + 1)) (q0 A 2) q - 48)) (wq + llr q0 67 (bA (q0 (A + 1)) (q0 A 2) q - 48)) r1 u1 ∧ GK (bA (q0 (A + 1)) (q0 A 2)) (nPr q0) (ppr q0) (llr q0) (gd q0 A) fg r1 sc u1 r w' := by
        rcases hid_out G with ⟨b, _⟩ | ⟨_, H⟩
        · exact absurd b nb
        · exact H
      clear G
      obtain ⟨_, hl, r1, u1, G1, rest⟩ := G2
      have qn := (bA_lt (b := q0 (A + 1)) (n := q0 A 2) (p := q) (by have := ok.1; omega)).2
      have ee : q0 (A + 2) (q + 1) = r1 := (GD_e G1).2
      rw [ee] at K'
      have J2 : (((q0 (41 + 2 * (bA (q0 (A + 1)) (q0 A 2) q - 48)) 4 ≠ kk - 3 ∨ seen (bA (q0 (A + 1)) (q0 A 2) q - 48)) ∧ z = 10 * q + 7) ∨
      ((q0 (41 + 2 * (bA (q0 (A + 1)) (q0 A 2) q - 48)) 4 = kk - 3 ∧ ¬ seen (bA (q0 (A + 1)) (q0 A 2) q - 48)) ∧ ∃ mu, FrN V1 mu ∧ ((¬ Sat (Snd S1 (sgR' (sbr q0) (llr q0) (ppr q0) 67 (bA (q0 (A + 1)) (q0 A 2) q - 48) mu) a) ∧ z = 10 * q + 8) ∨
        ((Sat (Snd S1 (sgR' (sbr q0) (llr q0) (ppr q0) 67 (bA (q0 (A + 1)) (q0 A 2) q - 48) mu) a) ∧ ClA (Snd S1 (sgR' (sbr q0) (llr q0) (ppr q0) 67 (bA (q0 (A + 1)) (q0 A 2) q - 48) mu) a) (nV V1 mu (Oc (sbr q0 67 (bA (q0 (A + 1)) (q0 A 2) q - 48)) 0 (llr q0 67 (bA (q0 (A + 1)) (q0 A 2) q - 48))) (7, D + 1))) ∧ thJ (jj q0 A) (q + 1) (exG Γ sc (sgF (sbr q0) (llr q0) (ppr q0) 67 (bA (q0 (A + 1)) (q0 A 2) q - 48) mu)) (sc + ppr q0 67 (bA (q0 (A + 1)) (q0 A 2) q - 48)) (some g) (Snd S1 (sgR' (sbr q0) (llr q0) (ppr q0) 67 (bA (q0 (A + 1)) (q0 A 2) q - 48) mu) a) (nV V1 mu (Oc (sbr q0 67 (bA (q0 (A + 1)) (q0 A 2) q - 48)) 0 (llr q0 67 (bA (q0 (A + 1)) (q0 A 2) q - 48))) (7, D + 1)) (D + 1) z (fun _ _ _ => cj q0 A p Γ sc S1 V1 D g kk a z fj (q0 (A + 2) (q + 1)) (fun j => seen j ∨ j = bA (q0 (A + 1)) (q0 A 2) q - 48)))))) := by
        rcases hid_out J with ⟨b, _⟩ | ⟨_, H⟩
        · exact absurd b nb
        · exact H
      clear J
      rw [ee] at J2
      replace J2 := hid_in J2
      have j0 : 0 ≤ bA (q0 (A + 1)) (q0 A 2) q - 48 := by have := ok.1; omega
      have j1 : bA (q0 (A + 1)) (q0 A 2) q - 48 < q0 36 4 := ok.2.2
      generalize hj : bA (q0 (A + 1)) (q0 A 2) q - 48 = j at o3 nk hl G1 J2 j0 j1
      have lw := bc_w bc.1 _ _ _ _ _ (by omega) G1
      obtain ⟨_, _, _, _, fmC, _⟩ := q_sig bc (Or.inl rfl) j0 (show j < nPr q0 67 from j1)
      obtain ⟨j10, f5, f50, f53⟩ := fmC rfl
      obtain ⟨_, _, _, _, _, ⟨l0, l1⟩, _, _⟩ := cel_ok bc.1 (Or.inl rfl) j0 (show j < nPr q0 67 from j1)
      have b1 := T.1
      refine c_child (R := fun x i => g0 x (600 + i)) (QB_ag T.1) k0 k1 (by omega) rg2 ⟨by omega, by omega, ?_⟩
      have hone' : nxt (fun x i => g0 x (600 + i)) st ((fun x i => g0 x (600 + i)) 164 k) = one := hone
      rw [hone', fr.2.2.2.1]
      have h163 : g1 163 (600 + one) = j := (b1.1 163 _ (by omega)).trans o3
      have h162 : g1 162 (600 + one) = q := (b1.1 162 _ (by omega)).trans o2
      have h155 : g1 155 j = g0 155 j := b1.1 155 _ (by omega)
      refine N_Mo_opensCase_0 ?_
      rw [h163, h155, Lr.2.2.1, fr.2.2.2.2]
      have flt7 : (q0 (41 + 2 * j) 4 ≠ kk - 3 ∨ seen j) → ∀ g2 : HP, g2 = up2 g1 135 65 (g1 162 (600 + one)) → ∀ g3 : HP, g3 = up2 g2 135 66 7 → Lp d ty Q g3 := by
        intro c
        have ez : z = 10 * q + 7 := by
          rcases hid_out J2 with ⟨_, e⟩ | ⟨⟨e1, e2⟩, _⟩
          · exact e
          · rcases c with c | c
            · exact absurd e1 c
            · exact absurd c e2
        refine q_flt T.1 T.2.1 (by omega) (by omega) (by omega) (fun g9 F9 => ?_)
        rw [h162, ← ez] at F9
        exact q_end F9 (H0 (by omega) g9 F9)
      have s := sn j j0 j10
      refine ⟨by omega, by omega, by omega, by unfold r32; omega, fun nf => ⟨by omega, by omega, flt7 (Or.inl (by omega))⟩, fun ef => ⟨by unfold r32; omega, by omega, fun ns => ⟨by unfold r32; omega, by omega, by omega, fun g3 e3 => ⟨by omega, by omega, ?_⟩⟩, fun sy => ⟨by omega, by omega, flt7 (Or.inr (Classical.byContradiction fun z => by have := s.2 z; omega))⟩⟩⟩
      have ns' : ¬ seen j := fun z => ns (s.1 z)
      have J3 : ∃ mu, FrN V1 mu ∧ ((¬ Sat (Snd S1 (sgR' (sbr q0) (llr q0) (ppr q0) 67 j mu) a) ∧ z = 10 * q + 8) ∨
        ((Sat (Snd S1 (sgR' (sbr q0) (llr q0) (ppr q0) 67 j mu) a) ∧ ClA (Snd S1 (sgR' (sbr q0) (llr q0) (ppr q0) 67 j mu) a) (nV V1 mu (Oc (sbr q0 67 j) 0 (llr q0 67 j)) (7, D + 1))) ∧ thJ (jj q0 A) (q + 1) (exG Γ sc (sgF (sbr q0) (llr q0) (ppr q0) 67 j mu)) (sc + ppr q0 67 j) (some g) (Snd S1 (sgR' (sbr q0) (llr q0) (ppr q0) 67 j mu) a) (nV V1 mu (Oc (sbr q0 67 j) 0 (llr q0 67 j)) (7, D + 1)) (D + 1) z (fun _ _ _ => cj q0 A p Γ sc S1 V1 D g kk a z fj r1 (fun i => seen i ∨ i = j)))) := by
        rcases hid_out J2 with ⟨c, _⟩ | ⟨_, H⟩
        · rcases c with c | c
          · exact absurd (by omega) c
          · exact absurd c ns'
        · exact H
      clear J2
      obtain ⟨mu, F, hz⟩ := J3
      have o3' : ∀ a i, a < 173 ∨ 177 < a → ¬ (a = 135 ∧ (i = 62 ∨ i = 63)) → g3 a i = g1 a i := fun a i p q => by rw [e3, up2_nc (by omega)]
      have T3 := QT_pile T o3' (F' := f + 1) (by rw [e3, up2_nc (by decide)]; exact T.2.2.1.2.2.1.1)
      have X3 : XM g1 tm1 g3 tm1 := XM_pile o3'
      have q3' : QX g1 g3 f sc := fun a i p => by rw [e3, up2_ext (by omega)]
      have e15 : g3 135 15 = g1 135 15 := o3' 135 15 (by omega) (by omega)
      have e138 : g3 138 L = x := (o3' 138 L (by omega) (by omega)).trans Lr.2.2.2
      have e137 : g3 137 L = kk := (o3' 137 L (by omega) (by omega)).trans Lr.2.2.1
      have fr3 : g3 173 f = 600 + k ∧ g3 174 f = h 174 f ∧ g3 175 f = (st : Int) + 1 ∧ g3 176 f = L ∧ g3 177 (4 * f) = bOr v (bShl 1 j) := ⟨by rw [e3, up2_nc (by decide)]; exact fr.1, by rw [e3, up2_nc (by decide)]; exact fr.2.1, by rw [e3, up2_nc (by decide)]; exact fr.2.2.1, by rw [e3, up2_nc (by decide)]; exact fr.2.2.2.1, by rw [e3, up2_eq]⟩
      rw [e138]
      refine q_case bc R hd p0 hN s1 d0 s3 f0 f1 k0 k1 eo efc kr2.1 kr2.2 o2 nk G1 q3 qn hl w1 hm j0 j1 (by omega) (by omega) T3 F (by omega) xr.2.2 (by omega) gy2.2 fr3 (by omega) hz (fun kc g8 T8 X8 q8 fr8 => ?_) H0
      have x8 := X8.1.2.1
      have row := X8.1.2.2.2.1 L (by omega)
      have := ih fk fj (st + 1) r1 u1 (bOr v (bShl 1 j)) (fun i => seen i ∨ i = j) (2, 0) g8 (by omega) rest K' kc (fun i il => rg2 i (by omega)) (by omega) (by omega) (by omega) (by omega) (by omega) (by omega) m900 (sn1_up j0 j10 sn) T8 (XM_trans X (XM_trans X3 X8)) (QX_trans (Int.le_refl _) (Int.le_refl _) qx (QX_trans (Int.le_refl _) (Int.le_refl _) q3' q8)) ⟨fr8.1, fr8.2.1, by omega, fr8.2.2.2⟩ ⟨Lr.1, by omega, row.1.trans e137, row.2.1.trans e138⟩ ⟨xr.1, by omega, xr.2.2⟩
      exact this
end
