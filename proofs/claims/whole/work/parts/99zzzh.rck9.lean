section
theorem q_many {d : Nat} {q0 g0 g : HP} {A c j k : Int} {Q : PQ} (bc : BD q0 g0 A) (hc : c = 67 ∨ c = 71) (j0 : 0 ≤ j) (j1 : j < nPr q0 c) (b : QB g0 g) (k0 : 0 ≤ k) (k1 : k < 100) (o1 : g0 161 (600 + k) = c) (o3 : g0 163 (600 + k) = j) (H : Q (ppr q0 c j) g) : Go d M_Mo_manyParts 0 [(22, 135), (0, 600 + k)] [] g Q := by
  obtain ⟨⟨s0, s1⟩, e152, e153, _, _, _⟩ := q_sig bc hc j0 j1
  have h161 : g 161 (600 + k) = c := (b.1 161 _ (by omega)).trans o1
  have h163 : g 163 (600 + k) = j := (b.1 163 _ (by omega)).trans o3
  unfold sI at s0 s1 e153
  refine N_Mo_manyParts_0 ?_
  rw [h161, h163]
  refine ⟨by omega, fun n => ?_, fun n => ?_⟩
  · rw [if_neg n] at s0 s1 e153
    refine ⟨by omega, by unfold r32; omega, by omega, ?_⟩
    rw [b.1 153 _ (by omega), e153]
    exact H
  · rw [if_pos n] at s0 s1 e153
    refine ⟨by omega, by omega, ?_⟩
    rw [b.1 153 _ (by omega), e153]
    exact H
/-- the parts of a sign, one after the other -/
theorem q_parts {q0 g0 h : HP} {A c j p k sc w r w' D f m z y ty : Int} {N : Nat} {tm : Int → Tm} {S S0 S' : Sx} {V' : Vx} {Γ : Int → Tm} {u t tt : Tm} {L : List Tm} {d : Nat} {Q : PQ} (bc : BD q0 g0 A) (R : RkT q0 g0 A N) (hd : 40 < d) (p0 : 0 ≤ p) (p1 : p < 100) (hN : q0 A 2 - p ≤ N) (d0 : 0 ≤ D) (s1 : 0 ≤ sc ∧ sc ≤ 3 + p) (s3 : 4 * D ≤ p) (f0 : 0 ≤ f) (f1 : f ≤ 2 * p + 1) (hm : m ≤ 148 + 4 * p + 2 * (w - q0 A 2)) (hc : c = 67 ∨ c = 71) (j0 : 0 ≤ j) (j1 : j < nPr q0 c) (k0 : 0 ≤ k) (k1 : k < 100) (o1 : g0 161 (600 + k) = c) (o3 : g0 163 (600 + k) = j) (eL : (L.length : Int) = ppr q0 c j) (n3 : ppr q0 c j ≤ 3) (kid : KID (fun x i => g0 x (600 + i)) (q0 (A + 2)) (nx q0 g0 A) (ppr q0 c j).toNat (p + 2) (g0 164 (600 + k)) sc) (ut : EqS S0 u tt) (sub0 : ∀ θ, S0 θ → S θ)
    (H1 : z = 0 → ∀ h' tm', QT g0 h' tm' S' V' D sc Γ f (m + 4 * (r - p) - 3 + 2 * (w' - w)) → XM h tm h' tm' → QX h h' f sc → (100 ≤ h' 135 63 ∧ h' 135 63 < h' 135 15) → EqS S' (tm' (h' 135 63)) t → (∀ θ, S' θ → S θ) → Lp d ty Q h') (H0 : z ≠ 0 → ∀ h', QF g0 h' z → Q 0 h') :
    ∀ (l : List Tm) (st : Nat) (q wq m1 : Int) (g : HP) (tm1 : Int → Tm) (S1 : Sx) (V1 : Vx), (∀ i : Nat, l[i]? = L[st + i]?) → st + l.length = L.length → kiJ (jj q0 A) (q0 (A + 2)) Γ sc D z l q S1 V1 (fun S2 V2 => z = 0 ∧ S' = S2 ∧ V' = V2 ∧ t = tt) → GC (gd q0 A) l.length q sc wq r w' → q = plc (q0 (A + 2)) st (p + 2) → p + 2 ≤ q → wq ≤ 240 → q0 A 2 ≤ wq → m1 ≤ m + 1 + 4 * (q - p - 2) + 2 * (wq - w) → QT g0 g tm1 S1 V1 D sc Γ (f + 1) m1 → XM h tm g tm1 → QX h g f sc → (g 173 f = 600 + k ∧ g 175 f = (st : Int) + 1 ∧ g 176 f = y) → (100 ≤ y ∧ y < g 135 15 ∧ tm1 y = u) → (∀ (i : Nat) (t : Tm), L[i]? = some t → (100 ≤ g 177 (4 * f + i) ∧ g 177 (4 * f + i) < g 135 15) ∧ tm1 (g 177 (4 * f + i)) = t) → (∀ θ, S1 θ → S0 θ) → Go (d - 1 - 1) M_Mo_sign 43 [(22, 135), (0, f), (0, 600 + k), (0, (st : Int))] [] g (fun _ k => Lp d ty Q k) := by
  intro l
  induction l with
  | nil =>
    intro st q wq m1 g tm1 S1 V1 _ sl J G eq pq w0 w1 hm1 T X qx fr yr pt sub
    have sl' : st = L.length := by simpa using sl
    obtain ⟨er, ew⟩ := G
    obtain ⟨z0, eS, eV, et⟩ := J
    subst eS eV er ew
    have H1 := H1 z0
    refine N_Mo_sign_43 ⟨fun _ => ⟨by omega, q_many bc hc j0 j1 T.1 k0 k1 o1 o3 ⟨fun _ => ⟨by omega, by omega, ?_⟩, fun z => by omega⟩⟩, fun z => absurd T.2.2.1.2.2.1.2 z⟩
    rw [fr.2.2]
    refine q_giv (F := f) T.2.2.1.2.2.1.1 f0 (by omega) (q_fin T X qx ⟨yr.1, yr.2.1⟩ ?_ (fun θ q => sub0 θ (sub θ q)) (by omega) H1)
    rw [yr.2.2, et]
    exact EqS_sub sub ut
  | cons t0 l ih =>
    intro st q wq m1 g tm1 S1 V1 li sl J G eq pq w0 w1 hm1 T X qx fr yr pt sub
    have sl' : st + (l.length + 1) = L.length := sl
    obtain ⟨r1, v1, G1, G2⟩ := G
    have lw := bc_w bc.1 _ _ _ _ _ (by omega) G1
    have bn := bc.1.2.1
    have ee : q0 (A + 2) q = r1 := (GD_e G1).2
    have gt : L[st]? = some t0 := by
      have := li 0
      rw [show st + 0 = st by omega] at this
      rw [← this]; rfl
    have ps := pt st t0 gt
    have nk : ∀ i : Nat, i ≤ st → nx q0 g0 A (plc (q0 (A + 2)) i (p + 2)) (nxt (fun x i => g0 x (600 + i)) i (g0 164 (600 + k))) sc := fun i il => KID_nth i _ _ _ _ (by omega) kid
    have n1 := nk st (Nat.le_refl _)
    rw [← eq] at n1
    refine N_Mo_sign_43 ⟨fun _ => ⟨by omega, q_many bc hc j0 j1 T.1 k0 k1 o1 o3 ⟨fun z => by omega, fun _ => ⟨by omega, c_child (R := fun x i => g0 x (600 + i)) (QB_ag T.1) k0 k1 (by omega) (fun i hi => nx_r (nk i hi)) ⟨by unfold r32; omega, by unfold r32; omega, by omega, by omega, q_psh (F := f + 1) T.2.2.1.2.2.1.1 (by omega) (by omega) ?_⟩⟩⟩⟩, fun z => absurd T.2.2.1.2.2.1.2 z⟩
    refine q_th (R (some t0)) hd ⟨⟨by omega, by omega⟩, G1, ⟨w0, w1⟩, ⟨by omega, d0, by omega⟩, ⟨by omega, by show f + 1 ≤ 2 * q; omega⟩, by omega⟩ n1 T ⟨ps.1, by rw [ps.2]; exact EqS_rfl⟩ J (fun S2 V2 t2 h2 tm2 J2 T2 X2 q2 _ _ sub2 => ?_) H0
    have fr2 := QX_f q2
    have x2 := X2.1.2.1
    have x14 := T.2.2.1.2.1.1
    have op2 : h2 161 (600 + k) = c := (T2.1.1 161 _ (by omega)).trans o1
    refine q_sign (by omega) T2.2.2.1.2.2.1.1 T2.2.2.1.2.2.1.2 f0 (by omega) (show h2 173 f = 600 + k by omega) (by omega) (by omega) (show h2 175 f = (st : Int) + 1 by omega) (by omega) (by omega) (by omega) ?_
    obtain ⟨T3, X3, q3⟩ := QT_st (f := f) (v := (st : Int) + 1 + 1) T2
    have fr3 : up2 h2 175 f ((st : Int) + 1 + 1) 173 f = 600 + k ∧ up2 h2 175 f ((st : Int) + 1 + 1) 175 f = (st : Int) + 1 + 1 ∧ up2 h2 175 f ((st : Int) + 1 + 1) 176 f = y ∧ up2 h2 175 f ((st : Int) + 1 + 1) 135 15 = h2 135 15 ∧ ∀ i, up2 h2 175 f ((st : Int) + 1 + 1) 177 i = h2 177 i := ⟨by rw [up2_nc (by decide)]; omega, up2_eq, by rw [up2_nc (by decide)]; omega, up2_nc (by decide), fun i => up2_nc (by decide)⟩
    generalize up2 h2 175 f ((st : Int) + 1 + 1) = h3 at T3 X3 q3 fr3 ⊢
    refine N_Mo_sign_0 ⟨fun _ => ?_, fun z => by omega⟩
    have := ih (st + 1) r1 v1 _ h3 tm2 S2 V2 (fun i => ?_) (by omega) (by rw [ee] at J2; exact J2) G2 (by rw [plc_succ, ← eq, ee]) (by omega) (by omega) (by omega) ?_ T3 (XM_trans X (XM_trans X2 X3)) (QX_trans (Int.le_refl _) (Int.le_refl _) (QX_trans (by omega) (Int.le_refl _) qx q2) q3) ⟨fr3.1, by rw [fr3.2.1]; omega, fr3.2.2.1⟩ ⟨yr.1, by omega, by rw [X2.2 y (by omega) yr.2.1]; exact yr.2.2⟩ (fun i t gi => ?_) (fun θ q => sub θ (sub2 θ q))
    · exact this
    · have := li (i + 1)
      rw [show st + 1 + i = st + (i + 1) by omega, ← this]
      rfl
    · omega
    · have il : i < L.length := by
        rcases Nat.lt_or_ge i L.length with z | z
        · exact z
        · rw [List.getElem?_eq_none z] at gi; exact absurd gi (by intro e; cases e)
      have u := pt i t gi
      have e : h3 177 (4 * f + i) = g 177 (4 * f + i) := by rw [fr3.2.2.2.2]; exact q2 177 _ (by omega)
      rw [e]
      refine ⟨by omega, ?_⟩
      rw [X2.2 _ (by omega) u.1.2]
      exact u.2
def sgnJ (q0 : HP) (A p : Int) (Γ : Int → Tm) (sc D z : Int) (S : Sx) (V : Vx) (S' : Sx) (V' : Vx) (t : Tm) (mu : Int → Nat) (c j : Int) : Option Tm → Prop
  | none => kiJ (jj q0 A) (q0 (A + 2)) Γ sc D z (sgF (sbr q0) (llr q0) (ppr q0) c j mu) (p + 2) S (nV V mu (Oc (sbr q0 c j) 0 (llr q0 c j)) (8, D)) (fun S2 V2 => z = 0 ∧ S' = S2 ∧ V' = V2 ∧ t = cllT (fun j => q0 (41 + 2 * j) 4) c j (sgR' (sbr q0) (llr q0) (ppr q0) c j mu))
  | some g => unJ p S (nV V mu (Oc (sbr q0 c j) 0 (llr q0 c j)) (8, D)) D (cllT (fun j => q0 (41 + 2 * j) 4) c j (sgR' (sbr q0) (llr q0) (ppr q0) c j mu)) g z (fun S1 => kiJ (jj q0 A) (q0 (A + 2)) Γ sc D z (sgF (sbr q0) (llr q0) (ppr q0) c j mu) (p + 2) S1 (nV V mu (Oc (sbr q0 c j) 0 (llr q0 c j)) (8, D)) (fun S2 V2 => z = 0 ∧ S' = S2 ∧ V' = V2 ∧ t = g))
theorem r_sign {q0 g0 : HP} {A : Int} {N : Nat} (bc : BD q0 g0 A) (R : RkT q0 g0 A N) (go : Option Tm) : RkP q0 g0 A (N + 1) go (fun c _ => c = 67 ∨ c = 71) := by
  intro p k sc w r w' D f m z h tm S V Γ S' V' t d ty Q lf hd P nn T en es gy J H1 H0
  obtain ⟨⟨p0, hN⟩, G, ⟨w0, w1⟩, ⟨s1, d0, s3⟩, ⟨f0, f1⟩, hm⟩ := P
  have bn := bc.1.2.1
  have pn := GD_n G p0
  have nr := nx_r nn
  have f1' : f ≤ 2 * p + 1 := Int.le_trans f1 (fB_le p go).2
  have lf' : bA (q0 (A + 1)) (q0 A 2) p = 67 ∨ bA (q0 (A + 1)) (q0 A 2) p = 71 := lf
  have nx1 := NX_out nn
  have o1 : g0 161 (600 + k) = bA (q0 (A + 1)) (q0 A 2) p := nx1.1.1
  have ep : g0 162 (600 + k) = p := nx1.1.2.1
  have K3 : g0 163 (600 + k) = bA (q0 (A + 1)) (q0 A 2) (p + 1) - 48 ∧ KID (fun x i => g0 x (600 + i)) (q0 (A + 2)) (nx q0 g0 A) (ppr q0 (bA (q0 (A + 1)) (q0 A 2) p) (bA (q0 (A + 1)) (q0 A 2) (p + 1) - 48)).toNat (p + 2) (g0 164 (600 + k)) sc := by
    rcases nx1.2 with l | ⟨l, _⟩ | ⟨_, _, a, K⟩ | ⟨l, _⟩
    · unfold lfO at l; omega
    · unfold pO at l
      rw [if_neg (by omega), if_neg (by omega), if_neg (by omega)] at l
      omega
    · exact ⟨a, K⟩
    · omega
  obtain ⟨o3, kid⟩ := K3
  obtain ⟨ok, hl, GG⟩ := GD_sign G p0 lf'
  have j0 : 0 ≤ bA (q0 (A + 1)) (q0 A 2) (p + 1) - 48 := by have := ok.1; omega
  have j1 := ok.2.2
  have op : ∀ (g : HP), QB g0 g → g 161 (600 + k) = bA (q0 (A + 1)) (q0 A 2) p := fun g b => (b.1 161 _ (by omega)).trans o1
  have JN' : ∃ mu, FrN V mu ∧ sgnJ q0 A p Γ sc D z S V S' V' t mu (bA (q0 (A + 1)) (q0 A 2) p) (bA (q0 (A + 1)) (q0 A 2) (p + 1) - 48) go := by
    cases go with
    | none =>
      rcases jn_out J with ⟨x, _⟩ | ⟨x, _⟩ | ⟨x, _⟩ | ⟨x, _⟩ | ⟨x, _⟩ | ⟨_, mu, F, H⟩ | ⟨x, _⟩
      · unfold lfO at x; omega
      · omega
      · omega
      · omega
      · omega
      · exact ⟨mu, F, H⟩
      · omega
    | some g =>
      rcases jc_out J with ⟨x, _⟩ | ⟨x, _⟩ | ⟨_, mu, F, H⟩ | ⟨x, _⟩ | ⟨x, _⟩
      · omega
      · omega
      · exact ⟨mu, F, H⟩
      · omega
      · omega
  clear J lf
  generalize hc : bA (q0 (A + 1)) (q0 A 2) p = c at lf' o1 op hl GG kid JN' j1
  generalize hj : bA (q0 (A + 1)) (q0 A 2) (p + 1) - 48 = j at j0 j1 o3 hl GG kid JN'
  obtain ⟨mu, F, J⟩ := JN'
  obtain ⟨_, _, _, _, _, ⟨l0, l1⟩, ⟨n0, n3⟩, O⟩ := cel_ok bc.1 lf' j0 j1
  have lL := sgL_len (mu := mu) l0 n0 O
  have lF := sgF_get (sb' := sbr q0) (ll := llr q0) (pp := ppr q0) (k := c) (j := j) (mu := mu) rfl n0 lL
  have eL := lF.1
  have GG' : GC (gd q0 A) (sgF (sbr q0) (llr q0) (ppr q0) c j mu).length (p + 2) sc (w + llr q0 c j) r w' := by
    rw [show (sgF (sbr q0) (llr q0) (ppr q0) c j mu).length = (ppr q0 c j).toNat by omega]
    exact GG
  refine q_sign (by omega) T.2.2.1.2.2.1.1 T.2.2.1.2.2.1.2 f0 (by omega) en (by omega) (by omega) es (by omega) (by omega) (by rw [op h T.1]; exact lf') ?_
  obtain ⟨T1, X1, q1⟩ := QT_st (f := f) (v := 0 + 1) T
  have fr1 : up2 h 175 f (0 + 1) 173 f = 600 + k ∧ up2 h 175 f (0 + 1) 174 f = h 174 f ∧ up2 h 175 f (0 + 1) 175 f = 1 := ⟨by rw [up2_nc (by decide)]; exact en, up2_nc (by decide), up2_eq⟩
  generalize up2 h 175 f (0 + 1) = h1 at T1 X1 q1 fr1 ⊢
  refine N_Mo_sign_0 ⟨fun z => absurd rfl z, fun _ => ⟨by omega, q_signT bc (by omega) lf' j0 j1 T1 d0 (by omega) f0 (by omega) nr.1 nr.2 o1 o3 F (by omega) (fun y g2 tm2 T2 X2 q2 fr2 yr ye pt => ⟨by omega, fun g3 e3 => ?_⟩)⟩⟩
  have o3' : ∀ a i, a < 173 ∨ 177 < a → ¬ (a = 135 ∧ (i = 62 ∨ i = 63)) → g3 a i = g2 a i := fun a i p q => by rw [e3, up2_nc (by omega)]
  have T3 := QT_pile T2 o3' (F' := f + 1) (by rw [e3, up2_nc (by decide)]; exact T2.2.2.1.2.2.1.1)
  have X3 : XM g2 tm2 g3 tm2 := XM_pile o3'
  have q3 : QX g2 g3 f sc := fun a i p => by rw [e3, up2_ext (by omega)]
  have X03 := XM_trans X1 (XM_trans X2 X3)
  have q03 : QX h g3 f sc := QX_trans (Int.le_refl _) (Int.le_refl _) q1 (QX_trans (Int.le_refl _) (Int.le_refl _) q2 q3)
  have f173 : g3 173 f = 600 + k := by rw [e3, up2_nc (by decide)]; omega
  have f174 : g3 174 f = h 174 f := by rw [e3, up2_nc (by decide)]; omega
  have f175 : g3 175 f = 1 := by rw [e3, up2_nc (by decide)]; omega
  have f176 : g3 176 f = y := by rw [e3, up2_eq]
  have f177 : ∀ i, g3 177 i = g2 177 i := fun i => by rw [e3, up2_nc (by decide)]
  have e15 : g3 135 15 = g2 135 15 := o3' 135 15 (by omega) (by omega)
  have pt3 : ∀ (i : Nat) (t : Tm), (sgF (sbr q0) (llr q0) (ppr q0) c j mu)[i]? = some t → (100 ≤ g3 177 (4 * f + i) ∧ g3 177 (4 * f + i) < g3 135 15) ∧ tm2 (g3 177 (4 * f + i)) = t := by
    intro i t gi
    have il : i < (sgF (sbr q0) (llr q0) (ppr q0) c j mu).length := by
      rcases Nat.lt_or_ge i (sgF (sbr q0) (llr q0) (ppr q0) c j mu).length with z | z
      · exact z
      · rw [List.getElem?_eq_none z] at gi; exact absurd gi (by intro e; cases e)
    rw [f177, e15]
    exact pt i t (by omega) gi
  refine ⟨by omega, fun gn => ?_, fun gn => ⟨by omega, by omega, by omega, ?_⟩⟩
  · cases go with
    | some g =>
      have u : 100 ≤ h 174 f ∧ h 174 f < h 135 15 := gy.1
      omega
    | none =>
      exact q_parts (S0 := S) (u := cllT (fun j => q0 (41 + 2 * j) 4) c j (sgR' (sbr q0) (llr q0) (ppr q0) c j mu)) (y := y) bc R hd p0 (by omega) (by omega) d0 s1 s3 f0 f1' hm lf' j0 j1 nr.1 nr.2 o1 o3 eL n3 kid EqS_rfl (fun _ z => z) H1 H0 _ 0 (p + 2) (w + llr q0 c j) _ g3 tm2 S _ (fun i => by rw [Nat.zero_add]) (by omega) J GG' rfl (by omega) hl (by omega) (by omega) T3 X03 q03 ⟨f173, by rw [f175]; rfl, f176⟩ ⟨yr.1, by omega, ye⟩ pt3 (fun _ z => z)
  · rw [f176, f174]
    cases go with
    | none => exact absurd (f174.trans gy) gn
    | some g =>
      unfold sgnJ at J
      have gy3 : goY g3 tm2 S (h 174 f) (some g) := goY_mono gy X03 T.2.2.1.2.1.1 (fun _ z => z)
      refine q_unite (p := p) (by omega) T3 d0 (by omega) (by omega) ep p0 ⟨yr.1, by omega⟩ gy3.1 (by rw [ye]; exact EqS_rfl) gy3.2 J (fun kk g4 T4 X4 o4 => ?_) (fun z0 g4 F4 => N_Mo_sign_43 ⟨fun z => by have := F4.2.2.2.1; omega, fun _ => q_end F4 (H0 z0 g4 F4)⟩)
      have x4 := X4.1.2.1
      refine q_parts (S0 := Snd S (cllT (fun j => q0 (41 + 2 * j) 4) c j (sgR' (sbr q0) (llr q0) (ppr q0) c j mu)) g) (u := cllT (fun j => q0 (41 + 2 * j) 4) c j (sgR' (sbr q0) (llr q0) (ppr q0) c j mu)) (y := y) bc R hd p0 (by omega) (by omega) d0 s1 s3 f0 f1' hm lf' j0 j1 nr.1 nr.2 o1 o3 eL n3 kid (fun θ q => q.2) (fun _ z => z.1) H1 H0 _ 0 (p + 2) (w + llr q0 c j) _ g4 tm2 _ _ (fun i => by rw [Nat.zero_add]) (by omega) kk GG' rfl (by omega) hl (by omega) (by omega) T4 (XM_trans X03 X4) (QX_trans (Int.le_refl _) (Int.le_refl _) q03 (OuM_QX o4)) ⟨by rw [o4.1 173 f (by omega)]; exact f173, by rw [o4.1 175 f (by omega), f175]; rfl, by rw [o4.1 176 f (by omega)]; exact f176⟩ ⟨yr.1, by omega, ye⟩ (fun i t gi => ?_) (fun _ z => z)
      have u := pt3 i t gi
      rw [o4.1 177 _ (by omega)]
      exact ⟨by omega, u.2⟩
end
