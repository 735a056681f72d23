section
/-! expressions whose type is found -/
def RkP (q0 g0 : HP) (A : Int) (N : Nat) (go : Option Tm) (Pc : Int → Int → Prop) : Prop := ∀ (p k sc w r w' D f m z : Int) (h : HP) (tm : Int → Tm) (S : Sx) (V : Vx) (Γ : Int → Tm) (S' : Sx) (V' : Vx) (t : Tm) (d : Nat) (ty : Int) (Q : PQ), Pc (bA (q0 (A + 1)) (q0 A 2) p) sc → 40 < d → Pl q0 A N p sc w r w' D f m go → nx q0 g0 A p k sc → QT g0 h tm S V D sc Γ (f + 1) m → h 173 f = 600 + k → h 175 f = 0 → goY h tm S (h 174 f) go → jj q0 A p Γ sc go S V D z S' V' t →
  (z = 0 → ∀ h' tm', QT g0 h' tm' S' V' D sc Γ f (m + 4 * (r - p) - 3 + 2 * (w' - w)) → XM h tm h' tm' → QX h h' f sc → (100 ≤ h' 135 63 ∧ h' 135 63 < h' 135 15) → EqS S' (tm' (h' 135 63)) t → (∀ θ, S' θ → S θ) → Lp d ty Q h') → (z ≠ 0 → ∀ h', QF g0 h' z → Q 0 h') → Lp d ty Q h
theorem q_fin {g0 h g : HP} {tm tm' : Int → Tm} {S S' : Sx} {V' : Vx} {D sc f m' M x ty : Int} {Γ : Int → Tm} {t : Tm} {d : Nat} {Q : PQ} (T : QT g0 g tm' S' V' D sc Γ (f + 1) m') (X : XM h tm g tm') (qx : QX h g f sc) (xr : 100 ≤ x ∧ x < g 135 15) (ge : EqS S' (tm' x) t) (sub : ∀ θ, S' θ → S θ) (lm : m' ≤ M)
    (H1 : ∀ h' tm', QT g0 h' tm' S' V' D sc Γ f M → XM h tm h' tm' → QX h h' f sc → (100 ≤ h' 135 63 ∧ h' 135 63 < h' 135 15) → EqS S' (tm' (h' 135 63)) t → (∀ θ, S' θ → S θ) → Lp d ty Q h') : Lp d ty Q (giv g f x) := by
  obtain ⟨T2, X2, q2⟩ := QT_giv (f := f) (x := x) T
  have e := @giv_1 g f x
  refine H1 (giv g f x) tm' (QT_le T2 lm) (XM_trans X X2) (QX_trans (Int.le_refl _) (Int.le_refl _) qx q2) ?_ ?_ sub
  · rw [e.1, giv_o (by omega)]; exact xr
  · rw [e.1]; exact ge
theorem r_leaf {q0 g0 : HP} {A : Int} {N : Nat} (bc : BD q0 g0 A) : RkP q0 g0 A N none (fun c sc => lfO c sc) := by
  intro p k sc w r w' D f m z h tm S V Γ S' V' t d ty Q lf hd P nn T en es gy J H1 H0
  obtain ⟨⟨p0, hN⟩, G, ⟨w0, w1⟩, ⟨s1, d0, s3⟩, ⟨f0, f1⟩, hm⟩ := P
  have bn := bc.1.2.1
  have pn := GD_n G p0
  have nr := nx_r nn
  have f1' : f ≤ 2 * p + 1 := f1
  have gn : h 174 f = -1 := gy
  have ge := GD_leaf G lf
  have J' : JN (bA (q0 (A + 1)) (q0 A 2)) (q0 (A + 2)) (sbr q0) (llr q0) (ppr q0) (fun j => q0 (41 + 2 * j) 4) (jj q0 A) p Γ sc S V D z S' V' t := JJ_out J
  have e161 : h 161 (600 + k) = bA (q0 (A + 1)) (q0 A 2) p := (T.1.1 161 _ (by omega)).trans (NX_out nn).1.1
  have lf' := lf
  unfold lfO at lf'
  generalize hc : bA (q0 (A + 1)) (q0 A 2) p = c at lf lf' e161 J'
  have J2 : z = 0 ∧ S' = S ∧ V' = V ∧ t = lfT c Γ := by
    rcases J' with ⟨_, H⟩ | ⟨x, _⟩ | ⟨x, _⟩ | ⟨x, _⟩ | ⟨x, _⟩ | ⟨x, _⟩ | ⟨x, _⟩
    · rw [hc] at H; exact H
    all_goals (rw [hc] at x; omega)
  obtain ⟨z0, eS, eV, et⟩ := J2
  subst eS eV et
  have H1 := H1 z0
  refine q_finds (by omega) T.2.2.1.2.2.1.1 T.2.2.1.2.2.1.2 f0 (by omega) en (by omega) (by omega) es (by omega) (by omega) ⟨by omega, gn⟩ ?_
  obtain ⟨T1, X1, q1⟩ := QT_st (f := f) (v := 0 + 1) T
  have e1 : up2 h 175 f (0 + 1) 161 (600 + k) = c := by rw [up2_nc (by decide)]; exact e161
  generalize up2 h 175 f (0 + 1) = h1 at T1 X1 q1 e1 ⊢
  have fin : ∀ (x : Int) (g : HP) (tm' : Int → Tm), QT g0 g tm' S' V' D sc Γ (f + 1) (m + 1) → XM h1 tm g tm' → QX h1 g f sc → 100 ≤ x → x < g 135 15 → EqS S' (tm' x) (lfT c Γ) → ∀ g1 : HP, g1 = up2 g 135 63 x → r32 ((g1 135 62) - 1) ∧ ∀ g2 : HP, g2 = up2 g1 135 62 ((g1 135 62) - 1) → Lp d ty Q g2 := fun x g tm' T' X' q' x0 x1 ex => q_giv (P := fun k => Lp d ty Q k) T'.2.2.1.2.2.1.1 f0 (by omega) (q_fin T' (XM_trans X1 X') (QX_trans (Int.le_refl _) (Int.le_refl _) q1 q') ⟨x0, x1⟩ ex (fun _ z => z) (by omega) H1)
  refine N_Mo_finds_0 ?_
  rw [e1]
  refine ⟨by omega, by omega, c_in (fun a a' => ⟨fun z => absurd z (by decide), fun _ => ⟨by omega, q_int (by omega) T1 d0 (by omega) (by omega) (fun x g tm' T' X' o' x0 x1 ex => ⟨by omega, fin x g tm' T' X' (OuM_QX o') x0 x1 ?_⟩)⟩⟩) (fun a => ⟨fun _ => ?_, fun z => absurd rfl z⟩)⟩
  · rw [ex]
    unfold lfT
    rw [if_neg (by omega), if_neg (by omega)]
    exact EqS_rfl
  · have tr : c = 84 ∨ c = 70 → Go (d - 1 - 1) M_Mo_finds 41 [(22, 135), (0, 600 + k), (0, 0), (0, c)] [] h1 (fun _ k => Lp d ty Q k) := fun cc => N_Mo_finds_41 ⟨by omega, q_tru (by omega) T1 d0 (by omega) (by omega) (fun x g tm' T' X' o' x0 x1 ex => ⟨by omega, fin x g tm' T' X' (OuM_QX o') x0 x1 (by rw [ex]; unfold lfT; rw [if_neg (by omega), if_pos cc]; exact EqS_rfl)⟩)⟩
    refine ⟨fun c1 => tr (Or.inl c1), fun c1 => ⟨fun c2 => ⟨by omega, c_in (fun b b' => ⟨fun z => absurd z (by decide), fun _ => ⟨by unfold r32; omega, by omega, by omega, ?_⟩⟩) (fun b => by omega)⟩, fun c2 => tr (Or.inr c2)⟩⟩
    have u := T1.2.2.1.2.2.2 (c - 97) (by omega) (by omega)
    refine fin _ h1 tm (QT_le T1 (by omega)) (XM_refl h1 tm) (QX_refl h1 f sc) u.1 u.2.1 ?_
    unfold lfT
    rw [if_pos (by omega)]
    exact u.2.2
end
