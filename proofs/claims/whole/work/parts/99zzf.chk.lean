section
/-! the class's checker: its state, and the small steps -/
def KS (h : HP) (tm : Int → Tm) (S : Sx) (V : Vx) (D sc hs A : Int) (Γ : Int → Tm) : Prop := CV h 96 512 tm S V ∧ h 96 15 = D ∧ (h 92 5 = sc ∧ h 92 6 = hs ∧ h 92 7 = A ∧ (A = 30 ∨ A = 33)) ∧ (0 ≤ h 92 8 ∧ h 92 8 < h 96 13 ∧ tm (h 92 8) = tI) ∧ (0 ≤ h 92 9 ∧ h 92 9 < h 96 13 ∧ tm (h 92 9) = tB) ∧ (0 ≤ sc ∧ sc ≤ 192 ∧ 0 ≤ hs ∧ hs ≤ 192) ∧ ∀ i, 0 ≤ i → i < sc → 0 ≤ h 121 i ∧ h 121 i < h 96 13 ∧ tm (h 121 i) = Γ i
/-- what a check leaves: if it went well, if not -/
def KX (h h' : HP) (sc hs : Int) : Prop := ∀ a i, a < 93 ∨ 120 < a → ¬ (a = 121 ∧ sc ≤ i) → ¬ (a = 122 ∧ hs ≤ i) → h' a i = h a i
def KZ (h h' : HP) (sc hs A : Int) : Prop := ∀ a i, a < 93 ∨ 120 < a → ¬ (a = 121 ∧ sc ≤ i) → ¬ (a = 122 ∧ hs ≤ i) → ¬ (a = 92 ∧ (i = 5 ∨ i = 6)) → ¬ (a = A ∧ (i = 4 ∨ i = 5)) → h' a i = h a i
theorem KX_refl (h : HP) (sc hs : Int) : KX h h sc hs := fun _ _ _ _ _ => rfl
theorem KX_out {h h' : HP} {sc hs : Int} (o : ∀ a i, a < 93 ∨ 120 < a → h' a i = h a i) : KX h h' sc hs := fun a i p _ _ => o a i p
theorem KX_trans {h h1 h2 : HP} {sc hs : Int} (a : KX h h1 sc hs) (b : KX h1 h2 sc hs) : KX h h2 sc hs := fun x i p q r => (b x i p q r).trans (a x i p q r)
theorem KX_KZ {h h1 h2 : HP} {sc hs A : Int} (a : KX h h1 sc hs) (b : KZ h1 h2 sc hs A) : KZ h h2 sc hs A := fun x i p q r s t => (b x i p q r s t).trans (a x i p q r)
theorem KS_step {h h' : HP} {tm tm' : Int → Tm} {S S' : Sx} {V V' : Vx} {D sc hs A : Int} {Γ : Int → Tm} (K : KS h tm S V D sc hs A Γ) (C : CV h' 96 512 tm' S' V') (X : XB 96 h tm h' tm') (o : KX h h' sc hs) : KS h' tm' S' V' D sc hs A Γ := by
  obtain ⟨C0, kD, ⟨k5, k6, k7, kA⟩, k8, k9, kr, ks⟩ := K
  have n := X.1.1.1
  have e : ∀ i, h' 92 i = h 92 i := fun i => o 92 i (by omega) (by omega) (by omega)
  refine ⟨C, by rw [X.1.1.2.2]; exact kD, ⟨by rw [e]; exact k5, by rw [e]; exact k6, by rw [e]; exact k7, kA⟩, ?_, ?_, kr, fun i i0 i1 => ?_⟩
  · rw [e]; exact ⟨k8.1, by omega, (X.2 _ k8.1 k8.2.1).trans k8.2.2⟩
  · rw [e]; exact ⟨k9.1, by omega, (X.2 _ k9.1 k9.2.1).trans k9.2.2⟩
  · have q := ks i i0 i1
    rw [o 121 i (by omega) (by omega) (by omega)]
    exact ⟨q.1, by omega, (X.2 _ q.1 q.2.1).trans q.2.2⟩
theorem k_leaf {d : Nat} {h : HP} {tm : Int → Tm} {S : Sx} {V : Vx} {D sc hs A c : Int} {Γ : Int → Tm} {Q : PQ} (K : KS h tm S V D sc hs A Γ) (hl : lfO c sc) (H : ∀ x, 0 ≤ x → x < h 96 13 → tm x = lfT c Γ → Q x h) : Go d M_Checker_leaf 0 [(10, 92), (0, c), (2, 0)] [] h Q := by
  obtain ⟨C0, kD, ⟨k5, k6, k7, kA⟩, k8, k9, kr, ks⟩ := K
  unfold lfO at hl
  refine V_Checker_leaf_0 ⟨by unfold r32; omega, fun z => ⟨fun e => H _ k9.1 k9.2.1 ?_, fun e => ⟨fun e2 => H _ k8.1 k8.2.1 ?_, fun e2 => H _ k9.1 k9.2.1 ?_⟩⟩, fun z => ⟨fun y => ?_, fun y => ⟨⟨z, ?_⟩, ?_⟩⟩⟩
  · rw [k9.2.2]; unfold lfT; rw [if_neg (by omega), if_pos (by omega)]
  · rw [k8.2.2]; unfold lfT; rw [if_neg (by omega), if_neg (by omega)]
  · rw [k9.2.2]; unfold lfT; rw [if_neg (by omega), if_pos (by omega)]
  · rw [k5] at y; omega
  · rw [k5] at y; show c - 97 < 192; omega
  · rw [k5] at y
    have q := ks (c - 97) z y
    refine H _ q.1 q.2.1 ?_
    unfold lfT
    rw [if_pos (by omega)]
    exact q.2.2
theorem k_fresh {d : Nat} {h : HP} {tm : Int → Tm} {S : Sx} {V : Vx} {m1 m2 : Nat} {Q : PQ} (hd : 9 < d) (C : CV h 96 512 tm S V) (hr : h 96 13 + 3 ≤ 512) (f1 : (V m1).1 < 7) (f2 : (V m2).1 < 7) (ne : m1 ≠ m2)
    (H : ∀ (r : Int) (h' : HP) (tm' : Int → Tm), CV h' 96 512 tm' S (upV (upV V m1 (8, h 96 15)) m2 (8, h 96 15)) → XB 96 h tm h' tm' → 0 ≤ r → r < h' 96 13 → tm' r = tP (tV m1) (tV m2) → h' 96 13 ≤ h 96 13 + 3 → (∀ a i, a < 96 ∨ 109 < a → h' a i = h a i) → Q r h') : Go d M_Checker_freshPair 0 [(10, 92), (2, 0), (2, 0)] [] h Q := by
  refine V_Checker_freshPair_0 ⟨by omega, c_obtN (T := 96) (R := 512) (m := m1) (by omega) C (Or.inr rfl) (by omega) f1 (fun r1 h1 t1 C1 X1 r10 r11 e1 n1 o1 => ⟨by omega, ?_⟩)⟩
  have d1 : h1 96 15 = h 96 15 := X1.1.1.2.2
  refine c_obtN (T := 96) (R := 512) (m := m2) (by omega) C1 (Or.inr rfl) (by omega) (by show (if m2 = m1 then _ else V m2).1 < 7; rw [if_neg (fun z => ne z.symm)]; exact f2) (fun r2 h2 t2 C2 X2 r20 r21 e2 n2 o2 => ⟨by omega, ?_⟩)
  have g2 := X2.1.1.1
  refine c_obtF (T := 96) (R := 512) (t := tP (tV m1) (tV m2)) (by omega) C2 (by omega) (fun _ => ⟨r10, by omega⟩) (fun _ => ⟨r20, r21⟩) (fun z => by omega) (fun z => by omega) (by omega) (by rw [X2.2 r1 r10 r11, e1, e2]; rfl) (fun r3 h3 t3 C3 X3 r30 r31 e3 n3 o3 => ?_)
  rw [d1] at C3
  exact H r3 h3 t3 C3 (XB_trans C C1 X1 (XB_trans C1 C2 X2 X3)) r30 r31 e3 (by omega) (fun a i p => by rw [o3 a i (by omega), o2 a i (by omega), o1 a i (by omega)])
/-- whether a type is a pair, and its parts -/
theorem k_head {d : Nat} {h : HP} {tm : Int → Tm} {S : Sx} {V : Vx} {x : Int} {Q : PQ} (hd : 0 < d) (C : CV h 96 512 tm S V) (x0 : 0 ≤ x) (x1 : x < h 96 13) (H1 : (∃ a b, EqS S (tm x) (tP a b)) → Q 2 h) (H0 : (¬ ∃ a b, EqS S (tm x) (tP a b)) → ∀ r, r ≠ 2 → Q r h) : Go d M_Types_headOf 0 [(17, 96), (0, x)] [] h Q := by
  obtain ⟨c, W, hV⟩ := C
  have Ld := (FB_lead W.1).1
  obtain ⟨m1, m2⟩ := Led_fm W.2.1 Ld x0 x1
  refine c_headOf (T := 96) (R := 512) hd W.1 x0 x1 ?_
  by_cases z : h (96 + 3) (ldC h 96 c x) = 2
  · rw [z]
    have := m1 (by omega)
    rw [z] at this
    exact H1 ⟨_, _, this⟩
  · exact H0 (fun ⟨a, b, e⟩ => z (m2 2 a b (by omega) e).1) _ z
theorem k_lead {d : Nat} {h : HP} {tm : Int → Tm} {S : Sx} {V : Vx} {x : Int} {Q : PQ} (hd : 0 < d) (C : CV h 96 512 tm S V) (x0 : 0 ≤ x) (x1 : x < h 96 13) (p : ∃ a b, EqS S (tm x) (tP a b)) (H : ∀ y, 0 ≤ y → y < h 96 13 → (0 ≤ h 100 y ∧ h 100 y < h 96 13) → (0 ≤ h 101 y ∧ h 101 y < h 96 13) → EqS S (tm x) (tP (tm (h 100 y)) (tm (h 101 y))) → Q y h) : Go d M_Types_leadOf 0 [(17, 96), (0, x)] [] h Q := by
  obtain ⟨c, W, hV⟩ := C
  have Ld := (FB_lead W.1).1
  obtain ⟨m1, m2⟩ := Led_fm W.2.1 Ld x0 x1
  obtain ⟨a, b, e⟩ := p
  have z := (m2 2 a b (by omega) e).1
  have l := Ld x x0 x1
  have w := W.2.1.1.1 (ldC h 96 c x) l.1 l.2.1
  have wa := w.2.1 (by omega) (by omega)
  have wb := w.2.2.1 z
  have q := m1 (by omega)
  rw [z] at q
  exact c_leadOf (T := 96) (R := 512) hd W.1 x0 x1 (H _ l.1 l.2.1 ⟨wa.1, by have := wa.2; have := l.2.1; show h (96 + 4) _ < _; omega⟩ ⟨wb.1, by have := wb.2; have := l.2.1; show h (96 + 5) _ < _; omega⟩ q)
/-- a fault may leave one branch open -/
def FO (h h' : HP) : Prop := (∃ tm S V, CV h' 96 512 tm S V ∧ ExB 96 h h') ∨ (∃ h0 tm0 S0 V0 tm S V, CV h0 96 512 tm0 S0 V0 ∧ ExB 96 h h0 ∧ h0 96 15 < 32 ∧ CV h' 96 512 tm S V ∧ ExB 96 (opH h0 96) h')
theorem FO_loc {h h1 h2 : HP} (l : LcC 96 h1 h2) (F : FO h h1) : FO h h2 := by
  rcases F with ⟨tm, S, V, C, X⟩ | ⟨h0, tm0, S0, V0, tm, S, V, C0, X0, q, C, X⟩
  · exact Or.inl ⟨tm, S, V, CV_loc l C, ExB_loc (LcC_refl 96 h) l X⟩
  · exact Or.inr ⟨h0, tm0, S0, V0, tm, S, V, C0, X0, q, CV_loc l C, ExB_loc (LcC_refl 96 _) l X⟩
theorem FO_trans {h h1 h2 : HP} {tm tm1 : Int → Tm} {S S1 : Sx} {V V1 : Vx} (C : CV h 96 512 tm S V) (C1 : CV h1 96 512 tm1 S1 V1) (X : ExB 96 h h1) (F : FO h1 h2) : FO h h2 := by
  have l := (CV_L0 C).1
  obtain ⟨c1, W1, _⟩ := C1
  rcases F with ⟨tm, S, V, C, X2⟩ | ⟨h0, tm0, S0, V0, tm, S, V, C0, X0, q, C, X2⟩
  · exact Or.inl ⟨tm, S, V, C, ExB_trans W1.1 l X X2⟩
  · exact Or.inr ⟨h0, tm0, S0, V0, tm, S, V, C0, ExB_trans W1.1 l X X0, q, C, X2⟩
theorem k_agrees {d : Nat} {h : HP} {tm : Int → Tm} {S : Sx} {V : Vx} {D sc hs A x y p : Int} {Γ : Int → Tm} {Q : PQ} (hd : 11 < d) (K : KS h tm S V D sc hs A Γ) (x0 : 0 ≤ x) (x1 : x < h 96 13) (y0 : 0 ≤ y) (y1 : y < h 96 13)
    (H1 : Sat (Snd S (tm x) (tm y)) → (¬ FixS S (Snd S (tm x) (tm y)) V D ∧ Ext1 S (Snd S (tm x) (tm y)) V D) → ∀ g, KS g tm (Snd S (tm x) (tm y)) V D sc hs A Γ → XB 96 h tm g tm → g 96 13 = h 96 13 → KX h g sc hs → Q 1 g)
    (H0 : ∀ r g, (¬ Sat (Snd S (tm x) (tm y)) ∧ r = 3) ∨ (Sat (Snd S (tm x) (tm y)) ∧ FixS S (Snd S (tm x) (tm y)) V D ∧ r = 4) → KZ h g sc hs A → FO h g → g A 4 = p → g A 5 = r → Q 0 g) : Go d M_Checker_agrees 0 [(10, 92), (0, x), (0, y), (0, p), (2, 0)] [] h Q := by
  have K0 := K
  obtain ⟨⟨c, W, hV⟩, kD, ⟨k5, k6, k7, kA⟩, k8, k9, kr, ks⟩ := K
  have ou : ∀ g, ExC 96 h g → ∀ a i, a < 93 ∨ 120 < a → g a i = h a i := fun g X a i p => X.2.2.2.2.2 a i (by omega)
  refine V_Checker_agrees_0 ⟨fun _ => ⟨by omega, c_join (T := 96) (R := 512) (pr := 1) (by omega) W hV x0 x1 y0 y1 (fun s f g c' W' X e13 r er e14 r0 => ⟨fun _ => ?_, fun z => by omega⟩) (fun s g W' X e13 e14 => ⟨fun z => by omega, fun _ => ⟨fun z => absurd rfl z, fun _ => ?_⟩⟩) (fun s _ f g W' X e13 e14 => ⟨fun z => by omega, fun _ => ⟨fun _ => ?_, fun z => by omega⟩⟩)⟩, fun z => by omega⟩
  · have hV' : VOk 0 (g 96 13) (g (96 + 3)) (g (96 + 6)) tm V := by
      rw [e13]
      exact VOk_rows hV (fun i i0 i1 => ⟨(X.2.1 i i0 i1).1, (X.2.1 i i0 i1).2.2.2⟩)
    have xb : XB 96 h tm g tm := ⟨ExC_ExB X, fun _ _ _ => rfl⟩
    have f' : ¬ FixS S (Snd S (tm x) (tm y)) V D := by
      rcases f with f | f
      · omega
      · rw [kD] at f; exact f
    have px : Ptn 0 (g 96 13) (g (96 + 3)) (g (96 + 4)) (g (96 + 5)) tm c S := by
      rw [e13]
      exact Ptn_ag W.2.1 (fun i i0 i1 => ⟨(X.2.1 i i0 i1).1, (X.2.1 i i0 i1).2.1, (X.2.1 i i0 i1).2.2.1⟩)
    exact H1 s ⟨f', Ext1_of px W'.2.1 hV' (fun _ z => z.1) f'⟩ g (KS_step K0 ⟨c', W', hV'⟩ xb (KX_out (ou g X))) xb e13 (KX_out (ou g X))
  · have e7 : g 92 7 = A := by rw [ou g X 92 7 (by omega)]; exact k7
    refine ⟨by omega, by omega, by omega, fun g2 e2 g3 e3 => ?_⟩
    rw [e7] at e2 e3
    refine H0 3 g3 (Or.inl ⟨s, rfl⟩) (fun a i p _ _ _ q => ?_) (FO_loc (h1 := g) (fun a i p q => by rw [e3, up2_nc (by omega), e2, up2_nc (by omega)]) (Or.inl ⟨tm, S, V, ⟨c, W', by rw [e13]; exact VOk_rows hV (fun i i0 i1 => ⟨(X.2.1 i i0 i1).1, (X.2.1 i i0 i1).2.2.2⟩)⟩, ExC_ExB X⟩)) ?_ ?_
    · rw [e3, up2_ext (by omega), e2, up2_ext (by omega)]; exact ou g X a i p
    · rw [e3, up2_ext (by omega), e2, up2_eq]
    · rw [e3, up2_eq]
  · have e7 : g 92 7 = A := by rw [ou g X 92 7 (by omega)]; exact k7
    rw [kD] at f
    refine ⟨by omega, by omega, by omega, fun g2 e2 g3 e3 => ?_⟩
    rw [e7] at e2 e3
    refine H0 4 g3 (Or.inr ⟨s, f, rfl⟩) (fun a i p _ _ _ q => ?_) (FO_loc (h1 := g) (fun a i p q => by rw [e3, up2_nc (by omega), e2, up2_nc (by omega)]) (Or.inl ⟨tm, S, V, ⟨c, W', by rw [e13]; exact VOk_rows hV (fun i i0 i1 => ⟨(X.2.1 i i0 i1).1, (X.2.1 i i0 i1).2.2.2⟩)⟩, ExC_ExB X⟩)) ?_ ?_
    · rw [e3, up2_ext (by omega), e2, up2_ext (by omega)]; exact ou g X a i p
    · rw [e3, up2_ext (by omega), e2, up2_eq]
    · rw [e3, up2_eq]
end
