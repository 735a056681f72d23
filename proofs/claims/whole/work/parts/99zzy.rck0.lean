section
/-! the reference's check: its state, its pile -/
/-- what a check of the reference leaves, as against where it began -/
def QB (g0 h : HP) : Prop := (∀ a i, a < 135 ∨ a = 136 ∨ (149 < a ∧ a < 158) ∨ (160 < a ∧ a < 173) ∨ 178 < a → h a i = g0 a i) ∧ (∀ i, i < 14 ∨ (19 < i ∧ i < 62) ∨ i = 64 ∨ 66 < i → h 135 i = g0 135 i)
/-- the bench's own entries stay -/
def LO (g0 h : HP) : Prop := (∀ a i, (137 ≤ a ∧ a ≤ 142) ∨ a = 146 ∨ a = 147 → i < 100 → h a i = g0 a i) ∧ (∀ a i, a = 148 ∨ a = 149 → i < 16 → h a i = g0 a i)
/-- what stands of the pile and of the letters -/
def QX (h h' : HP) (f sc : Int) : Prop := ∀ a i, (173 ≤ a ∧ a ≤ 176 ∧ i < f) ∨ (a = 177 ∧ i < 4 * f) ∨ (a = 178 ∧ i < sc) → h' a i = h a i
def QS (h : HP) (tm : Int → Tm) (S : Sx) (V : Vx) (D sc : Int) (Γ : Int → Tm) (F : Int) : Prop := MV h tm S V ∧ (h 135 14 = 100 ∧ h 135 18 = D ∧ h 135 19 = 16) ∧ (h 135 62 = F ∧ h 135 65 = -1) ∧ ∀ i, 0 ≤ i → i < sc → 100 ≤ h 178 i ∧ h 178 i < h 135 15 ∧ EqS S (tm (h 178 i)) (Γ i)
def QT (g0 h : HP) (tm : Int → Tm) (S : Sx) (V : Vx) (D sc : Int) (Γ : Int → Tm) (F m : Int) : Prop := QB g0 h ∧ LO g0 h ∧ QS h tm S V D sc Γ F ∧ h 135 15 ≤ m
theorem QX_refl (h : HP) (f sc : Int) : QX h h f sc := fun _ _ _ => rfl
theorem QX_trans {h h1 h2 : HP} {f f1 sc sc1 : Int} (l : f ≤ f1) (ls : sc ≤ sc1) (a : QX h h1 f sc) (b : QX h1 h2 f1 sc1) : QX h h2 f sc := fun x i p => (b x i (by omega)).trans (a x i p)
theorem QB_trans {g h h' : HP} (a : QB g h) (b : QB h h') : QB g h' := ⟨fun x i p => (b.1 x i p).trans (a.1 x i p), fun i p => (b.2 i p).trans (a.2 i p)⟩
theorem LO_trans {g h h' : HP} (a : LO g h) (b : LO h h') : LO g h' := ⟨fun x i p q => (b.1 x i p q).trans (a.1 x i p q), fun x i p q => (b.2 x i p q).trans (a.2 x i p q)⟩
theorem LO_refl (h : HP) : LO h h := ⟨fun _ _ _ _ => rfl, fun _ _ _ _ => rfl⟩
theorem QB_refl (h : HP) : QB h h := ⟨fun _ _ _ => rfl, fun _ _ => rfl⟩
theorem OuM_QB {h g : HP} (o : OuM h g) : QB h g := ⟨fun a i p => o.1 a i (by omega), fun i p => o.2 i (by omega)⟩
theorem OuT_QB {h g : HP} (o : OuT h g) : QB h g := ⟨fun a i p => o.1 a i (by omega), fun i p => o.2 i (by omega)⟩
theorem OuM_QX {h g : HP} {f sc : Int} (o : OuM h g) : QX h g f sc := fun a i p => o.1 a i (by omega)
theorem OuT_QX {h g : HP} {f sc : Int} (o : OuT h g) : QX h g f sc := fun a i p => o.1 a i (by omega)
theorem MV_100 {h : HP} {tm : Int → Tm} {S : Sx} {V : Vx} (M : MV h tm S V) : h 135 14 ≤ h 135 17 := by
  have := M.1.2.2.1
  have := (RC_SB M.1.1).2.2.2.1.2.1
  omega
theorem ExN_LO {h g : HP} {tm : Int → Tm} {S : Sx} {V : Vx} {D : Int} (M : MV h tm S V) (q : h 135 14 = 100 ∧ h 135 18 = D ∧ h 135 19 = 16) (d0 : 0 ≤ D) (X : ExN h g) : LO h g := by
  have a := MV_100 M
  have b := MV_b M
  obtain ⟨_, _, _, x4, x5, x6, x7⟩ := X
  refine ⟨fun a i p r => ?_, fun a i p r => ?_⟩
  · have u := x4 i (by omega)
    have v := x5 i (by omega)
    have w := x7 i (by omega)
    rcases p with p | p | p
    · have : a = 137 ∨ a = 138 ∨ a = 139 ∨ a = 140 ∨ a = 141 ∨ a = 142 := by omega
      rcases this with e | e | e | e | e | e <;> subst e
      · exact u.1
      · exact u.2.1
      · exact u.2.2.1
      · exact u.2.2.2
      · exact w.1
      · exact w.2
    · subst p; exact v.1
    · subst p; exact v.2
  · have u := x6 i (by omega)
    rcases p with p | p <;> subst p
    · exact u.1
    · exact u.2
theorem LcM_LO {h g : HP} (s : LcM h g) : LO h g := ⟨fun a i p _ => s.2 a i (by omega) (by omega) (by omega), fun a i p _ => s.2 a i (by omega) (by omega) (by omega)⟩
/-- the state after a step over the types alone -/
theorem QT_step {g0 h g : HP} {tm tm' : Int → Tm} {S S' : Sx} {V V' : Vx} {D sc F m m' : Int} {Γ : Int → Tm} (T : QT g0 h tm S V D sc Γ F m) (d0 : 0 ≤ D) (M : MV g tm' S' V') (X : XM h tm g tm') (o : QB h g) (qx : ∀ i, i < sc → g 178 i = h 178 i) (e62 : g 135 62 = h 135 62) (e65 : g 135 65 = h 135 65) (sub : ∀ θ, S' θ → S θ) (l : g 135 15 ≤ m') : QT g0 g tm' S' V' D sc Γ F m' := by
  obtain ⟨tb, tl, ⟨M0, q, ⟨t62, t65⟩, ts⟩, tm0⟩ := T
  have x := X.1.1
  have x15 := X.1.2.1
  refine ⟨QB_trans tb o, LO_trans tl (ExN_LO M0 q d0 X.1), ⟨M, by omega, by omega, fun i i0 i1 => ?_⟩, l⟩
  have u := ts i i0 i1
  rw [qx i i1]
  refine ⟨u.1, by omega, ?_⟩
  rw [X.2 _ (by omega) u.2.1]
  exact EqS_sub sub u.2.2
theorem QT_le {g0 h : HP} {tm : Int → Tm} {S : Sx} {V : Vx} {D sc F m m' : Int} {Γ : Int → Tm} (T : QT g0 h tm S V D sc Γ F m) (l : m ≤ m') : QT g0 h tm S V D sc Γ F m' := ⟨T.1, T.2.1, T.2.2.1, by have := T.2.2.2; omega⟩
/-- the state after a step over the pile alone -/
theorem QT_pile {g0 h g : HP} {tm : Int → Tm} {S : Sx} {V : Vx} {D sc F F' m : Int} {Γ : Int → Tm} (T : QT g0 h tm S V D sc Γ F m) (o : ∀ a i, a < 173 ∨ 177 < a → ¬ (a = 135 ∧ (i = 62 ∨ i = 63)) → g a i = h a i) (e62 : g 135 62 = F') : QT g0 g tm S V D sc Γ F' m := by
  obtain ⟨tb, tl, ⟨M0, q, ⟨t62, t65⟩, ts⟩, tm0⟩ := T
  have lc : LcM h g := ⟨fun i p q => o _ _ (by omega) (by omega), fun a i p q r => o _ _ (by omega) (by omega)⟩
  refine ⟨QB_trans tb ⟨fun a i p => o a i (by omega) (by omega), fun i p => o _ _ (by omega) (by omega)⟩, LO_trans tl (LcM_LO lc), ⟨MV_loc lc M0, ?_, ?_, fun i i0 i1 => ?_⟩, ?_⟩
  · rw [o 135 14 (by omega) (by omega), o 135 18 (by omega) (by omega), o 135 19 (by omega) (by omega)]; exact q
  · rw [o 135 65 (by omega) (by omega)]; exact ⟨e62, t65⟩
  · rw [o 178 i (by omega) (by omega), o 135 15 (by omega) (by omega)]; exact ts i i0 i1
  · rw [o 135 15 (by omega) (by omega)]; exact tm0
theorem XM_pile {h g : HP} {tm : Int → Tm} (o : ∀ a i, a < 173 ∨ 177 < a → ¬ (a = 135 ∧ (i = 62 ∨ i = 63)) → g a i = h a i) : XM h tm g tm := XM_loc (LcM_of fun _ _ _ => rfl) ⟨fun i p q => o _ _ (by omega) (by omega), fun a i p q r => o _ _ (by omega) (by omega)⟩ (XM_refl h tm)
/-- a fault of the reference -/
def QF (g0 h : HP) (z : Int) : Prop := QB g0 h ∧ LO g0 h ∧ z = 10 * h 135 65 + h 135 66 ∧ 0 ≤ h 135 65 ∧ 1 ≤ h 135 66 ∧ h 135 66 ≤ 9
/-- a node is asked anew -/
def psh (h : HP) (F y t : Int) : HP := up2 (up2 (up2 (up2 h 173 F y) 174 F t) 175 F 0) 135 62 (F + 1)
def giv (h : HP) (F x : Int) : HP := up2 (up2 h 135 63 x) 135 62 F
theorem psh_o {h : HP} {F y t a i : Int} (p : ¬ ((a = 173 ∨ a = 174 ∨ a = 175) ∧ i = F)) (q : ¬ (a = 135 ∧ i = 62)) : psh h F y t a i = h a i := by
  unfold psh
  rw [up2_ext (by omega), up2_ext (by omega), up2_ext (by omega), up2_ext (by omega)]
theorem psh_1 {h : HP} {F y t : Int} : psh h F y t 173 F = y ∧ psh h F y t 174 F = t ∧ psh h F y t 175 F = 0 ∧ psh h F y t 135 62 = F + 1 := by
  unfold psh
  refine ⟨?_, ?_, ?_, up2_eq⟩
  · rw [up2_ext (by omega), up2_ext (by omega), up2_ext (by omega), up2_eq]
  · rw [up2_ext (by omega), up2_ext (by omega), up2_eq]
  · rw [up2_ext (by omega), up2_eq]
theorem giv_o {h : HP} {F x a i : Int} (q : ¬ (a = 135 ∧ (i = 62 ∨ i = 63))) : giv h F x a i = h a i := by
  unfold giv
  rw [up2_ext (by omega), up2_ext (by omega)]
theorem giv_1 {h : HP} {F x : Int} : giv h F x 135 63 = x ∧ giv h F x 135 62 = F := ⟨by unfold giv; rw [up2_ext (by omega), up2_eq], up2_eq⟩
theorem q_psh {k : HP} {F y t : Int} {P : HP → Prop} (e : k 135 62 = F) (F0 : 0 ≤ F) (F1 : F < 260) (H : P (psh k F y t)) : (0 ≤ k 135 62 ∧ k 135 62 < 260) ∧ ∀ g2 : HP, g2 = up2 k 173 (k 135 62) y → (0 ≤ g2 135 62 ∧ g2 135 62 < 260) ∧ ∀ g3 : HP, g3 = up2 g2 174 (g2 135 62) t → (0 ≤ g3 135 62 ∧ g3 135 62 < 260) ∧ ∀ g4 : HP, g4 = up2 g3 175 (g3 135 62) 0 → r32 ((g4 135 62) + 1) ∧ ∀ g5 : HP, g5 = up2 g4 135 62 ((g4 135 62) + 1) → P g5 := by
  refine ⟨by omega, fun g2 e2 => ?_⟩
  have q2 : g2 135 62 = F := by rw [e2, up2_ext (by omega)]; exact e
  refine ⟨by omega, fun g3 e3 => ?_⟩
  have q3 : g3 135 62 = F := by rw [e3, up2_ext (by omega)]; exact q2
  refine ⟨by omega, fun g4 e4 => ?_⟩
  have q4 : g4 135 62 = F := by rw [e4, up2_ext (by omega)]; exact q3
  refine ⟨by unfold r32; omega, fun g5 e5 => ?_⟩
  have : g5 = psh k F y t := by
    rw [e5, q4, e4, q3, e3, q2, e2, e]
    rfl
  rw [this]
  exact H
theorem q_giv {h : HP} {F x : Int} {P : HP → Prop} (e : h 135 62 = F + 1) (F0 : 0 ≤ F) (F1 : F < 260) (H : P (giv h F x)) : ∀ g1 : HP, g1 = up2 h 135 63 x → r32 ((g1 135 62) - 1) ∧ ∀ g2 : HP, g2 = up2 g1 135 62 ((g1 135 62) - 1) → P g2 := by
  intro g1 e1
  have q1 : g1 135 62 = F + 1 := by rw [e1, up2_ext (by omega)]; exact e
  refine ⟨by unfold r32; omega, fun g2 e2 => ?_⟩
  have : g2 = giv h F x := by
    rw [e2, q1, e1, show F + 1 - 1 = F by omega]
    rfl
  rw [this]
  exact H
theorem q_flt {h : HP} {nd rs : Int} {P : HP → Prop} {g0 : HP} (b : QB g0 h) (l : LO g0 h) (p0 : 0 ≤ h 162 nd) (r1 : 1 ≤ rs) (r9 : rs ≤ 9) (H : ∀ g, QF g0 g (10 * h 162 nd + rs) → P g) : ∀ g2 : HP, g2 = up2 h 135 65 (h 162 nd) → ∀ g3 : HP, g3 = up2 g2 135 66 rs → P g3 := by
  intro g2 e2 g3 e3
  have o : ∀ a i, ¬ (a = 135 ∧ (i = 65 ∨ i = 66)) → g3 a i = h a i := fun a i p => by rw [e3, up2_ext (by omega), e2, up2_ext (by omega)]
  have e5 : g3 135 65 = h 162 nd := by rw [e3, up2_ext (by omega), e2, up2_eq]
  have e6 : g3 135 66 = rs := by rw [e3, up2_eq]
  refine H g3 ⟨QB_trans b ⟨fun a i p => o a i (by omega), fun i p => o _ _ (by omega)⟩, LO_trans l ⟨fun a i p _ => o a i (by omega), fun a i p _ => o a i (by omega)⟩, by omega, by omega, by omega, by omega⟩
end
