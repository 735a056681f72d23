section
/-! the contract of the reference's check -/
/-- q0: where the text stood when the class checked it; g0: where the reference's check begins -/
def BD (q0 g0 : HP) (A : Int) : Prop := BC q0 A ∧ (∀ a i, 150 < a → a < 156 → g0 a i = q0 a i) ∧ g0 135 30 = q0 135 30
def nx (q0 g0 : HP) (A : Int) : YR := NX (fun x i => g0 x (600 + i)) (bA (q0 (A + 1)) (q0 A 2)) (q0 (A + 2)) (nPr q0) (ppr q0)
def fB (p : Int) : Option Tm → Int
  | none => 2 * p + 1
  | some _ => 2 * p
def goY (h : HP) (tm : Int → Tm) (S : Sx) (y : Int) : Option Tm → Prop
  | none => y = -1
  | some g => (100 ≤ y ∧ y < h 135 15) ∧ EqS S (tm y) g
def Pl (q0 : HP) (A : Int) (N : Nat) (p sc w r w' D f m : Int) (go : Option Tm) : Prop := (0 ≤ p ∧ q0 A 2 + 1 - p ≤ N) ∧ gd q0 A p sc w r w' ∧ (w ≤ 240 ∧ q0 A 2 ≤ w) ∧ ((0 ≤ sc ∧ sc ≤ 3 + p) ∧ 0 ≤ D ∧ 4 * D ≤ p) ∧ (0 ≤ f ∧ f ≤ fB p go) ∧ m ≤ 148 + 4 * p + 2 * (w - q0 A 2)
def RkG (q0 g0 : HP) (A : Int) (N : Nat) (go : Option Tm) : Prop := ∀ (p k sc w r w' D f m z : Int) (h : HP) (tm : Int → Tm) (S : Sx) (V : Vx) (Γ : Int → Tm) (S' : Sx) (V' : Vx) (t : Tm) (d : Nat) (ty : Int) (Q : PQ), 40 < d → Pl q0 A N p sc w r w' D f m go → nx q0 g0 A p k sc → QT g0 h tm S V D sc Γ (f + 1) m → h 173 f = 600 + k → h 175 f = 0 → goY h tm S (h 174 f) go → jj q0 A p Γ sc go S V D z S' V' t →
  (z = 0 → ∀ h' tm', QT g0 h' tm' S' V' D sc Γ f (m + 4 * (r - p) - 3 + 2 * (w' - w)) → XM h tm h' tm' → QX h h' f sc → (100 ≤ h' 135 63 ∧ h' 135 63 < h' 135 15) → EqS S' (tm' (h' 135 63)) t → (∀ θ, S' θ → S θ) → Lp d ty Q h') → (z ≠ 0 → ∀ h', QF g0 h' z → Q 0 h') → Lp d ty Q h
def RkT (q0 g0 : HP) (A : Int) (N : Nat) : Prop := ∀ go, RkG q0 g0 A N go
theorem q_end {g0 h : HP} {z ty : Int} {d : Nat} {Q : PQ} (F : QF g0 h z) (H : Q 0 h) : Lp d ty Q h := N_Mo_checks_18 ⟨fun _ => H, fun _ => ⟨fun _ => H, fun e => by have := F.2.2.2.1; omega⟩⟩
/-- a child is asked -/
theorem q_th {q0 g0 k : HP} {A : Int} {N : Nat} {go : Option Tm} {q c sc w r w' D F m y z : Int} {tm : Int → Tm} {S : Sx} {V : Vx} {Γ : Int → Tm} {d : Nat} {ty : Int} {Q : PQ} {K : Sx → Vx → Tm → Prop} (R : RkG q0 g0 A N go) (hd : 40 < d) (P : Pl q0 A N q sc w r w' D F m go) (nn : nx q0 g0 A q c sc) (T : QT g0 k tm S V D sc Γ F m) (gy : goY k tm S y go) (J : thJ (jj q0 A) q Γ sc go S V D z K)
    (H1 : ∀ S1 V1 t1 h' tm', K S1 V1 t1 → QT g0 h' tm' S1 V1 D sc Γ F (m + 4 * (r - q) - 3 + 2 * (w' - w)) → XM k tm h' tm' → QX k h' F sc → (100 ≤ h' 135 63 ∧ h' 135 63 < h' 135 15) → EqS S1 (tm' (h' 135 63)) t1 → (∀ θ, S1 θ → S θ) → Lp d ty Q h')
    (H0 : z ≠ 0 → ∀ h', QF g0 h' z → Q 0 h') : Lp d ty Q (psh k F (600 + c) y) := by
  obtain ⟨z1, S1, V1, t1, j1, hz⟩ := J
  have p1 := @psh_1 k F (600 + c) y
  have o : ∀ a i, a < 173 ∨ 177 < a → ¬ (a = 135 ∧ (i = 62 ∨ i = 63)) → psh k F (600 + c) y a i = k a i := fun a i p q => psh_o (by omega) (by omega)
  have xm : XM k tm (psh k F (600 + c) y) tm := XM_pile o
  have qx : QX k (psh k F (600 + c) y) F sc := fun a i p => psh_o (by omega) (by omega)
  have gy' : goY (psh k F (600 + c) y) tm S (psh k F (600 + c) y 174 F) go := by
    rw [p1.2.1]
    cases go with
    | none => exact gy
    | some g =>
      refine ⟨?_, gy.2⟩
      rw [o 135 15 (by omega) (by omega)]
      exact gy.1
  refine R q c sc w r w' D F m z1 _ tm S V Γ S1 V1 t1 d ty Q hd P nn (QT_pile T o p1.2.2.2) p1.1 p1.2.2.1 gy' j1 (fun e h' tm' T' X' qx' gr ge sub => ?_) (fun e h' F' => ?_)
  · rcases hz with ⟨a, _⟩ | ⟨_, kk⟩
    · exact absurd e a
    · exact H1 S1 V1 t1 h' tm' kk T' (XM_trans xm X') (QX_trans (Int.le_refl _) (Int.le_refl _) qx qx') gr ge sub
  · rcases hz with ⟨_, b⟩ | ⟨a, _⟩
    · rw [← b] at F' e
      exact H0 e h' F'
    · exact absurd a e
/-- a step begins: the stage is counted up -/
theorem QT_st {g0 h : HP} {tm : Int → Tm} {S : Sx} {V : Vx} {D sc F m f v : Int} {Γ : Int → Tm} (T : QT g0 h tm S V D sc Γ F m) : QT g0 (up2 h 175 f v) tm S V D sc Γ F m ∧ XM h tm (up2 h 175 f v) tm ∧ QX h (up2 h 175 f v) f sc := by
  have o : ∀ a i, a < 173 ∨ 177 < a → ¬ (a = 135 ∧ (i = 62 ∨ i = 63)) → up2 h 175 f v a i = h a i := fun a i p q => up2_nc (by omega)
  exact ⟨QT_pile T o (by rw [up2_nc (by decide)]; exact T.2.2.1.2.2.1.1), XM_pile o, fun a i p => up2_ext (by omega)⟩
theorem QT_giv {g0 h : HP} {tm : Int → Tm} {S : Sx} {V : Vx} {D sc F m f x : Int} {Γ : Int → Tm} (T : QT g0 h tm S V D sc Γ F m) : QT g0 (giv h f x) tm S V D sc Γ f m ∧ XM h tm (giv h f x) tm ∧ QX h (giv h f x) f sc := by
  have o : ∀ a i, a < 173 ∨ 177 < a → ¬ (a = 135 ∧ (i = 62 ∨ i = 63)) → giv h f x a i = h a i := fun a i p q => giv_o q
  exact ⟨QT_pile T o giv_1.2, XM_pile o, fun a i p => giv_o (by omega)⟩
/-- the rows of the tree -/
theorem QB_ag {g0 h : HP} (b : QB g0 h) : ∀ x j, 161 ≤ x → x ≤ 166 → h x (600 + j) = (fun x i => g0 x (600 + i)) x j := fun x j p q => b.1 x _ (by omega)
theorem nx_r {q0 g0 : HP} {A p k sc : Int} (H : nx q0 g0 A p k sc) : 0 ≤ k ∧ k < 100 := (NX_out H).1.2.2.2
theorem q_mkF {d : Nat} {g0 h : HP} {k a b : Int} {t : Tm} {tm : Int → Tm} {S : Sx} {V : Vx} {D sc F m : Int} {Γ : Int → Tm} {Q : PQ} (hd : 5 < d) (T : QT g0 h tm S V D sc Γ F m) (d0 : 0 ≤ D) (d1 : D ≤ 99) (hk : 0 ≤ k ∧ k ≤ 6) (ha : 2 ≤ k → 100 ≤ a ∧ a < h 135 15) (hb : k = 2 → 100 ≤ b ∧ b < h 135 15) (hr : m < 1000) (ht : t = mkT k (tm a) (tm b))
    (H : ∀ (r : Int) (g : HP) (tm' : Int → Tm), QT g0 g tm' S V D sc Γ F (m + 1) → XM h tm g tm' → OuM h g → 100 ≤ r → r < g 135 15 → tm' r = t → Q r g) : Go d M_Mo_makes 0 [(22, 135), (0, k), (0, a), (0, b), (2, 0)] [] h Q := by
  have q := T.2.2.1.2.1
  have l := T.2.2.2
  refine c_mkF (t := t) hd T.2.2.1.1 hk (fun z => by have := ha z; omega) (fun z => by have := hb z; omega) (by omega) (by omega) ht (fun r g tm' M X o r0 r1 e n => ?_)
  exact H r g tm' (QT_step T d0 M X (OuM_QB o) (fun i _ => o.1 178 i (by omega)) (o.2 62 (by omega)) (o.2 65 (by omega)) (fun _ z => z) (by omega)) X o (by omega) r1 e
theorem q_int {d : Nat} {g0 h : HP} {tm : Int → Tm} {S : Sx} {V : Vx} {D sc F m : Int} {Γ : Int → Tm} {Q : PQ} (hd : 6 < d) (T : QT g0 h tm S V D sc Γ F m) (d0 : 0 ≤ D) (d1 : D ≤ 99) (hr : m < 1000)
    (H : ∀ (r : Int) (g : HP) (tm' : Int → Tm), QT g0 g tm' S V D sc Γ F (m + 1) → XM h tm g tm' → OuM h g → 100 ≤ r → r < g 135 15 → tm' r = tI → Q r g) : Go d M_Mo_integer 0 [(22, 135)] [] h Q :=
  N_Mo_integer_0 ⟨by omega, q_mkF (by omega) T d0 d1 (by omega) (fun z => by omega) (fun z => by omega) hr rfl H⟩
theorem q_tru {d : Nat} {g0 h : HP} {tm : Int → Tm} {S : Sx} {V : Vx} {D sc F m : Int} {Γ : Int → Tm} {Q : PQ} (hd : 6 < d) (T : QT g0 h tm S V D sc Γ F m) (d0 : 0 ≤ D) (d1 : D ≤ 99) (hr : m < 1000)
    (H : ∀ (r : Int) (g : HP) (tm' : Int → Tm), QT g0 g tm' S V D sc Γ F (m + 1) → XM h tm g tm' → OuM h g → 100 ≤ r → r < g 135 15 → tm' r = tB → Q r g) : Go d M_Mo_truth 0 [(22, 135)] [] h Q :=
  N_Mo_truth_0 ⟨by omega, q_mkF (by omega) T d0 d1 (by omega) (fun z => by omega) (fun z => by omega) hr rfl H⟩
end
