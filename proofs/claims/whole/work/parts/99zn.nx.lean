section
/-! the reference's tree: node k stands for the expression at place p. R is rows 161 .. 166 -/
abbrev YR : Type := Int → Int → Int → Prop
def KID (R : HP) (e : Int → Int) (Y : YR) : Nat → YR
  | 0, _, _, _ => True
  | j + 1, q, k, sc => Y q k sc ∧ KID R e Y j (e q) (R 165 k) sc
def KCA (R : HP) (B e : Int → Int) (nP : Int → Int) (pp : Int → Int → Int) (Y : YR) : Nat → YR
  | 0, _, _, _ => False
  | f + 1, q, k, sc => (B q = 125 ∧ k = -1) ∨ (B q ≠ 125 ∧ okD B nP 67 q ∧ (0 ≤ k ∧ k < 100) ∧ R 161 k = 35 ∧ R 162 k = q ∧ R 163 k = B q - 48 ∧ Y (q + 1) (R 164 k) (sc + pp 67 (B q - 48)) ∧ KCA R B e nP pp Y f (e (q + 1)) (R 165 k) sc)
def NXF (R : HP) (B e : Int → Int) (nP : Int → Int) (pp : Int → Int → Int) (Y : YR) : YR := fun p k sc =>
  (R 161 k = B p ∧ R 162 k = p ∧ R 166 k = sc ∧ 0 ≤ k ∧ k < 100) ∧
  ((lfO (B p) sc) ∨
  (0 < pO (B p) ∧ KID R e Y (pO (B p)).toNat (p + 1) (R 164 k) sc) ∨
  ((B p = 67 ∨ B p = 71) ∧ okD B nP (B p) (p + 1) ∧ R 163 k = B (p + 1) - 48 ∧ KID R e Y (pp (B p) (B (p + 1) - 48)).toNat (p + 2) (R 164 k) sc) ∨
  (B p = 77 ∧ Y (p + 1) (R 164 k) sc ∧ ∃ f, KCA R B e nP pp Y f (e (p + 1) + 1) (R 165 (R 164 k)) sc))
theorem KID_mono {R : HP} {e : Int → Int} {X Y : YR} (h : ∀ p k s, X p k s → Y p k s) : ∀ (j : Nat) (q k sc : Int), KID R e X j q k sc → KID R e Y j q k sc := by
  intro j
  induction j with
  | zero => intro q k sc _; exact trivial
  | succ j ih => intro q k sc H; exact ⟨h _ _ _ H.1, ih _ _ _ H.2⟩
theorem KCA_mono {R : HP} {B e : Int → Int} {nP : Int → Int} {pp : Int → Int → Int} {X Y : YR} (h : ∀ p k s, X p k s → Y p k s) : ∀ (f : Nat) (q k sc : Int), KCA R B e nP pp X f q k sc → KCA R B e nP pp Y f q k sc := by
  intro f
  induction f with
  | zero => intro q k sc H; exact H
  | succ f ih =>
    intro q k sc H
    rcases H with H | ⟨c, ok, k0, o1, o2, o3, y, z⟩
    · exact Or.inl H
    · exact Or.inr ⟨c, ok, k0, o1, o2, o3, h _ _ _ y, ih _ _ _ z⟩
theorem NXF_mono {R : HP} {B e : Int → Int} {nP : Int → Int} {pp : Int → Int → Int} {X Y : YR} (h : ∀ p k s, X p k s → Y p k s) {p k sc : Int} (H : NXF R B e nP pp X p k sc) : NXF R B e nP pp Y p k sc := by
  obtain ⟨a, H⟩ := H
  refine ⟨a, ?_⟩
  rcases H with H | ⟨c, H⟩ | ⟨c, ok, f, H⟩ | ⟨c, y, f, z⟩
  · exact Or.inl H
  · exact Or.inr (Or.inl ⟨c, KID_mono h _ _ _ _ H⟩)
  · exact Or.inr (Or.inr (Or.inl ⟨c, ok, f, KID_mono h _ _ _ _ H⟩))
  · exact Or.inr (Or.inr (Or.inr ⟨c, h _ _ _ y, f, KCA_mono h _ _ _ _ z⟩))
def NX (R : HP) (B e : Int → Int) (nP : Int → Int) (pp : Int → Int → Int) : YR := fun p k sc => ∃ X : YR, (∀ q j s, X q j s → NXF R B e nP pp X q j s) ∧ X p k sc
theorem NX_out {R : HP} {B e : Int → Int} {nP : Int → Int} {pp : Int → Int → Int} {p k sc : Int} (H : NX R B e nP pp p k sc) : NXF R B e nP pp (NX R B e nP pp) p k sc := by
  obtain ⟨X, cl, x⟩ := H
  exact NXF_mono (fun q j s y => ⟨X, cl, y⟩) (cl _ _ _ x)
theorem NX_in {R : HP} {B e : Int → Int} {nP : Int → Int} {pp : Int → Int → Int} {p k sc : Int} (H : NXF R B e nP pp (NX R B e nP pp) p k sc) : NX R B e nP pp p k sc :=
  ⟨NXF R B e nP pp (NX R B e nP pp), fun _ _ _ x => NXF_mono (fun _ _ _ y => NX_out y) x, H⟩
/-- rows that are those of a heap from a node on, but for what follows that node -/
def AgN (R g : HP) (lo hi : Int) : Prop := ∀ x i, 161 ≤ x → x ≤ 166 → lo ≤ i → i < hi → ¬ (x = 165 ∧ i = lo) → R x i = g x (600 + i)
/-- what reading a tree leaves -/
def TrI (k g : HP) : Prop := ∀ x i, ¬ (161 ≤ x ∧ x ≤ 166 ∧ 600 ≤ i) → ¬ (168 ≤ x ∧ x ≤ 172) → ¬ (x = 135 ∧ (i = 36 ∨ i = 37 ∨ i = 48 ∨ i = 49 ∨ i = 50 ∨ i = 56)) → g x i = k x i
/-- a node more, hung under what is under way at f -/
def HgR (g g' : HP) (f c : Int) : Prop :=
  (g' 161 (600 + g 135 48) = c ∧ g' 162 (600 + g 135 48) = g 135 36 ∧ g' 163 (600 + g 135 48) = -1 ∧ g' 164 (600 + g 135 48) = -1 ∧ g' 165 (600 + g 135 48) = -1 ∧ g' 166 (600 + g 135 48) = g 170 f) ∧ g' 171 f = g 135 48 ∧ g' 135 48 = g 135 48 + 1 ∧
  (g 171 f ≠ -1 → g' 165 (600 + g 171 f) = g 135 48) ∧ (g 171 f = -1 → g 168 f ≠ -1 → g' 164 (600 + g 168 f) = g 135 48) ∧
  (∀ x i, ¬ (161 ≤ x ∧ x ≤ 166 ∧ i = 600 + g 135 48) → ¬ (x = 171 ∧ i = f) → ¬ (x = 135 ∧ i = 48) → ¬ (x = 165 ∧ g 171 f ≠ -1 ∧ i = 600 + g 171 f) → ¬ (x = 164 ∧ g 171 f = -1 ∧ g 168 f ≠ -1 ∧ i = 600 + g 168 f) → g' x i = g x i)
theorem c_hangs {d : Nat} {g : HP} {f c : Int} {Q : PQ} (N0 : 0 ≤ g 135 48) (N1 : g 135 48 < 100) (f0 : 0 ≤ f) (f1 : f < 120) (l0 : -1 ≤ g 171 f) (l1 : g 171 f < g 135 48) (u0 : -1 ≤ g 168 f) (u1 : g 168 f < g 135 48) (H : ∀ g', HgR g g' f c → Q (g 135 48) g') : Go d M_Mo_hangs 0 [(22, 135), (0, f), (0, c), (2, 0)] [] g Q := by
  have ix : (0 ≤ 600 + g 135 48 ∧ 600 + g 135 48 < 700) := by omega
  have fx : (0 ≤ f ∧ f < 120) := ⟨f0, f1⟩
  refine N_Mo_hangs_0 ⟨by unfold r32; omega, ix, fun g1 e1 => ⟨ix, fun g2 e2 => ⟨ix, fun g3 e3 => ⟨ix, fun g4 e4 => ⟨ix, fun g5 e5 => ⟨fx, ix, fun g6 e6 => ⟨fx, ?_⟩⟩⟩⟩⟩⟩⟩
  have a1 : g1 135 36 = g 135 36 := by rw [e1, up2_nc (by decide)]
  have a5 : g5 170 f = g 170 f := by rw [e5, up2_nc (by decide), e4, up2_nc (by decide), e3, up2_nc (by decide), e2, up2_nc (by decide), e1, up2_nc (by decide)]
  rw [a1] at e2
  rw [a5] at e6
  have o6 : ∀ x i, ¬ (161 ≤ x ∧ x ≤ 166 ∧ i = 600 + g 135 48) → g6 x i = g x i := fun x i p => by rw [e6, up2_ext (by omega), e5, up2_ext (by omega), e4, up2_ext (by omega), e3, up2_ext (by omega), e2, up2_ext (by omega), e1, up2_ext (by omega)]
  have v1 : g6 161 (600 + g 135 48) = c := by rw [e6, up2_nc (by decide), e5, up2_nc (by decide), e4, up2_nc (by decide), e3, up2_nc (by decide), e2, up2_nc (by decide), e1, up2_eq]
  have v2 : g6 162 (600 + g 135 48) = g 135 36 := by rw [e6, up2_nc (by decide), e5, up2_nc (by decide), e4, up2_nc (by decide), e3, up2_nc (by decide), e2, up2_eq]
  have v3 : g6 163 (600 + g 135 48) = -1 := by rw [e6, up2_nc (by decide), e5, up2_nc (by decide), e4, up2_nc (by decide), e3, up2_eq]
  have v4 : g6 164 (600 + g 135 48) = -1 := by rw [e6, up2_nc (by decide), e5, up2_nc (by decide), e4, up2_eq]
  have v5 : g6 165 (600 + g 135 48) = -1 := by rw [e6, up2_nc (by decide), e5, up2_eq]
  have v6 : g6 166 (600 + g 135 48) = g 170 f := by rw [e6, up2_eq]
  have w1 : g6 171 f = g 171 f := o6 _ _ (by omega)
  have w2 : g6 168 f = g 168 f := o6 _ _ (by omega)
  have w3 : g6 135 48 = g 135 48 := o6 _ _ (by omega)
  rw [w1, w2, w3]
  refine ⟨fun z => ⟨fx, fun y => ⟨fx, fun g7 e7 => ?_⟩, fun y => ⟨fx, by unfold r32; omega, ⟨by omega, by omega⟩, fun g9 e9 => ⟨fx, fun g10 e10 => ?_⟩⟩⟩, fun z => ⟨fx, by unfold r32; omega, ⟨by omega, by omega⟩, fun g12 e12 => ⟨fx, fun g13 e13 => ?_⟩⟩⟩
  · have t7 : g7 135 48 = g 135 48 := by rw [e7, up2_nc (by decide), w3]
    rw [t7]
    refine ⟨by unfold r32; omega, fun g8 e8 => ?_⟩
    have t8 : g8 135 48 = g 135 48 + 1 := by rw [e8, up2_eq]
    rw [t8, show g 135 48 + 1 - 1 = g 135 48 by omega]
    have o8 : ∀ x i, ¬ (x = 171 ∧ i = f) → ¬ (x = 135 ∧ i = 48) → g8 x i = g6 x i := fun x i p q => by rw [e8, up2_ext q, e7, up2_ext p]
    refine ⟨by unfold r32; omega, H g8 ⟨⟨by rw [o8 _ _ (by omega) (by omega)]; exact v1, by rw [o8 _ _ (by omega) (by omega)]; exact v2, by rw [o8 _ _ (by omega) (by omega)]; exact v3, by rw [o8 _ _ (by omega) (by omega)]; exact v4, by rw [o8 _ _ (by omega) (by omega)]; exact v5, by rw [o8 _ _ (by omega) (by omega)]; exact v6⟩, ?_, t8, fun u => absurd z u, fun _ u => absurd y u, fun x i p1 p2 p3 p4 p5 => by rw [o8 x i p2 p3]; exact o6 x i p1⟩⟩
    rw [e8, up2_nc (by decide), e7, up2_eq]
  · have t9 : g9 135 48 = g 135 48 := by rw [e9, up2_nc (by decide), w3]
    rw [t9] at e10
    have t10 : g10 135 48 = g 135 48 := by rw [e10, up2_nc (by decide), t9]
    rw [t10]
    refine ⟨by unfold r32; omega, fun g11 e11 => ?_⟩
    have t11 : g11 135 48 = g 135 48 + 1 := by rw [e11, up2_eq]
    rw [t11, show g 135 48 + 1 - 1 = g 135 48 by omega]
    have o8 : ∀ x i, ¬ (x = 171 ∧ i = f) → ¬ (x = 135 ∧ i = 48) → ¬ (x = 164 ∧ i = 600 + g 168 f) → g11 x i = g6 x i := fun x i p q r => by rw [e11, up2_ext q, e10, up2_ext p, e9, up2_ext r]
    refine ⟨by unfold r32; omega, H g11 ⟨⟨by rw [o8 _ _ (by omega) (by omega) (by omega)]; exact v1, by rw [o8 _ _ (by omega) (by omega) (by omega)]; exact v2, by rw [o8 _ _ (by omega) (by omega) (by omega)]; exact v3, by rw [o8 _ _ (by omega) (by omega) (by omega)]; exact v4, by rw [o8 _ _ (by omega) (by omega) (by omega)]; exact v5, by rw [o8 _ _ (by omega) (by omega) (by omega)]; exact v6⟩, ?_, t11, fun u => absurd z u, fun _ _ => ?_, fun x i p1 p2 p3 p4 p5 => by rw [o8 x i p2 p3 (fun u => p5 ⟨u.1, z, y, u.2⟩)]; exact o6 x i p1⟩⟩
    · rw [e11, up2_nc (by decide), e10, up2_eq]
    · rw [e11, up2_nc (by decide), e10, up2_nc (by decide), e9, up2_eq]
  · have t12 : g12 135 48 = g 135 48 := by rw [e12, up2_nc (by decide), w3]
    rw [t12] at e13
    have t13 : g13 135 48 = g 135 48 := by rw [e13, up2_nc (by decide), t12]
    rw [t13]
    refine ⟨by unfold r32; omega, fun g14 e14 => ?_⟩
    have t14 : g14 135 48 = g 135 48 + 1 := by rw [e14, up2_eq]
    rw [t14, show g 135 48 + 1 - 1 = g 135 48 by omega]
    have o8 : ∀ x i, ¬ (x = 171 ∧ i = f) → ¬ (x = 135 ∧ i = 48) → ¬ (x = 165 ∧ i = 600 + g 171 f) → g14 x i = g6 x i := fun x i p q r => by rw [e14, up2_ext q, e13, up2_ext p, e12, up2_ext r]
    refine ⟨by unfold r32; omega, H g14 ⟨⟨by rw [o8 _ _ (by omega) (by omega) (by omega)]; exact v1, by rw [o8 _ _ (by omega) (by omega) (by omega)]; exact v2, by rw [o8 _ _ (by omega) (by omega) (by omega)]; exact v3, by rw [o8 _ _ (by omega) (by omega) (by omega)]; exact v4, by rw [o8 _ _ (by omega) (by omega) (by omega)]; exact v5, by rw [o8 _ _ (by omega) (by omega) (by omega)]; exact v6⟩, ?_, t14, fun _ => ?_, fun u => absurd u z, fun x i p1 p2 p3 p4 p5 => by rw [o8 x i p2 p3 (fun u => p4 ⟨u.1, z, u.2⟩)]; exact o6 x i p1⟩⟩
    · rw [e14, up2_nc (by decide), e13, up2_eq]
    · rw [e14, up2_nc (by decide), e13, up2_nc (by decide), e12, up2_eq]
end
