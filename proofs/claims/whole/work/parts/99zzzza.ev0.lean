section
/-! the class's machine -/
def KM (h0 h : HP) : Prop := ∀ a i, a < 124 ∨ 130 < a → h a i = h0 a i
def EvF (h h' : HP) (S hs : Int) : Prop := (∀ a i, a < 124 ∨ 130 < a → h' a i = h a i) ∧ (h' 124 8 = h 124 8 ∧ h' 124 9 = h 124 9) ∧ (∀ i, i < S → h' 128 i = h 128 i) ∧ (∀ i, i < hs → h' 129 i = h 129 i) ∧ VSm h h' (h 124 7) ∧ (h 124 7 ≤ h' 124 7 ∧ h' 124 7 ≤ h' 124 10 ∧ h' 124 10 ≤ 1000 ∧ h 124 10 ≤ h' 124 10)
def AGr (sk sv : Int → Int) (h : HP) (n : Int) : Prop := ∀ v, 0 ≤ v → v < n → sk v = h 125 v ∧ ∀ i, 0 ≤ i → i < 3 → sv (3 * v + i) = h 127 (3 * v + i)
theorem AGr_mono {sk sv : Int → Int} {h h' : HP} {n n' : Int} (a : AGr sk sv h' n') (s : VSm h h' n) (l : n ≤ n') : AGr sk sv h n := fun v v0 v1 => by
  obtain ⟨p, q⟩ := a v v0 (by omega)
  obtain ⟨x, _, y⟩ := s v v0 v1
  exact ⟨p.trans x, fun i i0 i1 => (q i i0 i1).trans (y i i0 i1)⟩
theorem AGr_0 {sk sv : Int → Int} {h : HP} {n v : Int} (a : AGr sk sv h n) (v0 : 0 ≤ v) (v1 : v < n) : sk v = h 125 v ∧ sv (3 * v) = h 127 (3 * v) ∧ sv (3 * v + 1) = h 127 (3 * v + 1) ∧ sv (3 * v + 2) = h 127 (3 * v + 2) := by
  obtain ⟨p, q⟩ := a v v0 v1
  have := q 0 (by omega) (by omega)
  rw [show 3 * v + 0 = 3 * v by omega] at this
  exact ⟨p, this, q 1 (by omega) (by omega), q 2 (by omega) (by omega)⟩
theorem EvF_trans {h h1 h2 : HP} {S S1 hs hs1 : Int} (l1 : S ≤ S1) (l2 : hs ≤ hs1) (a : EvF h h1 S hs) (b : EvF h1 h2 S1 hs1) : EvF h h2 S hs := by
  obtain ⟨a1, a2, a3, a4, a5, a6⟩ := a
  obtain ⟨b1, b2, b3, b4, b5, b6⟩ := b
  exact ⟨fun x i p => (b1 x i p).trans (a1 x i p), by omega, fun i p => (b3 i (by omega)).trans (a3 i p), fun i p => (b4 i (by omega)).trans (a4 i p), VSm_trans a6.1 a5 b5, by omega⟩
theorem c_composed {d : Nat} {h : HP} {kd fr nv hs : Int} {Q : PQ} (hd : 7 < d) (e7 : h 124 7 = nv) (n0 : 0 ≤ nv) (n1 : nv < 1000) (e9 : h 124 9 = hs) (f0 : 0 ≤ fr) (f1 : fr ≤ hs) (f3 : hs - fr ≤ 3) (hs1 : hs ≤ 192)
    (H : ∀ g : HP, (∀ a i, ¬ (a = 124 ∧ i = 7) → ¬ ((a = 125 ∨ a = 126) ∧ i = nv) → ¬ (a = 127 ∧ 3 * nv ≤ i ∧ i < 3 * nv + 3) → g a i = h a i) → g 124 7 = nv + 1 → g 125 nv = kd → g 126 nv = hs - fr → (∀ i, 0 ≤ i → i < hs - fr → g 127 (3 * nv + i) = h 129 (fr + i)) → Q nv g) : Go d M_Machine_composed 0 [(13, 124), (0, kd), (0, fr), (2, 0), (2, 0)] [] h Q := by
  have z1 : aSZ (124 + 1) = 1000 := rfl
  have z2 : aSZ (124 + 2) = 1000 := rfl
  have z3 : aSZ (124 + 3) = 3000 := rfl
  have z5 : aSZ (124 + 5) = 192 := rfl
  have mn : min (h 124 7) 999 = nv := by omega
  refine V_Machine_composed_0 ?_
  rw [mn]
  refine ⟨hd, by unfold r32; omega, fun g1 e1 => ⟨by omega, fun g2 e2 => ?_⟩⟩
  have q9 : g2 124 9 = hs := by rw [e2, up2_nc (by decide), e1, up2_ext (by omega)]; exact e9
  rw [q9, show min (hs - fr) 3 = hs - fr by omega]
  refine ⟨by unfold r32; omega, hd, by omega, fun g3 e3 => ?_⟩
  have o3 : ∀ a i, ¬ (a = 124 ∧ i = 7) → ¬ ((a = 125 ∨ a = 126) ∧ i = nv) → g3 a i = h a i := fun a i p q => by rw [e3, up2_ext (by omega), e2, up2_ext (by omega), e1, up2_ext (by omega)]
  have w3 : g3 126 nv = hs - fr := by rw [e3, show (124 : Int) + 2 = 126 by omega, up2_eq]
  have k3 : g3 125 nv = kd := by rw [e3, up2_nc (by decide), e2, show (124 : Int) + 1 = 125 by omega, up2_eq]
  have n3 : g3 124 7 = nv + 1 := by rw [e3, up2_nc (by decide), e2, up2_nc (by decide), e1, up2_eq]
  have loop : ∀ v, 0 ≤ v → v ≤ hs - fr → ∀ g : HP, (∀ a i, ¬ (a = 127 ∧ 3 * nv ≤ i ∧ i < 3 * nv + 3) → g a i = g3 a i) → (∀ i, 0 ≤ i → i < v → g 127 (3 * nv + i) = h 129 (fr + i)) → Go d M_Machine_composed 44 [(13, 124), (0, kd), (0, fr), (0, nv), (0, v)] [] g Q := by
    intro v v0 v1
    refine up_loop (P := fun v => ∀ g : HP, (∀ a i, ¬ (a = 127 ∧ 3 * nv ≤ i ∧ i < 3 * nv + 3) → g a i = g3 a i) → (∀ i, 0 ≤ i → i < v → g 127 (3 * nv + i) = h 129 (fr + i)) → Go d M_Machine_composed 44 [(13, 124), (0, kd), (0, fr), (0, nv), (0, v)] [] g Q) v1 ?_ ?_
    · intro g o e
      have w : g 126 nv = hs - fr := (o 126 nv (by omega)).trans w3
      refine V_Machine_composed_44 ⟨by omega, fun _ => H g (fun a i p q r => (o a i r).trans (o3 a i p q)) ((o 124 7 (by omega)).trans n3) ((o 125 nv (by omega)).trans k3) w e, fun z => ?_⟩
      have : g (124 + 2) nv = hs - fr := w
      omega
    · intro j j0 j1 ih g o e
      have w : g (124 + 2) nv = hs - fr := (o 126 nv (by omega)).trans w3
      have hh : g (124 + 5) (fr + j) = h 129 (fr + j) := (o 129 _ (by omega)).trans (o3 129 _ (by omega) (by omega))
      refine V_Machine_composed_44 ⟨by omega, fun z => by omega, fun _ => ⟨by unfold r32; omega, by unfold r32; omega, by unfold r32; omega, by omega, by omega, fun g4 e4 => ⟨by unfold r32; omega, ih g4 (fun a i p => ?_) (fun i i0 i1 => ?_)⟩⟩⟩
      · rw [e4, show (124 : Int) + 3 = 127 by omega, up2_ext (by omega)]; exact o a i p
      · by_cases z : i = j
        · rw [e4, z, show (124 : Int) + 3 = 127 by omega, up2_eq]; exact hh
        · rw [e4, show (124 : Int) + 3 = 127 by omega, up2_ext (by omega)]; exact e i i0 (by omega)
  exact loop 0 (by omega) (by omega) g3 (fun _ _ _ => rfl) (fun i i0 i1 => by omega)
theorem c_single {d : Nat} {h : HP} {kd num nv hs : Int} {Q : PQ} (hd : 8 < d) (e7 : h 124 7 = nv) (n0 : 0 ≤ nv) (n1 : nv < 1000) (e9 : h 124 9 = hs) (h0 : 0 ≤ hs) (hs1 : hs ≤ 192)
    (H : ∀ g : HP, (∀ a i, ¬ (a = 124 ∧ i = 7) → ¬ ((a = 125 ∨ a = 126) ∧ i = nv) → ¬ (a = 127 ∧ 3 * nv ≤ i ∧ i < 3 * nv + 3) → g a i = h a i) → g 124 7 = nv + 1 → g 125 nv = kd → g 126 nv = 0 → g 127 (3 * nv) = num → Q nv g) : Go d M_Machine_single 0 [(13, 124), (0, kd), (0, num), (2, 0)] [] h Q := by
  have z3 : aSZ (124 + 3) = 3000 := rfl
  refine V_Machine_single_0 ⟨by omega, ?_⟩
  rw [e9]
  refine c_composed (by omega) e7 n0 n1 e9 h0 (Int.le_refl _) (by omega) hs1 (fun g o e a b c => ⟨by unfold r32; omega, by omega, fun g2 e2 => ?_⟩)
  have o2 : ∀ a i, ¬ (a = 127 ∧ i = 3 * nv) → g2 a i = g a i := fun a i p => by rw [e2, show (124 : Int) + 3 = 127 by omega, up2_ext p]
  refine H g2 (fun a i p q r => (o2 a i (by omega)).trans (o a i p q r)) ((o2 124 7 (by omega)).trans e) ((o2 125 nv (by omega)).trans a) ?_ (by rw [e2, show (124 : Int) + 3 = 127 by omega, up2_eq])
  rw [o2 126 nv (by omega), b]; omega
/-- a new value: what stands -/
theorem EvF_new {h g : HP} {S hs nv : Int} (e7 : h 124 7 = nv) (o : ∀ a i, ¬ (a = 124 ∧ i = 7) → ¬ ((a = 125 ∨ a = 126) ∧ i = nv) → ¬ (a = 127 ∧ 3 * nv ≤ i ∧ i < 3 * nv + 3) → g a i = h a i) (g7 : g 124 7 = nv + 1) (l : nv + 1 ≤ h 124 10) (l1 : h 124 10 ≤ 1000) : EvF h g S hs := by
  have e10 : g 124 10 = h 124 10 := o 124 10 (by omega) (by omega) (by omega)
  refine ⟨fun a i p => o a i (by omega) (by omega) (by omega), ⟨o 124 8 (by omega) (by omega) (by omega), o 124 9 (by omega) (by omega) (by omega)⟩, fun i _ => o 128 i (by omega) (by omega) (by omega), fun i _ => o 129 i (by omega) (by omega) (by omega), fun v v0 v1 => ⟨o 125 v (by omega) (by omega) (by omega), o 126 v (by omega) (by omega) (by omega), fun i i0 i1 => o 127 _ (by omega) (by omega) (by omega)⟩, by omega⟩
theorem KM_F {h0 h h' : HP} {S hs : Int} (k : KM h0 h) (f : EvF h h' S hs) : KM h0 h' := fun a i p => (f.1 a i p).trans (k a i p)
/-- the relation of running, over the class's heap -/
abbrev er (h0 : HP) (sk sv : Int → Int) : EVX := ER sk sv (fun c => bA (h0 (c + 1)) (h0 c 2)) (fun c => h0 (c + 2)) (ppr h0) (fun f => h0 40 f = 1)
def Cod (h0 : HP) (c : Int) : Prop := (c = 30 ∨ ∃ f, (0 ≤ f ∧ f < h0 36 5 ∧ f < 6) ∧ c = 63 + 5 * f) ∧ (0 ≤ h0 c 2 ∧ h0 c 2 ≤ 100)
abbrev wh (h0 : HP) (c : Int) : WX := WT (bA (h0 (c + 1)) (h0 c 2)) (h0 (c + 2)) (h0 36 4) (sbr h0) (llr h0) (ppr h0) (fun j => h0 (41 + 2 * j) 4)
abbrev gh (h0 : HP) (c N : Int) : Int → Int → Int → Int → Int → Prop := GD (bA (h0 (c + 1)) (h0 c 2)) (h0 (c + 2)) (nPn (h0 36 4) N) (ppr h0) (llr h0)
def EvT (h0 : HP) (K : Nat) : Prop := ∀ (tg : Nat) (c p sc base k hs N w r w' : Int) (Γ : Int → Tm) (τ : Tm) (env : Int → Int) (h : HP) (d : Nat) (Q : PQ), (tg = 11 ∨ tg = 31) → 61 - k ≤ K → 1 ≤ k → 8 * K + 60 < d → Cod h0 c → 0 ≤ p → N ≤ h0 36 5 → gh h0 c N p sc w r w' → wh h0 c p Γ sc τ → KM h0 h → (0 ≤ sc ∧ 0 ≤ base ∧ base + sc ≤ 3 * k) → (h 124 8 = base + sc ∧ h 124 9 = hs ∧ 0 ≤ hs ∧ hs ≤ 3 * (k - 1)) → (0 ≤ h 124 7 ∧ h 124 7 ≤ h 124 10 ∧ h 124 10 ≤ 1000) → (∀ i, 0 ≤ i → i < sc → h 128 (base + i) = env i ∧ vt h0 h (h 124 7) (env i) (Γ i)) →
  (∀ v h', EvF h h' (base + sc) hs → h' 124 7 + h 124 10 ≤ h' 124 10 + h 124 7 → vt h0 h' (h' 124 7) v τ → (∀ sk sv, AGr sk sv h' (h' 124 7) → er h0 sk sv c p sc env k (h 124 10) (h 124 11) (h 124 7) v (h' 124 10) (h' 124 11) (h' 124 7)) → Q v h') →
  (∀ o h', (o = -7 ∨ o = -8 ∨ o = -9) → KM h0 h' → VSm h h' (h 124 7) → h 124 7 ≤ h' 124 7 → (∀ sk sv, AGr sk sv h' (h' 124 7) → ∃ s' dp' nv', er h0 sk sv c p sc env k (h 124 10) (h 124 11) (h 124 7) o s' dp' nv') → Q o h') →
  Go d M_Machine_evaluate 0 [(13, 124), (tg, c), (0, p), (0, base), (0, k), (2, 0), (2, 0), (2, 0), (2, 0), (2, 0), (2, 0), (2, 0), (2, 0)] [] h Q
theorem cod_sz {h0 : HP} {c : Int} (C : Cod h0 c) : aSZ (c + 1) = 100 ∧ aSZ (c + 2) = 100 ∧ (c < 124 ∧ c + 2 < 124) := by
  rcases C.1 with e | ⟨f, ⟨f0, _, f1⟩, e⟩ <;> subst e
  · exact ⟨rfl, rfl, by omega, by omega⟩
  · obtain ⟨a, b⟩ := aSZ_body f0 f1
    exact ⟨a, b, by omega, by omega⟩
theorem m_byte {d : Nat} {h0 h : HP} {c q : Int} {Q : PQ} (C : Cod h0 c) (k : KM h0 h) (H : Q (bA (h0 (c + 1)) (h0 c 2) q) h) : Go d M_Code_byteAt 0 [(11, c), (0, q)] [] h Q := by
  obtain ⟨z1, _, l⟩ := cod_sz C
  have e2 : h c 2 = h0 c 2 := k c 2 (by omega)
  have er : h (c + 1) = h0 (c + 1) := funext fun q => k _ q (by omega)
  refine c_codeB z1 (by have := C.2.2; omega) ?_
  rw [er, e2]
  exact H
theorem m_dig {d : Nat} {h0 h : HP} {c q : Int} {Q : PQ} (C : Cod h0 c) (k : KM h0 h) (H1 : 48 ≤ bA (h0 (c + 1)) (h0 c 2) q → bA (h0 (c + 1)) (h0 c 2) q ≤ 57 → Q (bA (h0 (c + 1)) (h0 c 2) q - 48) h) (H0 : ¬ (48 ≤ bA (h0 (c + 1)) (h0 c 2) q ∧ bA (h0 (c + 1)) (h0 c 2) q ≤ 57) → Q (-1) h) : Go d M_Code_digitAt 0 [(11, c), (0, q), (2, 0)] [] h Q := by
  obtain ⟨z1, _, l⟩ := cod_sz C
  have e2 : h c 2 = h0 c 2 := k c 2 (by omega)
  have er : h (c + 1) = h0 (c + 1) := funext fun q => k _ q (by omega)
  refine c_digB z1 (by have := C.2.2; omega) ?_ ?_
  · rw [er, e2]; exact H1
  · rw [er, e2]; exact H0
theorem m_beh {d : Nat} {h0 h : HP} {c q : Int} {Q : PQ} (hd : 7 < d) (C : Cod h0 c) (k : KM h0 h) (q0 : 0 ≤ q) (H : ∀ y, (∀ N sc w r w', gh h0 c N q sc w r w' → y = r) → Q y h) : Go d M_Code_behind 0 [(11, c), (0, q)] [] h Q := by
  obtain ⟨_, z2, l⟩ := cod_sz C
  have cn := C.2
  have e2 : h c 2 = h0 c 2 := k c 2 (by omega)
  have er : h (c + 2) q = h0 (c + 2) q := k _ q (by omega)
  refine V_Code_behind_0 ⟨fun z => by omega, fun _ => ⟨fun z => H _ (fun N sc w r w' G => ?_), fun z => ⟨⟨q0, by omega⟩, by unfold r32; omega, hd, H _ (fun N sc w r w' G => ?_)⟩⟩⟩
  · have := GD_n G q0; omega
  · have := GD_e G; rw [er]; omega
end
