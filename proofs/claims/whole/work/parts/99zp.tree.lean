section
/-! the reference reads a tree -/
theorem lf_pO {c sc : Int} (h : lfO c sc) : pO c = 0 := by
  unfold lfO at h
  unfold pO
  rw [if_neg (by omega), if_neg (by omega), if_neg (by omega)]
theorem RD_bad {B e : Int → Int} {nP : Int → Int} {pp ll : Int → Int → Int} {X : XR} {p sc w r w' m : Int} (H : RDF B e nP pp ll X p sc w r w' m) (nl : ¬ lfO (B p) sc) (np : pO (B p) = 0) (c1 : B p ≠ 67) (c2 : B p ≠ 71) (c3 : B p ≠ 77) : r = -1 - 2 * p := by
  rcases H.2 with H | H | H | H | H
  · exact H.2.2.2.2.2
  · exact absurd H.1 nl
  · omega
  · have c := H.1; clear H; omega
  · exact absurd H.1 c3
theorem RD_leaf {B e : Int → Int} {nP : Int → Int} {pp ll : Int → Int → Int} {X : XR} {p sc w r w' m : Int} (H : RDF B e nP pp ll X p sc w r w' m) (l : lfO (B p) sc) : r = p + 1 ∧ w' = w ∧ m = 1 := by
  have a := lf_pO l
  have b := lfO_ne l
  rcases H.2 with H | H | H | H | H
  · exact absurd l H.1
  · exact H.2
  · omega
  · have c := H.1; clear H; omega
  · have c := H.1; clear H; omega
theorem RD_op {B e : Int → Int} {nP : Int → Int} {pp ll : Int → Int → Int} {X : XR} {p sc w r w' m : Int} (H : RDF B e nP pp ll X p sc w r w' m) (po : 0 < pO (B p)) : ∃ m1, CHN X (pO (B p)).toNat (p + 1) sc w r w' m1 ∧ m = 1 + m1 := by
  have b := pO_ne po
  rcases H.2 with H | H | H | H | H
  · omega
  · have := lf_pO H.1; omega
  · exact H.2
  · have c := H.1; clear H; omega
  · have c := H.1; clear H; omega
theorem RD_sign {B e : Int → Int} {nP : Int → Int} {pp ll : Int → Int → Int} {X : XR} {p sc w r w' m : Int} (H : RDF B e nP pp ll X p sc w r w' m) (cs : B p = 67 ∨ B p = 71) : (¬ okD B nP (B p) (p + 1) ∧ r = -1 - 2 * (p + 1)) ∨ (okD B nP (B p) (p + 1) ∧ 240 < w + ll (B p) (B (p + 1) - 48) ∧ r = -2 - 2 * (p + 1)) ∨ (okD B nP (B p) (p + 1) ∧ w + ll (B p) (B (p + 1) - 48) ≤ 240 ∧ ∃ m1, CHN X (pp (B p) (B (p + 1) - 48)).toNat (p + 2) sc (w + ll (B p) (B (p + 1) - 48)) r w' m1 ∧ m = 1 + m1) := by
  rcases H.2 with H | H | H | H | H
  · have c4 := H.2.2.1; have c5 := H.2.2.2.1; clear H; omega
  · have := lfO_ne H.1; omega
  · have := pO_ne H.1; omega
  · exact H.2
  · have c := H.1; clear H; omega
theorem RD_match {B e : Int → Int} {nP : Int → Int} {pp ll : Int → Int → Int} {X : XR} {p sc w r w' m : Int} (H : RDF B e nP pp ll X p sc w r w' m) (c : B p = 77) : ∃ r1 w1 m1, X (p + 1) sc w r1 w1 m1 ∧ ((r1 < 0 ∧ r = r1) ∨ (0 ≤ r1 ∧ B r1 ≠ 123 ∧ r = -1 - 2 * r1) ∨ (0 ≤ r1 ∧ B r1 = 123 ∧ ∃ (f : Nat) (m2 : Int), CAS B nP pp ll X f (r1 + 1) sc w1 r w' m2 ∧ m = 1 + m1 + m2)) := by
  rcases H.2 with H | H | H | H | H
  · exact absurd c H.2.2.2.2.1
  · have := lfO_ne H.1; omega
  · have := pO_ne H.1; omega
  · have c := H.1; clear H; omega
  · exact H.2
def StT (k0 g : HP) (f p sc w : Int) : Prop := TrI k0 g ∧ (g 135 56 = f + 1 ∧ g 135 36 = p ∧ g 135 50 = w ∧ g 170 f = sc) ∧ (0 ≤ f ∧ f ≤ p) ∧ (0 ≤ g 135 48 ∧ g 135 48 ≤ p) ∧ (-1 ≤ g 171 f ∧ g 171 f < g 135 48) ∧ (-1 ≤ g 168 f ∧ g 168 f < g 135 48) ∧ (0 ≤ g 135 49 ∧ g 135 49 ≤ p)
def PTr (k0 g g' : HP) (f r w' m : Int) : Prop := TrI k0 g' ∧ (g' 135 56 = g 135 56 ∧ g' 135 36 = r ∧ g' 135 50 = w' ∧ g' 135 49 = g 135 49 + m) ∧ (g 135 48 < g' 135 48 ∧ g' 135 48 ≤ r) ∧ (∀ x i, 168 ≤ x → x ≤ 172 → i < f → g' x i = g x i) ∧ (g' 168 f = g 168 f ∧ g' 169 f = g 169 f - 1 ∧ g' 170 f = g 170 f ∧ g' 172 f = g 172 f ∧ g' 171 f = g 135 48) ∧ g' 165 (600 + g 135 48) = -1 ∧ (g 171 f ≠ -1 → g' 165 (600 + g 171 f) = g 135 48) ∧ (g 171 f = -1 → g 168 f ≠ -1 → g' 164 (600 + g 168 f) = g 135 48) ∧ (∀ x i, 161 ≤ x → x ≤ 166 → i < g 135 48 → ¬ (x = 165 ∧ g 171 f ≠ -1 ∧ i = g 171 f) → ¬ (x = 164 ∧ g 171 f = -1 ∧ g 168 f ≠ -1 ∧ i = g 168 f) → g' x (600 + i) = g x (600 + i))
theorem PTr_of {k0 g g1 g' : HP} {f c p sc w r w' m : Int} (S : StT k0 g f p sc w) (O : OneR g g1 f c) (I' : TrI k0 g') (e56 : g' 135 56 = g 135 56) (e36 : g' 135 36 = r) (e50 : g' 135 50 = w') (e49 : g' 135 49 = g 135 49 + m) (nN : g 135 48 < g' 135 48) (nr : g' 135 48 ≤ r) (fr : ∀ x i, 168 ≤ x → x ≤ 172 → i ≤ f → g' x i = g1 x i) (ro : ∀ x i, 161 ≤ x → x ≤ 166 → i ≤ g 135 48 → ¬ (x = 164 ∧ i = g 135 48) → ¬ (x = 163 ∧ i = g 135 48) → g' x (600 + i) = g1 x (600 + i)) : PTr k0 g g' f r w' m := by
  obtain ⟨_, _, ⟨f0, _⟩, ⟨N0, _⟩, ⟨l0, l1⟩, ⟨u0, u1⟩, _⟩ := S
  obtain ⟨⟨j1, j2, j4, j5, j6⟩, j7, j8, j9, j10, j11, j12, j13⟩ := O
  refine ⟨I', ⟨e56, e36, e50, e49⟩, ⟨nN, nr⟩, fun x i x0 x1 hi => by rw [fr x i x0 x1 (by omega)]; exact j13 x i (by omega) (by omega) (by omega) (by omega) (by omega) (by omega), ⟨?_, ?_, ?_, ?_, ?_⟩, ?_, fun z => ?_, fun z y => ?_, fun x i x0 x1 hi q1 q2 => ?_⟩
  · rw [fr 168 f (by omega) (by omega) (by omega)]; exact j13 _ _ (by omega) (by omega) (by omega) (by omega) (by omega) (by omega)
  · rw [fr 169 f (by omega) (by omega) (by omega)]; exact j11
  · rw [fr 170 f (by omega) (by omega) (by omega)]; exact j13 _ _ (by omega) (by omega) (by omega) (by omega) (by omega) (by omega)
  · rw [fr 172 f (by omega) (by omega) (by omega)]; exact j13 _ _ (by omega) (by omega) (by omega) (by omega) (by omega) (by omega)
  · rw [fr 171 f (by omega) (by omega) (by omega)]; exact j7
  · rw [ro 165 _ (by omega) (by omega) (by omega) (by omega) (by omega)]; exact j5
  · rw [ro 165 _ (by omega) (by omega) (by omega) (by omega) (by omega)]; exact j9 z
  · rw [ro 164 _ (by omega) (by omega) (by omega) (by omega) (by omega)]; exact j10 z y
  · rw [ro x i x0 x1 (by omega) (by omega) (by omega)]; exact j13 _ _ (by omega) (by omega) (by omega) (by omega) (by omega) (by omega)
def AgF (R g : HP) (lo hi : Int) : Prop := ∀ x i, 161 ≤ x → x ≤ 166 → lo ≤ i → i < hi → R x i = g x (600 + i)
/-- all parts are read -/
def ChP (k0 g g' : HP) (F r w' m : Int) (j : Nat) : Prop := TrI k0 g' ∧ (g' 135 56 = g 135 56 ∧ g' 135 36 = r ∧ g' 135 50 = w' ∧ g' 135 49 = g 135 49 + m) ∧ (g 135 48 ≤ g' 135 48 ∧ g' 135 48 ≤ r) ∧ (∀ x i, 168 ≤ x → x ≤ 172 → i < F → g' x i = g x i) ∧ (g' 168 F = g 168 F ∧ g' 169 F = 0) ∧ (0 < j → (g 171 F ≠ -1 → g' 165 (600 + g 171 F) = g 135 48) ∧ (g 171 F = -1 → g 168 F ≠ -1 → g' 164 (600 + g 168 F) = g 135 48)) ∧ (∀ x i, 161 ≤ x → x ≤ 166 → i < g 135 48 → ¬ (x = 165 ∧ g 171 F ≠ -1 ∧ i = g 171 F) → ¬ (x = 164 ∧ g 171 F = -1 ∧ g 168 F ≠ -1 ∧ i = g 168 F) → g' x (600 + i) = g x (600 + i))
/-- all cases are read, and the frame is gone -/
def CaP (k0 g g' : HP) (F r w' m : Int) : Prop := TrI k0 g' ∧ (g' 135 56 = F ∧ g' 135 36 = r ∧ g' 135 50 = w' ∧ g' 135 49 = g 135 49 + m) ∧ (g 135 48 ≤ g' 135 48 ∧ g' 135 48 ≤ r) ∧ (∀ x i, 168 ≤ x → x ≤ 172 → i < F → g' x i = g x i) ∧ (∀ x i, 161 ≤ x → x ≤ 166 → i < g 135 48 → ¬ (x = 165 ∧ i = g 171 F) → g' x (600 + i) = g x (600 + i))
def TreeS (d : Nat) (k0 : HP) (B e : Int → Int) (nP : Int → Int) (pp ll : Int → Int → Int) (n s0 : Int) (Q : PQ) (M : Nat) : Prop := ∀ (p sc w r w' m f : Int) (g : HP) (w3 : AV), 0 ≤ p → p ≤ 101 → n + 1 - p ≤ M → RD B e nP pp ll p sc w r w' m → StT k0 g f p sc w → 1 ≤ g 169 f → g 169 f ≤ 3 → 0 ≤ w → w ≤ 240 → 0 ≤ sc → sc ≤ 3 + 3 * p →
    (0 ≤ r → ∀ g', PTr k0 g g' f r w' m → (∀ R, AgN R g' (g 135 48) (g' 135 48) → NX R B e nP pp p (g 135 48) sc) → (w ≤ w' ∧ w' ≤ 240 ∧ p < r ∧ r ≤ n ∧ 1 ≤ m ∧ m ≤ r - p) → ∀ w4, Go d M_Mo_isTree 37 [(22, 135), (0, s0), (0, 1), w4] [] g' Q) →
    (r < 0 → ∀ g', TrI k0 g' → (r = -(2 * g' 135 36 + g' 135 37) ∧ 1 ≤ g' 135 37 ∧ g' 135 37 ≤ 2) → Q 0 g') →
    Go d M_Mo_isTree 37 [(22, 135), (0, s0), (0, 1), w3] [] g Q
def ChainS (d : Nat) (k0 : HP) (B e : Int → Int) (nP : Int → Int) (pp ll : Int → Int → Int) (n s0 : Int) (Q : PQ) (M : Nat) : Prop := ∀ (j : Nat) (q sc w r w' m F : Int) (g : HP) (w3 : AV), 0 ≤ q → q ≤ n → n + 1 - q ≤ M → CHN (RD B e nP pp ll) j q sc w r w' m → StT k0 g F q sc w → g 169 F = j → j ≤ 3 → 0 ≤ w → w ≤ 240 → 0 ≤ sc → sc ≤ 3 + 3 * q →
        (0 ≤ r → ∀ g', ChP k0 g g' F r w' m j → (∀ R, AgF R g' (g 135 48) (g' 135 48) → 0 < j → KID R e (NX R B e nP pp) j q (g 135 48) sc) → (w ≤ w' ∧ w' ≤ 240 ∧ q ≤ r ∧ r ≤ n ∧ 0 ≤ m ∧ m ≤ r - q) → ∀ w4, Go d M_Mo_isTree 37 [(22, 135), (0, s0), (0, 1), w4] [] g' Q) →
        (r < 0 → ∀ g', TrI k0 g' → (r = -(2 * g' 135 36 + g' 135 37) ∧ 1 ≤ g' 135 37 ∧ g' 135 37 ≤ 2) → Q 0 g') →
        Go d M_Mo_isTree 37 [(22, 135), (0, s0), (0, 1), w3] [] g Q
def CasS (d : Nat) (k0 : HP) (B e : Int → Int) (nP : Int → Int) (pp ll : Int → Int → Int) (n s0 : Int) (Q : PQ) (M : Nat) : Prop := ∀ (fu : Nat) (q sc w r w' m F : Int) (g : HP) (w3 : AV), 0 ≤ q → q ≤ n → n + 1 - q ≤ M → CAS B nP pp ll (RD B e nP pp ll) fu q sc w r w' m → StT k0 g F q sc w → g 169 F = 0 → g 172 F ≠ 0 → 0 ≤ g 168 F → g 161 (600 + g 168 F) = 77 → 0 ≤ g 171 F → g 168 F < g 171 F → g 165 (600 + g 171 F) = -1 → 0 ≤ w → w ≤ 240 → 0 ≤ sc → sc ≤ 3 + 3 * q →
        (0 ≤ r → ∀ g', CaP k0 g g' F r w' m → (∀ R, AgF R g' (g 135 48) (g' 135 48) → R 165 (g 171 F) = g' 165 (600 + g 171 F) → KCA R B e nP pp (NX R B e nP pp) fu q (R 165 (g 171 F)) sc) → (w ≤ w' ∧ w' ≤ 240 ∧ q < r ∧ r ≤ n ∧ 0 ≤ m ∧ m ≤ r - q) → ∀ w4, Go d M_Mo_isTree 37 [(22, 135), (0, s0), (0, 1), w4] [] g' Q) →
        (r < 0 → ∀ g', TrI k0 g' → (r = -(2 * g' 135 36 + g' 135 37) ∧ 1 ≤ g' 135 37 ∧ g' 135 37 ≤ 2) → Q 0 g') →
        Go d M_Mo_isTree 37 [(22, 135), (0, s0), (0, 1), w3] [] g Q
theorem t_inT {k0 : HP} {B : Int → Int} {nP : Int → Int} {pp ll : Int → Int → Int} {n q : Int} (C : TrC k0 B nP pp ll n) (q0 : 0 ≤ q) (z : B q ≠ -1) : q < n := by
  have := C.1 q q0
  rw [this.1] at z
  exact (bA_lt z).2
theorem t_stop {d : Nat} {s0 : Int} {Q : PQ} {g : HP} {w3 : AV} (q : Q 0 g) : Go d M_Mo_isTree 37 [(22, 135), (0, s0), (0, 0), w3] [] g Q := N_Mo_isTree_37 ⟨fun _ => ⟨fun _ => q, fun z => absurd rfl z⟩, fun z => absurd rfl z⟩
theorem t_enter {d : Nat} {s0 : Int} {Q : PQ} (g : HP) (f : Int) (w3 : AV) (hd : 8 < d) (eU : g 135 56 = f + 1) (f0 : 0 ≤ f) (f1 : f < 120) (wa : 0 < g 169 f) (G : Go (d - 1) M_Mo_readsOne 0 [(22, 135), (0, f), (2, 0), (2, 0), (2, 0), (2, 0), (2, 0), (2, 0), (2, 0)] [] g (fun y6 k6 => Go d M_Mo_isTree 37 [(22, 135), (0, s0), (0, y6), (0, f)] [] k6 Q)) : Go d M_Mo_isTree 37 [(22, 135), (0, s0), (0, 1), w3] [] g Q := by
  refine N_Mo_isTree_37 ?_
  rw [eU, show f + 1 - 1 = f by omega]
  exact ⟨fun z => absurd z (by decide), fun _ => ⟨fun z => by omega, fun _ => ⟨by unfold r32; omega, ⟨f0, f1⟩, fun z => by omega, fun _ => ⟨by omega, G⟩⟩⟩⟩
theorem t_pop {d : Nat} {s0 : Int} {Q : PQ} (g : HP) (f : Int) (w3 : AV) (eU : g 135 56 = f + 1) (f0 : 0 ≤ f) (f1 : f < 120) (wa : g 169 f ≤ 0) (u0 : 0 ≤ g 168 f) (u1 : g 168 f < 100) (op : g 161 (600 + g 168 f) ≠ 77) (G : ∀ g3 : HP, g3 = up2 g 135 56 f → ∀ w4, Go d M_Mo_isTree 37 [(22, 135), (0, s0), (0, 1), w4] [] g3 Q) : Go d M_Mo_isTree 37 [(22, 135), (0, s0), (0, 1), w3] [] g Q := by
  refine N_Mo_isTree_37 ?_
  rw [eU, show f + 1 - 1 = f by omega]
  exact ⟨fun z => absurd z (by decide), fun _ => ⟨fun z => by omega, fun _ => ⟨by unfold r32; omega, ⟨f0, f1⟩, fun _ => ⟨⟨f0, f1⟩, fun z => by omega, fun _ => ⟨⟨f0, f1⟩, by unfold r32; omega, ⟨by omega, by omega⟩, fun _ => ⟨by unfold r32; omega, fun g4 e4 => G g4 e4 _⟩, fun z => absurd z op⟩⟩, fun z => by omega⟩⟩⟩
theorem t_cstep {d : Nat} {s0 : Int} {Q : PQ} (g : HP) (f : Int) (w3 : AV) (hd : 8 < d) (eU : g 135 56 = f + 1) (f0 : 0 ≤ f) (f1 : f < 120) (wa : g 169 f ≤ 0) (u0 : 0 ≤ g 168 f) (u1 : g 168 f < 100) (op : g 161 (600 + g 168 f) = 77) (G : Go (d - 1) M_Mo_readsCase 0 [(22, 135), (0, f), (2, 0), (2, 0)] [] g (fun y5 k5 => Go d M_Mo_isTree 37 [(22, 135), (0, s0), (0, y5), (0, f)] [] k5 Q)) : Go d M_Mo_isTree 37 [(22, 135), (0, s0), (0, 1), w3] [] g Q := by
  refine N_Mo_isTree_37 ?_
  rw [eU, show f + 1 - 1 = f by omega]
  exact ⟨fun z => absurd z (by decide), fun _ => ⟨fun z => by omega, fun _ => ⟨by unfold r32; omega, ⟨f0, f1⟩, fun _ => ⟨⟨f0, f1⟩, fun z => by omega, fun _ => ⟨⟨f0, f1⟩, by unfold r32; omega, ⟨by omega, by omega⟩, fun z => absurd op z, fun _ => ⟨by omega, G⟩⟩⟩, fun z => by omega⟩⟩⟩
end
