section
/-! the reference reads one E's head -/
def TrC (k0 : HP) (B : Int → Int) (nP : Int → Int) (pp ll : Int → Int → Int) (n : Int) : Prop := (∀ q, 0 ≤ q → B q = bA (k0 157) n q ∧ -1 ≤ B q ∧ B q ≤ 127) ∧ (k0 135 35 = n ∧ 0 ≤ n ∧ n ≤ 100) ∧ (nP 67 = k0 135 30 ∧ 0 ≤ nP 67 ∧ nP 67 ≤ 10) ∧ (nP 71 = k0 135 31 ∧ 0 ≤ nP 71 ∧ nP 71 ≤ 6) ∧ (∀ j, 0 ≤ j → j < nP 67 → pp 67 j = k0 153 j ∧ ll 67 j = k0 152 j ∧ (0 ≤ pp 67 j ∧ pp 67 j ≤ 3) ∧ (0 ≤ ll 67 j ∧ ll 67 j ≤ 24)) ∧ (∀ j, 0 ≤ j → j < nP 71 → pp 71 j = k0 153 (10 + j) ∧ ll 71 j = k0 152 (10 + j) ∧ (0 ≤ pp 71 j ∧ pp 71 j ≤ 3) ∧ (0 ≤ ll 71 j ∧ ll 71 j ≤ 24))
theorem c_byteM {d : Nat} {g k0 : HP} {B : Int → Int} {nP : Int → Int} {pp ll : Int → Int → Int} {n q : Int} {Q : PQ} (C : TrC k0 B nP pp ll n) (I : TrI k0 g) (q0 : 0 ≤ q) (H : Q (B q) g) : Go d M_Mo_byteAt 0 [(22, 135), (0, q)] [] g Q := by
  have e35 : g 135 35 = n := by rw [I 135 35 (by omega) (by omega) (by omega)]; exact C.2.1.1
  have n1 := C.2.1.2.2
  rw [(C.1 q q0).1] at H
  refine N_Mo_byteAt_0 ⟨fun z => ?_, fun z => ⟨⟨q0, by omega⟩, ?_⟩⟩
  · rw [bA_out (by omega)] at H; exact H
  · rw [bA_in q0 (by omega)] at H
    rw [I 157 q (by omega) (by omega) (by omega)]; exact H
def OneR (g g' : HP) (f c : Int) : Prop :=
  (g' 161 (600 + g 135 48) = c ∧ g' 162 (600 + g 135 48) = g 135 36 ∧ g' 164 (600 + g 135 48) = -1 ∧ g' 165 (600 + g 135 48) = -1 ∧ g' 166 (600 + g 135 48) = g 170 f) ∧ g' 171 f = g 135 48 ∧ g' 135 48 = g 135 48 + 1 ∧
  (g 171 f ≠ -1 → g' 165 (600 + g 171 f) = g 135 48) ∧ (g 171 f = -1 → g 168 f ≠ -1 → g' 164 (600 + g 168 f) = g 135 48) ∧ g' 169 f = g 169 f - 1 ∧ g' 135 49 = g 135 49 + 1 ∧
  (∀ x i, ¬ (161 ≤ x ∧ x ≤ 166 ∧ i = 600 + g 135 48) → ¬ (x = 171 ∧ i = f) → ¬ (x = 169 ∧ i = f) → ¬ (x = 135 ∧ (i = 48 ∨ i = 49 ∨ i = 36 ∨ i = 50)) → ¬ (x = 165 ∧ g 171 f ≠ -1 ∧ i = 600 + g 171 f) → ¬ (x = 164 ∧ g 171 f = -1 ∧ g 168 f ≠ -1 ∧ i = 600 + g 168 f) → g' x i = g x i)
/-- a frame more -/
def PsR (g g' : HP) (node parts sc : Int) : Prop := (g' 168 (g 135 56) = node ∧ g' 169 (g 135 56) = parts ∧ g' 170 (g 135 56) = sc ∧ g' 171 (g 135 56) = -1 ∧ g' 172 (g 135 56) = 0 ∧ g' 135 56 = g 135 56 + 1) ∧ (∀ x i, ¬ (168 ≤ x ∧ x ≤ 172 ∧ i = g 135 56) → ¬ (x = 135 ∧ i = 56) → g' x i = g x i)
theorem PsR_of {g g1 g2 g3 g4 g5 g6 : HP} {U node parts sc : Int} (eU : g 135 56 = U) (e1 : g1 = up2 g 168 U node) (e2 : g2 = up2 g1 169 U parts) (e3 : g3 = up2 g2 170 U sc) (e4 : g4 = up2 g3 171 U (-1)) (e5 : g5 = up2 g4 172 U 0) (e6 : g6 = up2 g5 135 56 (U + 1)) : PsR g g6 node parts sc := by
  unfold PsR
  rw [eU]
  refine ⟨⟨?_, ?_, ?_, ?_, ?_, by rw [e6, up2_eq]⟩, fun x i p q => by rw [e6, up2_ext q, e5, up2_ext (by omega), e4, up2_ext (by omega), e3, up2_ext (by omega), e2, up2_ext (by omega), e1, up2_ext (by omega)]⟩
  · rw [e6, up2_nc (by decide), e5, up2_nc (by decide), e4, up2_nc (by decide), e3, up2_nc (by decide), e2, up2_nc (by decide), e1, up2_eq]
  · rw [e6, up2_nc (by decide), e5, up2_nc (by decide), e4, up2_nc (by decide), e3, up2_nc (by decide), e2, up2_eq]
  · rw [e6, up2_nc (by decide), e5, up2_nc (by decide), e4, up2_nc (by decide), e3, up2_eq]
  · rw [e6, up2_nc (by decide), e5, up2_nc (by decide), e4, up2_eq]
  · rw [e6, up2_nc (by decide), e5, up2_eq]
theorem c_pO {d : Nat} {c : Int} {h : HP} {Q : PQ} (H : Q (if c = 77 then 1 else pO c) h) : Go d M_Mo_partsOf 0 [(0, c)] [] h Q := by
  have two : (c = 43 ∨ c = 45 ∨ c = 60 ∨ c = 61 ∨ c = 80) → Q 2 h := by
    intro z
    rw [if_neg (by omega)] at H
    unfold pO at H
    rw [if_neg (by omega), if_pos z] at H
    exact H
  have one : (c = 76 ∨ c = 82) → Q 1 h := by
    intro z
    rw [if_neg (by omega)] at H
    unfold pO at H
    rw [if_pos z] at H
    exact H
  refine V_Mo_partsOf_0 ⟨fun a => ⟨fun z => two (by omega), fun b => ⟨fun z => two (by omega), fun b2 => ⟨fun z => two (by omega), fun b3 => ⟨fun z => two (by omega), fun b4 => ⟨fun b5 => ⟨fun z => one (by omega), fun b6 => ⟨fun z => one (by omega), fun b7 => ⟨fun b8 => ?_, fun b8 => ?_⟩⟩⟩, fun z => two (by omega)⟩⟩⟩⟩⟩, fun z => ?_⟩
  · rw [if_neg b8] at H
    unfold pO at H
    rw [if_neg (by omega), if_neg (by omega), if_neg a] at H
    exact H
  · rw [if_pos b8] at H; exact H
  · rw [if_neg (by omega)] at H
    unfold pO at H
    rw [if_neg (by omega), if_neg (by omega), if_pos z] at H
    exact H
theorem TrC_k {k0 : HP} {B : Int → Int} {nP : Int → Int} {pp ll : Int → Int → Int} {n kd fi : Int} (C : TrC k0 B nP pp ll n) (hf : (kd = 67 ∧ fi = 0) ∨ (kd = 71 ∧ fi = 10)) : (0 ≤ nP kd ∧ nP kd ≤ 10 ∧ fi + nP kd ≤ 16) ∧ ∀ j, 0 ≤ j → j < nP kd → pp kd j = k0 153 (fi + j) ∧ ll kd j = k0 152 (fi + j) ∧ (0 ≤ pp kd j ∧ pp kd j ≤ 3) ∧ (0 ≤ ll kd j ∧ ll kd j ≤ 24) := by
  obtain ⟨_, _, ⟨_, a1, a2⟩, ⟨_, b1, b2⟩, c1, c2⟩ := C
  rcases hf with ⟨rfl, rfl⟩ | ⟨rfl, rfl⟩
  · refine ⟨by omega, fun j j0 j1 => ?_⟩
    have := c1 j j0 j1
    rw [show (0 : Int) + j = j by omega]
    exact this
  · exact ⟨by omega, c2⟩
theorem c_takesFig {d : Nat} {g k0 : HP} {B : Int → Int} {nP : Int → Int} {pp ll : Int → Int → Int} {n node kd fi q : Int} {Q : PQ} (hd : 1 < d) (C : TrC k0 B nP pp ll n) (I : TrI k0 g) (q0 : 0 ≤ q) (eq : g 135 36 = q) (q1 : q ≤ 200) (hf : (kd = 67 ∧ fi = 0) ∨ (kd = 71 ∧ fi = 10)) (no0 : 0 ≤ node) (no1 : node < 100) (w0 : 0 ≤ g 135 50) (w1 : g 135 50 ≤ 240)
    (H1 : okD B nP kd q → g 135 50 + ll kd (B q - 48) ≤ 240 → ∀ g' : HP, g' 163 (600 + node) = B q - 48 → g' 135 36 = q + 1 → g' 135 50 = g 135 50 + ll kd (B q - 48) → (∀ x i, ¬ (x = 163 ∧ i = 600 + node) → ¬ (x = 135 ∧ (i = 36 ∨ i = 50)) → g' x i = g x i) → Q 1 g')
    (H2 : okD B nP kd q → 240 < g 135 50 + ll kd (B q - 48) → ∀ g' : HP, (∀ x i, ¬ (x = 135 ∧ (i = 50 ∨ i = 37)) → g' x i = g x i) → g' 135 37 = 2 → Q 0 g')
    (H0 : ¬ okD B nP kd q → ∀ g' : HP, g' = up2 g 135 37 1 → Q 0 g') :
    Go d M_Mo_takesFigure 0 [(22, 135), (0, node), (0, fi), (0, nP kd), (2, 0)] [] g Q := by
  obtain ⟨⟨c0, c1, c2⟩, ck⟩ := TrC_k C hf
  have bq := C.1 q q0
  refine N_Mo_takesFigure_0 ?_
  rw [eq]
  refine ⟨by omega, c_byteM C I q0 ⟨by unfold r32; omega, by unfold r32; omega, by omega, c_in (fun a b => ⟨fun _ => ?_, fun z => absurd z (by decide)⟩) (fun z => ⟨fun y => absurd rfl y, fun _ => ⟨by omega, H0 (fun u => ?_)⟩⟩)⟩⟩
  · have ok : okD B nP kd q := ⟨by omega, by omega, by omega⟩
    obtain ⟨p1, p2, p3, p4⟩ := ck (B q - 48) a (by omega)
    have e152 : g 152 (fi + (B q - 48)) = ll kd (B q - 48) := by rw [I 152 _ (by omega) (by omega) (by omega)]; exact p2.symm
    rw [e152]
    refine ⟨by unfold r32; omega, ⟨by omega, by omega⟩, by unfold r32; omega, fun g3 e3 => ?_⟩
    have q50 : g3 135 50 = g 135 50 + ll kd (B q - 48) := by rw [e3, up2_eq]
    rw [q50]
    refine ⟨fun z => ⟨by unfold r32; omega, ⟨by omega, by omega⟩, fun g4 e4 => ?_⟩, fun z => ⟨by omega, fun g6 e6 => H2 ok z g6 (fun x i p => by rw [e6, up2_ext (by omega), e3, up2_ext (by omega)]) (by rw [e6, up2_eq])⟩⟩
    have q36 : g4 135 36 = q := by rw [e4, up2_nc (by decide), e3, up2_ni (by decide)]; exact eq
    rw [q36]
    refine ⟨by unfold r32; omega, fun g5 e5 => H1 ok z g5 ?_ (by rw [e5, up2_eq]) ?_ (fun x i p r => by rw [e5, up2_ext (by omega), e4, up2_ext p, e3, up2_ext (by omega)])⟩
    · rw [e5, up2_nc (by decide), e4, up2_eq]
    · rw [e5, up2_ni (by decide), e4, up2_nc (by decide)]; exact q50
  · have := u.1
    have := u.2.2
    omega
/-- one E begins, under what is under way at f -/
theorem c_one {d : Nat} {g k0 : HP} {B : Int → Int} {nP : Int → Int} {pp ll : Int → Int → Int} {n f p : Int} {Q : PQ} (hd : 4 < d) (C : TrC k0 B nP pp ll n) (I : TrI k0 g) (eU : g 135 56 = f + 1) (ep : g 135 36 = p) (p0 : 0 ≤ p) (f0 : 0 ≤ f) (fp : f ≤ p) (pn : B p ≠ -1 → p < 100) (N0 : 0 ≤ g 135 48) (Np : g 135 48 ≤ p) (l0 : -1 ≤ g 171 f) (l1 : g 171 f < g 135 48) (u0 : -1 ≤ g 168 f) (u1 : g 168 f < g 135 48) (m0 : 0 ≤ g 135 49) (m1 : g 135 49 ≤ p) (w0 : 0 ≤ g 135 50) (w1 : g 135 50 ≤ 240) (wa : 1 ≤ g 169 f) (wb : g 169 f ≤ 3) (s0 : 0 ≤ g 170 f) (s1 : g 170 f ≤ 3 + 3 * p) (p101 : p ≤ 101)
    (Hbad : ¬ lfO (B p) (g 170 f) → pO (B p) = 0 → B p ≠ 67 → B p ≠ 71 → B p ≠ 77 → ∀ g' : HP, g' = up2 g 135 37 1 → Q 0 g')
    (Hleaf : lfO (B p) (g 170 f) → ∀ g' : HP, OneR g g' f (B p) → g' 135 36 = p + 1 → g' 135 50 = g 135 50 → Q 1 g')
    (Hop : (0 < pO (B p) ∨ B p = 77) → ∀ g' g2 : HP, OneR g g' f (B p) → g' 135 36 = p + 1 → g' 135 50 = g 135 50 → PsR g' g2 (g 135 48) (if B p = 77 then 1 else pO (B p)) (g 170 f) → Q 1 g2)
    (Hs0 : (B p = 67 ∨ B p = 71) → okD B nP (B p) (p + 1) → g 135 50 + ll (B p) (B (p + 1) - 48) ≤ 240 → pp (B p) (B (p + 1) - 48) = 0 → ∀ g' : HP, OneR g g' f (B p) → g' 163 (600 + g 135 48) = B (p + 1) - 48 → g' 135 36 = p + 2 → g' 135 50 = g 135 50 + ll (B p) (B (p + 1) - 48) → Q 1 g')
    (Hs1 : (B p = 67 ∨ B p = 71) → okD B nP (B p) (p + 1) → g 135 50 + ll (B p) (B (p + 1) - 48) ≤ 240 → 0 < pp (B p) (B (p + 1) - 48) → ∀ g' g2 : HP, OneR g g' f (B p) → g' 163 (600 + g 135 48) = B (p + 1) - 48 → g' 135 36 = p + 2 → g' 135 50 = g 135 50 + ll (B p) (B (p + 1) - 48) → PsR g' g2 (g 135 48) (pp (B p) (B (p + 1) - 48)) (g 170 f) → Q 1 g2)
    (HsX : (B p = 67 ∨ B p = 71) → ∀ g' : HP, TrI k0 g' → g' 135 36 = p + 1 → ((¬ okD B nP (B p) (p + 1) ∧ g' 135 37 = 1) ∨ (okD B nP (B p) (p + 1) ∧ 240 < g 135 50 + ll (B p) (B (p + 1) - 48) ∧ g' 135 37 = 2)) → Q 0 g') :
    Go d M_Mo_readsOne 0 [(22, 135), (0, f), (2, 0), (2, 0), (2, 0), (2, 0), (2, 0), (2, 0), (2, 0)] [] g Q := by
  have bp := C.1 p p0
  have bp1 := C.1 (p + 1) (by omega)
  have fx : (0 ≤ f ∧ f < 120) := by omega
  -- the node is hung
  have hang : ∀ (v3 v4 v5 : Int), B p ≠ -1 → ((v5 = 0 ∧ B p ≠ 67 ∧ B p ≠ 71 ∧ (lfO (B p) (g 170 f) ∨ 0 < pO (B p) ∨ B p = 77)) ∨ (v5 = 1 ∧ (B p = 67 ∨ B p = 71))) → Go d M_Mo_readsOne 115 [(22, 135), (0, f), (0, B p), (0, v3), (0, v4), (0, v5), (2, 0), (2, 0), (2, 0)] [] g Q := by
    intro v3 v4 v5 nb hv
    have p99 := pn nb
    refine N_Mo_readsOne_115 ⟨fx, by unfold r32; omega, fx, fun g1 e1 => ⟨by omega, ?_⟩⟩
    have o1 : ∀ x i, ¬ (x = 169 ∧ i = f) → g1 x i = g x i := fun x i z => by rw [e1, up2_ext z]
    have a48 : g1 135 48 = g 135 48 := o1 _ _ (by omega)
    have a171 : g1 171 f = g 171 f := o1 _ _ (by omega)
    have a168 : g1 168 f = g 168 f := o1 _ _ (by omega)
    have a170 : g1 170 f = g 170 f := o1 _ _ (by omega)
    have a36 : g1 135 36 = g 135 36 := o1 _ _ (by omega)
    refine c_hangs (by omega) (by omega) f0 (by omega) (by omega) (by omega) (by omega) (by omega) (fun g2 H2 => ?_)
    unfold HgR at H2
    rw [a48, a171, a168, a170, a36] at H2
    obtain ⟨⟨h1, h2, h3, h4, h5, h6⟩, h7, h8, h9, h10, h11⟩ := H2
    have b49 : g2 135 49 = g 135 49 := by rw [h11 135 49 (by omega) (by omega) (by omega) (by omega) (by omega)]; exact o1 _ _ (by omega)
    rw [b49]
    refine ⟨by unfold r32; omega, fun g3 e3 => ?_⟩
    have b36 : g3 135 36 = p := by rw [e3, up2_ni (by decide), h11 135 36 (by omega) (by omega) (by omega) (by omega) (by omega), a36, ep]
    rw [b36]
    refine ⟨by unfold r32; omega, fun g4 e4 => ?_⟩
    have o4 : ∀ x i, ¬ (x = 135 ∧ (i = 49 ∨ i = 36)) → g4 x i = g2 x i := fun x i z => by rw [e4, up2_ext (by omega), e3, up2_ext (by omega)]
    have O4 : OneR g g4 f (B p) := by
      refine ⟨⟨by rw [o4 _ _ (by omega)]; exact h1, by rw [o4 _ _ (by omega)]; exact h2, by rw [o4 _ _ (by omega)]; exact h4, by rw [o4 _ _ (by omega)]; exact h5, by rw [o4 _ _ (by omega)]; exact h6⟩, by rw [o4 _ _ (by omega)]; exact h7, by rw [o4 _ _ (by omega)]; exact h8, fun z => by rw [o4 _ _ (by omega)]; exact h9 z, fun z y => by rw [o4 _ _ (by omega)]; exact h10 z y, ?_, ?_, fun x i q1 q2 q3 q4 q5 q6 => ?_⟩
      · rw [o4 _ _ (by omega), h11 169 f (by omega) (by omega) (by omega) (by omega) (by omega), e1, up2_eq]
      · rw [e4, up2_ni (by decide), e3, up2_eq]
      · rw [o4 x i (by omega), h11 x i q1 q2 (by omega) q5 q6]; exact o1 x i q3
    have I4 : TrI k0 g4 := by
      intro x i q1 q2 q3
      rw [O4.2.2.2.2.2.2.2 x i (by omega) (by omega) (by omega) (by omega) (by omega) (by omega)]
      exact I x i q1 q2 q3
    have c36 : g4 135 36 = p + 1 := by rw [e4, up2_eq]
    have c48 : g4 135 48 = g 135 48 + 1 := O4.2.2.1
    have c50 : g4 135 50 = g 135 50 := by rw [o4 135 50 (by omega), h11 135 50 (by omega) (by omega) (by omega) (by omega) (by omega)]; exact o1 _ _ (by omega)
    have c56 : g4 135 56 = f + 1 := by rw [o4 135 56 (by omega), h11 135 56 (by omega) (by omega) (by omega) (by omega) (by omega), o1 _ _ (by omega)]; exact eU
    have c170 : g4 170 f = g 170 f := by rw [o4 170 f (by omega), h11 170 f (by omega) (by omega) (by omega) (by omega) (by omega)]; exact o1 _ _ (by omega)
    have c30 : g4 135 30 = nP 67 := by rw [I4 135 30 (by omega) (by omega) (by omega)]; exact C.2.2.1.1.symm
    have c31 : g4 135 31 = nP 71 := by rw [I4 135 31 (by omega) (by omega) (by omega)]; exact C.2.2.2.1.1.symm
    -- a frame, or none
    have last : ∀ (g5 : HP) (s v7 : Int), g5 135 56 = f + 1 → g5 170 f = g 170 f → (s ≤ 0 → Q 1 g5) → (0 < s → ∀ g6, PsR g5 g6 (g 135 48) s (g 170 f) → Q 1 g6) → Go d M_Mo_readsOne 233 [(22, 135), (0, f), (0, B p), (0, v3), (0, v4), (0, v5), (0, g 135 48), (0, v7), (2, 0)] [(0, s)] g5 Q := by
      intro g5 s v7 d56 d170 L0 L1
      refine N_Mo_readsOne_233 ⟨L0, fun z => ⟨fx, by omega, ?_⟩⟩
      rw [d56, d170]
      have ux : (0 ≤ f + 1 ∧ f + 1 < 120) := by omega
      refine ⟨ux, fun k1 x1 => ?_⟩
      rw [show k1 135 56 = f + 1 by rw [x1, up2_nc (by decide), d56]]
      refine ⟨ux, fun k2 x2 => ?_⟩
      rw [show k2 135 56 = f + 1 by rw [x2, up2_nc (by decide), x1, up2_nc (by decide), d56]]
      refine ⟨ux, fun k3 x3 => ?_⟩
      rw [show k3 135 56 = f + 1 by rw [x3, up2_nc (by decide), x2, up2_nc (by decide), x1, up2_nc (by decide), d56]]
      refine ⟨ux, fun k4 x4 => ?_⟩
      rw [show k4 135 56 = f + 1 by rw [x4, up2_nc (by decide), x3, up2_nc (by decide), x2, up2_nc (by decide), x1, up2_nc (by decide), d56]]
      refine ⟨ux, fun k5 x5 => ?_⟩
      rw [show k5 135 56 = f + 1 by rw [x5, up2_nc (by decide), x4, up2_nc (by decide), x3, up2_nc (by decide), x2, up2_nc (by decide), x1, up2_nc (by decide), d56]]
      exact ⟨by unfold r32; omega, fun k6 x6 => L1 z k6 (PsR_of d56 x1 x2 x3 x4 x5 x6)⟩
    have plain : v5 = 0 → B p ≠ 67 → B p ≠ 71 → (lfO (B p) (g 170 f) ∨ 0 < pO (B p) ∨ B p = 77) → ∀ v7, Go (d - 1) M_Mo_partsOf 0 [(0, B p)] [] g4 (fun y5 k5 => Go d M_Mo_readsOne 233 [(22, 135), (0, f), (0, B p), (0, v3), (0, v4), (0, v5), (0, g 135 48), (0, v7), (2, 0)] [(0, y5)] k5 Q) := by
      intro _ n67 n71 hh v7
      have pr := pO_r (B p)
      refine c_pO (last g4 _ v7 c56 c170 (fun z => ?_) (fun z g6 P6 => Hop ?_ g4 g6 O4 c36 c50 P6))
      · refine Hleaf ?_ g4 O4 c36 c50
        rcases hh with hh | hh | hh
        · exact hh
        · exfalso
          by_cases y : B p = 77
          · rw [if_pos y] at z; omega
          · rw [if_neg y] at z; omega
        · rw [if_pos hh] at z; omega
      · by_cases y : B p = 77
        · exact Or.inr y
        · rw [if_neg y] at z; exact Or.inl z
    have sign : ∀ fi, v5 = 1 → ((B p = 67 ∧ fi = 0) ∨ (B p = 71 ∧ fi = 10)) → Go d M_Mo_readsOne 194 [(22, 135), (0, f), (0, B p), (0, v3), (0, v4), (0, v5), (0, g 135 48), (0, fi), (2, 0)] [(0, nP (B p)), (0, fi), (0, g 135 48), (22, 135)] g4 Q := by
      intro fi v51 hf
      have cs : B p = 67 ∨ B p = 71 := by omega
      refine N_Mo_readsOne_194 ⟨by omega, c_takesFig (by omega) C I4 (by omega) c36 (by omega) hf N0 (by omega) (by omega) (by omega) ?_ ?_ ?_⟩
      · rw [c50]
        intro ok hw g5 f1 f2 f3 f4
        have O5 : OneR g g5 f (B p) := by
          obtain ⟨⟨j1, j2, j4, j5, j6⟩, j7, j8, j9, j10, j11, j12, j13⟩ := O4
          exact ⟨⟨by rw [f4 _ _ (by omega) (by omega)]; exact j1, by rw [f4 _ _ (by omega) (by omega)]; exact j2, by rw [f4 _ _ (by omega) (by omega)]; exact j4, by rw [f4 _ _ (by omega) (by omega)]; exact j5, by rw [f4 _ _ (by omega) (by omega)]; exact j6⟩, by rw [f4 _ _ (by omega) (by omega)]; exact j7, by rw [f4 _ _ (by omega) (by omega)]; exact j8, fun z => by rw [f4 _ _ (by omega) (by omega)]; exact j9 z, fun z y => by rw [f4 _ _ (by omega) (by omega)]; exact j10 z y, by rw [f4 _ _ (by omega) (by omega)]; exact j11, by rw [f4 _ _ (by omega) (by omega)]; exact j12, fun x i q1 q2 q3 q4 q5 q6 => by rw [f4 x i (by omega) (by omega)]; exact j13 x i q1 q2 q3 q4 q5 q6⟩
        have d56 : g5 135 56 = f + 1 := by rw [f4 _ _ (by omega) (by omega)]; exact c56
        have d170 : g5 170 f = g 170 f := by rw [f4 _ _ (by omega) (by omega)]; exact c170
        have I5 : TrI k0 g5 := fun x i q1 q2 q3 => by rw [f4 x i (by omega) (by omega)]; exact I4 x i q1 q2 q3
        obtain ⟨⟨c0, c1, c2⟩, ck⟩ := TrC_k C hf
        obtain ⟨z1, z2, z3, z4⟩ := ck (B (p + 1) - 48) (by have := ok.1; omega) ok.2.2
        have ep' : g5 153 (fi + (B (p + 1) - 48)) = pp (B p) (B (p + 1) - 48) := by rw [I5 153 _ (by omega) (by omega) (by omega)]; exact z1.symm
        have o2 := ok.1
        have o3 := ok.2.2
        rw [f1]
        refine ⟨fun _ => ⟨fun z => by omega, fun _ => ⟨by unfold r32; omega, ⟨by omega, by omega⟩, by unfold r32; omega, ⟨by omega, by omega⟩, ?_⟩⟩, fun z => absurd z (by decide)⟩
        rw [ep']
        exact last g5 _ fi d56 d170 (fun z => Hs0 cs ok hw (by omega) g5 O5 f1 (by omega) f3) (fun z g6 P6 => Hs1 cs ok hw z g5 g6 O5 f1 (by omega) f3 P6)
      · rw [c50]
        intro ok hv g5 f1 f2
        exact ⟨fun z => absurd rfl z, fun _ => HsX cs g5 (fun x i q1 q2 q3 => by rw [f1 x i (by omega)]; exact I4 x i q1 q2 q3) (by rw [f1 135 36 (by omega)]; exact c36) (Or.inr ⟨ok, hv, f2⟩)⟩
      · intro no g5 e5
        exact ⟨fun z => absurd rfl z, fun _ => HsX cs g5 (fun x i q1 q2 q3 => by rw [e5, up2_ext (by omega)]; exact I4 x i q1 q2 q3) (by rw [e5, up2_ni (by decide)]; exact c36) (Or.inl ⟨no, by rw [e5, up2_eq]⟩)⟩
    rw [a48, c30, c31]
    rcases hv with ⟨v50, n67, n71, hh⟩ | ⟨v51, cs⟩
    · exact ⟨fun _ => ⟨fun _ => ⟨fun _ => ⟨by omega, plain v50 n67 n71 hh 0⟩, fun z => absurd v50 z⟩, fun z => absurd v50 z⟩, fun z => absurd z n71⟩
    · refine ⟨fun n71 => ⟨fun z => by omega, fun _ => ⟨fun _ => ?_, fun z => absurd z n71⟩⟩, fun y71 => ⟨fun z => by omega, fun _ => ⟨fun z => absurd y71 z, fun _ => ?_⟩⟩⟩
      · have y67 : B p = 67 := by omega
        have := sign 0 v51 (Or.inl ⟨y67, rfl⟩)
        rw [show nP (B p) = nP 67 by rw [y67]] at this
        exact this
      · have := sign 10 v51 (Or.inr ⟨y71, rfl⟩)
        rw [show nP (B p) = nP 71 by rw [y71]] at this
        exact this
  -- leaf or not
  have third : ∀ (v3 s : Int), (s = 1 ∧ lfO (B p) (g 170 f)) ∨ (s = 0 ∧ ¬ lfO (B p) (g 170 f)) → Go d M_Mo_readsOne 71 [(22, 135), (0, f), (0, B p), (0, v3), (2, 0), (2, 0), (2, 0), (2, 0), (2, 0)] [(0, s)] g Q := by
    intro v3 s hs
    refine N_Mo_readsOne_71 ⟨fun c => ⟨fun _ => hang v3 s 1 (by omega) (Or.inr ⟨rfl, Or.inl c⟩), fun _ => hang v3 s 1 (by omega) (Or.inr ⟨rfl, Or.inl c⟩)⟩, fun c67 => ⟨fun c71 => ⟨fun z => ?_, fun z => ⟨by omega, c_pO ⟨fun y => ?_, fun y => ⟨by omega, fun g2 e2 => ?_⟩⟩⟩⟩, fun c => ⟨fun _ => hang v3 s 1 (by omega) (Or.inr ⟨rfl, Or.inr c⟩), fun _ => hang v3 s 1 (by omega) (Or.inr ⟨rfl, Or.inr c⟩)⟩⟩⟩
    · rcases hs with ⟨_, lf⟩ | ⟨s0', _⟩
      · exact hang v3 s 0 (lfO_ne lf).1 (Or.inl ⟨rfl, c67, c71, Or.inl lf⟩)
      · exact absurd s0' z
    · by_cases c77 : B p = 77
      · exact hang v3 s 0 (by omega) (Or.inl ⟨rfl, c67, c71, Or.inr (Or.inr c77)⟩)
      · rw [if_neg c77] at y
        have pr := pO_r (B p)
        have po : 0 < pO (B p) := by omega
        exact hang v3 s 0 (pO_ne po).1 (Or.inl ⟨rfl, c67, c71, Or.inr (Or.inl po)⟩)
    · by_cases c77 : B p = 77
      · rw [if_pos c77] at y; exact absurd y (by decide)
      · rw [if_neg c77] at y
        rcases hs with ⟨s1', _⟩ | ⟨_, nl⟩
        · omega
        · exact Hbad nl y c67 c71 c77 g2 e2
  have second : ∀ s : Int, (s = 1 ∧ 97 ≤ B p ∧ B p ≤ 122 ∧ B p - 97 < g 170 f) ∨ (s = 0 ∧ ¬ (97 ≤ B p ∧ B p ≤ 122 ∧ B p - 97 < g 170 f)) → Go d M_Mo_readsOne 38 [(22, 135), (0, f), (0, B p), (2, 0), (2, 0), (2, 0), (2, 0), (2, 0), (2, 0)] [(0, s)] g Q := by
    intro s hs
    refine N_Mo_readsOne_38 ⟨by omega, c_in (fun a b => ⟨fun _ => third s 1 (Or.inl ⟨rfl, by unfold lfO; omega⟩), fun z => absurd z (by decide)⟩) (fun a => ⟨fun z => absurd rfl z, fun _ => ⟨fun c => third s 1 (Or.inl ⟨rfl, by unfold lfO; omega⟩), fun c1 => ⟨fun c => third s 1 (Or.inl ⟨rfl, by unfold lfO; omega⟩), fun c2 => ⟨fun z => third s 0 (Or.inr ⟨rfl, by unfold lfO; omega⟩), fun z => third s 1 (Or.inl ⟨rfl, by unfold lfO; omega⟩)⟩⟩⟩⟩)⟩
  refine N_Mo_readsOne_0 ?_
  rw [ep]
  refine ⟨by omega, c_byteM C I p0 ⟨by omega, c_in (fun a b => ⟨fun z => absurd z (by decide), fun _ => ⟨by unfold r32; omega, fx, fun z => second 0 (Or.inr ⟨rfl, by omega⟩), fun z => second 1 (Or.inl ⟨rfl, a, b, z⟩)⟩⟩) (fun z => ⟨fun _ => second 0 (Or.inr ⟨rfl, by omega⟩), fun y => absurd rfl y⟩)⟩⟩
end
