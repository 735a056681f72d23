section
theorem t_node {k0 g g1 g' R : HP} {B : Int → Int} {n f p sc w : Int} (n1 : n ≤ 100) (S : StT k0 g f p sc w) (O : OneR g g1 f (B p)) (ro : ∀ x i, 161 ≤ x → x ≤ 166 → i ≤ g 135 48 → ¬ (x = 164 ∧ i = g 135 48) → ¬ (x = 163 ∧ i = g 135 48) → g' x (600 + i) = g1 x (600 + i)) (pn : p < n) (nN : g 135 48 < g' 135 48) (A : AgN R g' (g 135 48) (g' 135 48)) : R 161 (g 135 48) = B p ∧ R 162 (g 135 48) = p ∧ R 166 (g 135 48) = sc ∧ 0 ≤ g 135 48 ∧ g 135 48 < 100 := by
  have S' := S
  obtain ⟨I, ⟨e56, e36, e50, e170⟩, ⟨f0, fp⟩, ⟨N0, Np⟩, ⟨l0, l1⟩, ⟨u0, u1⟩, m0, m1⟩ := S'
  obtain ⟨⟨j1, j2, j4, j5, j6⟩, _⟩ := O
  refine ⟨?_, ?_, ?_, N0, by omega⟩
  · rw [A 161 _ (by omega) (by omega) (by omega) nN (by omega), ro 161 _ (by omega) (by omega) (by omega) (by omega) (by omega)]; exact j1
  · rw [A 162 _ (by omega) (by omega) (by omega) nN (by omega), ro 162 _ (by omega) (by omega) (by omega) (by omega) (by omega), j2]; exact e36
  · rw [A 166 _ (by omega) (by omega) (by omega) nN (by omega), ro 166 _ (by omega) (by omega) (by omega) (by omega) (by omega), j6]; exact e170
theorem t_one {k0 g g1 : HP} {f p sc w c : Int} (S : StT k0 g f p sc w) (O : OneR g g1 f c) : TrI k0 g1 := by
  have S' := S
  obtain ⟨I, ⟨e56, e36, e50, e170⟩, ⟨f0, fp⟩, ⟨N0, Np⟩, ⟨l0, l1⟩, ⟨u0, u1⟩, m0, m1⟩ := S'
  exact fun x i q1 q2 q3 => by rw [O.2.2.2.2.2.2.2 x i (by omega) (by omega) (by omega) (by omega) (by omega) (by omega)]; exact I x i q1 q2 q3
set_option maxHeartbeats 4000000 in
theorem t_parts {d : Nat} {k0 : HP} {B e : Int → Int} {nP : Int → Int} {pp ll : Int → Int → Int} {n s0 : Int} {Q : PQ} {M : Nat} {p sc w r w' m f : Int} {g : HP} (C : TrC k0 B nP pp ll n) (ch : ChainS d k0 B e nP pp ll n s0 Q M) (p0 : 0 ≤ p) (p101 : p ≤ 101) (pM : n + 1 - p ≤ M + 1) (S : StT k0 g f p sc w) (w0 : 0 ≤ w) (w1 : w ≤ 240) (sc0 : 0 ≤ sc) (sc1 : sc ≤ 3 + 3 * p) (re : 0 ≤ r → p < r) (K1 : 0 ≤ r → ∀ g', PTr k0 g g' f r w' m → (∀ R, AgN R g' (g 135 48) (g' 135 48) → NX R B e nP pp p (g 135 48) sc) → (w ≤ w' ∧ w' ≤ 240 ∧ p < r ∧ r ≤ n ∧ 1 ≤ m ∧ m ≤ r - p) → ∀ w4, Go d M_Mo_isTree 37 [(22, 135), (0, s0), (0, 1), w4] [] g' Q) (K0 : r < 0 → ∀ g', TrI k0 g' → (r = -(2 * g' 135 36 + g' 135 37) ∧ 1 ≤ g' 135 37 ∧ g' 135 37 ≤ 2) → Q 0 g') : ∀ (g1 g2 : HP) (j q w2 m2 : Int), OneR g g1 f (B p) → g1 135 36 = q → g1 135 50 = w2 → PsR g1 g2 (g 135 48) j sc → 1 ≤ j → j ≤ 3 → B p ≠ 77 → B p ≠ -1 → p < q → q ≤ p + 2 → q ≤ n → w ≤ w2 → w2 ≤ 240 → CHN (RD B e nP pp ll) j.toNat q sc w2 r w' m2 → m = 1 + m2 →
        (∀ (R : HP), R 164 (g 135 48) = g 135 48 + 1 → (R 163 (g 135 48) = g1 163 (600 + g 135 48)) → (R 161 (g 135 48) = B p ∧ R 162 (g 135 48) = p ∧ R 166 (g 135 48) = sc ∧ 0 ≤ g 135 48 ∧ g 135 48 < 100) → KID R e (NX R B e nP pp) j.toNat q (g 135 48 + 1) sc → NX R B e nP pp p (g 135 48) sc) →
        Go d M_Mo_isTree 37 [(22, 135), (0, s0), (0, 1), (0, f)] [] g2 Q := by
  have n1 := C.2.1.2.2
  have S' := S
  obtain ⟨I, ⟨e56, e36, e50, e170⟩, ⟨f0, fp⟩, ⟨N0, Np⟩, ⟨l0, l1⟩, ⟨u0, u1⟩, m0, m1⟩ := S'
  intro g1 g2 j q w2 m2 O a36 a50 P j1 j3 n77 nm pq q2 qn ww w24 HC em nx
  have O' := O
  obtain ⟨⟨i1, i2, i4, i5, i6⟩, i7, i8, i9, i10, i11, i12, i13⟩ := O'
  have pT := t_inT C p0 nm
  have I1 := t_one S O
  have b56 : g1 135 56 = f + 1 := by rw [i13 _ _ (by omega) (by omega) (by omega) (by omega) (by omega) (by omega)]; exact e56
  obtain ⟨⟨v168, v169, v170, v171, v172, v56⟩, vo⟩ := P
  rw [b56] at v168 v169 v170 v171 v172 v56 vo
  have v48 : g2 135 48 = g 135 48 + 1 := by rw [vo _ _ (by omega) (by omega)]; exact i8
  have v49 : g2 135 49 = g 135 49 + 1 := by rw [vo _ _ (by omega) (by omega)]; exact i12
  have I2 : TrI k0 g2 := fun x i q1 q2 q3 => by rw [vo x i (by omega) (by omega)]; exact I1 x i q1 q2 q3
  have jj : ((j.toNat : Nat) : Int) = j := by omega
  refine ch j.toNat q sc w2 r w' m2 (f + 1) g2 _ (by omega) qn (by omega) HC ⟨I2, ⟨v56, by rw [vo _ _ (by omega) (by omega)]; exact a36, by rw [vo _ _ (by omega) (by omega)]; exact a50, v170⟩, ⟨by omega, by omega⟩, ⟨by omega, by omega⟩, ⟨by omega, by omega⟩, ⟨by omega, by omega⟩, by omega, by omega⟩ (by omega) (by omega) (by omega) w24 sc0 (by omega) (fun r0 g3 P3 X3 bd w4 => ?_) K0
  obtain ⟨d1, d2, d3, d4, d5, d6⟩ := bd
  obtain ⟨i3, ⟨t56, t36, t50, t49⟩, ⟨tn1, tn2⟩, tf, ⟨t168, t169⟩, tl, tr⟩ := P3
  rw [v48] at tn1 tl tr X3
  rw [v171] at tl tr
  rw [v168] at t168 tl tr
  have r161 : g3 161 (600 + g 135 48) = B p := by rw [tr 161 _ (by omega) (by omega) (by omega) (by omega) (by omega), vo _ _ (by omega) (by omega)]; exact i1
  refine t_pop g3 (f + 1) w4 (by omega) (by omega) (by omega) (by omega) (by omega) (by omega) (by rw [t168, r161]; exact n77) (fun g4 e4 w5 => ?_)
  have o4 : ∀ x i, ¬ (x = 135 ∧ i = 56) → g4 x i = g3 x i := fun x i z => by rw [e4, up2_ext z]
  have ro : ∀ x i, 161 ≤ x → x ≤ 166 → i ≤ g 135 48 → ¬ (x = 164 ∧ i = g 135 48) → ¬ (x = 163 ∧ i = g 135 48) → g4 x (600 + i) = g1 x (600 + i) := fun x i x0 x1 hi q1 _ => by rw [o4 _ _ (by omega), tr x i x0 x1 (by omega) (by omega) (by omega), vo _ _ (by omega) (by omega)]
  have e48 : g4 135 48 = g3 135 48 := o4 _ _ (by omega)
  refine K1 r0 g4 (PTr_of S O (fun x i q1 q2 q3 => by rw [o4 x i (by omega)]; exact i3 x i q1 q2 q3) (by rw [e4, up2_eq, e56]) (by rw [o4 _ _ (by omega)]; exact t36) (by rw [o4 _ _ (by omega)]; exact t50) (by rw [o4 _ _ (by omega), t49]; omega) (by omega) (by omega) (fun x i x0 x1 hi => by rw [o4 _ _ (by omega), tf x i x0 x1 (by omega), vo _ _ (by omega) (by omega)]) ro) (fun R A => ?_) ⟨by omega, d2, re r0, d4, by omega, by omega⟩ w5
  have c164 : R 164 (g 135 48) = g 135 48 + 1 := by
    rw [A 164 _ (by omega) (by omega) (by omega) (by omega) (by omega), o4 _ _ (by omega)]
    exact (tl (by omega)).2 rfl (by omega)
  have c163 : R 163 (g 135 48) = g1 163 (600 + g 135 48) := by
    rw [A 163 _ (by omega) (by omega) (by omega) (by omega) (by omega), o4 _ _ (by omega), tr 163 _ (by omega) (by omega) (by omega) (by omega) (by omega), vo _ _ (by omega) (by omega)]
  refine nx R c164 c163 (t_node n1 S O ro pT (by omega) A) (X3 R (fun x i x0 x1 i0 i1' => ?_) (by omega))
  rw [A x i x0 x1 (by omega) (by omega) (by omega), o4 _ _ (by omega)]
end
