section
set_option maxHeartbeats 8000000 in
theorem t_match {d : Nat} {k0 : HP} {B e : Int → Int} {nP : Int → Int} {pp ll : Int → Int → Int} {n s0 : Int} {Q : PQ} {M : Nat} {p sc w r w' m f : Int} {g g1 g2 : HP} {w5 : AV} (hd : 8 < d) (C : TrC k0 B nP pp ll n) (ih : TreeS d k0 B e nP pp ll n s0 Q M) (ca : CasS d k0 B e nP pp ll n s0 Q M) (p0 : 0 ≤ p) (p101 : p ≤ 101) (pM : n + 1 - p ≤ M + 1) (HF : RDF B e nP pp ll (RD B e nP pp ll) p sc w r w' m) (S : StT k0 g f p sc w) (w0 : 0 ≤ w) (w1 : w ≤ 240) (sc0 : 0 ≤ sc) (sc1 : sc ≤ 3 + 3 * p) (re : 0 ≤ r → p < r) (c77 : B p = 77) (O : OneR g g1 f (B p)) (a36 : g1 135 36 = p + 1) (a50 : g1 135 50 = g 135 50) (P : PsR g1 g2 (g 135 48) 1 sc) (K1 : 0 ≤ r → ∀ g', PTr k0 g g' f r w' m → (∀ R, AgN R g' (g 135 48) (g' 135 48) → NX R B e nP pp p (g 135 48) sc) → (w ≤ w' ∧ w' ≤ 240 ∧ p < r ∧ r ≤ n ∧ 1 ≤ m ∧ m ≤ r - p) → ∀ w4, Go d M_Mo_isTree 37 [(22, 135), (0, s0), (0, 1), w4] [] g' Q) (K0 : r < 0 → ∀ g', TrI k0 g' → (r = -(2 * g' 135 36 + g' 135 37) ∧ 1 ≤ g' 135 37 ∧ g' 135 37 ≤ 2) → Q 0 g') : Go d M_Mo_isTree 37 [(22, 135), (0, s0), (0, 1), w5] [] g2 Q := by
  have n1 := C.2.1.2.2
  have S' := S
  obtain ⟨I, ⟨e56, e36, e50, e170⟩, ⟨f0, fp⟩, ⟨N0, Np⟩, ⟨l0, l1⟩, ⟨u0, u1⟩, m0, m1⟩ := S'
  have pT := t_inT C p0 (by omega)
  obtain ⟨r1, w1', m1', H1, H2⟩ := RD_match HF c77
  have O' := O
  obtain ⟨⟨i1, i2, i4, i5, i6⟩, i7, i8, i9, i10, i11, i12, i13⟩ := O'
  have I1 := t_one S O
  have b56 : g1 135 56 = f + 1 := by rw [i13 _ _ (by omega) (by omega) (by omega) (by omega) (by omega) (by omega)]; exact e56
  obtain ⟨⟨v168, v169, v170, v171, v172, v56⟩, vo⟩ := P
  rw [b56] at v168 v169 v170 v171 v172 v56 vo
  have v48 : g2 135 48 = g 135 48 + 1 := by rw [vo _ _ (by omega) (by omega)]; exact i8
  have v49 : g2 135 49 = g 135 49 + 1 := by rw [vo _ _ (by omega) (by omega)]; exact i12
  have I2 : TrI k0 g2 := fun x i q1 q2 q3 => by rw [vo x i (by omega) (by omega)]; exact I1 x i q1 q2 q3
  have ek := (RD_out H1).1
  refine ih (p + 1) sc w r1 w1' m1' (f + 1) g2 _ (by omega) (by omega) (by omega) H1 ⟨I2, ⟨v56, by rw [vo _ _ (by omega) (by omega)]; exact a36, by rw [vo _ _ (by omega) (by omega)]; omega, v170⟩, ⟨by omega, by omega⟩, ⟨by omega, by omega⟩, ⟨by omega, by omega⟩, ⟨by omega, by omega⟩, by omega, by omega⟩ (by omega) (by omega) w0 w1 sc0 (by omega) (fun r10 g3 P3 X3 bd w4 => ?_) (fun r10 g' I' e' => ?_)
  · obtain ⟨b1, b2, b3, b4, b5, b6⟩ := bd
    obtain ⟨i3, ⟨t56, t36, t50, t49⟩, ⟨tn1, tn2⟩, tf, ⟨t168, t169, t170, t172, t171⟩, t165, tl1, tl2, tr⟩ := P3
    rw [v48] at tn1 t171 t165 tl1 tl2 tr X3
    rw [v171] at tl1 tl2 tr
    rw [v168] at t168 tl2 tr
    have r161 : g3 161 (600 + g 135 48) = B p := by rw [tr 161 _ (by omega) (by omega) (by omega) (by omega) (by omega), vo _ _ (by omega) (by omega)]; exact i1
    have fx : (0 ≤ f + 1 ∧ f + 1 < 120) := by omega
    refine t_cstep g3 (f + 1) w4 hd (by omega) (by omega) (by omega) (by omega) (by omega) (by omega) (by rw [t168, r161]; exact c77) (N_Mo_readsCase_0 ?_)
    rw [t36]
    refine ⟨by omega, c_byteM C i3 (by omega) ⟨fx, fun z => by omega, fun z => ⟨fun c => N_Mo_readsCase_30 ⟨fx, fun y => absurd z y, fun _ => ⟨fx, fun g4 x4 => ?_⟩⟩, fun c => ⟨by omega, fun g4 x4 => ?_⟩⟩⟩⟩
    · have y36 : g4 135 36 = r1 := by rw [x4, up2_nc (by decide)]; exact t36
      rw [y36]
      refine ⟨by unfold r32; omega, fun g5 x5 => ?_⟩
      have o5 : ∀ x i, ¬ (x = 172 ∧ i = f + 1) → ¬ (x = 135 ∧ i = 36) → g5 x i = g3 x i := fun x i q1 q2 => by rw [x5, up2_ext q2, x4, up2_ext q1]
      have rT := t_inT C (q := r1) (by omega) (by omega)
      rcases H2 with ⟨z, _⟩ | ⟨_, z, _⟩ | ⟨_, _, fu, m2, H2, em⟩
      · omega
      · exact absurd c z
      · have q171 : g5 171 (f + 1) = g 135 48 + 1 := by rw [o5 _ _ (by omega) (by omega)]; exact t171
        have q168 : g5 168 (f + 1) = g 135 48 := by rw [o5 _ _ (by omega) (by omega)]; exact t168
        have q48 : g5 135 48 = g3 135 48 := o5 _ _ (by omega) (by omega)
        have q49 : g5 135 49 = g3 135 49 := o5 _ _ (by omega) (by omega)
        refine ca fu (r1 + 1) sc w1' r w' m2 (f + 1) g5 _ (by omega) (by omega) (by omega) H2 ⟨fun x i q1 q2 q3 => by rw [o5 x i (by omega) (by omega)]; exact i3 x i q1 q2 q3, ⟨by rw [o5 _ _ (by omega) (by omega)]; omega, by rw [x5, up2_eq], by rw [o5 _ _ (by omega) (by omega)]; exact t50, by rw [o5 _ _ (by omega) (by omega)]; omega⟩, ⟨by omega, by omega⟩, ⟨by omega, by omega⟩, ⟨by omega, by omega⟩, ⟨by omega, by omega⟩, by omega, by omega⟩ (by rw [o5 _ _ (by omega) (by omega)]; omega) (by rw [x5, up2_nc (by decide), x4, up2_eq]; decide) (by omega) (by rw [q168, o5 _ _ (by omega) (by omega), r161]; exact c77) (by omega) (by omega) (by rw [q171, o5 _ _ (by omega) (by omega)]; exact t165) (by omega) b2 sc0 (by omega) (fun r0 g' P' X' bd2 w6 => ?_) K0
        obtain ⟨d1, d2, d3, d4, d5, d6⟩ := bd2
        obtain ⟨i6', ⟨s56, s36, s50, s49⟩, ⟨sn1, sn2⟩, sf, sr⟩ := P'
        rw [q171] at sr X'
        rw [q48] at sn1 sr X'
        have ro : ∀ x i, 161 ≤ x → x ≤ 166 → i ≤ g 135 48 → ¬ (x = 164 ∧ i = g 135 48) → ¬ (x = 163 ∧ i = g 135 48) → g' x (600 + i) = g1 x (600 + i) := fun x i x0 x1 hi q1 _ => by rw [sr x i x0 x1 (by omega) (by omega), o5 _ _ (by omega) (by omega), tr x i x0 x1 (by omega) (by omega) (by omega), vo _ _ (by omega) (by omega)]
        refine K1 r0 g' (PTr_of S O i6' (by rw [s56, e56]) s36 s50 (by omega) (by omega) sn2 (fun x i x0 x1 hi => by rw [sf x i x0 x1 (by omega), o5 _ _ (by omega) (by omega), tf x i x0 x1 (by omega), vo _ _ (by omega) (by omega)]) ro) (fun R A => ?_) ⟨by omega, d2, re r0, d4, by omega, by omega⟩ w6
        have c164 : R 164 (g 135 48) = g 135 48 + 1 := by
          rw [A 164 _ (by omega) (by omega) (by omega) (by omega) (by omega), sr 164 _ (by omega) (by omega) (by omega) (by omega), o5 _ _ (by omega) (by omega)]
          exact tl2 rfl (by omega)
        refine NX_in ⟨t_node n1 S O ro pT (by omega) A, Or.inr (Or.inr (Or.inr ⟨c77, ?_, fu, ?_⟩))⟩
        · rw [c164]
          refine X3 R (fun x i x0 x1 i0 i1' nx => ?_)
          rw [A x i x0 x1 (by omega) (by omega) (by omega), sr x i x0 x1 (by omega) (by omega), o5 _ _ (by omega) (by omega)]
        · rw [c164, (ek r10).2]
          exact X' R (fun x i x0 x1 i0 i1' => A x i x0 x1 (by omega) i1' (by omega)) (A 165 _ (by omega) (by omega) (by omega) (by omega) (by omega))
    · rcases H2 with ⟨z, _⟩ | ⟨_, _, er⟩ | ⟨_, z, _⟩
      · omega
      · exact t_stop (K0 (by omega) g4 (fun x i q1 q2 q3 => by rw [x4, up2_ext (by omega)]; exact i3 x i q1 q2 q3) (by rw [x4, up2_eq, up2_ni (by decide), t36]; omega))
      · exact absurd z c
  · rcases H2 with ⟨z, er⟩ | ⟨z, _⟩ | ⟨z, _⟩
    · exact K0 (by omega) g' I' (by omega)
    · omega
    · omega
end
