section
set_option maxHeartbeats 8000000 in
theorem tree_cas {d : Nat} {k0 : HP} {B e : Int → Int} {nP : Int → Int} {pp ll : Int → Int → Int} {n s0 : Int} {Q : PQ} {M : Nat} (hd : 8 < d) (C : TrC k0 B nP pp ll n) (ih : TreeS d k0 B e nP pp ll n s0 Q M) : CasS d k0 B e nP pp ll n s0 Q M := by
  have n1 := C.2.1.2.2
  intro fu
  induction fu with
  | zero => intro q sc w r w' m F g w3 q0 q1 qM H; exact absurd H (fun z => z)
  | succ fu ihf =>
    intro q sc w r w' m F g w3 q0 q1 qM H S wa bg u0' op la ul ln w0 w1 sc0 sc1 K1 K0
    obtain ⟨I, ⟨e56, e36, e50, e170⟩, ⟨f0, fp⟩, ⟨N0, Np⟩, ⟨l0, l1⟩, ⟨u0, u1⟩, mm0, mm1⟩ := S
    have fx : (0 ≤ F ∧ F < 120) := by omega
    have bq := C.1 q q0
    refine t_cstep g F w3 hd e56 f0 (by omega) (by omega) u0' (by omega) op (N_Mo_readsCase_0 ?_)
    rw [e36]
    refine ⟨by omega, c_byteM C I q0 ⟨fx, fun _ => N_Mo_readsCase_30 ⟨fx, fun _ => ⟨fun nc => ⟨by omega, ?_⟩, fun c => ?_⟩, fun z => absurd z bg⟩, fun z => absurd z bg⟩⟩
    · -- a case
      have n67 := C.2.2.1
      obtain ⟨⟨c0, c1, c2⟩, ck⟩ := TrC_k (kd := 67) (fi := 0) C (Or.inl ⟨rfl, rfl⟩)
      have e30 : g 135 30 = nP 67 := by rw [I 135 30 (by omega) (by omega) (by omega)]; exact n67.1.symm
      have badc : ¬ okD B nP 67 q → r = -1 - 2 * q := by
        intro no
        rcases H with H | ⟨_, H | H | H⟩
        · exact absurd H.1 nc
        · exact H.2
        · exact absurd H.1 no
        · exact absurd H.1 no
      have flt : ∀ rs : Int, r = -(2 * q + rs) → (0 < rs ∧ rs ≤ 2) → ∀ g3 : HP, g3 = up2 g 135 37 rs → Go d M_Mo_isTree 37 [(22, 135), (0, s0), (0, 0), (0, F)] [] g3 Q := by
        intro rs er rp g3 e3
        exact t_stop (K0 (by omega) g3 (fun x i q1 q2 q3 => by rw [e3, up2_ext (by omega)]; exact I x i q1 q2 q3) (by rw [e3, up2_eq, up2_ni (by decide), e36]; omega))
      refine c_in (fun a b => ⟨fun z => absurd z (by decide), fun _ => ⟨by unfold r32; omega, fun z => N_Mo_readsCase_128 ⟨by omega, c_in (fun _ _ => ⟨fun z => absurd z (by decide), fun _ => ⟨by unfold r32; omega, fun _ => ⟨by omega, flt 1 (by have := badc (fun u => by have := u.2.2; omega); omega) (by decide)⟩, fun u => by omega⟩⟩) (fun u => by omega)⟩, fun z => ⟨by unfold r32; omega, ⟨by omega, by omega⟩, ?_⟩⟩⟩) (fun z => ⟨fun _ => N_Mo_readsCase_128 ⟨by omega, c_in (fun x y => by omega) (fun _ => ⟨fun _ => ⟨by omega, flt 1 (by have := badc (fun u => by have := u.1; have := u.2.1; omega); omega) (by decide)⟩, fun y => absurd rfl y⟩)⟩, fun y => absurd rfl y⟩)
      have ok : okD B nP 67 q := ⟨a, b, by omega⟩
      obtain ⟨z1, z2, z3, z4⟩ := ck (B q - 48) (by omega) (by omega)
      rw [show (0 : Int) + (B q - 48) = B q - 48 by omega] at z1 z2
      have e152 : g 152 (B q - 48) = ll 67 (B q - 48) := by rw [I 152 _ (by omega) (by omega) (by omega)]; exact z2.symm
      rw [e152, e50]
      refine ⟨by unfold r32; omega, fun hw => ⟨by omega, ?_⟩, fun hv => N_Mo_readsCase_128 ⟨by omega, c_in (fun _ _ => ⟨fun z => absurd z (by decide), fun _ => ⟨by unfold r32; omega, fun u => by omega, fun _ => ⟨by omega, flt 2 ?_ (by decide)⟩⟩⟩) (fun u => by omega)⟩⟩
      · have qT := t_inT C q0 (by omega)
        refine c_hangs N0 (by omega) f0 (by omega) l0 l1 u0 u1 (fun g2 H2 => ⟨by omega, ?_⟩)
        obtain ⟨⟨h1, h2, h3, h4, h5, h6⟩, h7, h8, h9, h10, h11⟩ := H2
        have I2 : TrI k0 g2 := fun x i q1 q2 q3 => by rw [h11 x i (by omega) (by omega) (by omega) (by omega) (by omega)]; exact I x i q1 q2 q3
        have f30 : g2 135 30 = nP 67 := by rw [I2 135 30 (by omega) (by omega) (by omega)]; exact n67.1.symm
        have f36 : g2 135 36 = q := by rw [h11 135 36 (by omega) (by omega) (by omega) (by omega) (by omega)]; exact e36
        have f50 : g2 135 50 = w := by rw [h11 135 50 (by omega) (by omega) (by omega) (by omega) (by omega)]; exact e50
        rw [f30]
        refine c_takesFig (kd := 67) (fi := 0) (by omega) C I2 q0 f36 (by omega) (Or.inl ⟨rfl, rfl⟩) N0 (by omega) (by omega) (by omega) ?_ (fun _ hv => by rw [f50] at hv; omega) (fun no => absurd ok no)
        rw [f50]
        intro _ _ g3 t1 t2 t3 t4
        have o3 : ∀ x i, ¬ (161 ≤ x ∧ x ≤ 166 ∧ i = 600 + g 135 48) → ¬ (x = 171 ∧ i = F) → ¬ (x = 135 ∧ (i = 48 ∨ i = 36 ∨ i = 50)) → ¬ (x = 165 ∧ i = 600 + g 171 F) → g3 x i = g x i := fun x i q1 q2 q3 q4 => by rw [t4 x i (by omega) (by omega)]; exact h11 x i q1 q2 (by omega) (by omega) (by omega)
        have y56 : g3 135 56 = F + 1 := by rw [o3 _ _ (by omega) (by omega) (by omega) (by omega)]; exact e56
        have y170 : g3 170 F = sc := by rw [o3 _ _ (by omega) (by omega) (by omega) (by omega)]; exact e170
        have y153 : g3 153 (B q - 48) = pp 67 (B q - 48) := by rw [o3 _ _ (by omega) (by omega) (by omega) (by omega), I 153 _ (by omega) (by omega) (by omega)]; exact z1.symm
        have y48 : g3 135 48 = g 135 48 + 1 := by rw [t4 _ _ (by omega) (by omega)]; exact h8
        rw [y170, y153, y56]
        have ux : (0 ≤ F + 1 ∧ F + 1 < 120) := by omega
        refine ⟨fx, by unfold r32; omega, ⟨by omega, by omega⟩, by unfold r32; omega, by omega, ux, fun k1 x1 => ?_⟩
        rw [show k1 135 56 = F + 1 by rw [x1, up2_nc (by decide), y56]]
        refine ⟨ux, fun k2 x2 => ?_⟩
        rw [show k2 135 56 = F + 1 by rw [x2, up2_nc (by decide), x1, up2_nc (by decide), y56]]
        refine ⟨ux, fun k3 x3 => ?_⟩
        rw [show k3 135 56 = F + 1 by rw [x3, up2_nc (by decide), x2, up2_nc (by decide), x1, up2_nc (by decide), y56]]
        refine ⟨ux, fun k4 x4 => ?_⟩
        rw [show k4 135 56 = F + 1 by rw [x4, up2_nc (by decide), x3, up2_nc (by decide), x2, up2_nc (by decide), x1, up2_nc (by decide), y56]]
        refine ⟨ux, fun k5 x5 => ?_⟩
        rw [show k5 135 56 = F + 1 by rw [x5, up2_nc (by decide), x4, up2_nc (by decide), x3, up2_nc (by decide), x2, up2_nc (by decide), x1, up2_nc (by decide), y56]]
        refine ⟨by unfold r32; omega, fun g9 x6 => ?_⟩
        have P9 := PsR_of y56 x1 x2 x3 x4 x5 x6
        obtain ⟨⟨v168, v169, v170, v171, v172, v56⟩, vo⟩ := P9
        rw [y56] at v168 v169 v170 v171 v172 v56 vo
        -- what the spec says of the case
        rcases H with H | ⟨_, H | H | ⟨_, _, r1, w1', m1', H1, H2⟩⟩
        · exact absurd H.1 nc
        · exact absurd ok H.1
        · have := H.2.1; omega
        · have v48 : g9 135 48 = g 135 48 + 1 := by rw [vo _ _ (by omega) (by omega)]; exact y48
          have v49 : g9 135 49 = g 135 49 := by rw [vo _ _ (by omega) (by omega), o3 _ _ (by omega) (by omega) (by omega) (by omega)]
          have I9 : TrI k0 g9 := fun x i q1 q2 q3 => by rw [vo x i (by omega) (by omega), t4 x i (by omega) (by omega)]; exact I2 x i q1 q2 q3
          refine ih (q + 1) (sc + pp 67 (B q - 48)) (w + ll 67 (B q - 48)) r1 w1' m1' (F + 1) g9 _ (by omega) (by omega) (by omega) H1 ⟨I9, ⟨v56, by rw [vo _ _ (by omega) (by omega)]; exact t2, by rw [vo _ _ (by omega) (by omega)]; exact t3, v170⟩, ⟨by omega, by omega⟩, ⟨by omega, by omega⟩, ⟨by omega, by omega⟩, ⟨by omega, by omega⟩, by omega, by omega⟩ (by omega) (by omega) (by omega) (by omega) (by omega) (by omega) (fun r10 ga PA XA bd w4 => ?_) (fun r10 g' I' e' => ?_)
          · obtain ⟨b1, b2, b3, b4, b5, b6⟩ := bd
            have ek : e (q + 1) = r1 := ((RD_out H1).1 r10).2
            obtain ⟨i1, ⟨p56, p36, p50, p49⟩, ⟨pn1, pn2⟩, pf, ⟨p168, p169, p170, p172, p171⟩, p165, pl1, pl2, pr⟩ := PA
            rw [v48] at pn1 p171 p165 pl1 pl2 pr XA
            rw [v171] at pl1 pl2 pr
            rw [v168] at p168 pl2 pr
            have a161 : ga 161 (600 + g 135 48) = 35 := by
              rw [pr 161 _ (by omega) (by omega) (by omega) (by omega) (by omega), vo _ _ (by omega) (by omega), t4 _ _ (by omega) (by omega)]; exact h1
            refine t_pop ga (F + 1) w4 (by omega) (by omega) (by omega) (by omega) (by omega) (by omega) (by rw [p168, a161]; decide) (fun gb eb w5 => ?_)
            have ob : ∀ x i, ¬ (x = 135 ∧ i = 56) → gb x i = ga x i := fun x i z => by rw [eb, up2_ext z]
            have oF : ∀ x, 168 ≤ x → x ≤ 172 → x ≠ 171 → gb x F = g x F := fun x x0 x1 x2 => by rw [ob _ _ (by omega), pf x F x0 x1 (by omega), vo _ _ (by omega) (by omega), o3 _ _ (by omega) (by omega) (by omega) (by omega)]
            have b171 : gb 171 F = g 135 48 := by rw [ob _ _ (by omega), pf 171 F (by omega) (by omega) (by omega), vo _ _ (by omega) (by omega), t4 _ _ (by omega) (by omega)]; exact h7
            have b48 : gb 135 48 = ga 135 48 := ob _ _ (by omega)
            have rN : ∀ x, 161 ≤ x → x ≤ 166 → x ≠ 164 → gb x (600 + g 135 48) = g3 x (600 + g 135 48) := fun x x0 x1 x2 => by rw [ob _ _ (by omega), pr x _ x0 x1 (by omega) (by omega) (by omega), vo _ _ (by omega) (by omega)]
            have rl : ∀ x i, 161 ≤ x → x ≤ 166 → i < g 135 48 → ¬ (x = 165 ∧ i = g 171 F) → gb x (600 + i) = g x (600 + i) := fun x i x0 x1 hi q1 => by rw [ob _ _ (by omega), pr x i x0 x1 (by omega) (by omega) (by omega), vo _ _ (by omega) (by omega), o3 _ _ (by omega) (by omega) (by omega) (by omega)]
            have l165 : gb 165 (600 + g 171 F) = g 135 48 := by rw [ob _ _ (by omega), pr 165 _ (by omega) (by omega) (by omega) (by omega) (by omega), vo _ _ (by omega) (by omega), t4 _ _ (by omega) (by omega)]; exact h9 (by omega)
            have c165 : gb 165 (600 + g 135 48) = -1 := by rw [rN 165 (by omega) (by omega) (by omega), t4 _ _ (by omega) (by omega)]; exact h5
            have c164 : gb 164 (600 + g 135 48) = g 135 48 + 1 := by rw [ob _ _ (by omega)]; exact pl2 rfl (by omega)
            rcases H2 with ⟨z, _⟩ | ⟨_, m2, H2, em⟩
            · omega
            · refine ihf r1 sc w1' r w' m2 F gb w5 (by omega) b4 (by omega) H2 ⟨fun x i q1 q2 q3 => by rw [ob x i (by omega)]; exact i1 x i q1 q2 q3, ⟨by rw [eb, up2_eq], by rw [ob _ _ (by omega)]; exact p36, by rw [ob _ _ (by omega)]; exact p50, by rw [oF 170 (by omega) (by omega) (by omega)]; exact e170⟩, ⟨f0, by omega⟩, ⟨by omega, by omega⟩, ⟨by omega, by omega⟩, ?_, ?_⟩ (by rw [oF 169 (by omega) (by omega) (by omega)]; exact wa) (by rw [oF 172 (by omega) (by omega) (by omega)]; exact bg) (by rw [oF 168 (by omega) (by omega) (by omega)]; exact u0') ?_ (by omega) (by rw [oF 168 (by omega) (by omega) (by omega), b171]; omega) (by rw [b171]; exact c165) (by omega) b2 sc0 (by omega) (fun r0 g' P' X' bd2 w6 => ?_) K0
              · rw [oF 168 (by omega) (by omega) (by omega), b48]; omega
              · rw [ob 135 49 (by omega)]; omega
              · rw [oF 168 (by omega) (by omega) (by omega), rl 161 _ (by omega) (by omega) (by omega) (by omega)]; exact op
              · obtain ⟨d1, d2, d3, d4, d5, d6⟩ := bd2
                obtain ⟨i2, ⟨s56, s36, s50, s49⟩, ⟨sn1, sn2⟩, sf, sr⟩ := P'
                rw [b171] at sr X'
                rw [b48] at sn1 sr X'
                have s49' : g' 135 49 = g 135 49 + m := by rw [s49, ob 135 49 (by omega)]; omega
                refine K1 r0 g' ⟨i2, ⟨s56, s36, s50, s49'⟩, ⟨by omega, sn2⟩, fun x i x0 x1 hi => ?_, fun x i x0 x1 hi q1 => ?_⟩ (fun R A la' => ?_) ⟨by omega, d2, by omega, d4, by omega, by omega⟩ w6
                · rw [sf x i x0 x1 hi, ob _ _ (by omega), pf x i x0 x1 (by omega), vo _ _ (by omega) (by omega), o3 _ _ (by omega) (by omega) (by omega) (by omega)]
                · rw [sr x i x0 x1 (by omega) (by omega)]; exact rl x i x0 x1 hi q1
                · have AN : ∀ x, 161 ≤ x → x ≤ 166 → x ≠ 165 → R x (g 135 48) = gb x (600 + g 135 48) := fun x x0 x1 x2 => by rw [A x _ x0 x1 (by omega) (by omega), sr x _ x0 x1 (by omega) (by omega)]
                  have eL : R 165 (g 171 F) = g 135 48 := by rw [la', sr 165 _ (by omega) (by omega) (by omega) (by omega)]; exact l165
                  rw [eL]
                  refine Or.inr ⟨nc, ok, ⟨N0, by omega⟩, ?_, ?_, ?_, ?_, ?_⟩
                  · rw [AN 161 (by omega) (by omega) (by omega), rN 161 (by omega) (by omega) (by omega), t4 _ _ (by omega) (by omega)]; exact h1
                  · rw [AN 162 (by omega) (by omega) (by omega), rN 162 (by omega) (by omega) (by omega), t4 _ _ (by omega) (by omega), h2]; exact e36
                  · rw [AN 163 (by omega) (by omega) (by omega), rN 163 (by omega) (by omega) (by omega)]; exact t1
                  · rw [AN 164 (by omega) (by omega) (by omega), c164]
                    refine XA R (fun x i x0 x1 i0 i1' nx => ?_)
                    rw [A x i x0 x1 (by omega) (by omega), sr x i x0 x1 (by omega) (by omega), ob _ _ (by omega)]
                  · rw [ek]
                    exact X' R (fun x i x0 x1 i0 i1' => A x i x0 x1 (by omega) i1') (A 165 _ (by omega) (by omega) (by omega) (by omega))
          · rcases H2 with ⟨z, er⟩ | ⟨z, _⟩
            · exact K0 (by omega) g' I' (by omega)
            · omega
      · rcases H with H | ⟨_, H | H | H⟩
        · exact absurd H.1 nc
        · exact absurd ok H.1
        · have := H.2.2; omega
        · have := H.2.1; omega
    · -- the end of the cases
      have qT := t_inT C q0 (by omega)
      rw [e36]
      refine ⟨by unfold r32; omega, fun g1 x1 => ?_⟩
      have y56 : g1 135 56 = F + 1 := by rw [x1, up2_ni (by decide)]; exact e56
      rw [y56, show F + 1 - 1 = F by omega]
      refine ⟨by unfold r32; omega, fun g2 x2 => ?_⟩
      have o2 : ∀ x i, ¬ (x = 135 ∧ (i = 36 ∨ i = 56)) → g2 x i = g x i := fun x i z => by rw [x2, up2_ext (by omega), x1, up2_ext (by omega)]
      rcases H with ⟨_, er, ew, em⟩ | ⟨z, _⟩
      · have e48 : g2 135 48 = g 135 48 := o2 _ _ (by omega)
        refine K1 (by omega) g2 ⟨fun x i q1 q2 q3 => by rw [o2 x i (by omega)]; exact I x i q1 q2 q3, ⟨by rw [x2, up2_eq], by rw [x2, up2_ni (by decide), x1, up2_eq, er], by rw [o2 _ _ (by omega), ew]; exact e50, by rw [o2 _ _ (by omega), em]; omega⟩, ⟨by omega, by omega⟩, fun x i _ _ _ => o2 _ _ (by omega), fun x i _ _ _ _ => o2 _ _ (by omega)⟩ (fun R A la' => Or.inl ⟨c, ?_⟩) ⟨by omega, by omega, by omega, by omega, by omega, by omega⟩ _
        rw [la', o2 _ _ (by omega)]
        exact ln
      · exact absurd c z
end
