section
set_option maxHeartbeats 4000000 in
theorem tree_chain {d : Nat} {k0 : HP} {B e : Int → Int} {nP : Int → Int} {pp ll : Int → Int → Int} {n s0 : Int} {Q : PQ} {M : Nat} (hd : 8 < d) (C : TrC k0 B nP pp ll n) (ih : TreeS d k0 B e nP pp ll n s0 Q M) : ChainS d k0 B e nP pp ll n s0 Q M := by
  have n1 := C.2.1.2.2
  intro j
  induction j with
  | zero =>
    intro q sc w r w' m F g w3 q0 q1 qM H S wa wb w0 w1 sc0 sc1 K1 K0
    obtain ⟨h1, h2, h3⟩ := H
    subst h1 h2 h3
    obtain ⟨I, ⟨e56, e36, e50, e170⟩, ⟨f0, fp⟩, ⟨N0, Np⟩, ⟨l0, l1⟩, ⟨u0, u1⟩, m0, m1⟩ := S
    exact K1 q0 g ⟨I, ⟨rfl, e36, e50, by omega⟩, ⟨Int.le_refl _, Np⟩, fun _ _ _ _ _ => rfl, ⟨rfl, wa⟩, fun z => absurd z (by decide), fun _ _ _ _ _ _ _ => rfl⟩ (fun _ _ z => absurd z (by decide)) ⟨by omega, by omega, by omega, by omega, by omega, by omega⟩ w3
  | succ j ihj =>
    intro q sc w r w' m F g w3 q0 q1 qM H S wa wb w0 w1 sc0 sc1 K1 K0
    obtain ⟨r1, w1', m1', H1, H2⟩ := H
    have S' := S
    obtain ⟨I, ⟨e56, e36, e50, e170⟩, ⟨f0, fp⟩, ⟨N0, Np⟩, ⟨l0, l1⟩, ⟨u0, u1⟩, mm0, mm1⟩ := S'
    refine ih q sc w r1 w1' m1' F g w3 q0 (by omega) qM H1 S (by omega) (by omega) w0 w1 sc0 sc1 (fun r10 g1 P1 X1 bd w4 => ?_) (fun r10 g' I' e' => ?_)
    · obtain ⟨b1, b2, b3, b4, b5, b6⟩ := bd
      rcases H2 with ⟨z, _⟩ | ⟨_, m2, H2, em⟩
      · omega
      · have ek : e q = r1 := ((RD_out H1).1 r10).2
        obtain ⟨i1, ⟨p56, p36, p50, p49⟩, ⟨pn1, pn2⟩, pf, ⟨p168, p169, p170, p172, p171⟩, p165, pl1, pl2, pr⟩ := P1
        refine ihj r1 sc w1' r w' m2 F g1 w4 (by omega) b4 (by omega) H2 ⟨i1, ⟨by omega, p36, p50, by omega⟩, ⟨f0, by omega⟩, ⟨by omega, by omega⟩, ⟨by omega, by omega⟩, ⟨by omega, by omega⟩, by omega, by omega⟩ (by omega) (by omega) (by omega) b2 sc0 (by omega) (fun r0 g2 P2 X2 bd2 w5 => ?_) K0
        obtain ⟨c1, c2, c3, c4, c5, c6⟩ := bd2
        obtain ⟨i2, ⟨t56, t36, t50, t49⟩, ⟨tn1, tn2⟩, tf, ⟨t168, t169⟩, tl, tr⟩ := P2
        have l171 : g1 171 F ≠ -1 := by omega
        refine K1 r0 g2 ⟨i2, ⟨by omega, t36, t50, by omega⟩, ⟨by omega, tn2⟩, fun x i x0 x1 hi => by rw [tf x i x0 x1 hi, pf x i x0 x1 hi], ⟨by omega, t169⟩, fun _ => ⟨fun z => ?_, fun z y => ?_⟩, fun x i x0 x1 hi q1 q2 => ?_⟩ (fun R A _ => ⟨?_, ?_⟩) ⟨by omega, c2, by omega, c4, by omega, by omega⟩ w5
        · rw [tr 165 _ (by omega) (by omega) (by omega) (by omega) (by omega)]; exact pl1 z
        · rw [tr 164 _ (by omega) (by omega) (by omega) (by omega) (by omega)]; exact pl2 z y
        · rw [tr x i x0 x1 (by omega) (by omega) (by omega)]; exact pr x i x0 x1 hi q1 q2
        · refine X1 R (fun x i x0 x1 i0 i1' nx => ?_)
          rw [A x i x0 x1 i0 (by omega), tr x i x0 x1 (by omega) (by omega) (by omega)]
        · rw [ek]
          by_cases jz : 0 < j
          · have e165 : R 165 (g 135 48) = g1 135 48 := by
              rw [A 165 _ (by omega) (by omega) (by omega) (by omega)]
              have := (tl jz).1 l171
              rw [p171] at this
              exact this
            rw [e165]
            exact X2 R (fun x i x0 x1 i0 i1' => A x i x0 x1 (by omega) i1') jz
          · have : j = 0 := by omega
            subst this
            exact trivial
    · rcases H2 with ⟨z, er⟩ | ⟨z, _⟩
      · exact K0 (by omega) g' I' (by omega)
      · omega
end
