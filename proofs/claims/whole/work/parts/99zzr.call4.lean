section
def HeldR (g : HP) (tm : Int → Tm) (hs n : Int) (L : List Tm) : Prop := ∀ i : Nat, (i : Int) < n → 0 ≤ g 122 (hs + i) ∧ g 122 (hs + i) < g 96 13 ∧ L[i]? = some (tm (g 122 (hs + i)))
/-- the type of a call: made, and then the goal -/
theorem k_type {d : Nat} {h0 h g : HP} {A : Int} {p sc hs D m v2 k j sg n x : Int} {tm tm' : Int → Tm} {S : Sx} {V V1 : Vx} {Γ : Int → Tm} {mu : Int → Nat} {Q : PQ} (bc : BC h0 A) (hd : 20 < d) (p0 : 0 ≤ p) (p1 : p ≤ 100) (mb : m + llr h0 k j < 512) (ek : k = bA (h0 (A + 1)) (h0 A 2) p) (hk : k = 67 ∨ k = 71) (es : sg = cel k j) (en : n = ppr h0 k j) (hj : 0 ≤ j ∧ j < nPr h0 k) (hs0 : 0 ≤ hs) (hs1 : hs ≤ 189) (s : ST h0 A h tm S V D sc hs Γ m) (s1 : ST h0 A (up2 g 92 6 (hs + n)) tm' S V1 D sc (hs + n) Γ (m + llr h0 k j)) (X : XB 96 h tm (up2 g 92 6 (hs + n)) tm') (o : ∀ a i, a < 93 ∨ 120 < a → ¬ (a = 122 ∧ hs ≤ i) → g a i = h a i) (hx : 0 ≤ x ∧ x < g 96 13 ∧ tm' x = sgR' (sbr h0) (llr h0) (ppr h0) k j mu) (hr : HeldR g tm' hs n (sgL (sbr h0 k j) (llr h0 k j) mu))
    (Hn : ∀ g2 tm2 x', ST h0 A g2 tm2 S V1 D sc (hs + n) Γ (m + llr h0 k j + 1) → XB 96 h tm g2 tm2 → OG h g2 sc hs → (0 ≤ x' ∧ x' < g2 96 13 ∧ tm2 x' = cllT (fun j => h0 (41 + 2 * j) 4) k j (sgR' (sbr h0) (llr h0) (ppr h0) k j mu)) → HeldR g2 tm2 hs n (sgL (sbr h0 k j) (llr h0 k j) mu) → (v2 = -1 → Go d M_Checker_call 179 [(10, 92), (0, p), (0, v2), (36, sg), (0, x'), (0, hs), (0, p + 2), (0, 0)] [] g2 Q) ∧ (v2 ≠ -1 → Go (d - 1) M_Checker_agrees 0 [(10, 92), (0, x'), (0, v2), (0, p), (2, 0)] [] g2 (fun y3 k3 => (y3 ≠ 0 → r32 (p + 2) ∧ Go d M_Checker_call 179 [(10, 92), (0, p), (0, v2), (36, sg), (0, x'), (0, hs), (0, p + 2), (0, 0)] [] k3 Q) ∧ (y3 = 0 → Q (-1) k3)))) :
    Go d M_Checker_call 74 [(10, 92), (0, p), (0, v2), (36, sg), (0, x), (0, hs), (0, n), (2, 0)] [] g Q := by
  have a0 := bc.1
  have ce := cel_ok bc hk hj.1 hj.2
  rw [← es] at ce
  obtain ⟨⟨c1, c2⟩, csz, cl, cp, cb, ⟨l0, l1⟩, ⟨n0, n3⟩, O⟩ := ce
  rw [← en] at cp n0 n3
  have g2 : g sg 2 = n := by rw [o sg 2 (by omega) (by omega), s.1 sg 2 (by omega) (by omega)]; exact cp
  refine V_Checker_call_74 ⟨by omega, fun _ => ⟨by omega, by rw [g2]; unfold r32; omega, fun g1 e1 => ?_⟩, fun z => by omega⟩
  rw [g2] at e1
  rw [← e1] at s1 X
  have k7 : g1 92 7 = A := s1.2.1.2.2.1.2.2.1
  have og : OG h g1 sc hs := fun a i p _ q r => by rw [e1, up2_ext r]; exact o a i p q
  have e13 : g1 96 13 = g 96 13 := by rw [e1, up2_nc (by omega)]
  have er : ∀ i, g1 122 i = g 122 i := fun i => by rw [e1, up2_nc (by omega)]
  have hr1 : HeldR g1 tm' hs n (sgL (sbr h0 k j) (llr h0 k j) mu) := fun i il => by rw [er, e13]; exact hr i il
  refine ⟨by omega, by omega, ?_⟩
  rw [k7]
  refine k_byte bc s1.1 ?_
  rw [← ek]
  have c1 := s1.2.2
  refine ⟨fun z => ?_, fun z => ⟨by omega, ?_, by omega, ?_⟩⟩
  · have q := Hn g1 tm' x (ST_le s1 (by omega)) X og ⟨hx.1, by omega, by rw [hx.2.2]; unfold cllT; rw [if_neg z]⟩ hr1
    exact ⟨fun v => ⟨by unfold r32; omega, q.1 v⟩, fun v => ⟨by omega, q.2 v⟩⟩
  · have f := bc.2.2.1.2.1 j hj.1 (by have := hj.2; rw [z] at this; exact this)
    have ef : g1 sg 4 = h0 (41 + 2 * j) 4 := by rw [s1.1 sg 4 (by omega) (by omega), es, z]; rfl
    rw [ef]; unfold r32; omega
  · have f := bc.2.2.1.2.1 j hj.1 (by have := hj.2; rw [z] at this; exact this)
    have ef : g1 sg 4 = h0 (41 + 2 * j) 4 := by rw [s1.1 sg 4 (by omega) (by omega), es, z]; rfl
    rw [ef]
    refine c_obtF (T := 96) (R := 512) (k := 3 + h0 (41 + 2 * j) 4) (t := tF (3 + h0 (41 + 2 * j) 4) (sgR' (sbr h0) (llr h0) (ppr h0) k j mu)) (by omega) s1.2.1.1 (by omega) (fun _ => ⟨hx.1, by omega⟩) (fun z => by omega) (fun z => by omega) (fun _ => rfl) (by omega) ?_ (fun x' g3 tm3 C3 X3 x0 x1 e3 n3 o3 => ?_)
    · rw [mkT_f (by omega), hx.2.2]
    · have og3 : OG h g3 sc hs := fun a i p u q r => by rw [o3 a i (by omega)]; exact og a i p u q r
      have gn := X3.1.1.1
      have kx : KX g1 g3 sc (hs + n) := KX_out (fun a i p => o3 a i (by omega))
      have q := Hn g3 tm3 x' (ST_step s1 C3 X3 kx (by omega)) (ST_X s s1 X X3) og3 ⟨x0, x1, by rw [e3]; unfold cllT; rw [if_pos z]⟩ (fun i il => by
        have u := hr1 i il
        rw [o3 122 _ (by omega)]
        refine ⟨u.1, by omega, ?_⟩
        rw [X3.2 _ u.1 u.2.1]
        exact u.2.2)
      exact ⟨fun v => ⟨by unfold r32; omega, q.1 v⟩, fun v => ⟨by omega, q.2 v⟩⟩
end
