section
/-! what does not matter to trees and types of a text that was read -/
theorem GD_b {B e : Int → Int} {nP : Int → Int} {pp ll : Int → Int → Int} {p sc w r w' : Int} (G : GD B e nP pp ll p sc w r w') (p0 : 0 ≤ p) : B p ≠ -1 := by
  intro z
  have k := GD_kind G p0
  rw [z] at k
  rcases k with k | k | k
  · exact (lfO_ne k).1 rfl
  · exact absurd k (by decide)
  · omega
def nxE (R : HP) (B e : Int → Int) (nP : Int → Int) (pp ll : Int → Int → Int) : YR := fun p k sc => 0 ≤ p ∧ (∃ w r w', GD B e nP pp ll p sc w r w') ∧ NX R B e nP pp p k sc
theorem KID_e {R : HP} {B e e' : Int → Int} {nP : Int → Int} {pp ll : Int → Int → Int} (he : ∀ q, 0 ≤ q → B q ≠ -1 → e' q = e q) {r w' sc : Int} : ∀ (j : Nat) (q k w : Int), 0 ≤ q → GC (GD B e nP pp ll) j q sc w r w' → KID R e (NX R B e nP pp) j q k sc → KID R e' (nxE R B e nP pp ll) j q k sc := by
  intro j
  induction j with
  | zero => intro q k w _ _ _; exact trivial
  | succ j ih =>
    intro q k w q0 G H
    obtain ⟨r1, w1, G1, G2⟩ := G
    have g := GD_e G1
    refine ⟨⟨q0, ⟨_, _, _, G1⟩, H.1⟩, ?_⟩
    have e1 : e' q = r1 := (he q q0 (GD_b G1 q0)).trans g.2
    have H2 := H.2
    rw [g.2] at H2
    rw [e1]
    exact ih r1 _ w1 (by omega) G2 H2
theorem KCA_e {R : HP} {B e e' : Int → Int} {nP : Int → Int} {pp ll : Int → Int → Int} (he : ∀ q, 0 ≤ q → B q ≠ -1 → e' q = e q) {r w' sc : Int} : ∀ (fg f : Nat) (q k w : Int), 0 ≤ q → GK B nP pp ll (GD B e nP pp ll) fg q sc w r w' → KCA R B e nP pp (NX R B e nP pp) f q k sc → KCA R B e' nP pp (nxE R B e nP pp ll) f q k sc := by
  intro fg
  induction fg with
  | zero => intro f q k w _ G; exact absurd G (fun z => z)
  | succ fg ih =>
    intro f q k w q0 G H
    cases f with
    | zero => exact H
    | succ f =>
    rcases H with H | ⟨nb, ok, kr, a, b, c, y, H⟩
    · exact Or.inl H
    · rcases G with ⟨z, _⟩ | ⟨_, _, _, r1, w1, G1, rest⟩
      · exact absurd z nb
      · have g := GD_e G1
        have e1 : e' (q + 1) = r1 := (he (q + 1) (by omega) (GD_b G1 (by omega))).trans g.2
        rw [g.2] at H
        refine Or.inr ⟨nb, ok, kr, a, b, c, ⟨by omega, ⟨_, _, _, G1⟩, y⟩, ?_⟩
        rw [e1]
        exact ih f r1 _ w1 (by omega) rest H
theorem NX_e {R : HP} {B e e' : Int → Int} {nP : Int → Int} {pp ll : Int → Int → Int} (he : ∀ q, 0 ≤ q → B q ≠ -1 → e' q = e q) {p k sc w r w' : Int} (p0 : 0 ≤ p) (G : GD B e nP pp ll p sc w r w') (H : NX R B e nP pp p k sc) : NX R B e' nP pp p k sc := by
  refine ⟨nxE R B e nP pp ll, fun p k sc h => ?_, ⟨p0, ⟨w, r, w', G⟩, H⟩⟩
  obtain ⟨p0, ⟨w, r, w', G⟩, H⟩ := h
  obtain ⟨hh, H⟩ := NX_out H
  refine ⟨hh, ?_⟩
  rcases H with l | ⟨l, K⟩ | ⟨c, ok, a, K⟩ | ⟨c, y, f, K⟩
  · exact Or.inl l
  · obtain ⟨j, hj⟩ : ∃ j : Nat, pO (B p) = (j : Int) + 1 := ⟨(pO (B p) - 1).toNat, by omega⟩
    have GG := GD_op G hj
    rw [show (pO (B p)).toNat = j + 1 by omega] at K
    refine Or.inr (Or.inl ⟨l, ?_⟩)
    rw [show (pO (B p)).toNat = j + 1 by omega]
    exact KID_e he (j + 1) _ _ _ (by omega) GG K
  · obtain ⟨_, _, GG⟩ := GD_sign G p0 c
    exact Or.inr (Or.inr (Or.inl ⟨c, ok, a, KID_e he _ _ _ _ (by omega) GG K⟩))
  · obtain ⟨r1, w1, G1, b, fg, GG⟩ := GD_match G p0 c
    have g := GD_e G1
    have e1 : e' (p + 1) = r1 := (he (p + 1) (by omega) (GD_b G1 (by omega))).trans g.2
    rw [g.2] at K
    refine Or.inr (Or.inr (Or.inr ⟨c, ⟨by omega, ⟨_, _, _, G1⟩, y⟩, f, ?_⟩))
    rw [e1]
    exact KCA_e he fg f _ _ _ (by omega) GG K
/-- the same of ground types -/
def wtE (B e : Int → Int) (nP : Int → Int) (nC : Int) (sb' : Int → Int → Int → Int) (ll pp : Int → Int → Int) (fm : Int → Int) : WX := fun p Γ sc τ => 0 ≤ p ∧ (∃ w r w', GD B e nP pp ll p sc w r w') ∧ WT B e nC sb' ll pp fm p Γ sc τ
def SigE (nP : Int → Int) (sb' sb2 : Int → Int → Int → Int) (ll ll2 pp pp2 : Int → Int → Int) : Prop := ∀ k j, (k = 67 ∨ k = 71) → 0 ≤ j → j < nP k → sb2 k j = sb' k j ∧ ll2 k j = ll k j ∧ pp2 k j = pp k j
theorem kiW_e {B e e' : Int → Int} {nP : Int → Int} {nC : Int} {sb' : Int → Int → Int → Int} {ll pp : Int → Int → Int} {fm : Int → Int} (he : ∀ q, 0 ≤ q → B q ≠ -1 → e' q = e q) {r w' sc : Int} {Γ : Int → Tm} : ∀ (l : List Tm) (q w : Int), 0 ≤ q → GC (GD B e nP pp ll) l.length q sc w r w' → kiW (WT B e nC sb' ll pp fm) e Γ sc l q → kiW (wtE B e nP nC sb' ll pp fm) e' Γ sc l q := by
  intro l
  induction l with
  | nil => intro q w _ _ _; exact trivial
  | cons t l ih =>
    intro q w q0 G H
    obtain ⟨r1, w1, G1, G2⟩ := G
    have g := GD_e G1
    refine ⟨⟨q0, ⟨_, _, _, G1⟩, H.1⟩, ?_⟩
    have e1 : e' q = r1 := (he q q0 (GD_b G1 q0)).trans g.2
    have H2 := H.2
    rw [g.2] at H2
    rw [e1]
    exact ih r1 w1 (by omega) G2 H2
theorem caW_e {B e e' : Int → Int} {nP : Int → Int} {nC : Int} {sb' sb2 : Int → Int → Int → Int} {ll pp ll2 pp2 : Int → Int → Int} {fm fm2 : Int → Int} (he : ∀ q, 0 ≤ q → B q ≠ -1 → e' q = e q) (sg : SigE nP sb' sb2 ll ll2 pp pp2) (nc : nP 67 = nC) (hf : ∀ j, 0 ≤ j → j < nC → fm2 j = fm j) {r w' sc k : Int} {Γ : Int → Tm} {a τ : Tm} : ∀ (fg f : Nat) (q w : Int) (seen : Int → Prop), 0 ≤ q → GK B nP pp ll (GD B e nP pp ll) fg q sc w r w' → caW B e nC sb' ll pp fm (WT B e nC sb' ll pp fm) Γ sc k a τ f q seen → caW B e' nC sb2 ll2 pp2 fm2 (wtE B e nP nC sb' ll pp fm) Γ sc k a τ f q seen := by
  intro fg
  induction fg with
  | zero => intro f q w seen _ G; exact absurd G (fun z => z)
  | succ fg ih =>
    intro f q w seen q0 G H
    cases f with
    | zero => exact H
    | succ f =>
    rcases H with ⟨b, H⟩ | ⟨nb, H, K⟩
    · refine Or.inl ⟨b, fun j α j0 j1 jf js => ?_⟩
      obtain ⟨s1, s2, s3⟩ := sg 67 j (Or.inl rfl) j0 (by omega)
      rw [s1, s2, s3]
      exact H j α j0 j1 (by rw [← hf j j0 j1]; exact jf) js
    · rcases G with ⟨z, _⟩ | ⟨_, ok, _, r1, w1, G1, rest⟩
      · exact absurd z nb
      · have g := GD_e G1
        have e1 : e' (q + 1) = r1 := (he (q + 1) (by omega) (GD_b G1 (by omega))).trans g.2
        obtain ⟨s1, s2, s3⟩ := sg 67 (B q - 48) (Or.inl rfl) (by have := ok.1; omega) ok.2.2
        rw [g.2] at K
        refine Or.inr ⟨nb, ?_, ?_⟩
        · rw [s1, s2, s3]
          exact fun α ea => ⟨by omega, ⟨_, _, _, G1⟩, H α ea⟩
        · rw [e1]
          exact ih f r1 w1 _ (by omega) rest K
theorem WT_e {B e e' : Int → Int} {nP : Int → Int} {nC : Int} {sb' sb2 : Int → Int → Int → Int} {ll pp ll2 pp2 : Int → Int → Int} {fm fm2 : Int → Int} (he : ∀ q, 0 ≤ q → B q ≠ -1 → e' q = e q) (sg : SigE nP sb' sb2 ll ll2 pp pp2) (nc : nP 67 = nC) (hf : ∀ j, 0 ≤ j → j < nC → fm2 j = fm j) (hn : ∀ α b n k j, (k = 67 ∨ k = 71) → 0 ≤ j → j < nP k → b = sb' k j → n = ll k j → ((sgT b n α).length : Int) = pp k j + 1 ∧ 0 ≤ pp k j) {p sc w r w' : Int} {Γ : Int → Tm} {τ : Tm} (p0 : 0 ≤ p) (G : GD B e nP pp ll p sc w r w') (H : WT B e nC sb' ll pp fm p Γ sc τ) : WT B e' nC sb2 ll2 pp2 fm2 p Γ sc τ := by
  refine ⟨wtE B e nP nC sb' ll pp fm, fun p Γ sc τ h => ?_, ⟨p0, ⟨w, r, w', G⟩, H⟩⟩
  obtain ⟨p0, ⟨w, r, w', G⟩, H⟩ := h
  have oP : ∀ j : Nat, pO (B p) = (j : Int) + 1 → GC (GD B e nP pp ll) (j + 1) (p + 1) sc w r w' := fun j hj => GD_op G hj
  have st : ∀ q sc w r w', 0 ≤ q → GD B e nP pp ll q sc w r w' → e q = r ∧ e' q = r ∧ q < r := fun q sc w r w' q0 G => by
    have g := GD_e G
    exact ⟨g.2, (he q q0 (GD_b G q0)).trans g.2, g.1⟩
  rcases WT_out H with H | ⟨c, a, b, t⟩ | ⟨c, x, y, z⟩ | ⟨c, a, b, t, x, y⟩ | ⟨c, a, b, x, t⟩ | ⟨c, α, x, t⟩ | ⟨c, k, a, kr, x, f, H⟩
  · exact Or.inl H
  · have p2 : pO (B p) = ((1 : Nat) : Int) + 1 := by
      unfold pO
      rw [if_neg (by omega), if_pos (by omega)]
      rfl
    obtain ⟨r1, v1, G1, r2, v2, G2, er, ew⟩ := oP 1 p2
    have g1 := st _ _ _ _ _ (by omega) G1
    rw [g1.1] at b
    exact Or.inr (Or.inl ⟨c, ⟨by omega, ⟨_, _, _, G1⟩, a⟩, by rw [g1.2.1]; exact ⟨by omega, ⟨_, _, _, G2⟩, b⟩, t⟩)
  · have p2 : pO (B p) = ((2 : Nat) : Int) + 1 := by rw [c]; rfl
    obtain ⟨r1, v1, G1, r2, v2, G2, r3, v3, G3, er, ew⟩ := oP 2 p2
    have g1 := st _ _ _ _ _ (by omega) G1
    have g2 := st _ _ _ _ _ (by omega) G2
    rw [g1.1] at y
    rw [g1.1, g2.1] at z
    exact Or.inr (Or.inr (Or.inl ⟨c, ⟨by omega, ⟨_, _, _, G1⟩, x⟩, by rw [g1.2.1]; exact ⟨by omega, ⟨_, _, _, G2⟩, y⟩, by rw [g1.2.1, g2.2.1]; exact ⟨by omega, ⟨_, _, _, G3⟩, z⟩⟩))
  · have p2 : pO (B p) = ((1 : Nat) : Int) + 1 := by rw [c]; rfl
    obtain ⟨r1, v1, G1, r2, v2, G2, er, ew⟩ := oP 1 p2
    have g1 := st _ _ _ _ _ (by omega) G1
    rw [g1.1] at y
    exact Or.inr (Or.inr (Or.inr (Or.inl ⟨c, a, b, t, ⟨by omega, ⟨_, _, _, G1⟩, x⟩, by rw [g1.2.1]; exact ⟨by omega, ⟨_, _, _, G2⟩, y⟩⟩)))
  · have p2 : pO (B p) = ((0 : Nat) : Int) + 1 := by
      unfold pO
      rw [if_pos c]
      rfl
    obtain ⟨r1, v1, G1, er, ew⟩ := oP 0 p2
    exact Or.inr (Or.inr (Or.inr (Or.inr (Or.inl ⟨c, a, b, ⟨by omega, ⟨_, _, _, G1⟩, x⟩, t⟩))))
  · obtain ⟨ok, _, GG⟩ := GD_sign G p0 c
    have j0 : 0 ≤ B (p + 1) - 48 := by have := ok.1; omega
    obtain ⟨s1, s2, s3⟩ := sg (B p) (B (p + 1) - 48) c j0 ok.2.2
    have ln := hn α _ _ _ _ c j0 ok.2.2 rfl rfl
    have le : ((sgT (sb' (B p) (B (p + 1) - 48)) (ll (B p) (B (p + 1) - 48)) α).take (pp (B p) (B (p + 1) - 48)).toNat).length = (pp (B p) (B (p + 1) - 48)).toNat := by
      rw [List.length_take]
      exact Nat.min_eq_left (by omega)
    rw [← le] at GG
    refine Or.inr (Or.inr (Or.inr (Or.inr (Or.inr (Or.inl ⟨c, α, ?_, ?_⟩)))))
    · rw [s1, s2, s3]
      exact kiW_e he _ _ _ (by omega) GG x
    · rw [s1, s2, s3, t]
      unfold cllT
      split
      · rename_i c67
        rw [hf _ j0 (by have := ok.2.2; rw [c67] at this; omega)]
      · rfl
  · obtain ⟨r1, w1, G1, b, fg, GG⟩ := GD_match G p0 c
    have g1 := st _ _ _ _ _ (by omega) G1
    rw [g1.1] at H
    refine Or.inr (Or.inr (Or.inr (Or.inr (Or.inr (Or.inr ⟨c, k, a, kr, ⟨by omega, ⟨_, _, _, G1⟩, x⟩, f, ?_⟩)))))
    rw [g1.2.1]
    exact caW_e he sg nc hf fg f _ _ _ (by omega) GG H
end
