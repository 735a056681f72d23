section
theorem nPr_n (h : HP) : nPr h = nPn (h 36 4) (h 36 5) := rfl
theorem WT_hh {h h' : HP} {B e e' : Int → Int} {N p sc w r w' : Int} {Γ : Int → Tm} {τ : Tm} (D : DcR h) (O : DcO h) (N0 : N ≤ h 36 5) (p0 : 0 ≤ p) (G : GD B e (nPn (h 36 4) N) (ppr h) (llr h) p sc w r w') (he : ∀ q, 0 ≤ q → B q ≠ -1 → e' q = e q) (nc : h' 36 4 = h 36 4) (sc' : ∀ j i, 0 ≤ j → j < h 36 4 → h' (41 + 2 * j) i = h (41 + 2 * j) i ∧ h' (42 + 2 * j) i = h (42 + 2 * j) i) (sf : ∀ j i, 0 ≤ j → j < N → h' (61 + 5 * j) i = h (61 + 5 * j) i ∧ h' (62 + 5 * j) i = h (62 + 5 * j) i) (H : WT B e (h 36 4) (sbr h) (llr h) (ppr h) (fun j => h (41 + 2 * j) 4) p Γ sc τ) : WT B e' (h' 36 4) (sbr h') (llr h') (ppr h') (fun j => h' (41 + 2 * j) 4) p Γ sc τ := by
  rw [nc]
  refine WT_e (nP := nPn (h 36 4) N) he (fun k j hk j0 j1 => ?_) rfl (fun j j0 j1 => (sc' j 4 j0 j1).1) (fun α b n k j hk j0 j1 eb en => ?_) p0 G H
  · rcases hk with e | e <;> subst e
    · have j1 : j < h 36 4 := j1
      exact ⟨funext fun i => (sc' j i j0 j1).2, (sc' j 1 j0 j1).1, (sc' j 2 j0 j1).1⟩
    · have j1 : j < N := j1
      exact ⟨funext fun i => (sf j i j0 j1).2, (sf j 1 j0 j1).1, (sf j 2 j0 j1).1⟩
  · subst eb en
    rcases hk with e | e <;> subst e
    · have j1 : j < h 36 4 := j1
      have s := (D.2.1 j j0 j1).1
      have o := O.1 j j0 j1
      unfold SgO at o
      rw [show 41 + 2 * j + 1 = 42 + 2 * j by omega] at o
      exact ⟨sgT_len s.2.2.2.1.1 s.2.2.2.2.1.1 o, s.2.2.2.2.1.1⟩
    · have j1 : j < N := j1
      have s := (D.2.2 j j0 (by omega)).1
      have o := O.2 j j0 (by omega)
      unfold SgO at o
      rw [show 61 + 5 * j + 1 = 62 + 5 * j by omega] at o
      exact ⟨sgT_len s.2.2.2.1.1 s.2.2.2.2.1.1 o, s.2.2.2.2.1.1⟩
/-- one body, in another heap -/
theorem BdW_one {h h' : HP} {f : Int} (D : DcR h) (O : DcO h) (Bd : BdR h) (W : BdW h) (f0 : 0 ≤ f) (f1 : f < h 36 5) (e40 : h 40 f = 1) (nc : h' 36 4 = h 36 4) (sc' : ∀ j i, 0 ≤ j → j < h 36 4 → h' (41 + 2 * j) i = h (41 + 2 * j) i ∧ h' (42 + 2 * j) i = h (42 + 2 * j) i) (sf : ∀ j i, 0 ≤ j → j < h 36 5 → h' (61 + 5 * j) i = h (61 + 5 * j) i ∧ h' (62 + 5 * j) i = h (62 + 5 * j) i) (b2 : h' (63 + 5 * f) 2 = h (63 + 5 * f) 2) (b4 : ∀ i, h' (63 + 5 * f + 1) i = h (63 + 5 * f + 1) i ∧ h' (63 + 5 * f + 2) i = h (63 + 5 * f + 2) i) (α : Int → Tm) : WT (bA (h' (63 + 5 * f + 1)) (h' (63 + 5 * f) 2)) (h' (63 + 5 * f + 2)) (h' 36 4) (sbr h') (llr h') (ppr h') (fun j => h' (41 + 2 * j) 4) 0 (exG (fun _ => tI) 0 ((sgT (sbr h' 71 f) (llr h' 71 f) α).take (ppr h' 71 f).toNat)) (ppr h' 71 f) (sgTI (sbr h' 71 f) (llr h' 71 f) α (ppr h' 71 f)) := by
  obtain ⟨N, w', m, ⟨N0, N1⟩, ⟨n0, n1⟩, _, rd, _⟩ := Bd f f0 f1 e40
  have G : GD (bA (h (63 + 5 * f + 1)) (h (63 + 5 * f) 2)) (h (63 + 5 * f + 2)) (nPn (h 36 4) N) (ppr h) (llr h) 0 (h (61 + 5 * f) 2) (h (63 + 5 * f) 2) (h (63 + 5 * f) 2) w' := ⟨m, rd, by omega⟩
  have q := W f f0 f1 e40 α
  have es : sbr h' 71 f = sbr h 71 f := funext fun i => (sf f i f0 f1).2
  have el : llr h' 71 f = llr h 71 f := (sf f 1 f0 f1).1
  have ep : ppr h' 71 f = ppr h 71 f := (sf f 2 f0 f1).1
  rw [es, el, ep, b2, show h' (63 + 5 * f + 1) = h (63 + 5 * f + 1) from funext fun i => (b4 i).1, show h' (63 + 5 * f + 2) = h (63 + 5 * f + 2) from funext fun i => (b4 i).2]
  exact WT_hh D O N1 (by omega) G (fun _ _ _ => rfl) nc sc' (fun j i j0 j1 => sf j i j0 (by omega)) q
theorem BdW_ag {h h' : HP} (D : DcR h) (O : DcO h) (o : ∀ x i, 35 < x → x < 91 → h' x i = h x i) (Bd : BdR h) (W : BdW h) : BdW h' := by
  have dd := D.1
  have q5 : h' 36 5 = h 36 5 := o _ _ (by omega) (by omega)
  intro f f0 f1 e40 α
  rw [q5] at f1
  rw [o 40 f (by omega) (by omega)] at e40
  exact BdW_one D O Bd W f0 f1 e40 (o _ _ (by omega) (by omega)) (fun j i j0 j1 => ⟨o _ _ (by omega) (by omega), o _ _ (by omega) (by omega)⟩) (fun j i j0 j1 => ⟨o _ _ (by omega) (by omega), o _ _ (by omega) (by omega)⟩) (o _ _ (by omega) (by omega)) (fun i => ⟨o _ _ (by omega) (by omega), o _ _ (by omega) (by omega)⟩) α
/-- one body's reading, in another heap -/
theorem BdR_one {h h' : HP} {f : Int} (D : DcR h) (Bd : BdR h) (f0 : 0 ≤ f) (f1 : f < h 36 5) (e40 : h 40 f = 1) (n5 : h 36 5 ≤ h' 36 5) (nc : h' 36 4 = h 36 4) (sc' : ∀ j i, 0 ≤ j → j < h 36 4 → h' (41 + 2 * j) i = h (41 + 2 * j) i) (sf : ∀ j i, 0 ≤ j → j < h 36 5 → h' (61 + 5 * j) i = h (61 + 5 * j) i) (b2 : h' (63 + 5 * f) 2 = h (63 + 5 * f) 2) (b4 : ∀ i, h' (63 + 5 * f + 1) i = h (63 + 5 * f + 1) i ∧ h' (63 + 5 * f + 2) i = h (63 + 5 * f + 2) i) (o6 : ∀ x i, 161 ≤ x → x ≤ 166 → 100 * f ≤ i → i < 100 * f + 100 → h' x i = h x i) : ∃ N w' m, (0 ≤ N ∧ N ≤ h' 36 5) ∧ (0 < h' (63 + 5 * f) 2 ∧ h' (63 + 5 * f) 2 ≤ 100) ∧ (∀ i, 0 ≤ i → i < h' (63 + 5 * f) 2 → 0 ≤ h' (63 + 5 * f + 1) i ∧ h' (63 + 5 * f + 1) i ≤ 127) ∧ RD (bA (h' (63 + 5 * f + 1)) (h' (63 + 5 * f) 2)) (h' (63 + 5 * f + 2)) (nPn (h' 36 4) N) (ppr h') (llr h') 0 (h' (61 + 5 * f) 2) (h' (63 + 5 * f) 2) (h' (63 + 5 * f) 2) w' m ∧ NX (fun x i => h' x (100 * f + i)) (bA (h' (63 + 5 * f + 1)) (h' (63 + 5 * f) 2)) (h' (63 + 5 * f + 2)) (nPn (h' 36 4) N) (ppr h') 0 0 (h' (61 + 5 * f) 2) := by
  obtain ⟨N, w', m, ⟨N0, N1⟩, nn, bb, rd, nx⟩ := Bd f f0 f1 e40
  refine ⟨N, w', m, ⟨N0, by omega⟩, ?_⟩
  rw [b2, show h' (63 + 5 * f + 1) = h (63 + 5 * f + 1) from funext fun i => (b4 i).1, show h' (63 + 5 * f + 2) = h (63 + 5 * f + 2) from funext fun i => (b4 i).2, nc, (sf f 2 f0 f1)]
  have sg : ∀ k j, (k = 67 ∨ k = 71) → 0 ≤ j → j < nPn (h 36 4) N k → ppr h' k j = ppr h k j ∧ llr h' k j = llr h k j := by
    intro k j hk j0 j1
    rcases hk with e | e <;> subst e
    · have j1 : j < h 36 4 := j1
      exact ⟨sc' j 2 j0 j1, sc' j 1 j0 j1⟩
    · have j1 : j < N := j1
      exact ⟨sf j 2 j0 (by omega), sf j 1 j0 (by omega)⟩
  refine ⟨nn, bb, RD_congr (fun k j hk j0 j1 => ⟨(sg k j hk j0 j1).1.symm, (sg k j hk j0 j1).2.symm⟩) rd, NX_cg (fun x i x0 x1 i0 i1 => o6 x _ x0 x1 (by omega) (by omega)) (fun k j hk j0 j1 => (sg k j hk j0 j1).1) nx⟩
theorem RdF_BfR {h g : HP} (R : RdF h g) : BfR h g := ⟨fun a i p => R.1 a i (by omega) (by omega) (by omega) (by omega), fun a i p q r => R.1 a i (by omega) (by omega) (by omega) (by omega), fun i p => R.1 135 i (by omega) (by omega) (by omega) (by omega), ⟨fun a i p q => R.1 a i (by omega) (by omega) (by omega) (by omega), fun a i p q => R.1 a i (by omega) (by omega) (by omega) (by omega)⟩, R.2⟩
end
