section
/-! prepared bodies have their types -/
theorem ki1 {X : WX} {e : Int → Int} {Γ : Int → Tm} {sc q : Int} {t : Tm} (x : X q Γ sc t) : kiW X e Γ sc [t] q := ⟨x, trivial⟩
theorem ki2 {X : WX} {e : Int → Int} {Γ : Int → Tm} {sc q : Int} {t u : Tm} (q1 : Int) (h : e q = q1) (x : X q Γ sc t) (y : X q1 Γ sc u) : kiW X e Γ sc [t, u] q := ⟨x, by rw [h]; exact ⟨y, trivial⟩⟩
theorem w_b1 {e : Int → Int} {nP : Int → Int} {sb' : Int → Int → Int → Int} {ll pp : Int → Int → Int} {fm : Int → Int} {w r w' : Int} (G : GD (bA (aSCH 6) (aSLEN 6)) e nP pp ll 0 1 w r w') (p0 : pp 67 0 = ((1 : Nat) : Int)) (p1 : pp 67 1 = ((1 : Nat) : Int)) (p2 : pp 67 2 = ((3 : Nat) : Int)) (p3 : pp 67 3 = ((2 : Nat) : Int)) (p4 : pp 67 4 = ((1 : Nat) : Int)) (q0 : pp 71 0 = ((1 : Nat) : Int)) (s0 : ∀ α, sgT (sb' 67 0) (ll 67 0) α = [tI, tI]) (s1 : ∀ α, sgT (sb' 67 1) (ll 67 1) α = [tF 3 tI, tB]) (s2 : ∀ α, sgT (sb' 67 2) (ll 67 2) α = [tF 3 tB, tF 3 (α 0), tF 3 (α 0), α 0]) (s3 : ∀ α, sgT (sb' 67 3) (ll 67 3) α = [tF 3 (α 0), tF 3 (α 1), tP (α 0) (α 1)]) (s4 : ∀ α, sgT (sb' 67 4) (ll 67 4) α = [tF 3 (tP (α 0) (α 1)), α 0]) (f0 : ∀ α, sgT (sb' 71 0) (ll 71 0) α = [tF 3 (α 0), α 0]) (α : Int → Tm) : WT (bA (aSCH 6) (aSLEN 6)) e 5 sb' ll pp fm 0 (exG (fun _ => tI) 0 [tF 3 (α 0)]) 1 (α 0) := by
  have x : EXq (bA (aSCH 6) (aSLEN 6)) e nP pp ll 0 1 36 _ := X_m 1 2 3 36 (by decide +kernel) (by decide) (by decide) (by decide) (X_lf 2 (by unfold lfO; decide +kernel) (by decide))
    (X_kc 4 5 36 0 2 1 (by decide +kernel) (by decide) p0 (by decide) (by decide) (X_lf 5 (by unfold lfO; decide +kernel) (by decide))
    (X_kc 6 11 36 1 2 1 (by decide +kernel) (by decide) p1 (by decide) (by decide) (X_2 7 10 11 (by decide +kernel) (by decide) (X_s1 9 10 71 0 (by decide +kernel) (Or.inr rfl) (by decide) (by decide +kernel) q0 (by decide) (X_lf 10 (by unfold lfO; decide +kernel) (by decide))) (X_lf 11 (by unfold lfO; decide +kernel) (by decide)))
    (X_kc 12 22 36 2 4 3 (by decide +kernel) (by decide) p2 (by decide) (by decide) (X_3 13 16 19 22 (by decide +kernel) (by decide) (X_s1 15 16 71 0 (by decide +kernel) (Or.inr rfl) (by decide) (by decide +kernel) q0 (by decide) (X_lf 16 (by unfold lfO; decide +kernel) (by decide))) (X_s1 18 19 71 0 (by decide +kernel) (Or.inr rfl) (by decide) (by decide +kernel) q0 (by decide) (X_lf 19 (by unfold lfO; decide +kernel) (by decide))) (X_s1 21 22 71 0 (by decide +kernel) (Or.inr rfl) (by decide) (by decide +kernel) q0 (by decide) (X_lf 22 (by unfold lfO; decide +kernel) (by decide))))
    (X_kc 23 30 36 3 3 2 (by decide +kernel) (by decide) p3 (by decide) (by decide) (X_2 24 27 30 (by decide +kernel) (by decide) (X_s1 26 27 71 0 (by decide +kernel) (Or.inr rfl) (by decide) (by decide +kernel) q0 (by decide) (X_lf 27 (by unfold lfO; decide +kernel) (by decide))) (X_s1 29 30 71 0 (by decide +kernel) (Or.inr rfl) (by decide) (by decide +kernel) q0 (by decide) (X_lf 30 (by unfold lfO; decide +kernel) (by decide))))
    (X_kc 31 35 36 4 2 1 (by decide +kernel) (by decide) p4 (by decide) (by decide) (X_1 32 35 (by decide +kernel) (by decide) (X_s1 34 35 71 0 (by decide +kernel) (Or.inr rfl) (by decide) (by decide +kernel) q0 (by decide) (X_lf 35 (by unfold lfO; decide +kernel) (by decide)))) (X_ke 36 (by decide +kernel) (by decide)))))))
  have L := (x _ _ _ G).2
  obtain ⟨⟨e1, _⟩, ⟨e4, _⟩, ⟨e6, ⟨e7, _⟩, _⟩, ⟨e12, ⟨e13, _⟩, ⟨e16, _⟩, _⟩, ⟨e23, ⟨e24, _⟩, _⟩, ⟨e31, _⟩, _⟩ := L
  refine W_m 1 2 3 (α 0) 6 (by decide +kernel) (by decide) e1 (by decide) (W_v 0 (by decide +kernel) (by decide) rfl) ?_
  refine W_kc 4 5 0 2 (fun _ => [tI, tI]) (fun _ => [tI]) 1 (by decide +kernel) (by decide) (by decide) e4 (by decide) s0 p0 (fun _ => rfl) (fun β h => W_v 1 (by decide +kernel) (by decide) h) ?_
  refine W_kc 6 11 1 2 (fun _ => [tF 3 tI, tB]) (fun _ => [tF 3 tI]) 1 (by decide +kernel) (by decide) (by decide) e6 (by decide) s1 p1 (fun _ => rfl) (fun β h => W_ar 7 10 (Or.inr ⟨(by decide +kernel), (show tB = α 0 from h).symm⟩) (by decide) e7 (W_c 8 9 71 0 (fun _ => tI) [tF 3 (tI), tI] [tF 3 (tI)] 1 (by decide +kernel) (Or.inr rfl) (by decide) (by decide) (by decide +kernel) (f0 _) q0 rfl (ki1 (W_v 1 (by decide +kernel) (by decide) rfl)) rfl) (W_n (by decide +kernel))) ?_
  refine W_kc 12 22 2 4 (fun β => [tF 3 tB, tF 3 (β 0), tF 3 (β 0), β 0]) (fun β => [tF 3 tB, tF 3 (β 0), tF 3 (β 0)]) 3 (by decide +kernel) (by decide) (by decide) e12 (by decide) s2 p2 (fun _ => rfl) (fun β h => W_if 13 16 19 (by decide +kernel) (by decide) e13 e16 (W_c 14 15 71 0 (fun _ => tB) [tF 3 (tB), tB] [tF 3 (tB)] 1 (by decide +kernel) (Or.inr rfl) (by decide) (by decide) (by decide +kernel) (f0 _) q0 rfl (ki1 (W_v 1 (by decide +kernel) (by decide) rfl)) rfl) (W_c 17 18 71 0 (fun _ => α 0) [tF 3 (α 0), α 0] [tF 3 (α 0)] 1 (by decide +kernel) (Or.inr rfl) (by decide) (by decide) (by decide +kernel) (f0 _) q0 rfl (ki1 (W_v 2 (by decide +kernel) (by decide) (congrArg (tF 3) h))) rfl) (W_c 20 21 71 0 (fun _ => α 0) [tF 3 (α 0), α 0] [tF 3 (α 0)] 1 (by decide +kernel) (Or.inr rfl) (by decide) (by decide) (by decide +kernel) (f0 _) q0 rfl (ki1 (W_v 3 (by decide +kernel) (by decide) (congrArg (tF 3) h))) rfl)) ?_
  refine W_kc 23 30 3 3 (fun β => [tF 3 (β 0), tF 3 (β 1), tP (β 0) (β 1)]) (fun β => [tF 3 (β 0), tF 3 (β 1)]) 2 (by decide +kernel) (by decide) (by decide) e23 (by decide) s3 p3 (fun _ => rfl) (fun β h => ?_) ?_
  · have h : tP (β 0) (β 1) = α 0 := h
    rw [← h]
    exact W_pr 24 27 (by decide +kernel) (by decide) e24 (W_c 25 26 71 0 (fun _ => β 0) [tF 3 (β 0), β 0] [tF 3 (β 0)] 1 (by decide +kernel) (Or.inr rfl) (by decide) (by decide) (by decide +kernel) (f0 _) q0 rfl (ki1 (W_v 1 (by decide +kernel) (by decide) rfl)) rfl) (W_c 28 29 71 0 (fun _ => β 1) [tF 3 (β 1), β 1] [tF 3 (β 1)] 1 (by decide +kernel) (Or.inr rfl) (by decide) (by decide) (by decide +kernel) (f0 _) q0 rfl (ki1 (W_v 2 (by decide +kernel) (by decide) rfl)) rfl)
  refine W_kc 31 35 4 2 (fun β => [tF 3 (tP (β 0) (β 1)), β 0]) (fun β => [tF 3 (tP (β 0) (β 1))]) 1 (by decide +kernel) (by decide) (by decide) e31 (by decide) s4 p4 (fun _ => rfl) (fun β h => W_lf 32 (β 1) (by decide +kernel) (by decide) (W_c 33 34 71 0 (fun _ => tP (α 0) (β 1)) [tF 3 (tP (α 0) (β 1)), tP (α 0) (β 1)] [tF 3 (tP (α 0) (β 1))] 1 (by decide +kernel) (Or.inr rfl) (by decide) (by decide) (by decide +kernel) (f0 _) q0 rfl (ki1 (W_v 1 (by decide +kernel) (by decide) (congrArg (fun z => tF 3 (tP z (β 1))) h))) rfl)) ?_
  exact W_ke (by decide +kernel) (fun j _ j0 j1 ns => absurd (show (((((False ∨ j = 0) ∨ j = 1) ∨ j = 2) ∨ j = 3) ∨ j = 4) by omega) ns)
theorem w_b2 {e : Int → Int} {nP : Int → Int} {sb' : Int → Int → Int → Int} {ll pp : Int → Int → Int} {fm : Int → Int} {w r w' : Int} (G : GD (bA (aSCH 9) (aSLEN 9)) e nP pp ll 0 2 w r w') (p0 : pp 67 0 = ((0 : Nat) : Int)) (s0 : ∀ α, sgT (sb' 67 0) (ll 67 0) α = [tP (α 0) (α 0)]) (α : Int → Tm) : WT (bA (aSCH 9) (aSLEN 9)) e 1 sb' ll pp fm 0 (exG (fun _ => tI) 0 [tF 3 (tP (α 0) (α 1)), α 0]) 2 (α 1) := by
  have x : EXq (bA (aSCH 9) (aSLEN 9)) e nP pp ll 0 2 6 _ := X_m 1 2 3 6 (by decide +kernel) (by decide) (by decide) (by decide) (X_lf 2 (by unfold lfO; decide +kernel) (by decide)) (X_kc 4 5 6 0 2 0 (by decide +kernel) (by decide) p0 (by decide) (by decide) (X_lf 5 (by unfold lfO; decide +kernel) (by decide)) (X_ke 6 (by decide +kernel) (by decide)))
  obtain ⟨⟨e1, _⟩, ⟨e4, _⟩, _⟩ := (x _ _ _ G).2
  refine W_m 1 2 3 (tP (α 0) (α 1)) 2 (by decide +kernel) (by decide) e1 (by decide) (W_v 0 (by decide +kernel) (by decide) rfl) ?_
  refine W_kc 4 5 0 2 (fun β => [tP (β 0) (β 0)]) (fun _ => []) 0 (by decide +kernel) (by decide) (by decide) e4 (by decide) s0 p0 (fun _ => rfl) (fun β h => W_v 1 (by decide +kernel) (by decide) ?_) (W_ke (by decide +kernel) (fun j _ j0 j1 ns => absurd (show (False ∨ j = 0) by omega) ns))
  have h : tP (β 0) (β 0) = tP (α 0) (α 1) := h
  injection h with h1 h2
  exact h1.symm.trans h2
theorem w_b3 {e : Int → Int} {nP : Int → Int} {sb' : Int → Int → Int → Int} {ll pp : Int → Int → Int} {fm : Int → Int} {w r w' : Int} (G : GD (bA (aSCH 9) (aSLEN 9)) e nP pp ll 0 2 w r w') (p0 : pp 67 0 = ((0 : Nat) : Int)) (s0 : ∀ α, sgT (sb' 67 0) (ll 67 0) α = [tP (α 0) (α 0)]) (α : Int → Tm) : WT (bA (aSCH 9) (aSLEN 9)) e 1 sb' ll pp fm 0 (exG (fun _ => tI) 0 [tF 3 (tP (α 0) (α 1)), tF 3 (tP (α 1) (α 2))]) 2 (tF 3 (tP (α 0) (α 2))) := by
  have x : EXq (bA (aSCH 9) (aSLEN 9)) e nP pp ll 0 2 6 _ := X_m 1 2 3 6 (by decide +kernel) (by decide) (by decide) (by decide) (X_lf 2 (by unfold lfO; decide +kernel) (by decide)) (X_kc 4 5 6 0 2 0 (by decide +kernel) (by decide) p0 (by decide) (by decide) (X_lf 5 (by unfold lfO; decide +kernel) (by decide)) (X_ke 6 (by decide +kernel) (by decide)))
  obtain ⟨⟨e1, _⟩, ⟨e4, _⟩, _⟩ := (x _ _ _ G).2
  refine W_m 1 2 3 (tP (α 0) (α 1)) 2 (by decide +kernel) (by decide) e1 (by decide) (W_v 0 (by decide +kernel) (by decide) rfl) ?_
  refine W_kc 4 5 0 2 (fun β => [tP (β 0) (β 0)]) (fun _ => []) 0 (by decide +kernel) (by decide) (by decide) e4 (by decide) s0 p0 (fun _ => rfl) (fun β h => W_v 1 (by decide +kernel) (by decide) ?_) (W_ke (by decide +kernel) (fun j _ j0 j1 ns => absurd (show (False ∨ j = 0) by omega) ns))
  have h : tP (β 0) (β 0) = tP (α 0) (α 1) := h
  injection h with h1 h2
  show tF 3 (tP (α 1) (α 2)) = tF 3 (tP (α 0) (α 2))
  rw [← h1, ← h2]
theorem w_b4 {e : Int → Int} {nP : Int → Int} {sb' : Int → Int → Int → Int} {ll pp : Int → Int → Int} {fm : Int → Int} {w r w' : Int} (G : GD (bA (aSCH 11) (aSLEN 11)) e nP pp ll 0 1 w r w') (p0 : pp 67 0 = ((0 : Nat) : Int)) (s0 : ∀ α, sgT (sb' 67 0) (ll 67 0) α = [tP (α 0) (α 0)]) (hf : fm 0 = 0) (α : Int → Tm) : WT (bA (aSCH 11) (aSLEN 11)) e 1 sb' ll pp fm 0 (exG (fun _ => tI) 0 [tF 3 (tP (α 0) (α 1))]) 1 (tF 3 (tP (α 1) (α 0))) := by
  have x : EXq (bA (aSCH 11) (aSLEN 11)) e nP pp ll 0 1 7 _ := X_m 1 2 3 7 (by decide +kernel) (by decide) (by decide) (by decide) (X_lf 2 (by unfold lfO; decide +kernel) (by decide)) (X_kc 4 6 7 0 1 0 (by decide +kernel) (by decide) p0 (by decide) (by decide) (X_s0 6 67 0 (by decide +kernel) (Or.inl rfl) (by decide) (by decide +kernel) p0 (by decide)) (X_ke 7 (by decide +kernel) (by decide)))
  obtain ⟨⟨e1, _⟩, ⟨e4, _⟩, _⟩ := (x _ _ _ G).2
  refine W_m 1 2 3 (tP (α 0) (α 1)) 2 (by decide +kernel) (by decide) e1 (by decide) (W_v 0 (by decide +kernel) (by decide) rfl) ?_
  refine W_kc 4 6 0 1 (fun β => [tP (β 0) (β 0)]) (fun _ => []) 0 (by decide +kernel) (by decide) (by decide) e4 (by decide) s0 p0 (fun _ => rfl) (fun β h => ?_) (W_ke (by decide +kernel) (fun j _ j0 j1 ns => absurd (show (False ∨ j = 0) by omega) ns))
  have h : tP (β 0) (β 0) = tP (α 0) (α 1) := h
  injection h with h1 h2
  refine W_c 5 6 67 0 β [tP (β 0) (β 0)] [] 0 (by decide +kernel) (Or.inl rfl) (by decide) (by decide) (by decide +kernel) (s0 β) p0 rfl trivial ?_
  show tF 3 (tP (α 1) (α 0)) = tF (3 + fm 0) (tP (β 0) (β 0))
  rw [hf, ← h1, ← h2]
  rfl
theorem w_b5 {e : Int → Int} {nP : Int → Int} {sb' : Int → Int → Int → Int} {ll pp : Int → Int → Int} {fm : Int → Int} {w r w' : Int} (G : GD (bA (aSCH 16) (aSLEN 16)) e nP pp ll 0 1 w r w') (p0 : pp 67 0 = ((0 : Nat) : Int)) (p1 : pp 67 1 = ((2 : Nat) : Int)) (s0 : ∀ α, sgT (sb' 67 0) (ll 67 0) α = [tI]) (s1 : ∀ α, sgT (sb' 67 1) (ll 67 1) α = [tI, tF 3 (α 0), tP tI (α 0)]) (α : Int → Tm) : WT (bA (aSCH 16) (aSLEN 16)) e 2 sb' ll pp fm 0 (exG (fun _ => tI) 0 [tF 3 (tP tI (α 0))]) 1 tI := by
  have x : EXq (bA (aSCH 16) (aSLEN 16)) e nP pp ll 0 1 6 _ := X_m 1 2 3 6 (by decide +kernel) (by decide) (by decide) (by decide) (X_lf 2 (by unfold lfO; decide +kernel) (by decide)) (X_kc 4 5 6 1 3 2 (by decide +kernel) (by decide) p1 (by decide) (by decide) (X_lf 5 (by unfold lfO; decide +kernel) (by decide)) (X_ke 6 (by decide +kernel) (by decide)))
  obtain ⟨⟨e1, _⟩, ⟨e4, _⟩, _⟩ := (x _ _ _ G).2
  refine W_m 1 2 3 (tP tI (α 0)) 2 (by decide +kernel) (by decide) e1 (by decide) (W_v 0 (by decide +kernel) (by decide) rfl) ?_
  refine W_kc 4 5 1 3 (fun β => [tI, tF 3 (β 0), tP tI (β 0)]) (fun β => [tI, tF 3 (β 0)]) 2 (by decide +kernel) (by decide) (by decide) e4 (by decide) s1 p1 (fun _ => rfl) (fun β h => W_v 1 (by decide +kernel) (by decide) rfl) (W_ke (by decide +kernel) (fun j β j0 j1 ns => ?_))
  have j0' : j = 0 := by
    have : ¬ (False ∨ j = 1) := ns
    omega
  subst j0'
  rw [sgTI_L (s0 β) p0]
  intro z
  injection z
theorem w_b6 {e : Int → Int} {nP : Int → Int} {sb' : Int → Int → Int → Int} {ll pp : Int → Int → Int} {fm : Int → Int} {w r w' : Int} (G : GD (bA (aSCH 18) (aSLEN 18)) e nP pp ll 0 2 w r w') (p0 : pp 67 0 = ((0 : Nat) : Int)) (p1 : pp 67 1 = ((2 : Nat) : Int)) (s0 : ∀ α, sgT (sb' 67 0) (ll 67 0) α = [tI]) (s1 : ∀ α, sgT (sb' 67 1) (ll 67 1) α = [tI, tF 3 (α 0), tP tI (α 0)]) (q1 : pp 71 1 = ((2 : Nat) : Int)) (f1 : ∀ α, sgT (sb' 71 1) (ll 71 1) α = [tF 3 (α 0), tF 3 (α 0), tF 3 (α 0)]) (hf : fm 0 = 0) (hf1 : fm 1 = 0) (α : Int → Tm) : WT (bA (aSCH 18) (aSLEN 18)) e 2 sb' ll pp fm 0 (exG (fun _ => tI) 0 [tF 3 (α 0), tF 3 (α 0)]) 2 (tF 3 (α 0)) := by
  have x : EXq (bA (aSCH 18) (aSLEN 18)) e nP pp ll 0 2 22 _ := X_m 1 2 3 22 (by decide +kernel) (by decide) (by decide) (by decide) (X_lf 2 (by unfold lfO; decide +kernel) (by decide))
    (X_kc 4 6 22 0 2 0 (by decide +kernel) (by decide) p0 (by decide) (by decide) (X_s0 6 67 0 (by decide +kernel) (Or.inl rfl) (by decide) (by decide +kernel) p0 (by decide))
    (X_kc 7 21 22 1 4 2 (by decide +kernel) (by decide) p1 (by decide) (by decide) (X_m 8 9 10 21 (by decide +kernel) (by decide) (by decide) (by decide) (X_lf 9 (by unfold lfO; decide +kernel) (by decide))
      (X_kc 11 20 21 1 6 2 (by decide +kernel) (by decide) p1 (by decide) (by decide) (X_s2 13 16 20 67 1 (by decide +kernel) (Or.inl rfl) (by decide) (by decide +kernel) p1 (by decide) (X_2 14 15 16 (by decide +kernel) (by decide) (X_lf 15 (by unfold lfO; decide +kernel) (by decide)) (X_lf 16 (by unfold lfO; decide +kernel) (by decide))) (X_s2 18 19 20 71 1 (by decide +kernel) (Or.inr rfl) (by decide) (by decide +kernel) q1 (by decide) (X_lf 19 (by unfold lfO; decide +kernel) (by decide)) (X_lf 20 (by unfold lfO; decide +kernel) (by decide))))
      (X_ke 21 (by decide +kernel) (by decide))))
    (X_ke 22 (by decide +kernel) (by decide))))
  obtain ⟨⟨e1, _⟩, ⟨e4, _⟩, ⟨e7, ⟨e8, _⟩, ⟨e11, ⟨e13, ⟨e14, _⟩, _⟩, e16, ⟨e18, _⟩, _⟩, _⟩, _⟩ := (x _ _ _ G).2
  refine W_m 1 2 3 (α 0) 3 (by decide +kernel) (by decide) e1 (by decide) (W_v 0 (by decide +kernel) (by decide) rfl) ?_
  refine W_kc 4 6 0 2 (fun _ => [tI]) (fun _ => []) 0 (by decide +kernel) (by decide) (by decide) e4 (by decide) s0 p0 (fun _ => rfl) (fun β h => ?_) ?_
  · have h : tI = α 0 := h
    refine W_c 5 6 67 0 β [tI] [] 0 (by decide +kernel) (Or.inl rfl) (by decide) (by decide) (by decide +kernel) (s0 β) p0 rfl trivial ?_
    show tF 3 (α 0) = tF (3 + fm 0) tI
    rw [hf, ← h]
    rfl
  refine W_kc 7 21 1 4 (fun β => [tI, tF 3 (β 0), tP tI (β 0)]) (fun β => [tI, tF 3 (β 0)]) 2 (by decide +kernel) (by decide) (by decide) e7 (by decide) s1 p1 (fun _ => rfl) (fun β h => ?_) (W_ke (by decide +kernel) (fun j _ j0 j1 ns => absurd (show ((False ∨ j = 0) ∨ j = 1) by omega) ns))
  have h : tP tI (β 0) = α 0 := h
  refine W_m 8 9 10 (α 0) 2 (by decide +kernel) (by decide) e8 (by decide) (W_v 1 (by decide +kernel) (by decide) rfl) ?_
  refine W_kc 11 20 1 6 (fun β => [tI, tF 3 (β 0), tP tI (β 0)]) (fun β => [tI, tF 3 (β 0)]) 2 (by decide +kernel) (by decide) (by decide) e11 (by decide) s1 p1 (fun _ => rfl) (fun γ g => ?_) (W_ke (by decide +kernel) (fun j δ j0 j1 ns => ?_))
  · have g : tP tI (γ 0) = α 0 := g
    have gb : γ 0 = β 0 := by
      have := g.trans h.symm
      injection this
    refine W_c 12 13 67 1 β [tI, tF 3 (β 0), tP tI (β 0)] [tI, tF 3 (β 0)] 2 (by decide +kernel) (Or.inl rfl) (by decide) (by decide) (by decide +kernel) (s1 β) p1 rfl (ki2 16 e13 (W_ar 14 15 (Or.inl ⟨(by decide +kernel), rfl⟩) (by decide) e14 (W_v 2 (by decide +kernel) (by decide) rfl) (W_v 4 (by decide +kernel) (by decide) rfl)) (W_c 17 18 71 1 β [tF 3 (β 0), tF 3 (β 0), tF 3 (β 0)] [tF 3 (β 0), tF 3 (β 0)] 2 (by decide +kernel) (Or.inr rfl) (by decide) (by decide) (by decide +kernel) (f1 β) q1 rfl (ki2 19 e18 (W_v 3 (by decide +kernel) (by decide) rfl) (W_v 5 (by decide +kernel) (by decide) (congrArg (tF 3) gb))) rfl)) ?_
    show tF 3 (α 0) = tF (3 + fm 1) (tP tI (β 0))
    rw [hf1, ← h]
    rfl
  · have j0' : j = 0 := by
      have : ¬ (False ∨ j = 1) := ns
      omega
    subst j0'
    rw [sgTI_L (s0 δ) p0, ← h]
    intro z
    injection z
end
