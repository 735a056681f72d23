section
/-- a call's types are made and held: what stands then -/
theorem k_made {d : Nat} {h0 h : HP} {A : Int} {p sc w r w' hs D m v2 : Int} {tm : Int → Tm} {S : Sx} {V : Vx} {Γ : Int → Tm} {mu : Int → Nat} {Q : PQ} (bc : BC h0 A) (hd : 20 < d) (p0 : 0 ≤ p) (hc : bA (h0 (A + 1)) (h0 A 2) p = 67 ∨ bA (h0 (A + 1)) (h0 A 2) p = 71) (G : gd h0 A p sc w r w') (w0 : w ≤ 240) (w1 : h0 A 2 ≤ w) (s2 : 2 * hs ≤ 3 * p) (hm : m ≤ 26 + 3 * p + (w - h0 A 2)) (s : ST h0 A h tm S V D sc hs Γ m) (F : FrN V mu)
    (H : ∀ (k j sg n x : Int) (g : HP) (tm' : Int → Tm), k = bA (h0 (A + 1)) (h0 A 2) p → j = bA (h0 (A + 1)) (h0 A 2) (p + 1) - 48 → sg = cel k j → n = ppr h0 k j → (0 ≤ j ∧ j < nPr h0 k) → ST h0 A (up2 g 92 6 (hs + n)) tm' S (nV V mu (Oc (sbr h0 k j) 0 (llr h0 k j)) (8, D)) D sc (hs + n) Γ (m + llr h0 k j) → XB 96 h tm (up2 g 92 6 (hs + n)) tm' → (∀ a i, a < 93 ∨ 120 < a → ¬ (a = 122 ∧ hs ≤ i) → g a i = h a i) → (0 ≤ x ∧ x < g 96 13 ∧ tm' x = sgR' (sbr h0) (llr h0) (ppr h0) k j mu) → (∀ i : Nat, (i : Int) < n → 0 ≤ g 122 (hs + i) ∧ g 122 (hs + i) < g 96 13 ∧ (sgL (sbr h0 k j) (llr h0 k j) mu)[i]? = some (tm' (g 122 (hs + i)))) → Go d M_Checker_call 74 [(10, 92), (0, p), (0, v2), (36, sg), (0, x), (0, hs), (0, n), (2, 0)] [] g Q) :
    Go d M_Checker_call 0 [(10, 92), (0, p), (0, v2), (2, 0), (2, 0), (2, 0), (2, 0), (2, 0)] [] h Q := by
  have a0 := bc.1
  have bn := bc.2.1
  have pn := GD_n G p0
  have dd := (DcR_C bc.2.2.1).1
  have k6 : h 92 6 = hs := s.2.1.2.2.1.2.1
  have k7 : h 92 7 = A := s.2.1.2.2.1.2.2.1
  have hs0 := s.2.1.2.2.2.2.2.1.2.2.1
  have eD : h 96 15 = D := s.2.1.2.1
  have eA : h A 2 = h0 A 2 := s.1 A 2 (by omega) (by omega)
  have er : h (A + 1) = h0 (A + 1) := funext fun q => s.1 _ q (by omega) (by omega)
  have e4 : h 36 4 = h0 36 4 := s.1 36 4 (by omega) (by omega)
  have e5 : h 36 5 = h0 36 5 := s.1 36 5 (by omega) (by omega)
  have eP : nPr h = nPr h0 := funext fun k => by unfold nPr; rw [e4, e5]
  have sz : aSZ (A + 1) = 100 := by rcases a0 with e | e <;> subst e <;> rfl
  obtain ⟨ok, hw, _⟩ := GD_sign G p0 hc
  have j0 : 0 ≤ bA (h0 (A + 1)) (h0 A 2) (p + 1) - 48 := by have := ok.1; omega
  have j1 := ok.2.2
  have ce := cel_ok bc hc j0 j1
  generalize ek : bA (h0 (A + 1)) (h0 A 2) p = k at *
  generalize ej : bA (h0 (A + 1)) (h0 A 2) (p + 1) - 48 = j at *
  obtain ⟨⟨c1, c2⟩, csz, cl, cp, cb, ⟨l0, l1⟩, ⟨n0, n3⟩, O⟩ := ce
  have sg1 : h (cel k j) 1 = llr h0 k j := by rw [s.1 _ 1 (by omega) (by omega)]; exact cl
  have sg2 : h (cel k j) 2 = ppr h0 k j := by rw [s.1 _ 2 (by omega) (by omega)]; exact cp
  have sgb : h (cel k j + 1) = sbr h0 k j := by rw [← cb]; exact funext fun i => s.1 _ i (by omega) (by omega)
  have cn := s.2.2
  refine V_Checker_call_0 ⟨by omega, ?_⟩
  rw [k7]
  refine c_called (by omega) (by omega) sz (by omega) (by omega) (by omega) p0 (by omega) (by rw [er, eA, ek]; exact hc) (fun _ => ?_) (fun z => absurd ?_ z)
  · rw [er, eA, ek, ej]
    refine ⟨fun z => by omega, fun _ => ⟨by omega, ?_, fun _ => ⟨by omega, ?_⟩, fun z => by omega⟩⟩
    · rw [k6, sg2]; unfold r32; omega
    refine c_build (T := 96) (R := 512) (by omega) s.2.1.1 F (Or.inr rfl) csz (by omega) (by omega) (by omega) (by omega) (by rw [sg1, sgb, O]; exact n0) (by omega) (fun g I => ⟨by omega, by omega, ?_⟩)
    obtain ⟨tm', C2, X2, tp, St, _, nb, o⟩ := I
    rw [sg1, sgb] at C2 tp St
    rw [sg1] at nb
    rw [eD] at C2
    rw [show (llr h0 k j - 0).toNat = (llr h0 k j).toNat by omega] at tp St
    have ll : ((skT (sbr h0 k j) (fun v => tV (mu v)) (llr h0 k j).toNat 0 []).length : Int) = ppr h0 k j + 1 := sgL_len (mu := mu) l0 n0 O
    have lg := sgI_get (mu := mu) l0 n0 O
    have oo : ∀ a i, a < 93 ∨ 120 < a → g a i = h a i := fun a i q => o a i (by omega)
    have g2 : g (cel k j) 2 = ppr h0 k j := by rw [oo _ 2 (by omega)]; exact sg2
    rw [g2, show ppr h0 k j = ((ppr h0 k j).toNat : Int) by omega]
    refine c_partAt (T := 96) (R := 512) (tm := tm') (CV_L0 C2).2.2.2.2 tp (by omega) St lg (fun x x0 x1 ex => ?_)
    rw [oo 92 6 (by omega), k6]
    refine k_hold (tm := tm') (n := ppr h0 k j) (by omega) n0 ll n3 hs0 (by omega) C2 (by omega) (by omega) g2 tp St (fun g' o' r' => ?_)
    have e13 : g' 96 13 = g 96 13 := o' 96 13 (by omega)
    have lc : LcC 96 g (up2 g' 92 6 (hs + ppr h0 k j)) := fun a i p q => by rw [up2_nc (by omega)]; exact o' a i (by omega)
    have oh : ∀ a i, a < 93 ∨ 120 < a → ¬ (a = 122 ∧ hs ≤ i) → g' a i = h a i := fun a i p q => (o' a i q).trans (oo a i p)
    have XX : XB 96 h tm (up2 g' 92 6 (hs + ppr h0 k j)) tm' := XB_loc (LcC_refl 96 h) lc X2
    have Kg : KS g' tm' S (nV V mu (Oc (sbr h0 k j) 0 (llr h0 k j)) (8, D)) D sc hs A Γ := KS_step s.2.1 (CV_loc (fun a i p q => o' a i (by omega)) C2) (XB_loc (LcC_refl 96 h) (fun a i p q => o' a i (by omega)) X2) (fun a i p _ q => oh a i p q)
    refine H k j (cel k j) (ppr h0 k j) x g' tm' rfl rfl rfl rfl ⟨j0, j1⟩ ⟨fun a i p q => ?_, KS_hs Kg (by omega) (by omega), ?_⟩ XX oh ⟨x0, by rw [e13]; exact x1, ex⟩ (fun i il => by rw [e13]; exact r' i il)
    · rw [up2_nc (by omega), oh a i (by omega) (by omega)]; exact s.1 a i p q
    · rw [up2_nc (by omega), e13]; omega
  · rw [er, eA, eP, ek]
    exact ok
end
