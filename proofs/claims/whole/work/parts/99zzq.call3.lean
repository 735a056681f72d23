section
def OG (h g : HP) (sc hs : Int) : Prop := ∀ a i, a < 93 ∨ 120 < a → ¬ (a = 121 ∧ sc ≤ i) → ¬ (a = 122 ∧ hs ≤ i) → ¬ (a = 92 ∧ i = 6) → g a i = h a i
theorem fin_good {h0 : HP} {A : Int} {h g h' : HP} {tm tm1 tm' : Int → Tm} {S S1 S' : Sx} {V V1 V' : Vx} {D sc hs n m m1 M : Int} {Γ : Int → Tm} (n0 : 0 ≤ n) (s : ST h0 A h tm S V D sc hs Γ m) (s1 : ST h0 A g tm1 S1 V1 D sc (hs + n) Γ m1) (X : XB 96 h tm g tm1) (og : OG h g sc hs) (s' : ST h0 A h' tm' S' V' D sc (hs + n) Γ M) (X' : XB 96 g tm1 h' tm') (o : KX g h' sc (hs + n)) : ST h0 A (up2 h' 92 6 hs) tm' S' V' D sc hs Γ M ∧ XB 96 h tm (up2 h' 92 6 hs) tm' ∧ KX h (up2 h' 92 6 hs) sc hs := by
  have k6 : h 92 6 = hs := s.2.1.2.2.1.2.1
  have hr := s.2.1.2.2.2.2.2.1
  have kx : KX h (up2 h' 92 6 hs) sc hs := by
    intro a i p q r
    by_cases z : a = 92 ∧ i = 6
    · rw [z.1, z.2, up2_eq, k6]
    · rw [up2_ext z, o a i p q (by omega)]
      exact og a i p q r z
  refine ⟨⟨KB_x s.1 kx, KS_hs s'.2.1 (by omega) (by omega), ?_⟩, ?_, kx⟩
  · rw [up2_nc (by omega)]; exact s'.2.2
  · exact XB_loc (LcC_refl 96 h) (fun a i p q => up2_nc (by omega)) (ST_X s s1 X X')
theorem fin_bad {h g h' : HP} {A sc hs n : Int} (n0 : 0 ≤ n) (og : OG h g sc hs) (z : KZ g h' sc (hs + n) A) : KZ h h' sc hs A := by
  intro a i p q r t u
  exact (z a i p q (by omega) t u).trans (og a i p q r (by omega))
theorem sgF_get {sb' : Int → Int → Int → Int} {ll pp : Int → Int → Int} {k j : Int} {mu : Int → Nat} {n : Int} (en : n = pp k j) (n0 : 0 ≤ n) (l : ((sgL (sb' k j) (ll k j) mu).length : Int) = n + 1) : ((sgF sb' ll pp k j mu).length : Int) = n ∧ ∀ i : Nat, (i : Int) < n → (sgF sb' ll pp k j mu)[i]? = (sgL (sb' k j) (ll k j) mu)[i]? := by
  subst en
  refine ⟨?_, fun i il => ?_⟩
  · show (((sgL (sb' k j) (ll k j) mu).take (pp k j).toNat).length : Int) = _
    rw [List.length_take]
    have : min (pp k j).toNat (sgL (sb' k j) (ll k j) mu).length = (pp k j).toNat := Nat.min_eq_left (by omega)
    rw [this]; omega
  · show ((sgL (sb' k j) (ll k j) mu).take (pp k j).toNat)[i]? = _
    rw [List.getElem?_take, if_pos (by omega)]
end
