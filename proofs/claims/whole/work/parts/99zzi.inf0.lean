section
theorem jn_in {h0 : HP} {A p : Int} {Γ : Int → Tm} {sc : Int} {S : Sx} {V : Vx} {D r : Int} {S' : Sx} {V' : Vx} {t : Tm} (H : JN (bA (h0 (A + 1)) (h0 A 2)) (h0 (A + 2)) (sbr h0) (llr h0) (ppr h0) (fun j => h0 (41 + 2 * j) 4) (jj h0 A) p Γ sc S V D r S' V' t) : jj h0 A p Γ sc none S V D r S' V' t := JJ_in H
theorem jc_in {h0 : HP} {A p : Int} {Γ : Int → Tm} {sc : Int} {g : Tm} {S : Sx} {V : Vx} {D r : Int} {S' : Sx} {V' : Vx} {t : Tm} (H : JC (bA (h0 (A + 1)) (h0 A 2)) (h0 (A + 2)) (h0 36 4) (sbr h0) (llr h0) (ppr h0) (fun j => h0 (41 + 2 * j) 4) (jj h0 A) p Γ sc g S V D r S' V' t) : jj h0 A p Γ sc (some g) S V D r S' V' t := JJ_in H
theorem BAD_mono {h0 : HP} {A p : Int} {Γ : Int → Tm} {sc : Int} {go : Option Tm} {S : Sx} {V : Vx} {D hs : Int} {h : HP} {R R' : HP → Prop} (H : BAD h0 A p Γ sc go S V D hs h R) (i : ∀ g, R g → R' g) : BAD h0 A p Γ sc go S V D hs h R' := fun h' k S' V' t a b c d e => i _ (H h' k S' V' t a b c d e)
theorem bc_w {h0 : HP} {A : Int} (bc : BC h0 A) : ∀ q sc w r w', 0 ≤ q → gd h0 A q sc w r w' → q < r ∧ r ≤ h0 A 2 ∧ w ≤ w' ∧ (w ≤ 240 → w' ≤ 240) := by
  intro q sc w r w' q0 G
  refine GD_w (fun k j hk j0 j1 => ?_) (h0 A 2 - q).toNat q sc w r w' q0 (by omega) G
  have D := DcR_C bc.2.2.1
  unfold llr
  unfold nPr at j1
  by_cases z : k = 71
  · rw [if_pos z] at *; exact (D.2.2 j j0 j1).1.1
  · rw [if_neg z] at *; exact (D.2.1 j j0 j1).1.1
def ClI (h0 : HP) (A : Int) (N : Nat) : Prop := ∀ (p sc w r w' hs D m : Int) (h : HP) (tm : Int → Tm) (S : Sx) (V : Vx) (Γ : Int → Tm) (d : Nat) (Q : PQ), (bA (h0 (A + 1)) (h0 A 2) p = 67 ∨ bA (h0 (A + 1)) (h0 A 2) p = 71) → 0 ≤ p → h0 A 2 + 1 - p ≤ N → 4 * N + 29 < d → gd h0 A p sc w r w' → w ≤ 240 → h0 A 2 ≤ w → sc ≤ 3 + p → 2 * hs ≤ 3 * p → 4 * D ≤ p → m ≤ 26 + 3 * p + (w - h0 A 2) → ST h0 A h tm S V D sc hs Γ m →
  (∀ x h' tm' S' V', jj h0 A p Γ sc none S V D 0 S' V' (tm' x) → 0 ≤ x → x < h' 96 13 → ST h0 A h' tm' S' V' D sc hs Γ (m + 3 * (r - p) + (w' - w)) → XB 96 h tm h' tm' → KX h h' sc hs → Q x h') → BAD h0 A p Γ sc none S V D hs h (Q (-1)) →
  Go d M_Checker_call 0 [(10, 92), (0, p), (0, -1), (2, 0), (2, 0), (2, 0), (2, 0), (2, 0)] [] h Q
theorem i_arith {d : Nat} {h0 h : HP} {A : Int} {N : Nat} {p sc w r w' hs D y1 f m : Int} {tm : Int → Tm} {S : Sx} {V : Vx} {Γ : Int → Tm} {P0 : HP → Prop} {Q : PQ} (bc : BC h0 A) (ck : CkT h0 A N) (p0 : 0 ≤ p) (hN : h0 A 2 - p ≤ N) (hd : 4 * N + 34 < d) (G : gd h0 A p sc w r w') (w0 : w ≤ 240) (w1 : h0 A 2 ≤ w) (s1 : sc ≤ 3 + p) (s2 : 2 * hs ≤ 3 * p) (s3 : 4 * D ≤ p) (hm : m ≤ 26 + 3 * p + (w - h0 A 2)) (s : ST h0 A h tm S V D sc hs Γ m) (hy : ∀ sc w r w', gd h0 A (p + 1) sc w r w' → y1 = r)
    (hc : bA (h0 (A + 1)) (h0 A 2) p = 43 ∨ bA (h0 (A + 1)) (h0 A 2) p = 45 ∨ bA (h0 (A + 1)) (h0 A 2) p = 60 ∨ bA (h0 (A + 1)) (h0 A 2) p = 61) (hf : f = if bA (h0 (A + 1)) (h0 A 2) p = 43 ∨ bA (h0 (A + 1)) (h0 A 2) p = 45 then 8 else 9)
    (HG : ∀ x h' tm' S' V', jj h0 A p Γ sc none S V D 0 S' V' (tm' x) → 0 ≤ x → x < h' 96 13 → ST h0 A h' tm' S' V' D sc hs Γ (m + 3 * (r - p) + (w' - w)) → XB 96 h tm h' tm' → KX h h' sc hs → Q x h') (HB : BAD h0 A p Γ sc none S V D hs h (Q (-1))) (hP : ∀ g, Q (-1) g → P0 g) :
    Go (d - 1) M_Checker_check 0 [(10, 92), (0, p + 1), (0, h 92 8), (2, 0), (2, 0), (2, 0)] [] h (fun y k => (y = 0 → P0 k) ∧ (y ≠ 0 → 0 < d ∧ Go (d - 1) M_Checker_check 0 [(10, 92), (0, y1), (0, k 92 8), (2, 0), (2, 0), (2, 0)] [] k (fun y' k' => (y' = 0 → P0 k') ∧ (y' ≠ 0 → Q (k' 92 f) k')))) := by
  have po : pO (bA (h0 (A + 1)) (h0 A 2) p) = ((1 : Nat) : Int) + 1 := by rcases hc with z | z | z | z <;> rw [z] <;> rfl
  refine k_two (P1 := fun k' => Q (k' 92 f) k') ck p0 hN hd (GD_op G po) (bc_w bc) w0 w1 s1 s2 s3 hm s hy (fun _ _ _ _ K => K.2.2.2.1) (fun h' tm' S1 V1 t1 S2 V2 t2 j1 j2 s' X o => ?_) (BAD_mono (BAD_sub HB s s (XB_refl 96 h tm) (KX_refl h sc hs) (fun k S' V' t k0 j => ⟨S, V, tI, jn_in (Or.inr (Or.inl ⟨hc, k, S', V', t, j, Or.inl ⟨k0, rfl⟩⟩))⟩)) hP) (fun h1 tm1 m S1 V1 t1 j1 s1 X o => BAD_mono (BAD_sub HB s s1 X o (fun k S' V' t k0 j => ⟨S, V, tI, jn_in (Or.inr (Or.inl ⟨hc, 0, S1, V1, t1, j1, Or.inr ⟨rfl, k, S', V', t, j, Or.inl ⟨k0, rfl⟩⟩⟩))⟩)) hP)
  have q8 := s'.2.1.2.2.2.1
  have q9 := s'.2.1.2.2.2.2.1
  have jw : ∀ t, t = (if bA (h0 (A + 1)) (h0 A 2) p = 43 ∨ bA (h0 (A + 1)) (h0 A 2) p = 45 then tI else tB) → jj h0 A p Γ sc none S V D 0 S2 V2 t := fun t e => jn_in (Or.inr (Or.inl ⟨hc, 0, S1, V1, t1, j1, Or.inr ⟨rfl, 0, S2, V2, t2, j2, Or.inr ⟨rfl, rfl, rfl, rfl, e⟩⟩⟩))
  by_cases z : bA (h0 (A + 1)) (h0 A 2) p = 43 ∨ bA (h0 (A + 1)) (h0 A 2) p = 45
  · rw [if_pos z] at hf
    subst hf
    exact HG _ h' tm' S2 V2 (jw _ (by rw [if_pos z]; exact q8.2.2)) q8.1 q8.2.1 s' X o
  · rw [if_neg z] at hf
    subst hf
    exact HG _ h' tm' S2 V2 (jw _ (by rw [if_neg z]; exact q9.2.2)) q9.1 q9.2.1 s' X o
/-- two fresh names -/
theorem fresh2 {h : HP} {T R : Int} {tm : Int → Tm} {S : Sx} {V : Vx} (C : CV h T R tm S V) : ∃ m1 m2, m1 ≠ m2 ∧ (V m1).1 < 7 ∧ (V m2).1 < 7 := by
  obtain ⟨c, W, hV⟩ := C
  obtain ⟨mu, F⟩ := fresh3 hV (Int.le_refl 0)
  exact ⟨mu 0, mu 1, fun z => absurd (F.2 0 1 (by omega) (by omega) (by omega) (by omega) z) (by decide), F.1 0 (by omega) (by omega), F.1 1 (by omega) (by omega)⟩
end
