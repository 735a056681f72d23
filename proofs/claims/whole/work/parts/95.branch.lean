section
/-! branches of the types -/
def opH (h : HP) (T : Int) : HP := up2 (up2 (up2 h (T + 1) (h T 15) (h T 13)) (T + 2) (h T 15) (h T 14)) T 15 (h T 15 + 1)
theorem opH_o {h : HP} {T a i : Int} (q1 : a ≠ T + 1) (q2 : a ≠ T + 2) (q3 : ¬ (a = T ∧ i = 15)) : opH h T a i = h a i := by
  unfold opH
  rw [up2_ext q3, up2_nc q2, up2_nc q1]
theorem FB_ag {h h' : HP} {T R n L : Int} {c : Int → Int} (F : FB h T R n L c) (e13 : h' T 13 = n) (e14 : h' T 14 = L) (r3 : ∀ i, 0 ≤ i → i < n → h' (T + 3) i = h (T + 3) i) (ag : Ag n (ar4 h T) (ar4 h' T)) (lg : ∀ i, 0 ≤ i → i < L → h' (T + 11) i = h (T + 11) i ∧ h' (T + 12) i = h (T + 12) i ∧ h' (T + 13) i = h (T + 13) i) : FB h' T R n L c := by
  obtain ⟨hT, ⟨hn, n0, nR⟩, hL, eL, Fr, M1, M2, Hs, H8⟩ := F
  have a7 : ∀ i, 0 ≤ i → i < n → h' (T + 7) i = h (T + 7) i := fun i a b => (ag i a b).1.symm
  have a8 : ∀ i, 0 ≤ i → i < n → h' (T + 8) i = h (T + 8) i := fun i a b => (ag i a b).2.1.symm
  have a9 : ∀ i, 0 ≤ i → i < n → h' (T + 9) i = h (T + 9) i := fun i a b => (ag i a b).2.2.1.symm
  have a10 : ∀ i, 0 ≤ i → i < n → h' (T + 10) i = h (T + 10) i := fun i a b => (ag i a b).2.2.2.symm
  refine ⟨hT, ⟨e13, n0, nR⟩, e14, eL, ?_, ?_, ?_, ⟨?_, ?_⟩, ?_⟩
  · intro x x0 x1
    have f := Fr x x0 x1
    rw [a7 x x0 x1, a7 (c x) f.2.1.1 f.2.1.2, a8 x x0 x1, a8 _ f.1.1 f.1.2]
    exact f
  · intro x x0 x1
    have f := Fr x x0 x1
    obtain ⟨⟨y, y0, y1, y2, y3⟩, m⟩ := M1 x x0 x1
    rw [a9 (c x) f.2.1.1 f.2.1.2]
    refine ⟨⟨y, y0, y1, y2, ?_⟩, fun z z0 z1 hz => ?_⟩
    · rw [y3]; unfold kyF; rw [r3 y y0 y1]
    · have := m z z0 z1 hz
      unfold kyF at *
      rw [r3 z z0 z1]; exact this
  · intro x x0 x1
    have f := Fr x x0 x1
    rw [a10 (c x) f.2.1.1 f.2.1.2]
    exact M2 x x0 x1
  · intro i i0 i1
    rw [(lg i i0 i1).1]; exact Hs.1 i i0 i1
  · intro m hm x x0 x1
    have g := Hs.2 m hm x x0 x1
    rw [UN_log0 (lk := h (T + 11)) (ol := h (T + 12)) (ow := h (T + 13)) m L _ hm lg]
    have u := UN_Ag (n := n) (lk := h (T + 11)) (ol := h (T + 12)) (ow := h (T + 13)) m L (ar4 h T) (ar4 h' T) ag hm Hs.1 (fun x a b => (Fr x a b).1) x x0 x1
    rw [← u.1, ← u.2.1]
    exact g
  · intro x x0 x1
    rw [r3 x x0 x1]; exact H8 x x0 x1
theorem Wst_ag {lo hi : Int} {hd fa fb hd' fa' fb' : Int → Int} {tm : Int → Tm} (W : Wst lo hi hd fa fb tm) (e : ∀ i, lo ≤ i → i < hi → hd' i = hd i ∧ fa' i = fa i ∧ fb' i = fb i) : Wst lo hi hd' fa' fb' tm := by
  refine ⟨fun x x0 x1 => ?_, fun x y x0 x1 y0 y1 hx hy => ?_⟩
  · obtain ⟨a, b, c⟩ := e x x0 x1
    rw [a, b, c]; exact W.1 x x0 x1
  · rw [(e x x0 x1).1] at hx
    rw [(e y y0 y1).1] at hy
    exact W.2 x y x0 x1 y0 y1 hx hy
theorem Ptn_ag {lo hi : Int} {hd fa fb hd' fa' fb' : Int → Int} {tm : Int → Tm} {c : Int → Int} {S : Sx} (P : Ptn lo hi hd fa fb tm c S) (e : ∀ i, lo ≤ i → i < hi → hd' i = hd i ∧ fa' i = fa i ∧ fb' i = fb i) : Ptn lo hi hd' fa' fb' tm c S :=
  Ptn_of_E (Wst_ag P.1 e) (fun x y a b a' b' => Ptn_eq P a b a' b') (Ptn_sat P) (fun θ r => (P.2.2.2.2.1 θ).mpr r) P.2.2.2.2.2
/-- the class's types are what their rows hold below the counts -/
theorem CW_ag {h h' : HP} {T R : Int} {tm : Int → Tm} {S : Sx} {c : Int → Int} (W : CW h T R tm S c) (e13 : h' T 13 = h T 13) (e14 : h' T 14 = h T 14) (e15 : h' T 15 = h T 15) (rows : ∀ i, 0 ≤ i → i < h T 13 → h' (T + 3) i = h (T + 3) i ∧ h' (T + 4) i = h (T + 4) i ∧ h' (T + 5) i = h (T + 5) i ∧ h' (T + 6) i = h (T + 6) i) (ag : Ag (h T 13) (ar4 h T) (ar4 h' T)) (lg : ∀ i, 0 ≤ i → i < h T 14 → h' (T + 11) i = h (T + 11) i ∧ h' (T + 12) i = h (T + 12) i ∧ h' (T + 13) i = h (T + 13) i) : CW h' T R tm S c := by
  obtain ⟨F, P, U, NA, hb, hd0⟩ := W
  refine ⟨?_, ?_, ?_, ?_, ?_, ?_⟩
  · rw [e13, e14]; exact FB_ag F e13 e14 (fun i a b => (rows i a b).1) ag lg
  · rw [e13]; exact Ptn_ag P (fun i a b => ⟨(rows i a b).1, (rows i a b).2.1, (rows i a b).2.2.1⟩)
  · rw [e13]
    intro x y x0 x1 y0 y1 q1 q2 q3 q4
    obtain ⟨a1, a2, a3, a4⟩ := rows x x0 x1
    obtain ⟨b1, b2, b3, b4⟩ := rows y y0 y1
    rw [a1] at q1 q2 q3 q4
    rw [b1] at q1
    rw [a2, b2] at q3
    rw [a3, b3] at q4
    exact U x y x0 x1 y0 y1 q1 q2 q3 q4
  · rw [e13]
    intro x x0 x1
    obtain ⟨a1, a2, a3, a4⟩ := rows x x0 x1
    rw [a1, a2, a3]; exact NA x x0 x1
  · rw [e13, e15]
    intro x y x0 xy y1
    rw [(rows x x0 (by omega)).2.2.2, (rows y (by omega) y1).2.2.2]
    exact hb x y x0 xy y1
  · rw [e15]; exact hd0
theorem CW_opH {h : HP} {T R : Int} {tm : Int → Tm} {S : Sx} {c : Int → Int} (W : CW h T R tm S c) : CW (opH h T) T R tm S c := by
  have o : ∀ k i, 3 ≤ k → k ≤ 13 → opH h T (T + k) i = h (T + k) i := fun k i a b => opH_o (by omega) (by omega) (by omega)
  have f : ∀ i, i ≠ 15 → opH h T T i = h T i := fun i q => opH_o (by omega) (by omega) (fun z => q z.2)
  have f15 : opH h T T 15 = h T 15 + 1 := up2_eq
  obtain ⟨F, P, U, NA, hb, hd0⟩ := W
  have r : ∀ k, 3 ≤ k → k ≤ 13 → opH h T (T + k) = h (T + k) := fun k a b => funext fun i => o k i a b
  refine ⟨?_, ?_, ?_, ?_, ?_, ?_⟩
  · rw [f 13 (by decide), f 14 (by decide)]
    unfold FB ar4 at *
    rw [f 13 (by decide), f 14 (by decide), r 3 (by omega) (by omega), r 7 (by omega) (by omega), r 8 (by omega) (by omega), r 9 (by omega) (by omega), r 10 (by omega) (by omega), r 11 (by omega) (by omega), r 12 (by omega) (by omega), r 13 (by omega) (by omega)]
    exact F
  · rw [f 13 (by decide), r 3 (by omega) (by omega), r 4 (by omega) (by omega), r 5 (by omega) (by omega)]; exact P
  · rw [f 13 (by decide), r 3 (by omega) (by omega), r 4 (by omega) (by omega), r 5 (by omega) (by omega)]; exact U
  · rw [f 13 (by decide), r 3 (by omega) (by omega), r 4 (by omega) (by omega), r 5 (by omega) (by omega)]; exact NA
  · rw [f 13 (by decide), f15, r 6 (by omega) (by omega)]
    intro x y a b e
    have := hb x y a b e
    omega
  · omega
theorem c_open {d : Nat} {h : HP} {T R : Int} {Q : PQ} (hT : TR T R) (h0 : 0 ≤ h T 15) (h1 : h T 15 < 32) (H : Q 0 (opH h T)) : Go d M_Types_openBranch 0 [(17, T)] [] h Q := by
  refine W_Types_openBranch_0 hT ⟨fun w => by omega, fun _ => ⟨⟨h0, h1⟩, ?_⟩⟩
  rintro g1 rfl
  rw [up2_nc (show T ≠ T + 1 by omega), up2_nc (show T ≠ T + 1 by omega)]
  refine ⟨⟨h0, h1⟩, ?_⟩
  rintro g2 rfl
  rw [up2_nc (show T ≠ T + 2 by omega), up2_nc (show T ≠ T + 1 by omega)]
  refine ⟨by unfold r32; omega, ?_⟩
  rintro g3 rfl
  exact H
theorem c_close {d : Nat} {h0 h : HP} {T R : Int} {tm : Int → Tm} {S : Sx} {c c' : Int → Int} {n L : Int} {Q : PQ} (hd : 0 < d) (W : CW h0 T R tm S c) (h15 : h0 T 15 < 32) (X : ExC T (opH h0 T) h) (F : FB h T R n L c')
    (H : ∀ h', CW h' T R tm S c → ExC T h0 h' → h' T 13 = h0 T 13 → h' T 14 = h0 T 14 → (∀ a i, T + 14 ≤ a → a ≤ T + 24 → h' a i = h a i) → Q 0 h') : Go d M_Types_closeBranch 0 [(17, T)] [] h Q := by
  have L0 := CW_L0 W
  have hd0 := W.2.2.2.2.2
  have o : ∀ k i, 3 ≤ k → k ≤ 13 → opH h0 T (T + k) i = h0 (T + k) i := fun k i a b => opH_o (by omega) (by omega) (by omega)
  have f : ∀ i, i ≠ 15 → opH h0 T T i = h0 T i := fun i q => opH_o (by omega) (by omega) (fun z => q z.2)
  have f15 : opH h0 T T 15 = h0 T 15 + 1 := up2_eq
  have fm1 : opH h0 T (T + 1) (h0 T 15) = h0 T 13 := by unfold opH; rw [up2_nc (by omega), up2_nc (by omega), up2_eq]
  have fm2 : opH h0 T (T + 2) (h0 T 15) = h0 T 14 := by unfold opH; rw [up2_nc (by omega), up2_eq]
  obtain ⟨⟨x1, x2, x3⟩, x4, x5, x6, x7, x8⟩ := X
  rw [f 13 (by decide)] at x1 x4 x7
  rw [f 14 (by decide)] at x2 x5 x7
  rw [f15] at x3 x6
  obtain ⟨hT, ⟨hn, n0, nR⟩, hL, eL, Fr, M1, M2, Hs, H8⟩ := F
  have tr := TR_le hT
  have bd := cnt_bd (p := fun x => c' x = x) n0
  have y6 := x6 (h0 T 15) hd0 (by omega)
  rw [fm1, fm2] at y6
  refine W_Types_closeBranch_0 hT ⟨fun _ => ⟨by unfold r32; omega, ?_⟩, fun w => by omega⟩
  intro g1 e1
  have a15 : g1 T 15 = h0 T 15 := by rw [e1, up2_eq]; omega
  have aT : ∀ i, i ≠ 15 → g1 T i = h T i := fun i q => by rw [e1, up2_ni q]
  have ao : ∀ a i, a ≠ T → g1 a i = h a i := fun a i q => by rw [e1, up2_nc q]
  clear e1
  have ar : ∀ k, k ≠ 0 → g1 (T + k) = h (T + k) := fun k q => funext fun i => ao _ i (by omega)
  have aar : ar4 g1 T = ar4 h T := ar4_ext (ar 7 (by decide)) (ar 8 (by decide)) (ar 9 (by decide)) (ar 10 (by decide))
  rw [a15, ao (T + 2) _ (by omega), y6.2]
  refine ⟨fun w => by omega, fun _ => ⟨⟨hd0, h15⟩, hd, ?_⟩⟩
  refine c_undo hT n0 nR (k := h0 T 14) L0.1 (h T 14 - h0 T 14).toNat g1 _ _ (by rw [aT 14 (by decide)]; omega) (by rw [aT 14 (by decide)]; omega) ?_ (fun k U => ?_)
  · rw [aT 14 (by decide), ar 11 (by decide), ar 12 (by decide), ar 13 (by decide), aar, hL]; exact Hs
  · rw [aT 14 (by decide), ar 11 (by decide), ar 12 (by decide), ar 13 (by decide), aar] at U
    obtain ⟨u1, u2, u3⟩ := U
    rw [u3 T 15 (by omega) (by omega), a15, u3 (T + 1) _ (by omega) (by omega), ao (T + 1) _ (by omega), y6.1]
    refine ⟨⟨hd0, h15⟩, ?_⟩
    intro g3 e3
    have b13 : g3 T 13 = h0 T 13 := by rw [e3, up2_eq]
    have b14 : g3 T 14 = h0 T 14 := by rw [e3, up2_ni (by decide), u2]
    have b15 : g3 T 15 = h0 T 15 := by rw [e3, up2_ni (by decide), u3 T 15 (by omega) (by omega), a15]
    have bo : ∀ a i, (a < T + 7 ∨ T + 10 < a) → a ≠ T → g3 a i = h a i := fun a i q r => by rw [e3, up2_nc r, u3 a i q (by omega), ao a i r]
    have br : ar4 g3 T = UN (h (T + 11)) (h (T + 12)) (h (T + 13)) (h T 14) (h T 14 - h0 T 14).toNat (ar4 h T) := by
      rw [← u1]
      exact ar4_ext (by rw [e3, up2_rown (by omega)]) (by rw [e3, up2_rown (by omega)]) (by rw [e3, up2_rown (by omega)]) (by rw [e3, up2_rown (by omega)])
    clear e3
    have o4 : ar4 (opH h0 T) T = ar4 h0 T := ar4_ext (funext fun i => o 7 i (by omega) (by omega)) (funext fun i => o 8 i (by omega) (by omega)) (funext fun i => o 9 i (by omega) (by omega)) (funext fun i => o 10 i (by omega) (by omega))
    rw [o4] at x7
    have ag : Ag (h0 T 13) (ar4 h0 T) (ar4 g3 T) := by rw [br]; exact Ag_symm x7
    have rows : ∀ i, 0 ≤ i → i < h0 T 13 → g3 (T + 3) i = h0 (T + 3) i ∧ g3 (T + 4) i = h0 (T + 4) i ∧ g3 (T + 5) i = h0 (T + 5) i ∧ g3 (T + 6) i = h0 (T + 6) i := by
      intro i i0 i1
      have := x4 i i0 i1
      rw [o 3 i (by omega) (by omega), o 4 i (by omega) (by omega), o 5 i (by omega) (by omega), o 6 i (by omega) (by omega)] at this
      rw [bo (T + 3) i (by omega) (by omega), bo (T + 4) i (by omega) (by omega), bo (T + 5) i (by omega) (by omega), bo (T + 6) i (by omega) (by omega)]
      exact this
    have lg : ∀ i, 0 ≤ i → i < h0 T 14 → g3 (T + 11) i = h0 (T + 11) i ∧ g3 (T + 12) i = h0 (T + 12) i ∧ g3 (T + 13) i = h0 (T + 13) i := by
      intro i i0 i1
      have := x5 i i0 i1
      rw [o 11 i (by omega) (by omega), o 12 i (by omega) (by omega), o 13 i (by omega) (by omega)] at this
      rw [bo (T + 11) i (by omega) (by omega), bo (T + 12) i (by omega) (by omega), bo (T + 13) i (by omega) (by omega)]
      exact this
    refine H g3 (CW_ag W b13 b14 b15 rows ag lg) ⟨⟨by omega, by omega, b15⟩, rows, lg, fun i i0 i1 => ?_, ?_, fun a i q => ?_⟩ b13 b14 (fun a i p q => bo a i (by omega) (by omega))
    · have := x6 i i0 (by omega)
      rw [bo (T + 1) i (by omega) (by omega), bo (T + 2) i (by omega) (by omega), this.1, this.2]
      unfold opH
      rw [up2_nc (by omega), up2_nc (by omega), up2_ni (by omega), up2_nc (by omega), up2_ni (by omega), up2_nc (by omega)]
      exact ⟨rfl, rfl⟩
    · rw [b14, show (h0 T 14 - h0 T 14).toNat = 0 by omega]
      exact Ag_symm ag
    · rw [bo a i (by omega) (by omega), x8 a i q]
      exact opH_o (by omega) (by omega) (by omega)
end
