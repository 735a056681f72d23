section
theorem UN_log0 {lk ol ow lk' ol' ow' : Int → Int} : ∀ (m : Nat) (L : Int) (A : Qd), (m : Int) ≤ L → (∀ i, 0 ≤ i → i < L → lk' i = lk i ∧ ol' i = ol i ∧ ow' i = ow i) → UN lk' ol' ow' L m A = UN lk ol ow L m A
  | 0, _, _, _, _ => rfl
  | m + 1, L, A, hm, h => by
    unfold UN
    obtain ⟨h1, h2, h3⟩ := h (L - 1) (by omega) (by omega)
    rw [h1, h2, h3]
    exact UN_log0 m (L - 1) _ (by omega) (fun i q r => h i q (by omega))
def UnR (h h' : HP) (T : Int) (A : Qd) (L : Int) : Prop := ar4 h' T = A ∧ h' T 14 = L ∧ (∀ a i, (a < T + 7 ∨ T + 10 < a) → ¬ (a = T ∧ i = 14) → h' a i = h a i)
theorem c_undo {d : Nat} {T R n k : Int} {Q : PQ} (hT : TR T R) (n0 : 0 ≤ n) (nR : n ≤ R) (k0 : 0 ≤ k) : ∀ (m : Nat) (h : HP) (w2 w3 : AV), h T 14 = k + m → h T 14 ≤ R → Hst n (h (T + 11)) (h (T + 12)) (h (T + 13)) (h T 14) (ar4 h T) →
    (∀ h', UnR h h' T (UN (h (T + 11)) (h (T + 12)) (h (T + 13)) (h T 14) m (ar4 h T)) k → Q 0 h') → Go d M_Types_undo 0 [(17, T), (0, k), w2, w3] [] h Q := by
  have t := TR_le hT
  intro m
  induction m with
  | zero =>
    intro h w2 w3 e _ _ H
    refine W_Types_undo_0 hT ⟨fun _ => H h ⟨rfl, by omega, fun _ _ _ _ => rfl⟩, fun w => by omega⟩
  | succ m ih =>
    intro h w2 w3 e eR Hs H
    have ls := Hs.1 (h T 14 - 1) (by omega) (by omega)
    have g0 := Hs.2 0 (by omega)
    have gs := g0 _ ls.1 ls.2
    have gb := g0 _ gs.1.1 gs.1.2
    have gs2 : (0 ≤ h (T + 7) (h (T + 11) (h T 14 - 1)) ∧ h (T + 7) (h (T + 11) (h T 14 - 1)) < n) ∧ 1 ≤ h (T + 8) (h (T + 11) (h T 14 - 1)) ∧ h (T + 8) (h (T + 11) (h T 14 - 1)) ≤ n := gs
    have gb2 : 1 ≤ h (T + 8) (h (T + 7) (h (T + 11) (h T 14 - 1))) ∧ h (T + 8) (h (T + 7) (h (T + 11) (h T 14 - 1))) ≤ n := gb.2
    refine W_Types_undo_0 hT ⟨fun w => by omega, fun _ => ⟨fun w => by omega, fun _ => ⟨by unfold r32; omega, ?_⟩⟩⟩
    intro g1 e1
    have a1 : g1 T 14 = h T 14 - 1 := by rw [e1, up2_eq]
    have b1 : ∀ a i, a ≠ T → g1 a i = h a i := fun a i q => by rw [e1, up2_nc q]
    have c1 : ∀ i, i ≠ 14 → g1 T i = h T i := fun i q => by rw [e1, up2_ni q]
    clear e1
    rw [a1, b1 (T + 11) _ (by omega), b1 (T + 7) _ (by omega)]
    generalize hs : h (T + 11) (h T 14 - 1) = s at *
    generalize hb : h (T + 7) s = b at *
    refine ⟨⟨by omega, by omega⟩, ⟨by omega, by omega⟩, ⟨by omega, by omega⟩, ?_⟩
    intro g2 e2
    have a2 : g2 T 14 = h T 14 - 1 := by rw [e2, up2_nc (by omega), a1]
    have b2 : ∀ a i, a ≠ T → a ≠ T + 7 → g2 a i = h a i := fun a i q r => by rw [e2, up2_nc r, b1 a i q]
    have c2 : ∀ i, i ≠ 14 → g2 T i = h T i := fun i q => by rw [e2, up2_nc (by omega), c1 i q]
    have d2 : g2 (T + 7) = upf (h (T + 7)) s s := by rw [e2, up2_row, show g1 (T + 7) = h (T + 7) from funext fun i => b1 _ i (by omega)]
    clear e2
    rw [b2 (T + 8) _ (by omega) (by omega), b2 (T + 8) _ (by omega) (by omega)]
    refine ⟨⟨by omega, by omega⟩, ⟨by omega, by omega⟩, by unfold r32; omega, ⟨by omega, by omega⟩, ?_⟩
    intro g3 e3
    have a3 : g3 T 14 = h T 14 - 1 := by rw [e3, up2_nc (by omega), a2]
    have b3 : ∀ a i, a ≠ T → a ≠ T + 7 → a ≠ T + 8 → g3 a i = h a i := fun a i q r r2 => by rw [e3, up2_nc r2, b2 a i q r]
    have c3 : ∀ i, i ≠ 14 → g3 T i = h T i := fun i q => by rw [e3, up2_nc (by omega), c2 i q]
    have d3 : g3 (T + 7) = upf (h (T + 7)) s s := by rw [e3, up2_rown (by omega), d2]
    have d3b : g3 (T + 8) = upf (h (T + 8)) b (h (T + 8) b - h (T + 8) s) := by rw [e3, up2_row, show g2 (T + 8) = h (T + 8) from funext fun i => b2 _ i (by omega) (by omega)]
    clear e3
    rw [a3, b3 (T + 12) _ (by omega) (by omega) (by omega)]
    refine ⟨⟨by omega, by omega⟩, ⟨by omega, by omega⟩, ?_⟩
    intro g4 e4
    have a4 : g4 T 14 = h T 14 - 1 := by rw [e4, up2_nc (by omega), a3]
    have b4 : ∀ a i, a ≠ T → a ≠ T + 7 → a ≠ T + 8 → a ≠ T + 9 → g4 a i = h a i := fun a i q r r2 r3 => by rw [e4, up2_nc r3, b3 a i q r r2]
    have c4 : ∀ i, i ≠ 14 → g4 T i = h T i := fun i q => by rw [e4, up2_nc (by omega), c3 i q]
    have d4 : g4 (T + 7) = upf (h (T + 7)) s s := by rw [e4, up2_rown (by omega), d3]
    have d4b : g4 (T + 8) = upf (h (T + 8)) b (h (T + 8) b - h (T + 8) s) := by rw [e4, up2_rown (by omega), d3b]
    have d4c : g4 (T + 9) = upf (h (T + 9)) b (h (T + 12) (h T 14 - 1)) := by rw [e4, up2_row, show g3 (T + 9) = h (T + 9) from funext fun i => b3 _ i (by omega) (by omega) (by omega)]
    clear e4
    rw [a4, b4 (T + 13) _ (by omega) (by omega) (by omega) (by omega)]
    refine ⟨⟨by omega, by omega⟩, ⟨by omega, by omega⟩, ?_⟩
    intro g5 e5
    have a5 : g5 T 14 = h T 14 - 1 := by rw [e5, up2_nc (by omega), a4]
    have b5 : ∀ a i, a ≠ T → a ≠ T + 7 → a ≠ T + 8 → a ≠ T + 9 → a ≠ T + 10 → g5 a i = h a i := fun a i q r r2 r3 r4 => by rw [e5, up2_nc r4, b4 a i q r r2 r3]
    have c5 : ∀ i, i ≠ 14 → g5 T i = h T i := fun i q => by rw [e5, up2_nc (by omega), c4 i q]
    have d5 : ar4 g5 T = und1 (ar4 h T) s (h (T + 12) (h T 14 - 1)) (h (T + 13) (h T 14 - 1)) := by
      refine ar4_ext ?_ ?_ ?_ ?_
      · rw [e5, up2_rown (by omega), d4]; rfl
      · rw [e5, up2_rown (by omega), d4b]; unfold und1; dsimp only; rw [hb]
      · rw [e5, up2_rown (by omega), d4c]; unfold und1; dsimp only; rw [hb]
      · rw [e5, up2_row, show g4 (T + 10) = h (T + 10) from funext fun i => b4 _ i (by omega) (by omega) (by omega) (by omega)]; unfold und1; dsimp only; rw [hb]
    clear e5
    have l11 : g5 (T + 11) = h (T + 11) := funext fun i => b5 _ i (by omega) (by omega) (by omega) (by omega) (by omega)
    have l12 : g5 (T + 12) = h (T + 12) := funext fun i => b5 _ i (by omega) (by omega) (by omega) (by omega) (by omega)
    have l13 : g5 (T + 13) = h (T + 13) := funext fun i => b5 _ i (by omega) (by omega) (by omega) (by omega) (by omega)
    refine ih g5 _ _ (by omega) (by omega) ?_ ?_
    · rw [l11, l12, l13, a5, d5]
      refine ⟨fun i i0 i1 => Hs.1 i i0 (by omega), fun j hj => ?_⟩
      have := Hs.2 (j + 1) (by omega)
      have u : UN (h (T + 11)) (h (T + 12)) (h (T + 13)) (h T 14) (j + 1) (ar4 h T) = UN (h (T + 11)) (h (T + 12)) (h (T + 13)) (h T 14 - 1) j (und1 (ar4 h T) s (h (T + 12) (h T 14 - 1)) (h (T + 13) (h T 14 - 1))) := by rw [← hs]; rfl
      rw [u] at this
      exact this
    · intro h' U
      rw [l11, l12, l13, a5, d5] at U
      refine H h' ⟨?_, U.2.1, fun a i q r => ?_⟩
      · rw [U.1, ← hs]; rfl
      · rw [U.2.2 a i q r]
        by_cases z : a = T
        · subst z; exact c5 i (fun z => r ⟨rfl, z⟩)
        · exact b5 a i z (by omega) (by omega) (by omega) (by omega)
/-! what the operations on the types leave -/
def ExC (T : Int) (h h' : HP) : Prop := (h T 13 ≤ h' T 13 ∧ h T 14 ≤ h' T 14 ∧ h' T 15 = h T 15) ∧ (∀ i, 0 ≤ i → i < h T 13 → h' (T + 3) i = h (T + 3) i ∧ h' (T + 4) i = h (T + 4) i ∧ h' (T + 5) i = h (T + 5) i ∧ h' (T + 6) i = h (T + 6) i) ∧ (∀ i, 0 ≤ i → i < h T 14 → h' (T + 11) i = h (T + 11) i ∧ h' (T + 12) i = h (T + 12) i ∧ h' (T + 13) i = h (T + 13) i) ∧ (∀ i, 0 ≤ i → i < h T 15 → h' (T + 1) i = h (T + 1) i ∧ h' (T + 2) i = h (T + 2) i) ∧ Ag (h T 13) (UN (h' (T + 11)) (h' (T + 12)) (h' (T + 13)) (h' T 14) (h' T 14 - h T 14).toNat (ar4 h' T)) (ar4 h T) ∧ (∀ a i, (a < T ∨ T + 24 < a) → h' a i = h a i)
theorem ExC_refl (T : Int) (h : HP) : ExC T h h := by
  refine ⟨⟨Int.le_refl _, Int.le_refl _, rfl⟩, fun _ _ _ => ⟨rfl, rfl, rfl, rfl⟩, fun _ _ _ => ⟨rfl, rfl, rfl⟩, fun _ _ _ => ⟨rfl, rfl⟩, ?_, fun _ _ _ => rfl⟩
  rw [show (h T 14 - h T 14).toNat = 0 by omega]
  exact Ag_refl _ _
theorem ExC_trans {T R n L : Int} {h h' h'' : HP} {c : Int → Int} (F : FB h' T R n L c) (h0 : 0 ≤ h T 14) (a : ExC T h h') (b : ExC T h' h'') : ExC T h h'' := by
  obtain ⟨hT, ⟨hn, n0, nR⟩, hL, eL, Fr, M1, M2, Hs, H8⟩ := F
  obtain ⟨⟨a1, a2, a3⟩, a4, a5, a6, a7, a8⟩ := a
  obtain ⟨⟨b1, b2, b3⟩, b4, b5, b6, b7, b8⟩ := b
  refine ⟨⟨by omega, by omega, by omega⟩, fun i p q => ?_, fun i p q => ?_, fun i p q => ?_, ?_, fun x i p => by rw [b8 x i p, a8 x i p]⟩
  · obtain ⟨x1, x2, x3, x4⟩ := a4 i p q
    obtain ⟨y1, y2, y3, y4⟩ := b4 i p (by omega)
    exact ⟨y1.trans x1, y2.trans x2, y3.trans x3, y4.trans x4⟩
  · obtain ⟨x1, x2, x3⟩ := a5 i p q
    obtain ⟨y1, y2, y3⟩ := b5 i p (by omega)
    exact ⟨y1.trans x1, y2.trans x2, y3.trans x3⟩
  · obtain ⟨x1, x2⟩ := a6 i p q
    obtain ⟨y1, y2⟩ := b6 i p (by omega)
    exact ⟨y1.trans x1, y2.trans x2⟩
  · rw [show (h'' T 14 - h T 14).toNat = (h'' T 14 - h' T 14).toNat + (h' T 14 - h T 14).toNat by omega, UN_split]
    rw [show h'' T 14 - ((h'' T 14 - h' T 14).toNat : Int) = h' T 14 by omega]
    rw [UN_log0 (lk := h' (T + 11)) (ol := h' (T + 12)) (ow := h' (T + 13)) _ _ _ (by omega) (fun i p q => b5 i p q)]
    rw [hn] at b7
    have step : Ag n (UN (h' (T + 11)) (h' (T + 12)) (h' (T + 13)) (h' T 14) (h' T 14 - h T 14).toNat (ar4 h' T)) (UN (h' (T + 11)) (h' (T + 12)) (h' (T + 13)) (h' T 14) (h' T 14 - h T 14).toNat (UN (h'' (T + 11)) (h'' (T + 12)) (h'' (T + 13)) (h'' T 14) (h'' T 14 - h' T 14).toNat (ar4 h'' T))) := by
      refine UN_Ag _ _ _ _ (Ag_symm b7) (by omega) ?_ ?_
      · rw [hL]; exact Hs.1
      · intro x x0 x1
        exact (Fr x x0 x1).1
    exact Ag_trans (Ag_le (by omega) (Ag_symm step)) a7
/-- scratch rows alone -/
def ScC (T : Int) (h h' : HP) : Prop := ∀ a i, (a < T + 14 ∨ T + 24 < a) → h' a i = h a i
theorem ScC_row {T : Int} {h h' : HP} (s : ScC T h h') (k : Int) (hk : k ≤ 13) : h' (T + k) = h (T + k) := funext fun i => s _ i (by omega)
theorem ScC_ExC {T : Int} {h h' : HP} (s : ScC T h h') : ExC T h h' := by
  have f : ∀ i, h' T i = h T i := fun i => s T i (by omega)
  have r : ar4 h' T = ar4 h T := ar4_ext (ScC_row s 7 (by omega)) (ScC_row s 8 (by omega)) (ScC_row s 9 (by omega)) (ScC_row s 10 (by omega))
  refine ⟨⟨by rw [f]; omega, by rw [f]; omega, f 15⟩, fun i _ _ => ⟨s _ _ (by omega), s _ _ (by omega), s _ _ (by omega), s _ _ (by omega)⟩, fun i _ _ => ⟨s _ _ (by omega), s _ _ (by omega), s _ _ (by omega)⟩, fun i _ _ => ⟨s _ _ (by omega), s _ _ (by omega)⟩, ?_, fun a i q => s a i (by omega)⟩
  rw [f 14, show (h T 14 - h T 14).toNat = 0 by omega, r]
  exact Ag_refl _ _
theorem ScC_refl (T : Int) (h : HP) : ScC T h h := fun _ _ _ => rfl
theorem ScC_trans {T : Int} {h h' h'' : HP} (a : ScC T h h') (b : ScC T h' h'') : ScC T h h'' := fun x i q => (b x i q).trans (a x i q)
theorem FB_scr {T R n L : Int} {h h' : HP} {c : Int → Int} (s : ScC T h h') (F : FB h T R n L c) : FB h' T R n L c := by
  have f : ∀ i, h' T i = h T i := fun i => s T i (by omega)
  unfold FB ar4 at *
  rw [f 13, f 14, ScC_row s 3 (by omega), ScC_row s 7 (by omega), ScC_row s 8 (by omega), ScC_row s 9 (by omega), ScC_row s 10 (by omega), ScC_row s 11 (by omega), ScC_row s 12 (by omega), ScC_row s 13 (by omega)]
  exact F
theorem ExC_link {h h' : HP} {T R n L s b : Int} {c : Int → Int} (F : FB h T R n L c) (s0 : 0 ≤ s) (s1 : s < n) (cs : c s = s) (ne : s ≠ b) (K : LnkR h h' T s b) : ExC T h h' := by
  obtain ⟨hT, ⟨hn, n0, nR⟩, hL, eL, Fr, M1, M2, Hs, H8⟩ := F
  obtain ⟨k1, k2, k3, k4, k5, k6⟩ := K
  refine ⟨⟨by rw [k6 T 13 (by omega) (by omega)]; omega, by omega, k6 T 15 (by omega) (by omega)⟩, fun i _ _ => ⟨k6 _ _ (by omega) (by omega), k6 _ _ (by omega) (by omega), k6 _ _ (by omega) (by omega), k6 _ _ (by omega) (by omega)⟩, fun i _ q => ?_, fun i _ _ => ⟨k6 _ _ (by omega) (by omega), k6 _ _ (by omega) (by omega)⟩, ?_, fun a i q => k6 a i (by omega) (by omega)⟩
  · rw [k2, k3, k4]
    exact ⟨upf_ne (by omega), upf_ne (by omega), upf_ne (by omega)⟩
  · rw [k5, show (h T 14 + 1 - h T 14).toNat = 0 + 1 by omega]
    show Ag _ (und1 (ar4 h' T) (h' (T + 11) (h T 14 + 1 - 1)) (h' (T + 12) (h T 14 + 1 - 1)) (h' (T + 13) (h T 14 + 1 - 1))) _
    rw [show h T 14 + 1 - 1 = h T 14 by omega, k2, k3, k4, upf_eq, upf_eq, upf_eq, k1]
    have ps : (ar4 h T).1 s = s := by
      have := (Fr s s0 s1).2.2.2.1
      rw [cs] at this; exact this
    have ul : und1 (lnA (ar4 h T) s b) s (h (T + 9) b) (h (T + 10) b) = ar4 h T := und_ln ps ne
    rw [ul]
    exact Ag_refl _ _
end
