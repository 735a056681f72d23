section
/-! what the operations on the reference's types leave -/
def ExM (h h' : HP) : Prop := (∀ i, i ≠ 15 → i ≠ 17 → h' 135 i = h 135 i) ∧ h 135 15 ≤ h' 135 15 ∧ h 135 17 ≤ h' 135 17 ∧ (∀ i, i < h 135 15 → h' 137 i = h 137 i ∧ h' 138 i = h 138 i ∧ h' 139 i = h 139 i ∧ h' 140 i = h 140 i) ∧ (∀ i, i < h 135 17 → h' 146 i = h 146 i ∧ h' 147 i = h 147 i) ∧ (∀ i, i < h 135 19 + h 135 18 → h' 148 i = h 148 i ∧ h' 149 i = h 149 i) ∧ (∀ a i, a < 135 ∨ a = 136 ∨ 149 < a → h' a i = h a i) ∧ (∀ i, i < h 135 14 → h' 141 i = h 141 i ∧ h' 142 i = h 142 i)
theorem ExM_refl (h : HP) : ExM h h := ⟨fun _ _ _ => rfl, Int.le_refl _, Int.le_refl _, fun _ _ => ⟨rfl, rfl, rfl, rfl⟩, fun _ _ => ⟨rfl, rfl⟩, fun _ _ => ⟨rfl, rfl⟩, fun _ _ _ => rfl, fun _ _ => ⟨rfl, rfl⟩⟩
theorem ExM_trans {h h' h'' : HP} (a : ExM h h') (b : ExM h' h'') : ExM h h'' := by
  obtain ⟨a1, a2, a3, a4, a5, a6, a7, a8⟩ := a
  obtain ⟨b1, b2, b3, b4, b5, b6, b7, b8⟩ := b
  have e18 := a1 18 (by decide) (by decide)
  have e19 := a1 19 (by decide) (by decide)
  have e14 := a1 14 (by decide) (by decide)
  refine ⟨fun i p q => by rw [b1 i p q, a1 i p q], by omega, by omega, fun i p => ?_, fun i p => ?_, fun i p => ?_, fun a i p => by rw [b7 a i p, a7 a i p], fun i p => ?_⟩
  · obtain ⟨x1, x2, x3, x4⟩ := a4 i p
    obtain ⟨y1, y2, y3, y4⟩ := b4 i (by omega)
    exact ⟨y1.trans x1, y2.trans x2, y3.trans x3, y4.trans x4⟩
  · obtain ⟨x1, x2⟩ := a5 i p
    obtain ⟨y1, y2⟩ := b5 i (by omega)
    exact ⟨y1.trans x1, y2.trans x2⟩
  · obtain ⟨x1, x2⟩ := a6 i p
    obtain ⟨y1, y2⟩ := b6 i (by omega)
    exact ⟨y1.trans x1, y2.trans x2⟩
  · obtain ⟨x1, x2⟩ := a8 i p
    obtain ⟨y1, y2⟩ := b8 i (by omega)
    exact ⟨y1.trans x1, y2.trans x2⟩
/-- only scratch rows and the groups of the nodes have changed -/
def SmC (h h' : HP) : Prop := (∀ a i, a < 141 ∨ 145 < a → h' a i = h a i) ∧ (∀ i, i < h 135 14 → h' 141 i = h 141 i ∧ h' 142 i = h 142 i)
theorem SmC_ExM {h h' : HP} (s : SmC h h') : ExM h h' := by
  obtain ⟨s1, s2⟩ := s
  have f : ∀ i, h' 135 i = h 135 i := fun i => s1 135 i (by omega)
  exact ⟨fun i _ _ => f i, by rw [f]; omega, by rw [f]; omega, fun i _ => ⟨s1 _ _ (by omega), s1 _ _ (by omega), s1 _ _ (by omega), s1 _ _ (by omega)⟩, fun i _ => ⟨s1 _ _ (by omega), s1 _ _ (by omega)⟩, fun i _ => ⟨s1 _ _ (by omega), s1 _ _ (by omega)⟩, fun a i p => s1 a i (by omega), s2⟩
theorem SmC_trans {h h' h'' : HP} (a : SmC h h') (b : SmC h' h'') : SmC h h'' := by
  have e := a.1 135 14 (by omega)
  refine ⟨fun x i p => by rw [b.1 x i p, a.1 x i p], fun i p => ?_⟩
  obtain ⟨x1, x2⟩ := a.2 i p
  obtain ⟨y1, y2⟩ := b.2 i (by omega)
  exact ⟨y1.trans x1, y2.trans x2⟩
def SmK (h h' : HP) : Prop := (∀ a i, a ≠ 141 → a ≠ 142 → h' a i = h a i) ∧ (∀ i, i < h 135 14 → h' 141 i = h 141 i ∧ h' 142 i = h 142 i)
theorem SmK_SmC {h h' : HP} (s : SmK h h') : SmC h h' := ⟨fun a i q => s.1 a i (by omega) (by omega), s.2⟩
/-- the nodes and equations as they are given -/
def SB (h : HP) (tm : Int → Tm) : Prop := (0 ≤ h 135 14 ∧ h 135 14 ≤ h 135 15 ∧ h 135 15 ≤ 1000) ∧ Wst (h 135 14) (h 135 15) (h 137) (h 138) (h 139) tm ∧ (∀ x, h 135 14 ≤ x → x < h 135 15 → 0 ≤ h 140 x ∧ h 140 x ≤ 99) ∧ EqIn h ∧ Unq (h 135 14) (h 135 15) (h 137) (h 138) (h 139)
theorem RC_SB {h : HP} {tm : Int → Tm} {S : Sx} (H : RC h tm S) : SB h tm := by
  obtain ⟨⟨_, _, a, b, c, W, p, _, _⟩, E, _, _, _, U⟩ := H
  exact ⟨⟨a, b, c⟩, W, p, E, U⟩
theorem c_classedR {d : Nat} {tm : Int → Tm} {h : HP} {Q : PQ} (hd : 4 < d) (B : SB h tm)
    (H : ∀ h', RC h' tm (SolR h tm) → SmK h h' → Q 0 h') : Go d M_Mo_classed 0 [(22, 135), (2, 0), (2, 0), (2, 0)] [] h Q := by
  obtain ⟨⟨a, b, b1⟩, W, p, ⟨E0, E1, E2, E3⟩, U⟩ := B
  refine c_classed (tm := tm) hd rfl rfl a b b1 W E0 E1 E2 E3 (fun c s M R C S => H _ ?_ ?_)
  · generalize hlo : h 135 14 = lo at *
    generalize hhi : h 135 15 = hi at *
    have eo : ∀ x, x ≠ 141 → x ≠ 142 → (setR (setR h 141 lo hi c) 142 lo hi s) x = h x := fun x q r => by
      funext i
      rw [setR_ne r, setR_ne q]
    have e1 : ∀ i, lo ≤ i → i < hi → (setR (setR h 141 lo hi c) 142 lo hi s) 141 i = c i := fun i x y => by rw [setR_ne (by decide), setR_in x y]
    have e2 : ∀ i, lo ≤ i → i < hi → (setR (setR h 141 lo hi c) 142 lo hi s) 142 i = s i := fun i x y => setR_in x y
    unfold RC RB EqIn SolR
    rw [eo 135 (by decide) (by decide), eo 137 (by decide) (by decide), eo 138 (by decide) (by decide), eo 139 (by decide) (by decide), eo 140 (by decide) (by decide), eo 146 (by decide) (by decide), eo 147 (by decide) (by decide), hlo, hhi]
    refine ⟨⟨rfl, rfl, a, b, by omega, W, p, ?_, ?_⟩, ⟨E0, E1, E2, E3⟩, fun θ => Iff.rfl, ?_, ?_, U⟩
    · intro i x y
      have m := M i x y
      rw [e1 i x y, e1 (c i) (by omega) (by omega)]
      exact m
    · intro k x y
      have m := M k x y
      have t := S k x y
      rw [e1 k x y, e2 (c k) (by omega) (by omega), e1 (s (c k)) t.1 t.2.1]
      refine ⟨t.1, t.2.1, t.2.2.1, fun j j1 j2 j3 => ?_⟩
      rw [e1 j j1 j2] at j3
      exact t.2.2.2 j j1 j2 j3
    · intro θ
      refine (R θ).trans ⟨fun r x y x1 x2 y1 y2 e => ?_, fun r x y x1 x2 y1 y2 e => ?_⟩
      · rw [e1 x x1 x2, e1 y y1 y2] at e
        exact r x y x1 x2 y1 y2 e
      · exact r x y x1 x2 y1 y2 (by rw [e1 x x1 x2, e1 y y1 y2]; exact e)
    · have Ai := Wst_arg W
      intro i j i1 i2 j1 j2 e l
      have k := C i j i1 i2 j1 j2 e l
      rw [e1 i i1 i2, e1 j j1 j2]
      refine k.trans ⟨fun r => ⟨fun q => ?_, fun q => ?_⟩, fun r => ⟨fun q => ?_, fun q => ?_⟩⟩
      · have x1 := (Ai i i1 i2).1 q (by omega)
        have x2 := (Ai j j1 j2).1 (by omega) (by omega)
        rw [e1 _ x1.1 x1.2, e1 _ x2.1 x2.2]; exact r.1 q
      · have x1 := (Ai i i1 i2).2 q
        have x2 := (Ai j j1 j2).2 (by omega)
        rw [e1 _ x1.1 x1.2, e1 _ x2.1 x2.2]; exact r.2 q
      · have x1 := (Ai i i1 i2).1 q (by omega)
        have x2 := (Ai j j1 j2).1 (by omega) (by omega)
        have := r.1 q
        rw [e1 _ x1.1 x1.2, e1 _ x2.1 x2.2] at this; exact this
      · have x1 := (Ai i i1 i2).2 q
        have x2 := (Ai j j1 j2).2 (by omega)
        have := r.2 q
        rw [e1 _ x1.1 x1.2, e1 _ x2.1 x2.2] at this; exact this
  · refine ⟨fun x i q q' => by rw [setR_ne q', setR_ne q], fun i q => ⟨?_, ?_⟩⟩
    · rw [setR_ne (by decide), setR_out (by omega)]
    · rw [setR_out (by omega), setR_ne (by decide)]
theorem RC_scr {h h' : HP} {tm : Int → Tm} {S : Sx} (E : ∀ a i, a < 143 ∨ 145 < a → h' a i = h a i) (H : RC h tm S) : RC h' tm S := by
  have e : ∀ a, a < 143 ∨ 145 < a → h' a = h a := fun a q => funext fun i => E a i q
  unfold RC RB EqIn SolR at *
  rw [e 135 (by omega), e 137 (by omega), e 138 (by omega), e 139 (by omega), e 140 (by omega), e 141 (by omega), e 142 (by omega), e 146 (by omega), e 147 (by omega)]
  exact H
theorem RW_scr {h h' : HP} {tm : Int → Tm} {S : Sx} (E : ∀ a i, a < 143 ∨ 145 < a → h' a i = h a i) (H : RW h tm S) : RW h' tm S := by
  obtain ⟨a, b, c, e⟩ := H
  exact ⟨RC_scr E a, b, by rw [E 135 16 (by omega), E 135 14 (by omega)]; exact c, by rw [E 135 16 (by omega), E 135 14 (by omega), E 135 17 (by omega), E 135 15 (by omega)]; exact e⟩
theorem c_many {d : Nat} {lo hi : Int} {h : HP} {Q : PQ} (hlo : h 135 14 = lo) (hhi : h 135 15 = hi) (h0 : 0 ≤ lo) (h00 : lo ≤ hi) (h1 : hi ≤ 1000) (H : Q (cnt (fun k => h 141 k = k) lo hi) h) : Go d M_Mo_manyClasses 0 [(22, 135), (2, 0), (2, 0)] [] h Q := by
  refine N_Mo_manyClasses_0 ?_
  rw [hlo]
  have loop : ∀ n, n = cnt (fun k => h 141 k = k) lo lo → Go d M_Mo_manyClasses 7 [(22, 135), (0, n), (0, lo)] [] h Q := by
    refine up_loop (i := lo) (hi := hi) h00 (P := fun i => ∀ n, n = cnt (fun k => h 141 k = k) lo i → Go d M_Mo_manyClasses 7 [(22, 135), (0, n), (0, i)] [] h Q) ?_ ?_
    · intro n e
      exact N_Mo_manyClasses_7 ⟨fun _ => by rw [e]; exact H, fun w => by omega⟩
    · intro i i1 i2 ih n e
      have bd := cnt_bd (p := fun k => h 141 k = k) i1
      refine N_Mo_manyClasses_7 ⟨fun w => by omega, fun _ => ⟨⟨by omega, by omega⟩, fun w => ⟨by unfold r32; omega, by unfold r32; omega, ih _ ?_⟩, fun w => ⟨by unfold r32; omega, by unfold r32; omega, ih _ ?_⟩⟩⟩
      · rw [cnt_sf (p := fun k => h 141 k = k) i1 w, ← e]; omega
      · rw [cnt_st (p := fun k => h 141 k = k) i1 w, ← e]
  exact loop 0 (by rw [cnt_nil (Int.le_refl _)])
theorem RW_many {h : HP} {tm : Int → Tm} {S : Sx} (H : RW h tm S) : cnt (fun k => h 141 k = k) (h 135 14) (h 135 15) = ncl tm S (h 135 14) (h 135 15) :=
  Mi_ncl H.1.1.2.2.2.2.2.2.2.1 (fun x y a b c d => RW_eq H a b c d)
abbrev Snd (S : Sx) (s t : Tm) : Sx := fun θ => S θ ∧ sb θ s = sb θ t
theorem up2_ext {h : HP} {a i v a' i' : Int} (q : ¬ (a' = a ∧ i' = i)) : up2 h a i v a' i' = h a' i' := if_neg q
/-- one equation more -/
def Eq1 (h h1 : HP) (x y : Int) : Prop := (∀ a i, ¬ (a = 146 ∧ i = h 135 17) → ¬ (a = 147 ∧ i = h 135 17) → ¬ (a = 135 ∧ i = 17) → h1 a i = h a i) ∧ h1 146 (h 135 17) = x ∧ h1 147 (h 135 17) = y ∧ h1 135 17 = h 135 17 + 1
theorem Eq1_SB {h h1 : HP} {x y : Int} {tm : Int → Tm} (E : Eq1 h h1 x y) (B : SB h tm) (hx : h 135 14 ≤ x ∧ x < h 135 15) (hy : h 135 14 ≤ y ∧ y < h 135 15) (he : h 135 17 < 1000) : SB h1 tm ∧ (∀ θ, SolR h1 tm θ ↔ (SolR h tm θ ∧ sb θ (tm x) = sb θ (tm y))) := by
  obtain ⟨E1, E2, E3, E4⟩ := E
  have f : ∀ i, i ≠ 17 → h1 135 i = h 135 i := fun i q => E1 135 i (by omega) (by omega) (by omega)
  have r : ∀ a, a ≠ 135 → a ≠ 146 → a ≠ 147 → h1 a = h a := fun a p q s => funext fun i => E1 a i (by omega) (by omega) (by omega)
  have old : ∀ e, e < h 135 17 → h1 146 e = h 146 e ∧ h1 147 e = h 147 e := fun e q => ⟨E1 146 e (by omega) (by omega) (by omega), E1 147 e (by omega) (by omega) (by omega)⟩
  obtain ⟨⟨a, b, c⟩, W, p, ⟨e0, e1, e2, e3⟩, U⟩ := B
  constructor
  · unfold SB EqIn
    rw [f 14 (by decide), f 15 (by decide), f 16 (by decide), E4, r 137 (by decide) (by decide) (by decide), r 138 (by decide) (by decide) (by decide), r 139 (by decide) (by decide) (by decide), r 140 (by decide) (by decide) (by decide)]
    refine ⟨⟨a, b, c⟩, W, p, ⟨e0, by omega, by omega, fun e q1 q2 => ?_⟩, U⟩
    by_cases w : e = h 135 17
    · subst w; rw [E2, E3]; exact ⟨hx, hy⟩
    · rw [(old e (by omega)).1, (old e (by omega)).2]; exact e3 e q1 (by omega)
  · intro θ
    unfold SolR
    rw [f 16 (by decide), E4]
    constructor
    · intro q
      refine ⟨fun e q1 q2 => ?_, ?_⟩
      · have := q e q1 (by omega)
        rw [(old e q2).1, (old e q2).2] at this; exact this
      · have := q (h 135 17) e1 (by omega)
        rw [E2, E3] at this; exact this
    · rintro ⟨q, q'⟩ e q1 q2
      by_cases w : e = h 135 17
      · subst w; rw [E2, E3]; exact q'
      · rw [(old e (by omega)).1, (old e (by omega)).2]; exact q e q1 (by omega)
theorem RC_iff {h : HP} {tm : Int → Tm} {S S' : Sx} (H : RC h tm S) (e : ∀ θ, S' θ ↔ S θ) : RC h tm S' := by
  obtain ⟨a, b, c, f, g⟩ := H
  exact ⟨a, b, fun θ => (e θ).trans (c θ), fun θ => (e θ).trans (f θ), g⟩
theorem RC_many {h : HP} {tm : Int → Tm} {S : Sx} (H : RC h tm S) (hs : Sat S) : cnt (fun k => h 141 k = k) (h 135 14) (h 135 15) = ncl tm S (h 135 14) (h 135 15) := by
  have D := RC_Dwn H hs
  obtain ⟨⟨_, _, l0, _, _, W, _, M, _⟩, _, _, R, C, _⟩ := H
  obtain ⟨θ, hθ⟩ := hs
  refine Mi_ncl M (fun x y a b c d => Ptn_eq (hd := h 137) (fa := h 138) (fb := h 139) (lo := h 135 14) (hi := h 135 15) ⟨W, ?_, D, Rsp_acy W ((R θ).mp hθ), R, ?_⟩ a b c d)
  · intro x y x1 x2 y1 y2 e hx p q
    exact (C x y x1 x2 y1 y2 e (by omega)).mpr ⟨p, q⟩
  · intro x x1 x2
    have := M x x1 x2
    omega
theorem ncl_le {tm : Int → Tm} {S S' : Sx} {lo hi : Int} (hs : ∀ θ, S' θ → S θ) : ncl tm S' lo hi ≤ ncl tm S lo hi :=
  cnt_mono (fun i i1 i2 q y y1 y2 e => q y y1 y2 (EqS_sub hs e))
theorem ncl_lt {tm : Int → Tm} {S S' : Sx} {lo hi x y : Int} (hs : ∀ θ, S' θ → S θ) (x1 : lo ≤ x) (x2 : x < hi) (y1 : lo ≤ y) (y2 : y < hi) (hn : ¬ EqS S (tm x) (tm y)) (he : EqS S' (tm x) (tm y)) : ncl tm S' lo hi < ncl tm S lo hi := by
  -- the least of each group
  have least : ∀ z, lo ≤ z → ∃ m, lo ≤ m ∧ m ≤ z ∧ EqS S (tm m) (tm z) ∧ ∀ w, lo ≤ w → w < m → ¬ EqS S (tm w) (tm m) := by
    intro z hz
    have : ∀ (n : Nat) (z : Int), lo ≤ z → (z - lo).toNat < n → ∃ m, lo ≤ m ∧ m ≤ z ∧ EqS S (tm m) (tm z) ∧ ∀ w, lo ≤ w → w < m → ¬ EqS S (tm w) (tm m) := by
      intro n
      induction n with
      | zero => intro z _ h; omega
      | succ n ih =>
        intro z hz hn
        rcases Classical.em (∃ w, lo ≤ w ∧ w < z ∧ EqS S (tm w) (tm z)) with ⟨w, w1, w2, w3⟩ | q
        · obtain ⟨m, m1, m2, m3, m4⟩ := ih w w1 (by omega)
          exact ⟨m, m1, by omega, EqS_trans m3 w3, m4⟩
        · exact ⟨z, hz, Int.le_refl _, EqS_rfl, fun w w1 w2 e => q ⟨w, w1, w2, e⟩⟩
    exact this _ z hz (Nat.lt_succ_self _)
  obtain ⟨mx, a1, a2, a3, a4⟩ := least x x1
  obtain ⟨my, b1, b2, b3, b4⟩ := least y y1
  have ne : mx ≠ my := by
    intro e
    subst e
    exact hn (EqS_trans (EqS_symm a3) b3)
  have e' : EqS S' (tm mx) (tm my) := EqS_trans (EqS_sub hs a3) (EqS_trans he (EqS_symm (EqS_sub hs b3)))
  -- the greater of the two falls out
  have fall : ∀ g m, lo ≤ g → g < hi → lo ≤ m → m < g → EqS S' (tm m) (tm g) → (∀ w, lo ≤ w → w < g → ¬ EqS S (tm w) (tm g)) → ncl tm S' lo hi < ncl tm S lo hi := by
    intro g m g1 g2 m1 m2 e q
    have c1 := cnt_less (p := fun x => ∀ y, lo ≤ y → y < x → ¬ EqS S (tm y) (tm x)) (q := fun x => (∀ y, lo ≤ y → y < x → ¬ EqS S (tm y) (tm x)) ∧ x ≠ g) g1 g2 q (fun w => w.2 rfl) (fun i _ _ hi => ⟨fun w => ⟨w, hi⟩, fun w => w.1⟩)
    have c2 : ncl tm S' lo hi ≤ cnt (fun x => (∀ y, lo ≤ y → y < x → ¬ EqS S (tm y) (tm x)) ∧ x ≠ g) lo hi := by
      refine cnt_mono (fun i i1 i2 w => ⟨fun y y1 y2 v => w y y1 y2 (EqS_sub hs v), ?_⟩)
      intro z
      subst z
      exact w m m1 m2 e
    unfold ncl at *
    omega
  rcases Int.lt_or_le mx my with q | q
  · exact fall my mx b1 (by omega) a1 q e' b4
  · exact fall mx my a1 (by omega) b1 (by omega) (EqS_symm e') a4
/-- the last equation is taken back -/
theorem c_unequal {d : Nat} {tm : Int → Tm} {S : Sx} {h h' : HP} {Q : PQ} (hd : 5 < d) (R : RW h tm S) (X : ExM h h') (h15 : h' 135 15 = h 135 15) (h17 : h' 135 17 = h 135 17 + 1)
    (H : ∀ h'', RW h'' tm S → ExM h h'' → h'' 135 15 = h 135 15 → h'' 135 17 = h 135 17 → Q 0 h'') : Go d M_Mo_unequal 0 [(22, 135)] [] h' Q := by
  obtain ⟨x1, x2, x3, x4, x5, x6, x7, x8⟩ := X
  have B := RC_SB R.1
  obtain ⟨⟨a, b, c⟩, W, p, ⟨e0, e1, e2, e3⟩, U⟩ := B
  refine N_Mo_unequal_0 ⟨by unfold r32; omega, ?_⟩
  rintro g rfl
  have f : ∀ i, i ≠ 15 → i ≠ 17 → (up2 h' 135 17 (h' 135 17 - 1)) 135 i = h 135 i := fun i q r => by rw [up2_ni r, x1 i q r]
  have f15 : (up2 h' 135 17 (h' 135 17 - 1)) 135 15 = h 135 15 := by rw [up2_ni (by decide), h15]
  have f17 : (up2 h' 135 17 (h' 135 17 - 1)) 135 17 = h 135 17 := by rw [up2_eq, h17]; omega
  have r : ∀ a i, a ≠ 135 → (up2 h' 135 17 (h' 135 17 - 1)) a i = h' a i := fun a i q => up2_nc q
  generalize up2 h' 135 17 (h' 135 17 - 1) = g at *
  have n4 : ∀ x, h 135 14 ≤ x → x < h 135 15 → g 137 x = h 137 x ∧ g 138 x = h 138 x ∧ g 139 x = h 139 x ∧ g 140 x = h 140 x := by
    intro x _ hx
    rw [r 137 x (by decide), r 138 x (by decide), r 139 x (by decide), r 140 x (by decide)]
    exact x4 x hx
  have n5 : ∀ e, e < h 135 17 → g 146 e = h 146 e ∧ g 147 e = h 147 e := by
    intro e he
    rw [r 146 e (by decide), r 147 e (by decide)]
    exact x5 e he
  have SBg : SB g tm := by
    unfold SB EqIn
    rw [f 14 (by decide) (by decide), f 16 (by decide) (by decide), f15, f17]
    refine ⟨⟨a, b, c⟩, ⟨fun x q1 q2 => ?_, fun x y q1 q2 q3 q4 q5 q6 q7 => ?_⟩, fun x q1 q2 => ?_, ⟨e0, e1, e2, fun e q1 q2 => ?_⟩, fun x y q1 q2 q3 q4 q5 q6 q7 q8 => ?_⟩
    · obtain ⟨y1, y2, y3, y4⟩ := n4 x q1 q2
      rw [y1, y2, y3]; exact W.1 x q1 q2
    · rw [(n4 x q1 q2).1] at q5
      rw [(n4 y q3 q4).1] at q6
      exact W.2 x y q1 q2 q3 q4 q5 q6 q7
    · rw [(n4 x q1 q2).2.2.2]; exact p x q1 q2
    · rw [(n5 e q2).1, (n5 e q2).2]; exact e3 e q1 q2
    · rw [(n4 x q1 q2).1] at q5 q6 q7 q8
      rw [(n4 y q3 q4).1] at q5
      rw [(n4 x q1 q2).2.1, (n4 y q3 q4).2.1] at q7
      rw [(n4 x q1 q2).2.2.1, (n4 y q3 q4).2.2.1] at q8
      exact U x y q1 q2 q3 q4 q5 q6 q7 q8
  have Se : ∀ θ, S θ ↔ SolR g tm θ := by
    intro θ
    refine (R.1.2.2.1 θ).trans ?_
    unfold SolR
    rw [f 16 (by decide) (by decide), f17]
    exact ⟨fun q e q1 q2 => by rw [(n5 e q2).1, (n5 e q2).2]; exact q e q1 q2, fun q e q1 q2 => by have := q e q1 q2; rw [(n5 e q2).1, (n5 e q2).2] at this; exact this⟩
  refine ⟨by omega, c_classedR (by omega) SBg (fun k Rk Sk' => ?_)⟩
  have Sk := SmK_SmC Sk'
  have k1 : ∀ i, k 135 i = g 135 i := fun i => Sk.1 135 i (by omega)
  refine H k ⟨RC_iff Rk Se, R.2.1, ?_, ?_⟩ ⟨?_, ?_, ?_, ?_, ?_, ?_, ?_, ?_⟩ (by rw [k1, f15]) (by rw [k1, f17])
  · rw [k1, k1, f 16 (by decide) (by decide), f 14 (by decide) (by decide)]; exact R.2.2.1
  · rw [k1, k1, k1, k1, f 16 (by decide) (by decide), f 14 (by decide) (by decide), f15, f17]; exact R.2.2.2
  · intro i q s; rw [k1, f i q s]
  · rw [k1, f15]; omega
  · rw [k1, f17]; omega
  · intro i q
    rw [Sk.1 137 i (by omega), Sk.1 138 i (by omega), Sk.1 139 i (by omega), Sk.1 140 i (by omega), r 137 i (by decide), r 138 i (by decide), r 139 i (by decide), r 140 i (by decide)]
    exact x4 i q
  · intro i q
    rw [Sk.1 146 i (by omega), Sk.1 147 i (by omega)]
    exact n5 i q
  · intro i q
    rw [Sk.1 148 i (by omega), Sk.1 149 i (by omega), r 148 i (by decide), r 149 i (by decide)]
    exact x6 i q
  · intro x i q
    rw [Sk.1 x i (by omega), r x i (by omega)]
    exact x7 x i q
  · intro i q
    have := Sk.2 i (by rw [f 14 (by decide) (by decide)]; exact q)
    rw [this.1, this.2, r 141 i (by decide), r 142 i (by decide)]
    exact x8 i q
theorem c_equated {d : Nat} {tm : Int → Tm} {S : Sx} {h : HP} {Q : PQ} {x y : Int} (hd : 6 < d) (R : RW h tm S) (hx : h 135 14 ≤ x ∧ x < h 135 15) (hy : h 135 14 ≤ y ∧ y < h 135 15)
    (H0 : EqS S (tm x) (tm y) → Q 0 h)
    (H1 : ¬ EqS S (tm x) (tm y) → Sat (Snd S (tm x) (tm y)) → ∀ h', RW h' tm (Snd S (tm x) (tm y)) → ExM h h' → h' 135 15 = h 135 15 → h' 135 17 = h 135 17 + 1 → (∀ i, h' 143 i = h 143 i ∧ h' 144 i = h 144 i) → ∀ r, r = ncl tm S (h 135 14) (h 135 15) - ncl tm (Snd S (tm x) (tm y)) (h 135 14) (h 135 15) → 0 < r → Q r h')
    (H2 : ¬ Sat (Snd S (tm x) (tm y)) → ∀ h', RW h' tm S → ExM h h' → h' 135 15 = h 135 15 → h' 135 17 = h 135 17 → Q (-5) h') :
    Go d M_Mo_equated 0 [(22, 135), (0, x), (0, y), (2, 0)] [] h Q := by
  have B := RC_SB R.1
  have B0 := B
  obtain ⟨⟨b1, b2, b3⟩, W, p, ⟨e0, e1, e2, e3⟩, U⟩ := B0
  have n0 : 0 < ncl tm S (h 135 14) (h 135 15) := by
    refine cnt_pos (g := h 135 14) (Int.le_refl _) (by omega) ?_
    intro y q1 q2
    omega
  have lt : h 135 17 < 1000 := by have := R.2.2.1; have := R.2.2.2; omega
  refine N_Mo_equated_0 ⟨⟨by omega, by omega⟩, ⟨by omega, by omega⟩, fun w => ⟨by omega, ?_⟩, fun w => H0 ((RW_eq R hx.1 hx.2 hy.1 hy.2).mp w)⟩
  have nE : ¬ EqS S (tm x) (tm y) := fun e => w ((RW_eq R hx.1 hx.2 hy.1 hy.2).mpr e)
  refine c_many rfl rfl b1 b2 b3 ⟨by omega, ?_⟩
  rw [RW_many R]
  refine N_Mo_equal_0 ⟨⟨by omega, by omega⟩, ?_⟩
  rintro g1 rfl
  rw [up2_nc (by decide)]
  refine ⟨⟨by omega, by omega⟩, ?_⟩
  rintro g2 rfl
  rw [up2_nc (by decide), up2_nc (by decide)]
  refine ⟨by unfold r32; omega, ?_⟩
  rintro g3 hg3
  have E : Eq1 h g3 x y := by
    subst hg3
    refine ⟨fun a i q1 q2 q3 => ?_, ?_, ?_, up2_eq⟩
    · rw [up2_ext q3, up2_ext q2, up2_ext q1]
    · rw [up2_nc (by decide), up2_nc (by decide), up2_eq]
    · rw [up2_nc (by decide), up2_eq]
  clear hg3
  obtain ⟨B1, S1⟩ := Eq1_SB E B hx hy lt
  have iff1 : ∀ θ, Snd S (tm x) (tm y) θ ↔ SolR g3 tm θ := fun θ => by
    rw [S1 θ]
    exact ⟨fun q => ⟨(R.1.2.2.1 θ).mp q.1, q.2⟩, fun q => ⟨(R.1.2.2.1 θ).mpr q.1, q.2⟩⟩
  have X3 : ExM h g3 := by
    obtain ⟨E1, E2, E3, E4⟩ := E
    refine ⟨fun i q r => E1 _ _ (by omega) (by omega) (by omega), by rw [E1 135 15 (by omega) (by omega) (by omega)]; omega, by omega, fun i q => ⟨E1 _ _ (by omega) (by omega) (by omega), E1 _ _ (by omega) (by omega) (by omega), E1 _ _ (by omega) (by omega) (by omega), E1 _ _ (by omega) (by omega) (by omega)⟩, fun i q => ⟨E1 _ _ (by omega) (by omega) (by omega), E1 _ _ (by omega) (by omega) (by omega)⟩, fun i q => ⟨E1 _ _ (by omega) (by omega) (by omega), E1 _ _ (by omega) (by omega) (by omega)⟩, fun a i q => E1 _ _ (by omega) (by omega) (by omega), fun i q => ⟨E1 _ _ (by omega) (by omega) (by omega), E1 _ _ (by omega) (by omega) (by omega)⟩⟩
  have g15 : g3 135 15 = h 135 15 := E.1 _ _ (by omega) (by omega) (by omega)
  have g14 : g3 135 14 = h 135 14 := E.1 _ _ (by omega) (by omega) (by omega)
  have g16 : g3 135 16 = h 135 16 := E.1 _ _ (by omega) (by omega) (by omega)
  have g17 := E.2.2.2
  have g43 : ∀ i, g3 143 i = h 143 i ∧ g3 144 i = h 144 i := fun i => ⟨E.1 _ _ (by omega) (by omega) (by omega), E.1 _ _ (by omega) (by omega) (by omega)⟩
  refine ⟨by omega, c_classedR (by omega) B1 (fun k Rk Sk => ?_)⟩
  have k1 : ∀ i, k 135 i = g3 135 i := fun i => Sk.1 135 i (by decide) (by decide)
  have Rk2 : RC k tm (Snd S (tm x) (tm y)) := RC_iff Rk iff1
  have sub : ∀ θ, Snd S (tm x) (tm y) θ → S θ := fun θ q => q.1
  have nlt := ncl_lt (tm := tm) sub hx.1 hx.2 hy.1 hy.2 nE (fun θ q => q.2)
  refine ⟨by omega, c_clashes (by omega) Rk2 (fun sat v => ⟨fun _ => ⟨by omega, ?_⟩, fun q => absurd rfl q⟩) (fun ns v => ⟨fun q => absurd q (by decide), fun _ => ⟨by omega, ?_⟩⟩)⟩
  · have k3e : ∀ a i, a ≠ 145 → (setR k 145 (k 135 14) (k 135 15) v) a i = k a i := fun a i q => setR_ne q
    generalize setR k 145 (k 135 14) (k 135 15) v = k3 at *
    have R3 : RC k3 tm (Snd S (tm x) (tm y)) := RC_scr (fun a i q => k3e a i (by omega)) Rk2
    have l14 : k3 135 14 = h 135 14 := by rw [k3e 135 14 (by decide), k1, g14]
    have l15 : k3 135 15 = h 135 15 := by rw [k3e 135 15 (by decide), k1, g15]
    have l16 : k3 135 16 = h 135 16 := by rw [k3e 135 16 (by decide), k1, g16]
    have l17 : k3 135 17 = h 135 17 + 1 := by rw [k3e 135 17 (by decide), k1, g17]
    have mn := RC_many R3 sat
    rw [l14, l15] at mn
    have bd1 := cnt_bd (p := fun k => k3 141 k = k) b2
    have bd2 : ncl tm S (h 135 14) (h 135 15) ≤ h 135 15 - h 135 14 := (cnt_bd b2).2
    refine c_many l14 l15 b1 b2 b3 ⟨by unfold r32; omega, ?_⟩
    rw [mn]
    refine H1 nE sat k3 ⟨R3, sat, ?_, ?_⟩ (ExM_trans X3 (SmC_ExM ⟨fun a i q => ?_, fun i q => ⟨?_, ?_⟩⟩)) l15 l17 (fun i => ⟨?_, ?_⟩) _ rfl (by omega)
    · rw [l16, l14]; exact R.2.2.1
    · rw [l14, l15, l16, l17]; have := R.2.2.2; omega
    · rw [k3e a i (by omega), Sk.1 a i (by omega) (by omega)]
    · rw [k3e 141 i (by decide), (Sk.2 i q).1]
    · rw [k3e 142 i (by decide), (Sk.2 i q).2]
    · rw [k3e 143 i (by decide), Sk.1 143 i (by decide) (by decide), (g43 i).1]
    · rw [k3e 144 i (by decide), Sk.1 144 i (by decide) (by decide), (g43 i).2]
  · have k3e : ∀ a i, a ≠ 145 → (setR k 145 (k 135 14) (k 135 15) v) a i = k a i := fun a i q => setR_ne q
    generalize setR k 145 (k 135 14) (k 135 15) v = k3 at *
    refine c_unequal (by omega) R (h' := k3) (ExM_trans X3 (SmC_ExM ⟨fun a i q => ?_, fun i q => ⟨?_, ?_⟩⟩)) (by rw [k3e 135 15 (by decide), k1, g15]) (by rw [k3e 135 17 (by decide), k1, g17]) (fun h'' R2 X2 a2 a3 => H2 ns h'' R2 X2 a2 a3)
    · rw [k3e a i (by omega), Sk.1 a i (by omega) (by omega)]
    · rw [k3e 141 i (by decide), (Sk.2 i q).1]
    · rw [k3e 142 i (by decide), (Sk.2 i q).2]
end
