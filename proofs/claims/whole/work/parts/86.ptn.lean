section
/-! what is known of all values that satisfy -/
abbrev Sx : Type := As → Prop
def EqS (S : Sx) (s t : Tm) : Prop := ∀ θ, S θ → sb θ s = sb θ t
def Sat (S : Sx) : Prop := ∃ θ, S θ
theorem EqS_rfl {S : Sx} {s : Tm} : EqS S s s := fun _ _ => rfl
theorem EqS_symm {S : Sx} {s t : Tm} (h : EqS S s t) : EqS S t s := fun θ q => (h θ q).symm
theorem EqS_trans {S : Sx} {s t u : Tm} (h : EqS S s t) (g : EqS S t u) : EqS S s u := fun θ q => (h θ q).trans (g θ q)
theorem EqS_sub {S S' : Sx} (hs : ∀ θ, S' θ → S θ) {s t : Tm} (h : EqS S s t) : EqS S' s t := fun θ q => h θ (hs θ q)
/-- a partition that is just what S says -/
def Ptn (lo hi : Int) (hd fa fb : Int → Int) (tm : Int → Tm) (c : Int → Int) (S : Sx) : Prop := Wst lo hi hd fa fb tm ∧ Upw lo hi hd fa fb c ∧ Dwn lo hi hd fa fb c ∧ (∃ rk, Acy lo hi hd fa fb c rk) ∧ (∀ θ, S θ ↔ Rsp lo hi tm c θ) ∧ (∀ x, lo ≤ x → x < hi → 0 ≤ c x)
theorem Ptn_eq {lo hi : Int} {hd fa fb : Int → Int} {tm : Int → Tm} {c : Int → Int} {S : Sx} (H : Ptn lo hi hd fa fb tm c S) {x y : Int} (x1 : lo ≤ x) (x2 : x < hi) (y1 : lo ≤ y) (y2 : y < hi) : c x = c y ↔ EqS S (tm x) (tm y) := by
  obtain ⟨W, U, D, ⟨rk, A⟩, R, N⟩ := H
  constructor
  · exact fun e θ q => (R θ).mp q x y x1 x2 y1 y2 e
  · intro e
    obtain ⟨θ, r, s, _⟩ := Wst_gen W D U A N
    exact s x y x1 x2 y1 y2 (e θ ((R θ).mpr r))
theorem Ptn_sat {lo hi : Int} {hd fa fb : Int → Int} {tm : Int → Tm} {c : Int → Int} {S : Sx} (H : Ptn lo hi hd fa fb tm c S) : Sat S := by
  obtain ⟨W, U, D, ⟨rk, A⟩, R, N⟩ := H
  obtain ⟨θ, r, _⟩ := Wst_gen W D U A N
  exact ⟨θ, (R θ).mpr r⟩
/-- a node whose group holds variables alone is equal to no formed term -/
theorem Ptn_unf {lo hi : Int} {hd fa fb : Int → Int} {tm : Int → Tm} {c : Int → Int} {S : Sx} (H : Ptn lo hi hd fa fb tm c S) {x : Int} (x1 : lo ≤ x) (x2 : x < hi) (hu : ∀ y, lo ≤ y → y < hi → c x = c y → 6 < hd y) {k : Int} {a b : Tm} (hk : 0 ≤ k) : ¬ EqS S (tm x) (mkT k a b) := by
  obtain ⟨W, U, D, ⟨rk, A⟩, R, N⟩ := H
  intro e
  obtain ⟨θ, r, _, s⟩ := Wst_gen W D U A N
  have := e θ ((R θ).mpr r)
  rw [s x x1 x2 hu, sb_mk] at this
  exact mkT_ne_V hk _ this.symm
/-- how many groups there are -/
noncomputable def ncl (tm : Int → Tm) (S : Sx) (lo hi : Int) : Int := cnt (fun x => ∀ y, lo ≤ y → y < x → ¬ EqS S (tm y) (tm x)) lo hi
theorem Mi_ncl {lo hi : Int} {tm : Int → Tm} {c : Int → Int} {S : Sx} (M : Mi lo hi c) (H : ∀ x y, lo ≤ x → x < hi → lo ≤ y → y < hi → (c x = c y ↔ EqS S (tm x) (tm y))) : cnt (fun k => c k = k) lo hi = ncl tm S lo hi := by
  refine cnt_congr (fun i i1 i2 => ⟨fun e y y1 y2 q => ?_, fun q => ?_⟩)
  · have w := (H y i y1 (by omega) i1 i2).mpr q
    have := M y y1 (by omega)
    omega
  · have m := M i i1 i2
    rcases Int.lt_or_le (c i) i with w | w
    · exact absurd ((H (c i) i m.1 (by omega) i1 i2).mp m.2.2) (q (c i) m.1 w)
    · omega
theorem ncl_congr {tm tm' : Int → Tm} {S S' : Sx} {lo hi : Int} (h : ∀ x, lo ≤ x → x < hi → tm x = tm' x) (hs : ∀ θ, S θ ↔ S' θ) : ncl tm S lo hi = ncl tm' S' lo hi := by
  refine cnt_congr (fun i i1 i2 => ⟨fun e y y1 y2 q => e y y1 y2 ?_, fun e y y1 y2 q => e y y1 y2 ?_⟩)
  · rw [h y y1 (by omega), h i i1 i2]; exact EqS_sub (fun θ => (hs θ).mp) q
  · rw [← h y y1 (by omega), ← h i i1 i2]; exact EqS_sub (fun θ => (hs θ).mpr) q
/-! the reference's types, closed and without a clash -/
def EqIn (h : HP) : Prop := 0 ≤ h 135 16 ∧ h 135 16 ≤ h 135 17 ∧ h 135 17 ≤ 1000 ∧ ∀ e, h 135 16 ≤ e → e < h 135 17 → (h 135 14 ≤ h 146 e ∧ h 146 e < h 135 15) ∧ (h 135 14 ≤ h 147 e ∧ h 147 e < h 135 15)
def Unq (lo hi : Int) (hd fa fb : Int → Int) : Prop := ∀ x y, lo ≤ x → x < hi → lo ≤ y → y < hi → hd x = hd y → hd x < 7 → (2 ≤ hd x → fa x = fa y) → (hd x = 2 → fb x = fb y) → x = y
/-- before it is known whether there is a clash -/
def RC (h : HP) (tm : Int → Tm) (S : Sx) : Prop := RB h (h 135 14) (h 135 15) tm ∧ EqIn h ∧ (∀ θ, S θ ↔ SolR h tm θ) ∧ (∀ θ, S θ ↔ Rsp (h 135 14) (h 135 15) tm (h 141) θ) ∧ Clo (h 135 14) (h 135 15) (h 137) (h 138) (h 139) (h 141) ∧ Unq (h 135 14) (h 135 15) (h 137) (h 138) (h 139)
def RW (h : HP) (tm : Int → Tm) (S : Sx) : Prop := RC h tm S ∧ Sat S ∧ h 135 16 = h 135 14 ∧ h 135 17 - h 135 16 + ncl tm S (h 135 14) (h 135 15) ≤ h 135 15 - h 135 14
theorem RC_Dwn {h : HP} {tm : Int → Tm} {S : Sx} (H : RC h tm S) (hs : Sat S) : Dwn (h 135 14) (h 135 15) (h 137) (h 138) (h 139) (h 141) := by
  obtain ⟨⟨_, _, _, _, _, W, _, _, _⟩, _, _, R, C, _⟩ := H
  obtain ⟨θ, hθ⟩ := hs
  intro x y x1 x2 y1 y2 e hx hy
  have q := (Rsp_hd W ((R θ).mp hθ) x1 x2 y1 y2 e hx hy).1
  exact ⟨q, ((C x y x1 x2 y1 y2 q (by omega)).mp e).1, ((C x y x1 x2 y1 y2 q (by omega)).mp e).2⟩
theorem RW_Ptn {h : HP} {tm : Int → Tm} {S : Sx} (H : RW h tm S) : Ptn (h 135 14) (h 135 15) (h 137) (h 138) (h 139) tm (h 141) S := by
  have D := RC_Dwn H.1 H.2.1
  obtain ⟨⟨⟨_, _, l0, _, _, W, _, M, _⟩, _, _, R, C, _⟩, ⟨θ, hθ⟩, _⟩ := H
  refine ⟨W, ?_, D, Rsp_acy W ((R θ).mp hθ), R, ?_⟩
  · intro x y x1 x2 y1 y2 e hx p q
    exact (C x y x1 x2 y1 y2 e (by omega)).mpr ⟨p, q⟩
  · intro x x1 x2
    have := M x x1 x2
    omega
theorem RW_eq {h : HP} {tm : Int → Tm} {S : Sx} (H : RW h tm S) {x y : Int} (x1 : h 135 14 ≤ x) (x2 : x < h 135 15) (y1 : h 135 14 ≤ y) (y2 : y < h 135 15) : h 141 x = h 141 y ↔ EqS S (tm x) (tm y) := Ptn_eq (RW_Ptn H) x1 x2 y1 y2
theorem rnk_0 {k : Int} (h : k ≤ 6) : rnk k = 0 := if_neg (by omega)
theorem rnk_v {k : Int} (h : 7 ≤ k) : rnk k = k := if_pos h
/-- the form of a group: formed where the group has a formed node -/
theorem Shp_formed {lo hi : Int} {c hd s : Int → Int} (H : ShpF lo hi c hd s) {x : Int} (x1 : lo ≤ x) (x2 : x < hi) (hx : hd x ≤ 6) : hd (s (c x)) ≤ 6 := by
  obtain ⟨a, b, e, q⟩ := H x x1 x2
  have w := q x x1 x2 rfl
  rw [rnk_0 hx] at w
  rcases Int.lt_or_le 6 (hd (s (c x))) with v | v
  · rw [rnk_v (by omega)] at w; omega
  · exact v
theorem c_clashes {d : Nat} {tm : Int → Tm} {S : Sx} {h : HP} {Q : PQ} (hd : 3 < d) (R : RC h tm S)
    (H1 : Sat S → ∀ v, Q 0 (setR h 145 (h 135 14) (h 135 15) v)) (H2 : ¬ Sat S → ∀ v, Q 1 (setR h 145 (h 135 14) (h 135 15) v)) :
    Go d M_Mo_clashes 0 [(22, 135), (2, 0), (2, 0)] [] h Q := by
  have RCo := R
  obtain ⟨RBo, _, _, Rs, C, _⟩ := R
  have RB0 := RBo
  obtain ⟨_, _, h0, h00, h1, W, hp, M, hs⟩ := RBo
  generalize hlo : h 135 14 = lo at *
  generalize hhi : h 135 15 = hi at *
  have A := Wst_arg W
  -- behind the heads
  have second : ∀ (is : Int), ((is = 0 ∧ ∀ i, lo ≤ i → i < hi → h 137 i < 7 → h 137 (h 142 (h 141 i)) = h 137 i) ∨ (is = 1 ∧ ∃ i, lo ≤ i ∧ i < hi ∧ h 137 i < 7 ∧ h 137 (h 142 (h 141 i)) ≠ h 137 i)) → ∀ v rk T, WkI h lo hi 0 v rk T → (∀ k, lo ≤ k → k < hi → h 141 k = k → v k = 0 → pA1 h v k = 0 ∨ pB1 h v k = 0) → Go d M_Mo_clashes 66 [(22, 135), (0, is), (0, lo)] [] (setR h 145 lo hi v) Q := by
    intro is0 his v rk T I Z
    have eo : ∀ a i, a ≠ 145 → (setR h 145 lo hi v) a i = h a i := fun a i q => setR_ne q
    have bad1 : (∃ i, lo ≤ i ∧ i < hi ∧ h 137 i < 7 ∧ h 137 (h 142 (h 141 i)) ≠ h 137 i) → ¬ Sat S := by
      rintro ⟨i, i1, i2, i3, i4⟩ ⟨θ, hθ⟩
      have s1 := hs i i1 i2
      have s2 := Shp_formed hs i1 i2 (by omega)
      exact i4 (Rsp_hd W ((Rs θ).mp hθ) s1.1 s1.2.1 i1 i2 s1.2.2.1 s2 (by omega)).1
    have bad2 : (∃ k, lo ≤ k ∧ k < hi ∧ h 141 k = k ∧ v k = 0) → ¬ Sat S := by
      rintro ⟨k, k1, k2, k3, k4⟩ ⟨θ, hθ⟩
      obtain ⟨rk', A'⟩ := Rsp_acy W ((Rs θ).mp hθ)
      have : ∀ (n : Nat) (k : Int), lo ≤ k → k < hi → h 141 k = k → rk' k < n → v k ≠ 0 := by
        intro n
        induction n with
        | zero => intro k _ _ _ hk; omega
        | succ n ih =>
          intro k k1 k2 k3 k4 k5
          have s1 := hs k k1 k2
          rw [k3] at s1
          have a1 := A' (h 142 k) s1.1 s1.2.1
          have rs : rk' (h 141 (h 142 k)) = rk' k := by rw [s1.2.2.1]
          rcases Z k k1 k2 k3 k5 with z | z
          · unfold pA1 at z
            split at z
            · rename_i q
              have q1 := ari_ge1 q
              have q2 := (A (h 142 k) s1.1 s1.2.1).1 q1.1 q1.2
              have q3 := M _ q2.1 q2.2
              have q4 := (a1 q1.2).1 q1.1
              exact ih _ q3.1 (by omega) q3.2.2 (by omega) z
            · omega
          · unfold pB1 at z
            split at z
            · rename_i q
              have q1 := ari_ge2 q
              have q2 := (A (h 142 k) s1.1 s1.2.1).2 q1
              have q3 := M _ q2.1 q2.2
              have q4 := (a1 (by omega)).2 q1
              exact ih _ q3.1 (by omega) q3.2.2 (by omega) z
            · omega
      exact this (rk' k + 1) k k1 k2 k3 (by omega) k4
    have good : (∀ i, lo ≤ i → i < hi → h 137 i < 7 → h 137 (h 142 (h 141 i)) = h 137 i) → (∀ k, lo ≤ k → k < hi → h 141 k = k → v k ≠ 0) → Sat S := by
      intro g1 g2
      have D : Dwn lo hi (h 137) (h 138) (h 139) (h 141) := by
        intro x y x1 x2 y1 y2 e hx hy
        have e1 : h 137 x = h 137 y := by rw [← g1 x x1 x2 (by omega), ← g1 y y1 y2 (by omega), e]
        exact ⟨e1, ((C x y x1 x2 y1 y2 e1 (by omega)).mp e).1, ((C x y x1 x2 y1 y2 e1 (by omega)).mp e).2⟩
      have Ac : Acy lo hi (h 137) (h 138) (h 139) (h 141) rk := by
        intro x x1 x2 hx
        have m := M x x1 x2
        have s1 := hs x x1 x2
        have hf : h 137 (h 142 (h 141 x)) = h 137 x := g1 x x1 x2 (by omega)
        have al := (C _ x s1.1 s1.2.1 x1 x2 hf (by omega)).mp s1.2.2.1
        have w := I.2 (h 141 x) m.1 (by omega) (g2 _ m.1 (by omega) m.2.2)
        refine ⟨fun p => ?_, fun p => ?_⟩
        · rw [← al.1 (by omega)]
          refine w.2.2.2.2.1 ?_
          rw [hf]
          rcases Int.lt_or_le (h 137 x) 3 with z | z
          · rw [ari_2 (by omega)]; omega
          · rw [ari_1 z hx]; omega
        · rw [← al.2 (by omega)]
          refine w.2.2.2.2.2 ?_
          rw [hf, ari_2 p]; omega
      obtain ⟨θ, r, _⟩ := Wst_mgu W D Ac (fun _ => tI) (fun _ => tI)
      exact ⟨θ, (Rs θ).mpr r⟩
    have loop : ∀ (is : Int), ((is = 0 ∧ (∀ i, lo ≤ i → i < hi → h 137 i < 7 → h 137 (h 142 (h 141 i)) = h 137 i) ∧ ∀ k, lo ≤ k → k < lo → h 141 k = k → v k ≠ 0) ∨ (is = 1 ∧ ¬ Sat S)) → Go d M_Mo_clashes 66 [(22, 135), (0, is), (0, lo)] [] (setR h 145 lo hi v) Q := by
      refine up_loop (i := lo) (hi := hi) h00 (P := fun j => ∀ (is : Int), ((is = 0 ∧ (∀ i, lo ≤ i → i < hi → h 137 i < 7 → h 137 (h 142 (h 141 i)) = h 137 i) ∧ ∀ k, lo ≤ k → k < j → h 141 k = k → v k ≠ 0) ∨ (is = 1 ∧ ¬ Sat S)) → Go d M_Mo_clashes 66 [(22, 135), (0, is), (0, j)] [] (setR h 145 lo hi v) Q) ?_ ?_
      · intro is q
        refine N_Mo_clashes_66 ⟨fun _ => ?_, fun w => ?_⟩
        · rcases q with ⟨q0, q1, q2⟩ | ⟨q0, q1⟩
          · subst q0; exact ⟨Or.inl rfl, H1 (good q1 q2) v⟩
          · subst q0; exact ⟨Or.inr rfl, H2 q1 v⟩
        · rw [eo 135 15 (by decide), hhi] at w; omega
      · intro j j1 j2 ih is q
        refine N_Mo_clashes_66 ?_
        rw [eo 135 15 (by decide), hhi, eo 141 j (by decide), setR_in j1 j2]
        refine ⟨fun w => by omega, fun _ => ⟨fun w => ⟨by unfold r32; omega, ?_⟩, fun w => ⟨⟨by omega, by omega⟩, fun u => ⟨by unfold r32; omega, ?_⟩, fun u => ⟨⟨by omega, by omega⟩, fun t => ⟨by unfold r32; omega, ?_⟩, fun t => ⟨by unfold r32; omega, ?_⟩⟩⟩⟩⟩
        · rcases q with ⟨q0, _⟩ | q
          · exact absurd q0 w
          · exact ih 1 (Or.inr ⟨rfl, q.2⟩)
        · rcases q with ⟨q0, q1, q2⟩ | ⟨q0, _⟩
          · refine ih 0 (Or.inl ⟨rfl, q1, fun k k1 k2 k3 => ?_⟩)
            by_cases z : k = j
            · subst z; exact absurd k3 u
            · exact q2 k k1 (by omega) k3
          · omega
        · rcases q with ⟨q0, q1, q2⟩ | ⟨q0, _⟩
          · refine ih 0 (Or.inl ⟨rfl, q1, fun k k1 k2 k3 => ?_⟩)
            by_cases z : k = j
            · subst z; exact t
            · exact q2 k k1 (by omega) k3
          · omega
        · exact ih 1 (Or.inr ⟨rfl, bad2 ⟨j, j1, j2, u, t⟩⟩)
    refine loop is0 ?_
    rcases his with ⟨q0, q1⟩ | ⟨q0, q1⟩
    · exact Or.inl ⟨q0, q1, fun k a b => by omega⟩
    · exact Or.inr ⟨q0, bad1 q1⟩
  -- the heads
  have first : ∀ (is : Int), ((is = 0 ∧ ∀ i, lo ≤ i → i < lo → h 137 i < 7 → h 137 (h 142 (h 141 i)) = h 137 i) ∨ (is = 1 ∧ ∃ i, lo ≤ i ∧ i < hi ∧ h 137 i < 7 ∧ h 137 (h 142 (h 141 i)) ≠ h 137 i)) → Go d M_Mo_clashes 7 [(22, 135), (0, is), (0, lo)] [] h Q := by
    refine up_loop (i := lo) (hi := hi) h00 (P := fun j => ∀ (is : Int), ((is = 0 ∧ ∀ i, lo ≤ i → i < j → h 137 i < 7 → h 137 (h 142 (h 141 i)) = h 137 i) ∨ (is = 1 ∧ ∃ i, lo ≤ i ∧ i < hi ∧ h 137 i < 7 ∧ h 137 (h 142 (h 141 i)) ≠ h 137 i)) → Go d M_Mo_clashes 7 [(22, 135), (0, is), (0, j)] [] h Q) ?_ ?_
    · intro is q
      refine N_Mo_clashes_7 ⟨fun _ => ⟨by omega, c_works (by omega) RB0 (fun v rk T I Z => ?_)⟩, fun w => by omega⟩
      rw [setR_ne (by decide), hlo]
      exact second is q v rk T I Z
    · intro j j1 j2 ih is q
      have m := M j j1 j2
      have s1 := hs j j1 j2
      refine N_Mo_clashes_7 ?_
      rw [hhi]
      refine ⟨fun w => by omega, fun _ => ⟨fun w => ⟨by unfold r32; omega, ?_⟩, fun w => ⟨⟨by omega, by omega⟩, fun u => ⟨by unfold r32; omega, ?_⟩, fun u => ⟨by omega, by omega, ⟨by omega, by omega⟩, ⟨by omega, by omega⟩, ⟨by omega, by omega⟩, ⟨by omega, by omega⟩, fun t => ⟨by unfold r32; omega, ?_⟩, fun t => ⟨by unfold r32; omega, ?_⟩⟩⟩⟩⟩
      · rcases q with ⟨q0, _⟩ | q
        · exact absurd q0 w
        · exact ih 1 (Or.inr ⟨rfl, q.2⟩)
      · rcases q with ⟨q0, q1⟩ | ⟨q0, _⟩
        · refine ih 0 (Or.inl ⟨rfl, fun k k1 k2 k3 => ?_⟩)
          by_cases z : k = j
          · subst z; omega
          · exact q1 k k1 (by omega) k3
        · omega
      · rcases q with ⟨q0, q1⟩ | ⟨q0, _⟩
        · refine ih 0 (Or.inl ⟨rfl, fun k k1 k2 k3 => ?_⟩)
          by_cases z : k = j
          · subst z; exact t
          · exact q1 k k1 (by omega) k3
        · omega
      · exact ih 1 (Or.inr ⟨rfl, j, j1, j2, u, t⟩)
  refine N_Mo_clashes_0 ?_
  rw [hlo]
  exact first 0 (Or.inl ⟨rfl, fun i a b => by omega⟩)
end
