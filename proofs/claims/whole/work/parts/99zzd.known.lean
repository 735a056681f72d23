section
/-! what the leads tell; known, in words of S and V -/
theorem Led_fm {lo hi : Int} {hd fa fb : Int → Int} {tm : Int → Tm} {c L : Int → Int} {S : Sx} (P : Ptn lo hi hd fa fb tm c S) (H : Led lo hi hd c L) {x : Int} (x1 : lo ≤ x) (x2 : x < hi) : (hd (L x) ≤ 6 → EqS S (tm x) (mkT (hd (L x)) (tm (fa (L x))) (tm (fb (L x))))) ∧ (∀ (k : Int) (a b : Tm), 0 ≤ k → EqS S (tm x) (mkT k a b) → hd (L x) = k ∧ hd (L x) ≤ 6 ∧ (2 ≤ k → EqS S (tm (fa (L x))) a) ∧ (k = 2 → EqS S (tm (fb (L x))) b)) := by
  obtain ⟨l1, l2, l3, l4⟩ := H x x1 x2
  have W := P.1
  have eL : EqS S (tm x) (tm (L x)) := (Ptn_eq P x1 x2 l1 l2).mp l3.symm
  have one : hd (L x) ≤ 6 → EqS S (tm x) (mkT (hd (L x)) (tm (fa (L x))) (tm (fb (L x)))) := by
    intro h6
    have := (W.1 (L x) l1 l2).2.2.2.1 h6
    rw [this] at eL
    exact eL
  refine ⟨one, fun k a b k0 e => ?_⟩
  have h6 : hd (L x) ≤ 6 := by
    rcases Int.lt_or_le 6 (hd (L x)) with z | z
    · exfalso
      refine Ptn_unf P x1 x2 (fun y y1 y2 e' => ?_) k0 e
      have := l4 y y1 y2 e'.symm
      rw [rnk_v (k := hd (L x)) (by omega)] at this
      rcases Int.lt_or_le 6 (hd y) with w | w
      · exact w
      · rw [rnk_0 w] at this; omega
    · exact z
  have e2 := EqS_trans (EqS_symm (one h6)) e
  obtain ⟨θ0, t0⟩ := Ptn_sat P
  have nn := (W.1 (L x) l1 l2).1.1
  have i0 := e2 θ0 t0
  rw [sb_mk, sb_mk] at i0
  have j := mkT_inj nn k0 i0
  refine ⟨j.1, h6, fun z θ t => ?_, fun z θ t => ?_⟩
  · have i := e2 θ t
    rw [sb_mk, sb_mk] at i
    exact (mkT_inj nn k0 i).2.1 (by have := j.1; omega)
  · have i := e2 θ t
    rw [sb_mk, sb_mk] at i
    exact (mkT_inj nn k0 i).2.2 (by have := j.1; omega)
def KnF (S : Sx) (V : Vx) : Nat → Tm → Prop
  | 0, _ => False
  | f + 1, t => (∃ m, EqS S t (tV m) ∧ (V m).1 = 7 ∧ Unf S m) ∨ (∃ (k : Int) (a b : Tm), (0 ≤ k ∧ k ≤ 6) ∧ EqS S t (mkT k a b) ∧ (2 ≤ k → KnF S V f a) ∧ (k = 2 → KnF S V f b))
theorem KnF_mono {S : Sx} {V : Vx} : ∀ (f g : Nat) (t : Tm), f ≤ g → KnF S V f t → KnF S V g t := by
  intro f
  induction f with
  | zero => intro g t _ H; exact absurd H (fun z => z)
  | succ f ih =>
    intro g t hg H
    match g, hg with
    | 0, hg => omega
    | g + 1, hg =>
      rcases H with H | ⟨k, a, b, kk, e, ka, kb⟩
      · exact Or.inl H
      · exact Or.inr ⟨k, a, b, kk, e, fun z => ih g a (by omega) (ka z), fun z => ih g b (by omega) (kb z)⟩
def Kn (S : Sx) (V : Vx) (t : Tm) : Prop := ∃ f, KnF S V f t
theorem Kn_eq {S : Sx} {V : Vx} {s t : Tm} (e : EqS S s t) (H : Kn S V t) : Kn S V s := by
  obtain ⟨f, H⟩ := H
  match f, H with
  | 0, H => exact absurd H (fun z => z)
  | f + 1, H =>
    refine ⟨f + 1, ?_⟩
    rcases H with ⟨m, e1, v, u⟩ | ⟨k, a, b, kk, e1, ka, kb⟩
    · exact Or.inl ⟨m, EqS_trans e e1, v, u⟩
    · exact Or.inr ⟨k, a, b, kk, EqS_trans e e1, ka, kb⟩
theorem Kn_node {lo hi : Int} {hd fa fb dp : Int → Int} {tm : Int → Tm} {c L : Int → Int} {S : Sx} {V : Vx} (P : Ptn lo hi hd fa fb tm c S) (H : Led lo hi hd c L) (hV : VOk lo hi hd dp tm V) {x : Int} (x1 : lo ≤ x) (x2 : x < hi) : Kn S V (tm x) ↔ (hd (L x) ≠ 8 ∧ (2 ≤ hd (L x) → hd (L x) ≤ 6 → Kn S V (tm (fa (L x)))) ∧ (hd (L x) = 2 → Kn S V (tm (fb (L x))))) := by
  obtain ⟨l1, l2, l3, l4⟩ := H x x1 x2
  have W := P.1
  have eL : EqS S (tm x) (tm (L x)) := (Ptn_eq P x1 x2 l1 l2).mp l3.symm
  obtain ⟨fm1, fm2⟩ := Led_fm P H x1 x2
  constructor
  · rintro ⟨f, hf⟩
    match f, hf with
    | 0, hf => exact absurd hf (fun z => z)
    | f + 1, hf =>
      rcases hf with ⟨m, e, v7, u⟩ | ⟨k, a, b, kk, e, ka, kb⟩
      · obtain ⟨y, y1, y2, y7, ye⟩ := hV.2 m (by omega)
        have ev := VOk_at hV y1 y2 y7 ye
        rw [ev] at v7
        have v7 : hd y = 7 := v7
        have cy : c y = c x := ((Ptn_eq P x1 x2 y1 y2).mpr (by rw [ye]; exact e)).symm
        have r := l4 y y1 y2 cy
        rw [v7, rnk_v (k := 7) (by decide)] at r
        have n6 : ¬ hd (L x) ≤ 6 := fun h6 => u _ _ _ (W.1 (L x) l1 l2).1.1 (EqS_trans (EqS_symm e) (fm1 h6))
        refine ⟨fun z => ?_, fun _ z => absurd z n6, fun z => by omega⟩
        rw [z, rnk_v (k := 8) (by decide)] at r
        omega
      · obtain ⟨q1, q2, q3, q4⟩ := fm2 k a b kk.1 e
        exact ⟨by omega, fun z _ => Kn_eq (q3 (by omega)) ⟨f, ka (by omega)⟩, fun z => Kn_eq (q4 (by omega)) ⟨f, kb (by omega)⟩⟩
  · rintro ⟨n8, ka, kb⟩
    rcases Int.lt_or_le 6 (hd (L x)) with z | z
    · have h7 : hd (L x) = 7 := by have := (W.1 (L x) l1 l2).1.2; omega
      obtain ⟨n, en⟩ := (W.1 (L x) l1 l2).2.2.2.2 (by omega)
      have ev := VOk_at hV l1 l2 (by omega) en
      rw [en] at eL
      refine ⟨1, Or.inl ⟨n, eL, by rw [ev]; exact h7, fun k a b k0 e => ?_⟩⟩
      have := (fm2 k a b k0 (EqS_trans eL e)).2.1
      omega
    · have nn := (W.1 (L x) l1 l2).1.1
      have A : ∃ f, 2 ≤ hd (L x) → KnF S V f (tm (fa (L x))) := by
        by_cases w : 2 ≤ hd (L x)
        · obtain ⟨f, hf⟩ := ka w z
          exact ⟨f, fun _ => hf⟩
        · exact ⟨0, fun u => absurd u w⟩
      have B : ∃ f, hd (L x) = 2 → KnF S V f (tm (fb (L x))) := by
        by_cases w : hd (L x) = 2
        · obtain ⟨f, hf⟩ := kb w
          exact ⟨f, fun _ => hf⟩
        · exact ⟨0, fun u => absurd u w⟩
      obtain ⟨f1, h1⟩ := A
      obtain ⟨f2, h2⟩ := B
      exact ⟨f1 + f2 + 1, Or.inr ⟨hd (L x), tm (fa (L x)), tm (fb (L x)), ⟨nn, z⟩, fm1 z, fun w => KnF_mono f1 _ _ (by omega) (h1 w), fun w => KnF_mono f2 _ _ (by omega) (h2 w)⟩⟩
/-- the class's test -/
theorem c_knownC {d : Nat} {h : HP} {T R x : Int} {tm : Int → Tm} {S : Sx} {V : Vx} {Q : PQ} (hd : 1 < d) (C : CV h T R tm S V) (x0 : 0 ≤ x) (x1 : x < h T 13)
    (H1 : Kn S V (tm x) → ∀ g, ScC T h g → Q 1 g) (H0 : ¬ Kn S V (tm x) → ∀ g, ScC T h g → Q 0 g) : Go d M_Walk_isKnown 0 [(19, T + 14), (0, x), (2, 0)] [] h Q := by
  obtain ⟨c, W, hV⟩ := C
  have P := W.2.1
  have Ld := (FB_lead W.1).1
  have Fr := W.1.2.2.2.2.1
  have NA := W.2.2.2.1
  have rt : ∀ y, 0 ≤ y → y < h T 13 → (Kn S V (tm (c y)) ↔ Kn S V (tm y)) := by
    intro y y0 y1
    have cy := (Fr y y0 y1).2.1
    have e : EqS S (tm (c y)) (tm y) := (Ptn_eq P cy.1 cy.2 y0 y1).mp (Frs_cc Fr y0 y1)
    exact ⟨Kn_eq (EqS_symm e), Kn_eq e⟩
  refine c_isKnown (K := fun r => Kn S V (tm r)) hd W x0 x1 (fun r r0 r1 cr => ?_) (fun q g s _ => H1 ((rt x x0 x1).mp q) g s) (fun q g s _ => H0 (fun z => q ((rt x x0 x1).mpr z)) g s)
  have l := Ld r r0 r1
  have el : h (T + 9) r % 1024 = ldC h T c r := by unfold ldC; rw [cr]
  have na := NA (ldC h T c r) l.1 l.2.1
  have wa := P.1.1 (ldC h T c r) l.1 l.2.1
  show Kn S V (tm r) ↔ (hdL h T r ≠ 8 ∧ (kA h T c (h T 13) r ≠ -1 → Kn S V (tm (kA h T c (h T 13) r))) ∧ (kB h T c (h T 13) r ≠ -1 → Kn S V (tm (kB h T c (h T 13) r))))
  unfold hdL kA kB
  rw [el, Kn_node P Ld hV r0 r1]
  have a : (2 ≤ h (T + 3) (ldC h T c r) → h (T + 3) (ldC h T c r) ≤ 6 → Kn S V (tm (h (T + 4) (ldC h T c r)))) ↔ (c1 c (h T 13) (h (T + 4) (ldC h T c r)) ≠ -1 → Kn S V (tm (c1 c (h T 13) (h (T + 4) (ldC h T c r))))) := by
    by_cases z : 2 ≤ h (T + 3) (ldC h T c r) ∧ h (T + 3) (ldC h T c r) ≤ 6
    · have b := wa.2.1 z.1 z.2
      rw [c1_in b.1 (by omega)]
      have q := rt _ b.1 (by have := l.2.1; omega)
      have cc := (Fr _ b.1 (by have := l.2.1; omega)).2.1
      exact ⟨fun u _ => q.mpr (u z.1 z.2), fun u _ _ => q.mp (u (by omega))⟩
    · have e := na.1 (by omega)
      rw [e, c1_out (by omega)]
      exact ⟨fun _ u => absurd rfl u, fun _ u1 u2 => absurd ⟨u1, u2⟩ z⟩
  have b : (h (T + 3) (ldC h T c r) = 2 → Kn S V (tm (h (T + 5) (ldC h T c r)))) ↔ (c1 c (h T 13) (h (T + 5) (ldC h T c r)) ≠ -1 → Kn S V (tm (c1 c (h T 13) (h (T + 5) (ldC h T c r))))) := by
    by_cases z : h (T + 3) (ldC h T c r) = 2
    · have b := wa.2.2.1 z
      rw [c1_in b.1 (by omega)]
      have q := rt _ b.1 (by have := l.2.1; omega)
      have cc := (Fr _ b.1 (by have := l.2.1; omega)).2.1
      exact ⟨fun u _ => q.mpr (u z), fun u _ => q.mp (u (by omega))⟩
    · have e := na.2 z
      rw [e, c1_out (by omega)]
      exact ⟨fun _ u => absurd rfl u, fun _ u1 => absurd u1 z⟩
  rw [a, b]
/-- the reference's test -/
theorem c_knownR {d : Nat} {h : HP} {x : Int} {tm : Int → Tm} {S : Sx} {V : Vx} {Q : PQ} (hd : 5 < d) (M : MV h tm S V) (x0 : h 135 14 ≤ x) (x1 : x < h 135 15)
    (H1 : Kn S V (tm x) → ∀ w, Q 1 (setR h 145 (h 135 14) (h 135 15) w)) (H0 : ¬ Kn S V (tm x) → ∀ w, Q 0 (setR h 145 (h 135 14) (h 135 15) w)) : Go d M_Mo_isKnown 0 [(22, 135), (0, x)] [] h Q := by
  have RBh := M.1.1.1
  have P := RW_Ptn M.1
  have Ld := RW_Led M.1
  have Mi' := RBh.2.2.2.2.2.2.2.1
  have bb := MV_b M
  refine N_Mo_isKnown_0 ⟨by omega, N_Mo_worked_0 ⟨by omega, c_works (by omega) RBh (fun v rk T I Z => ?_)⟩⟩
  have pos := works_pos (what := 1) M.1 Z
  -- a value is known at a root when that of its parts is
  have key : ∀ (n : Nat) (k : Int), h 135 14 ≤ k → k < h 135 15 → h 141 k = k → rk k < n → (v k = 1 ∨ v k = 2) ∧ (v k = 2 ↔ Kn S V (tm k)) := by
    intro n
    induction n with
    | zero => intro k _ _ _ z; omega
    | succ n ih =>
      intro k k0 k1 ck kn
      obtain ⟨i1, i2, i3, i4, i5, i6⟩ := I.2 k k0 k1 (pos k k0 k1 ck)
      have l : h 135 14 ≤ h 142 k ∧ h 142 k < h 135 15 := by
        have := Ld k k0 k1
        dsimp only at this
        rw [ck] at this
        exact ⟨this.1, this.2.1⟩
      have wa := P.1.1 (h 142 k) l.1 l.2
      have nd := Kn_node P Ld M.2 k0 k1
      rw [ck] at nd
      have rt : ∀ y, h 135 14 ≤ y → y < h 135 15 → (Kn S V (tm (h 141 y)) ↔ Kn S V (tm y)) := by
        intro y y0 y1
        have cy := Mi' y y0 y1
        have e : EqS S (tm (h 141 y)) (tm y) := (Ptn_eq P cy.1 (by omega) y0 y1).mp cy.2.2
        exact ⟨Kn_eq (EqS_symm e), Kn_eq e⟩
      have A : 0 < ari (h 137 (h 142 k)) → (v (h 141 (h 138 (h 142 k))) = 1 ∨ v (h 141 (h 138 (h 142 k))) = 2) ∧ (v (h 141 (h 138 (h 142 k))) = 2 ↔ Kn S V (tm (h 138 (h 142 k)))) := by
        intro z
        have g := ari_ge1 z
        have b := wa.2.1 g.1 g.2
        have m := Mi' (h 138 (h 142 k)) b.1 (by have := l.2; omega)
        have q := ih (h 141 (h 138 (h 142 k))) m.1 (by have := l.2; omega) m.2.2 (by have := i5 z; omega)
        rw [rt _ b.1 (by have := l.2; omega)] at q
        exact q
      have B : 1 < ari (h 137 (h 142 k)) → (v (h 141 (h 139 (h 142 k))) = 1 ∨ v (h 141 (h 139 (h 142 k))) = 2) ∧ (v (h 141 (h 139 (h 142 k))) = 2 ↔ Kn S V (tm (h 139 (h 142 k)))) := by
        intro z
        have g := ari_ge2 z
        have b := wa.2.2.1 g
        have m := Mi' (h 139 (h 142 k)) b.1 (by have := l.2; omega)
        have q := ih (h 141 (h 139 (h 142 k))) m.1 (by have := l.2; omega) m.2.2 (by have := i6 z; omega)
        rw [rt _ b.1 (by have := l.2; omega)] at q
        exact q
      have a1 : 0 < ari (h 137 (h 142 k)) ↔ (2 ≤ h 137 (h 142 k) ∧ h 137 (h 142 k) ≤ 6) := by unfold ari; split <;> (try split) <;> omega
      have b1 : 1 < ari (h 137 (h 142 k)) ↔ h 137 (h 142 k) = 2 := by unfold ari; split <;> (try split) <;> omega
      rw [nd]
      unfold pA1 pB1 at i4
      have e : v k = if h 137 (h 142 k) = 8 ∨ (0 < ari (h 137 (h 142 k)) ∧ (if 0 < ari (h 137 (h 142 k)) then v (h 141 (h 138 (h 142 k))) else 1) = 1) ∨ (1 < ari (h 137 (h 142 k)) ∧ (if 1 < ari (h 137 (h 142 k)) then v (h 141 (h 139 (h 142 k))) else 1) = 1) then 1 else 2 := by
        unfold wth at i4
        rw [if_neg (by decide), if_pos rfl] at i4
        exact i4
      by_cases c8 : h 137 (h 142 k) = 8
      · rw [if_pos (Or.inl c8)] at e
        exact ⟨Or.inl e, ⟨fun z => by omega, fun z => absurd c8 z.1⟩⟩
      · by_cases ca : 0 < ari (h 137 (h 142 k)) ∧ v (h 141 (h 138 (h 142 k))) = 1
        · rw [if_pos (Or.inr (Or.inl ⟨ca.1, by rw [if_pos ca.1]; exact ca.2⟩))] at e
          refine ⟨Or.inl e, ⟨fun z => by omega, fun z => ?_⟩⟩
          have := (A ca.1).2.mpr (z.2.1 (a1.mp ca.1).1 (a1.mp ca.1).2)
          omega
        · by_cases cb : 1 < ari (h 137 (h 142 k)) ∧ v (h 141 (h 139 (h 142 k))) = 1
          · rw [if_pos (Or.inr (Or.inr ⟨cb.1, by rw [if_pos cb.1]; exact cb.2⟩))] at e
            refine ⟨Or.inl e, ⟨fun z => by omega, fun z => ?_⟩⟩
            have := (B cb.1).2.mpr (z.2.2 (b1.mp cb.1))
            omega
          · rw [if_neg] at e
            · refine ⟨Or.inr e, ⟨fun _ => ⟨c8, fun u w => ?_, fun u => ?_⟩, fun _ => e⟩⟩
              · have p := a1.mpr ⟨u, w⟩
                rcases (A p).1 with y | y
                · exact absurd ⟨p, y⟩ ca
                · exact (A p).2.mp y
              · have p := b1.mpr u
                rcases (B p).1 with y | y
                · exact absurd ⟨p, y⟩ cb
                · exact (B p).2.mp y
            · rintro (z | ⟨z1, z2⟩ | ⟨z1, z2⟩)
              · exact c8 z
              · rw [if_pos z1] at z2; exact ca ⟨z1, z2⟩
              · rw [if_pos z1] at z2; exact cb ⟨z1, z2⟩
  have m := Mi' x x0 x1
  rw [setR_ne (show (141 : Int) ≠ 145 by decide), setR_in (by omega) (by omega)]
  have q := key (rk (h 141 x) + 1) (h 141 x) m.1 (by omega) m.2.2 (by omega)
  have e : EqS S (tm (h 141 x)) (tm x) := (Ptn_eq P m.1 (by omega) x0 x1).mp m.2.2
  refine ⟨⟨by omega, by omega⟩, ⟨by omega, by omega⟩, fun z => H0 (fun u => z (q.2.mpr (Kn_eq e u))) v, fun z => H1 (Kn_eq (EqS_symm e) (q.2.mp z)) v⟩
end
