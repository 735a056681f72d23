section
/-! what is written: a stack of things, each with its bytes and its parts -/
def wLs {α : Type} (bt : α → List Int) (ch : α → List α) : Nat → List α → List Int
  | 0, _ => []
  | _ + 1, [] => []
  | k + 1, a :: s => bt a ++ wLs bt ch k (ch a ++ s)
def StP {α : Type} (P : Int → α → Prop) (row : Int → Int) : List α → Prop
  | [] => True
  | t :: s => P (row s.length) t ∧ StP P row s
theorem StP_ag {α : Type} {P : Int → α → Prop} {row row' : Int → Int} : ∀ {s : List α}, (∀ i, 0 ≤ i → i < s.length → row' i = row i) → StP P row s → StP P row' s
  | [], _, _ => trivial
  | t :: s, e, ⟨a, b⟩ => by
    have l : (t :: s).length = s.length + 1 := rfl
    exact ⟨by rw [e _ (by omega) (by rw [l]; omega)]; exact a, StP_ag (fun i i0 i1 => e i i0 (by rw [l]; omega)) b⟩
/-- types: the head and the parts, up to what is known -/
def tyF (S : Sx) (t : Tm) (z : Int × Tm × Tm) : Prop := (0 ≤ z.1 ∧ z.1 ≤ 6 ∧ EqS S t (mkT z.1 z.2.1 z.2.2)) ∨ (z.1 = 7 ∧ ∀ k a b, 0 ≤ k → k ≤ 6 → ¬ EqS S t (mkT k a b))
noncomputable def tFm (S : Sx) (t : Tm) : Int × Tm × Tm := @Classical.epsilon _ ⟨(0, tI, tI)⟩ (tyF S t)
theorem tFm_sp (S : Sx) (t : Tm) : tyF S t (tFm S t) := by
  have : ∃ z, tyF S t z := by
    by_cases c : ∃ (k : Int) (a b : Tm), 0 ≤ k ∧ k ≤ 6 ∧ EqS S t (mkT k a b)
    · obtain ⟨k, a, b, e⟩ := c
      exact ⟨(k, a, b), Or.inl e⟩
    · exact ⟨(7, tI, tI), Or.inr ⟨rfl, fun k a b x y z => c ⟨k, a, b, x, y, z⟩⟩⟩
  exact Classical.epsilon_spec this
theorem tFm_of {S : Sx} {x t A B : Tm} {k : Int} (k0 : 0 ≤ k) (e : EqS S x t) (f1 : k ≤ 6 → EqS S x (mkT k A B)) (f2 : ∀ (k' : Int) (a b : Tm), 0 ≤ k' → EqS S x (mkT k' a b) → k = k' ∧ k ≤ 6 ∧ (2 ≤ k' → EqS S A a) ∧ (k' = 2 → EqS S B b)) : (k ≤ 6 → (tFm S t).1 = k ∧ (2 ≤ k → EqS S A (tFm S t).2.1) ∧ (k = 2 → EqS S B (tFm S t).2.2)) ∧ (7 ≤ k → (tFm S t).1 = 7) := by
  rcases tFm_sp S t with ⟨a, b, c⟩ | ⟨a, b⟩
  · obtain ⟨q1, q2, q3, q4⟩ := f2 _ _ _ a (EqS_trans e c)
    exact ⟨fun _ => ⟨q1.symm, fun z => q3 (by omega), fun z => q4 (by omega)⟩, fun z => by omega⟩
  · exact ⟨fun z => absurd (EqS_trans (EqS_symm e) (f1 z)) (b k A B k0 z), fun _ => a⟩
def tBy (k : Int) : List Int := if k = 0 then [105] else if k = 1 then [98] else if k = 2 then [112] else if k ≤ 6 then [100, 48 + k - 3] else [95]
noncomputable def tCh (z : Int × Tm × Tm) : List Tm := if z.1 = 2 then [z.2.1, z.2.2] else if 3 ≤ z.1 ∧ z.1 ≤ 6 then [z.2.1] else []
noncomputable def tWr (S : Sx) : Nat → List Tm → List Int := wLs (fun t => tBy (tFm S t).1) (fun t => tCh (tFm S t))
theorem tWr_c (S : Sx) (k : Nat) (t : Tm) (s : List Tm) : tWr S (k + 1) (t :: s) = tBy (tFm S t).1 ++ tWr S k (tCh (tFm S t) ++ s) := rfl
theorem tWr_n (S : Sx) (k : Nat) : tWr S k [] = [] := by cases k <;> rfl
theorem tBy_7 {k : Int} (a : 7 ≤ k) : tBy k = [95] := by unfold tBy; rw [if_neg (by omega), if_neg (by omega), if_neg (by omega), if_neg (by omega)]
theorem tBy_3 {k : Int} (a : 3 ≤ k) (b : k ≤ 6) : tBy k = [100, 48 + k - 3] := by unfold tBy; rw [if_neg (by omega), if_neg (by omega), if_neg (by omega), if_pos (by omega)]
theorem tBy_ne (k : Int) : 1 ≤ (tBy k).length := by unfold tBy; (repeat' split) <;> simp
theorem k_hd {d : Nat} {k : Int} {h : HP} {p : List Int} {Q : PQ} (hd : 0 < d) (k0 : 0 ≤ k) (k8 : k ≤ 8) (ho : OuR h 131 1 132 p) (HQ : ∀ g : HP, OuR g 131 1 132 (p ++ tBy k) → (∀ a i, a ≠ 131 → a ≠ 132 → g a i = h a i) → Q 0 g) : Go d M_Checker_writeHead 0 [(0, k), (12, 131)] [] h Q := by
  refine N_Ck_writeHead_0 ⟨hd, c_isFam (fun a b => ⟨fun z => absurd z (by decide), fun _ => ⟨hd, k_put (c := 131) (Or.inl rfl) ho (fun g og fr => ⟨by unfold r32; omega, by unfold r32; omega, hd, k_put (c := 131) (Or.inl rfl) og (fun g2 o2 f2 => HQ g2 ?_ (fun x i p q => (f2 x i p q).trans (fr x i p q)))⟩)⟩⟩) (fun a => ⟨fun _ => ⟨fun n2 => ⟨fun n7 => ⟨fun n0 => ⟨hd, k_put (c := 131) (Or.inl rfl) ho (fun g og fr => HQ g ?_ fr)⟩, fun n0 => ⟨hd, k_put (c := 131) (Or.inl rfl) ho (fun g og fr => HQ g ?_ fr)⟩⟩, fun n7 => ⟨hd, k_put (c := 131) (Or.inl rfl) ho (fun g og fr => HQ g ?_ fr)⟩⟩, fun n2 => ⟨hd, k_put (c := 131) (Or.inl rfl) ho (fun g og fr => HQ g ?_ fr)⟩⟩, fun z => absurd rfl z⟩)⟩
  · rw [tBy_3 a b]
    rw [List.append_assoc] at o2
    exact o2
  · have : k = 1 := by omega
    subst this
    exact og
  · subst n0
    exact og
  · rw [tBy_7 n7]
    exact og
  · subst n2
    exact og
/-- the lead of a type, and what it is -/
theorem k_form {d : Nat} {h : HP} {tm : Int → Tm} {S : Sx} {V : Vx} {x : Int} {t : Tm} {Q : PQ} (hd : 0 < d) (C : CV h 96 512 tm S V) (x0 : 0 ≤ x) (x1 : x < h 96 13) (e : EqS S (tm x) t) (H : ∀ y, 0 ≤ y → y < 512 → 0 ≤ h 99 y → h 99 y ≤ 8 → tBy (h 99 y) = tBy (tFm S t).1 → (h 99 y = 2 → tCh (tFm S t) = [(tFm S t).2.1, (tFm S t).2.2] ∧ (0 ≤ h 100 y ∧ h 100 y < h 96 13 ∧ EqS S (tm (h 100 y)) (tFm S t).2.1) ∧ (0 ≤ h 101 y ∧ h 101 y < h 96 13 ∧ EqS S (tm (h 101 y)) (tFm S t).2.2)) → (3 ≤ h 99 y ∧ h 99 y ≤ 6 → tCh (tFm S t) = [(tFm S t).2.1] ∧ h 101 y = -1 ∧ (0 ≤ h 100 y ∧ h 100 y < h 96 13 ∧ EqS S (tm (h 100 y)) (tFm S t).2.1)) → (h 99 y < 2 ∨ 6 < h 99 y → tCh (tFm S t) = [] ∧ h 100 y = -1 ∧ h 101 y = -1) → Q y h) : Go d M_Types_leadOf 0 [(17, 96), (0, x)] [] h Q := by
  obtain ⟨c, W, hV⟩ := C
  have F := W.1
  have Ld := (FB_lead F).1
  obtain ⟨m1, m2⟩ := Led_fm W.2.1 Ld x0 x1
  have l := Ld x x0 x1
  have l1 := l.1
  have l2 := l.2.1
  have w := W.2.1.1.1 (ldC h 96 c x) l1 l2
  have na := W.2.2.2.1 (ldC h 96 c x) l1 l2
  have h8 := F.2.2.2.2.2.2.2.2 (ldC h 96 c x) l1 l2
  have n5 := F.2.1
  refine c_leadOf (T := 96) (R := 512) hd F x0 x1 ?_
  revert m1 m2 l1 l2 w na h8
  generalize ldC h 96 c x = y
  intro m1 m2 l1 l2 w na h8
  have e3 : h (96 + 3) = h 99 := rfl
  have e4 : h (96 + 4) = h 100 := rfl
  have e5 : h (96 + 5) = h 101 := rfl
  rw [e3, e4, e5] at m1 m2 w na
  rw [e3] at h8
  have q := tFm_of h8.1 e m1 m2
  have wa := w.2.1
  have wb := w.2.2.1
  have na1 := na.1
  have na2 := na.2
  clear w na m1 m2
  refine H y l1 (by omega) h8.1 h8.2 ?_ (fun z => ?_) (fun z => ?_) (fun z => ?_)
  · by_cases z : h 99 y ≤ 6
    · rw [(q.1 z).1]
    · rw [q.2 (by omega), tBy_7 (by omega), tBy_7 (by omega)]
  · have q1 := q.1 (by omega)
    have a := wa (by omega) (by omega)
    have b := wb z
    refine ⟨by unfold tCh; rw [if_pos (by omega)], ⟨by omega, by omega, q1.2.1 (by omega)⟩, ⟨by omega, by omega, q1.2.2 z⟩⟩
  · have q1 := q.1 (by omega)
    have a := wa (by omega) (by omega)
    refine ⟨by unfold tCh; rw [if_neg (by omega), if_pos (by omega)], na2 (by omega), ⟨by omega, by omega, q1.2.1 (by omega)⟩⟩
  · refine ⟨?_, na1 z, na2 (by omega)⟩
    unfold tCh
    by_cases y6 : h 99 y ≤ 6
    · have q1 := (q.1 y6).1
      rw [if_neg (by omega), if_neg (by omega)]
    · have q1 := q.2 (by omega)
      rw [if_neg (by omega), if_neg (by omega)]
def TyP (tm : Int → Tm) (S : Sx) (lo hi : Int) (x : Int) (t : Tm) : Prop := lo ≤ x ∧ x < hi ∧ EqS S (tm x) t
theorem k_wr {d : Nat} {h : HP} {tm : Int → Tm} {S : Sx} {V : Vx} {v1 : Int} {Q : PQ} (hd : 3 < d) (C : CV h 96 512 tm S V) : ∀ (k : Nat) (g : HP) (s : List Tm) (p : List Int) (n top : Int) (w6 : AV), n = 200 - k → k ≤ 200 → top = s.length → top ≤ n + 1 → StP (TyP tm S 0 (h 96 13)) (g 123) s → OuR g 131 1 132 p → (∀ a i, a ≠ 123 → a ≠ 131 → a ≠ 132 → g a i = h a i) → (∀ g' : HP, OuR g' 131 1 132 (p ++ tWr S k s) → (∀ a i, a ≠ 123 → a ≠ 131 → a ≠ 132 → g' a i = h a i) → Q 0 g') → Go d M_Checker_write 25 [(10, 92), (0, v1), (12, 131), (17, 96), (0, top), (0, n), w6] [] g Q := by
  intro k
  induction k with
  | zero =>
    intro g s p n top w6 en _ et tl st ho fr HQ
    refine N_Ck_write_25 ⟨fun _ => HQ g ?_ fr, fun z => by omega⟩
    show OuR g 131 1 132 (p ++ [])
    rw [List.append_nil]
    exact ho
  | succ k ih =>
    intro g s p n top w6 en kl et tl st ho fr HQ
    cases s with
    | nil =>
      have et : top = 0 := et
      refine N_Ck_write_25 ⟨fun z => by omega, fun _ => ⟨fun _ => HQ g ?_ fr, fun z => by omega⟩⟩
      rw [tWr_n, List.append_nil]
      exact ho
    | cons t s =>
      have et : top = s.length + 1 := by rw [et]; simp
      obtain ⟨⟨x0, x1, xe⟩, st⟩ := st
      have Cg : CV g 96 512 tm S V := CV_loc (fun a i p q => fr a i (by omega) (by omega) (by omega)) C
      have g13 : g 96 13 = h 96 13 := fr 96 13 (by omega) (by omega) (by omega)
      have et1 : top + (-1) = s.length := by omega
      rw [tWr_c] at HQ
      refine N_Ck_write_25 ⟨fun z => by omega, fun _ => ⟨fun z => by omega, fun _ => ⟨by unfold r32; omega, ⟨by omega, by omega⟩, by omega, ?_⟩⟩⟩
      rw [et1]
      refine k_form (by omega) Cg x0 (by omega) xe (fun y y0 y1 y2 y3 yb c2 c1 c0 => ⟨⟨y0, y1⟩, by omega, k_hd (by omega) y2 y3 ho (fun g2 o2 f2 => ?_)⟩)
      rw [yb] at o2
      have f2' : ∀ a i, a ≠ 123 → a ≠ 131 → a ≠ 132 → g2 a i = h a i := fun a i p q r => (f2 a i q r).trans (fr a i p q r)
      have s2 : StP (TyP tm S 0 (h 96 13)) (g2 123) s := StP_ag (fun i _ _ => f2 123 i (by omega) (by omega)) st
      have e100 : g2 100 y = g 100 y := f2 100 y (by omega) (by omega)
      have e101 : g2 101 y = g 101 y := f2 101 y (by omega) (by omega)
      have n13 : g2 96 13 = g 96 13 := f2 96 13 (by omega) (by omega)
      have T512 : TR 96 512 := Or.inr ⟨rfl, rfl⟩
      refine ⟨⟨y0, y1⟩, by omega, ?_⟩
      by_cases z2 : g 99 y = 2
      · obtain ⟨ec, ⟨a0, a1, ae⟩, ⟨b0, b1, be⟩⟩ := c2 z2
        rw [e101]
        refine c_has T512 (fun _ _ => ⟨fun z => absurd z (by decide), fun _ => ⟨⟨y0, y1⟩, ⟨by omega, by omega⟩, fun g6 e6 => ⟨by unfold r32; omega, ⟨y0, y1⟩, by omega, ?_⟩⟩⟩) (fun z => by omega)
        have q6 : g6 100 y = g 100 y := by rw [e6, up2_nc (by omega), e100]
        have q13 : g6 96 13 = g 96 13 := by rw [e6, up2_nc (by omega), n13]
        rw [q6]
        refine c_has T512 (fun _ _ => ⟨fun z => absurd z (by decide), fun _ => ⟨⟨y0, y1⟩, ⟨by omega, by omega⟩, fun g8 e8 => ⟨by unfold r32; omega, by unfold r32; omega, ?_⟩⟩⟩) (fun z => by omega)
        have o8 : ∀ a i, a ≠ 123 → g8 a i = g2 a i := fun a i p => by rw [e8, up2_nc (by omega), e6, up2_nc (by omega)]
        refine ih g8 ((tFm S t).2.1 :: (tFm S t).2.2 :: s) _ (n + 1) _ _ (by omega) (by omega) (by simp) (by omega) ⟨?_, ?_, ?_⟩ (OuR_ag o2 (o8 _ _ (by omega)) (fun i => o8 _ _ (by omega))) (fun a i p q r => (o8 a i p).trans (f2' a i p q r)) (fun g' o' f' => HQ g' ?_ f')
        · rw [show (((tFm S t).2.2 :: s).length : Int) = s.length + 1 by simp, e8, up2_eq, q6]
          exact ⟨a0, by omega, ae⟩
        · rw [e8, up2_ext (by omega), e6, up2_eq, e101]
          exact ⟨b0, by omega, be⟩
        · exact StP_ag (fun i i0 i1 => by rw [e8, up2_ext (by omega), e6, up2_ext (by omega)]) s2
        · rw [ec]
          rw [List.append_assoc] at o'
          exact o'
      · by_cases z3 : 3 ≤ g 99 y ∧ g 99 y ≤ 6
        · obtain ⟨ec, b0, ⟨a0, a1, ae⟩⟩ := c1 z3
          rw [e101]
          refine c_has T512 (fun _ _ => by omega) (fun _ => ⟨fun _ => ⟨⟨y0, y1⟩, by omega, ?_⟩, fun z => absurd rfl z⟩)
          rw [e100]
          refine c_has T512 (fun _ _ => ⟨fun z => absurd z (by decide), fun _ => ⟨⟨y0, y1⟩, ⟨by omega, by omega⟩, fun g6 e6 => ⟨by unfold r32; omega, by unfold r32; omega, ?_⟩⟩⟩) (fun z => by omega)
          have o6 : ∀ a i, a ≠ 123 → g6 a i = g2 a i := fun a i p => by rw [e6, up2_nc (by omega)]
          refine ih g6 ((tFm S t).2.1 :: s) _ (n + 1) _ _ (by omega) (by omega) (by simp) (by omega) ⟨?_, ?_⟩ (OuR_ag o2 (o6 _ _ (by omega)) (fun i => o6 _ _ (by omega))) (fun a i p q r => (o6 a i p).trans (f2' a i p q r)) (fun g' o' f' => HQ g' ?_ f')
          · rw [e6, up2_eq, e100]
            exact ⟨a0, by omega, ae⟩
          · exact StP_ag (fun i i0 i1 => by rw [e6, up2_ext (by omega)]) s2
          · rw [ec]
            rw [List.append_assoc] at o'
            exact o'
        · obtain ⟨ec, a0, b0⟩ := c0 (by omega)
          rw [e101]
          refine c_has T512 (fun _ _ => by omega) (fun _ => ⟨fun _ => ⟨⟨y0, y1⟩, by omega, ?_⟩, fun z => absurd rfl z⟩)
          rw [e100]
          refine c_has T512 (fun _ _ => by omega) (fun _ => ⟨fun _ => ⟨by unfold r32; omega, ?_⟩, fun z => absurd rfl z⟩)
          refine ih g2 s _ (n + 1) _ _ (by omega) (by omega) rfl (by omega) s2 o2 f2' (fun g' o' f' => HQ g' ?_ f')
          rw [ec]
          rw [List.append_assoc] at o'
          exact o'
/-- the class writes a type -/
theorem k_write {d : Nat} {h : HP} {tm : Int → Tm} {S : Sx} {V : Vx} {x : Int} {t : Tm} {Q : PQ} (hd : 3 < d) (C : CV h 96 512 tm S V) (x0 : 0 ≤ x) (x1 : x < h 96 13) (xe : EqS S (tm x) t) (HQ : ∀ g : HP, OuR g 131 1 132 (tWr S 200 [t]) → (∀ a i, a ≠ 123 → a ≠ 131 → a ≠ 132 → g a i = h a i) → Q 0 g) : Go d M_Checker_write 0 [(10, 92), (0, x), (12, 131), (2, 0), (2, 0), (2, 0), (2, 0)] [] h Q := by
  refine N_Ck_write_0 ⟨by omega, fun g1 e1 => ⟨⟨by omega, by omega⟩, fun g2 e2 => ?_⟩⟩
  have o2 : ∀ a i, a ≠ 123 → a ≠ 131 → a ≠ 132 → g2 a i = h a i := fun a i p q r => by rw [e2, up2_nc (by omega), e1, up2_nc (by omega)]
  refine k_wr hd C 200 g2 [t] [] 0 1 _ (by omega) (by omega) rfl (by omega) ⟨?_, trivial⟩ (OuR_nil ?_) o2 (fun g' o' f' => HQ g' o' f')
  · show TyP tm S 0 (h 96 13) (g2 123 0) t
    rw [e2, up2_eq]
    exact ⟨x0, x1, xe⟩
  · rw [e2, up2_nc (by omega), e1, up2_eq]
end
