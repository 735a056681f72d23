section
/-! begins: prepared sets as lists -/
theorem app_get {α : Type} {a b : α} : ∀ (l : List α) (i : Nat), (l ++ [a])[i]? = some b → (i < l.length ∧ l[i]? = some b) ∨ (i = l.length ∧ b = a) := by
  intro l
  induction l with
  | nil =>
    intro i e
    match i, e with
    | 0, e => exact Or.inr ⟨rfl, by rw [List.nil_append, List.getElem?_cons_zero] at e; cases e; rfl⟩
    | i + 1, e => rw [List.nil_append, List.getElem?_cons_succ, List.getElem?_nil] at e; cases e
  | cons x l ih =>
    intro i e
    match i, e with
    | 0, e =>
      rw [List.cons_append, List.getElem?_cons_zero] at e
      exact Or.inl ⟨by rw [List.length_cons]; omega, by rw [List.getElem?_cons_zero]; exact e⟩
    | i + 1, e =>
      rw [List.cons_append, List.getElem?_cons_succ] at e
      rcases ih i e with ⟨p, q⟩ | ⟨p, q⟩
      · exact Or.inl ⟨by rw [List.length_cons]; omega, by rw [List.getElem?_cons_succ]; exact q⟩
      · exact Or.inr ⟨by rw [List.length_cons]; omega, q⟩
theorem get_lt {α : Type} {l : List α} {i : Nat} {a : α} (e : l[i]? = some a) : i < l.length := by
  rcases Nat.lt_or_ge i l.length with z | z
  · exact z
  · rw [List.getElem?_eq_none z] at e; cases e
def nPn (nc N : Int) (k : Int) : Int := if k = 71 then N else nc
theorem KID_cg {R R' : HP} {e : Int → Int} {Y : YR} (hY : ∀ q k s, Y q k s → 0 ≤ k ∧ k < 100) (hR : ∀ x i, 161 ≤ x → x ≤ 166 → 0 ≤ i → i < 100 → R' x i = R x i) : ∀ (j : Nat) (q k sc : Int), KID R e Y j q k sc → KID R' e Y j q k sc := by
  intro j
  induction j with
  | zero => intro q k sc _; exact trivial
  | succ j ih =>
    intro q k sc H
    have := hY _ _ _ H.1
    refine ⟨H.1, ?_⟩
    rw [hR 165 k (by omega) (by omega) this.1 this.2]
    exact ih _ _ _ H.2
theorem KCA_cg {R R' : HP} {B e : Int → Int} {nP : Int → Int} {pp pp' : Int → Int → Int} {Y : YR} (hY : ∀ q k s, Y q k s → 0 ≤ k ∧ k < 100) (hR : ∀ x i, 161 ≤ x → x ≤ 166 → 0 ≤ i → i < 100 → R' x i = R x i) (hp : ∀ j, 0 ≤ j → j < nP 67 → pp' 67 j = pp 67 j) : ∀ (f : Nat) (q k sc : Int), KCA R B e nP pp Y f q k sc → KCA R' B e nP pp' Y f q k sc := by
  intro f
  induction f with
  | zero => intro q k sc H; exact H
  | succ f ih =>
    intro q k sc H
    rcases H with H | ⟨c, ok, k0, o1, o2, o3, y, z⟩
    · exact Or.inl H
    · refine Or.inr ⟨c, ok, k0, ?_, ?_, ?_, ?_, ?_⟩
      · rw [hR 161 k (by omega) (by omega) k0.1 k0.2]; exact o1
      · rw [hR 162 k (by omega) (by omega) k0.1 k0.2]; exact o2
      · rw [hR 163 k (by omega) (by omega) k0.1 k0.2]; exact o3
      · rw [hR 164 k (by omega) (by omega) k0.1 k0.2, hp _ (by have := ok.1; omega) ok.2.2]; exact y
      · rw [hR 165 k (by omega) (by omega) k0.1 k0.2]; exact ih _ _ _ z
theorem NX_cg {R R' : HP} {B e : Int → Int} {nP : Int → Int} {pp pp' : Int → Int → Int} (hR : ∀ x i, 161 ≤ x → x ≤ 166 → 0 ≤ i → i < 100 → R' x i = R x i) (hp : ∀ k j, (k = 67 ∨ k = 71) → 0 ≤ j → j < nP k → pp' k j = pp k j) {p k sc : Int} (H : NX R B e nP pp p k sc) : NX R' B e nP pp' p k sc := by
  have hY : ∀ q k s, NX R B e nP pp q k s → 0 ≤ k ∧ k < 100 := fun q k s h => ⟨(NX_out h).1.2.2.2.1, (NX_out h).1.2.2.2.2⟩
  refine ⟨NX R B e nP pp, fun q j s h => ?_, H⟩
  obtain ⟨⟨a1, a2, a3, a4, a5⟩, H⟩ := NX_out h
  refine ⟨⟨by rw [hR 161 j (by omega) (by omega) a4 a5]; exact a1, by rw [hR 162 j (by omega) (by omega) a4 a5]; exact a2, by rw [hR 166 j (by omega) (by omega) a4 a5]; exact a3, a4, a5⟩, ?_⟩
  have e164 := hR 164 j (by omega) (by omega) a4 a5
  rcases H with H | ⟨c, H⟩ | ⟨c, ok, f, H⟩ | ⟨c, y, f, z⟩
  · exact Or.inl H
  · exact Or.inr (Or.inl ⟨c, by rw [e164]; exact KID_cg hY hR _ _ _ _ H⟩)
  · refine Or.inr (Or.inr (Or.inl ⟨c, ok, by rw [hR 163 j (by omega) (by omega) a4 a5]; exact f, ?_⟩))
    rw [e164, hp _ _ c (by have := ok.1; omega) ok.2.2]
    exact KID_cg hY hR _ _ _ _ H
  · have ky := hY _ _ _ y
    refine Or.inr (Or.inr (Or.inr ⟨c, by rw [e164]; exact y, f, ?_⟩))
    rw [e164, hR 165 _ (by omega) (by omega) ky.1 ky.2]
    exact KCA_cg hY hR (fun j j0 j1 => hp 67 j (Or.inl rfl) j0 j1) _ _ _ _ z
/-- a body as the class holds it -/
def BdC (g : HP) (nc f kb sc : Int) (e : Int → Int) (r m : Int) : Prop := (∃ w', RD (bA (aSCH kb) (aSLEN kb)) e (nPn nc (f + 1)) (ppr g) (llr g) 0 sc (aSLEN kb) r w' m) ∧ ((r = aSLEN kb ∧ g 40 f = 1 ∧ g (63 + 5 * f) 2 = aSLEN kb ∧ g (63 + 5 * f) 3 = m ∧ 1 ≤ m ∧ m ≤ 100 ∧ (∀ i, 0 ≤ i → i < aSLEN kb → g (63 + 5 * f + 1) i = aSCH kb i) ∧ e = g (63 + 5 * f + 2)) ∨ (r ≠ aSLEN kb ∧ g 40 f = 0))
def gdS (k : Int) : Prop := (0 ≤ k ∧ k < 19) ∧ 0 ≤ aSLEN k ∧ aSLEN k ≤ 24 ∧ 0 ≤ pS k
def gdB (k : Int) : Prop := (0 ≤ k ∧ k < 19) ∧ 0 < aSLEN k ∧ aSLEN k ≤ 100 ∧ ∀ i, 0 ≤ i → i < aSLEN k → 0 ≤ aSCH k i ∧ aSCH k i ≤ 127
/-- the class's side -/
def PcSt (h g : HP) (cs : List Int) (fs : List (Int × Int)) : Prop := (∀ x i, x < 33 ∨ 91 < x → g x i = h x i) ∧ (g 36 4 = cs.length ∧ cs.length ≤ 10) ∧ (g 36 5 = fs.length ∧ fs.length ≤ 6) ∧ (∀ (i : Nat) (k : Int), cs[i]? = some k → gdS k ∧ SgN (aSCH k) g (41 + 2 * i) (aSLEN k) (pS k) ∧ g (41 + 2 * i) 4 = 0) ∧ (∀ (i : Nat) (kk : Int × Int), fs[i]? = some kk → gdS kk.1 ∧ gdB kk.2 ∧ SgN (aSCH kk.1) g (61 + 5 * i) (aSLEN kk.1) (pS kk.1) ∧ ∃ e r m, BdC g cs.length i kk.2 (pS kk.1) e r m)
theorem SgN_ag {b : Int → Int} {g g' : HP} {s n c : Int} (o : ∀ i, g' s i = g s i) (o1 : ∀ i, g' (s + 1) i = g (s + 1) i) (S : SgN b g s n c) : SgN b g' s n c := ⟨by rw [o]; exact S.1, by rw [o]; exact S.2.1, by rw [o]; exact S.2.2.1, fun i i0 i1 => by rw [o1]; exact S.2.2.2 i i0 i1⟩
theorem pS_3 (k : Int) : pS k ≤ 3 := rdS_3 (b := aSCH k) (n := aSLEN k) (m := aSLEN k) 3 0 (by omega) (by omega)
theorem PcSt_D {h g : HP} {cs : List Int} {fs : List (Int × Int)} (P : PcSt h g cs fs) : DcC g := by
  obtain ⟨_, ⟨a1, a2⟩, ⟨b1, b2⟩, pc, pf⟩ := P
  refine ⟨⟨by omega, by omega, by omega, by omega⟩, fun k k0 k1 => ?_, fun f f0 f1 => ?_⟩
  · obtain ⟨s, S, _⟩ := pc k.toNat (cs[k.toNat]'(by omega)) (List.getElem?_eq_getElem (by omega))
    rw [show ((k.toNat : Nat) : Int) = k by omega] at S
    rw [S.1, S.2.1]
    exact ⟨⟨s.2.1, s.2.2.1⟩, s.2.2.2, pS_3 _⟩
  · obtain ⟨s, _, S, _⟩ := pf f.toNat (fs[f.toNat]'(by omega)) (List.getElem?_eq_getElem (by omega))
    rw [show ((f.toNat : Nat) : Int) = f by omega] at S
    rw [S.1, S.2.1]
    exact ⟨⟨s.2.1, s.2.2.1⟩, s.2.2.2, pS_3 _⟩
theorem s_prepC {d : Nat} {h g : HP} {cs : List Int} {k : Int} {Q : PQ} (hd : 60 < d) (P : PcSt h g cs []) (l9 : cs.length < 10) (gd : gdS k) (H : ∀ g', PcSt h g' (cs ++ [k]) [] → Q 0 g') : Go d M_BT_prepareConstructor 0 [(21, 1), (60, k)] [] g Q := by
  obtain ⟨o, ⟨a1, a2⟩, ⟨b1, b2⟩, pc, pf⟩ := P
  refine c_prepC hd gd.2.1 gd.2.2.1 gd.2.2.2 (by omega) (by omega) (fun g' o' S e4 e36 => H g' ⟨fun x i p => by rw [o' x i (by omega) (by omega) (by omega) (by omega)]; exact o x i p, ⟨by rw [e36, a1, List.length_append]; show _ = ((cs.length + 1 : Nat) : Int); omega, by rw [List.length_append]; show cs.length + 1 ≤ 10; omega⟩, ⟨by rw [o' _ _ (by omega) (by omega) (by omega) (by omega)]; exact b1, b2⟩, fun i k' e => ?_, fun i kk e => by rw [List.getElem?_nil] at e; cases e⟩)
  rcases app_get cs i e with ⟨il, ei⟩ | ⟨il, ei⟩
  · obtain ⟨s1, s2, s3⟩ := pc i k' ei
    refine ⟨s1, SgN_ag (fun j => o' _ _ (by omega) (by omega) (by omega) (by omega)) (fun j => o' _ _ (by omega) (by omega) (by omega) (by omega)) s2, by rw [o' _ _ (by omega) (by omega) (by omega) (by omega)]; exact s3⟩
  · subst ei
    rw [show (41 : Int) + 2 * (i : Int) = 41 + 2 * g 36 4 by omega]
    exact ⟨gd, S, e4⟩
theorem s_prepF {d : Nat} {h g : HP} {cs : List Int} {fs : List (Int × Int)} {ks kb : Int} {Q : PQ} (hd : 400 < d) (P : PcSt h g cs fs) (l5 : fs.length < 6) (gs : gdS ks) (gb : gdB kb) (H : ∀ g', PcSt h g' cs (fs ++ [(ks, kb)]) → Q 0 g') : Go d M_BT_prepareFunction 0 [(21, 1), (60, ks), (60, kb), (2, 0), (2, 0)] [] g Q := by
  have D := PcSt_D P
  obtain ⟨o, ⟨a1, a2⟩, ⟨b1, b2⟩, pc, pf⟩ := P
  refine c_prepF hd gs.2.1 gs.2.2.1 gs.2.2.2 gb.2.1 gb.2.2.1 D (by omega) (fun g' e r w' m o' S e5 R B => H g' ⟨fun x i p => by rw [o' x i (by omega) (by omega) (by omega) (by omega) (by omega)]; exact o x i p, ⟨by rw [o' _ _ (by omega) (by omega) (by omega) (by omega) (by omega)]; exact a1, a2⟩, ⟨by rw [e5, b1, List.length_append]; show _ = ((fs.length + 1 : Nat) : Int); omega, by rw [List.length_append]; show fs.length + 1 ≤ 6; omega⟩, fun i k' ei => ?_, fun i kk ei => ?_⟩)
  · obtain ⟨s1, s2, s3⟩ := pc i k' ei
    have il := get_lt ei
    exact ⟨s1, SgN_ag (fun j => o' _ _ (by omega) (by omega) (by omega) (by omega) (by omega)) (fun j => o' _ _ (by omega) (by omega) (by omega) (by omega) (by omega)) s2, by rw [o' _ _ (by omega) (by omega) (by omega) (by omega) (by omega)]; exact s3⟩
  · rcases app_get fs i ei with ⟨il, ei⟩ | ⟨il, ei⟩
    · obtain ⟨s1, s1b, s2, e1, r1, m1, ⟨w1, R1⟩, B1⟩ := pf i kk ei
      refine ⟨s1, s1b, SgN_ag (fun j => o' _ _ (by omega) (by omega) (by omega) (by omega) (by omega)) (fun j => o' _ _ (by omega) (by omega) (by omega) (by omega) (by omega)) s2, e1, r1, m1, ⟨w1, RD_congr (fun k j hk j0 j1 => ?_) R1⟩, ?_⟩
      · unfold nPn at j1
        unfold ppr llr
        by_cases z : k = 71
        · rw [if_pos z] at j1
          rw [if_pos z, if_pos z, if_pos z, if_pos z]
          exact ⟨(o' _ _ (by omega) (by omega) (by omega) (by omega) (by omega)).symm, (o' _ _ (by omega) (by omega) (by omega) (by omega) (by omega)).symm⟩
        · rw [if_neg z] at j1
          rw [if_neg z, if_neg z, if_neg z, if_neg z]
          exact ⟨(o' _ _ (by omega) (by omega) (by omega) (by omega) (by omega)).symm, (o' _ _ (by omega) (by omega) (by omega) (by omega) (by omega)).symm⟩
      · rcases B1 with ⟨t1, t2, t3, t4, t5, t6, t7, t8⟩ | ⟨t1, t2⟩
        · refine Or.inl ⟨t1, by rw [o' _ _ (by omega) (by omega) (by omega) (by omega) (by omega)]; exact t2, by rw [o' _ _ (by omega) (by omega) (by omega) (by omega) (by omega)]; exact t3, by rw [o' _ _ (by omega) (by omega) (by omega) (by omega) (by omega)]; exact t4, t5, t6, fun j j0 j1 => by rw [o' _ _ (by omega) (by omega) (by omega) (by omega) (by omega)]; exact t7 j j0 j1, ?_⟩
          rw [t8]
          exact funext fun j => (o' _ _ (by omega) (by omega) (by omega) (by omega) (by omega)).symm
        · exact Or.inr ⟨t1, by rw [o' _ _ (by omega) (by omega) (by omega) (by omega) (by omega)]; exact t2⟩
    · subst ei
      have eF : g 36 5 = (i : Int) := by omega
      rw [eF] at S B
      have c4 : g' 36 4 = g 36 4 := o' _ _ (by omega) (by omega) (by omega) (by omega) (by omega)
      have eN : nPr g' = nPn (cs.length : Int) ((i : Int) + 1) := by funext k; unfold nPr nPn; rw [e5, c4, a1, eF]
      rw [eN] at R
      exact ⟨gs, gb, S, e, r, m, ⟨w', R⟩, B⟩
end
