section
/-! worlds with their variables: the class -/
theorem VOk_nf {lo n k : Int} {hd hd' bn bn' : Int → Int} {tm : Int → Tm} {t : Tm} {V : Vx} (hV : VOk lo n hd bn tm V) (ho : ∀ i, lo ≤ i → i < n → hd' i = hd i ∧ bn' i = bn i) (hn : hd' n = k) (k6 : k < 7) : VOk lo (n + 1) hd' bn' (upT tm n t) V := by
  refine ⟨fun x x0 x1 x7 => ?_, fun j hj => ?_⟩
  · by_cases y : x = n
    · rw [y, hn] at x7; omega
    · obtain ⟨a, b⟩ := ho x x0 (by omega)
      rw [a] at x7 ⊢
      rw [b, upT_ne y]
      exact hV.1 x x0 (by omega) x7
  · obtain ⟨x, x0, x1, x7, xe⟩ := hV.2 j hj
    exact ⟨x, x0, by omega, by rw [(ho x x0 x1).1]; exact x7, by rw [upT_ne (by omega)]; exact xe⟩
theorem VOk_nv {lo n k dp : Int} {hd hd' bn bn' : Int → Int} {tm : Int → Tm} {V : Vx} {m : Nat} (n0 : lo ≤ n) (hV : VOk lo n hd bn tm V) (ho : ∀ i, lo ≤ i → i < n → hd' i = hd i ∧ bn' i = bn i) (hn : hd' n = k ∧ bn' n = dp) (k7 : 7 ≤ k) (fr : (V m).1 < 7) : VOk lo (n + 1) hd' bn' (upT tm n (tV m)) (upV V m (k, dp)) := by
  refine ⟨fun x x0 x1 x7 => ?_, fun j hj => ?_⟩
  · by_cases y : x = n
    · subst y
      refine ⟨m, by rw [upT_eq], ?_⟩
      rw [hn.1, hn.2]
      exact if_pos rfl
    · obtain ⟨a, b⟩ := ho x x0 (by omega)
      rw [a] at x7 ⊢
      rw [b, upT_ne y]
      obtain ⟨j, j1, j2⟩ := hV.1 x x0 (by omega) x7
      refine ⟨j, j1, ?_⟩
      rw [← j2]
      refine if_neg (fun e => ?_)
      rw [e] at j2
      rw [j2] at fr
      have fr : hd x < 7 := fr
      omega
  · by_cases y : j = m
    · exact ⟨n, n0, by omega, by rw [hn.1]; exact k7, by rw [upT_eq, y]⟩
    · have hj' : 7 ≤ (V j).1 := by
        have e : upV V m (k, dp) j = V j := if_neg y
        rw [e] at hj
        exact hj
      obtain ⟨x, x0, x1, x7, xe⟩ := hV.2 j hj'
      exact ⟨x, x0, by omega, by rw [(ho x x0 x1).1]; exact x7, by rw [upT_ne (by omega)]; exact xe⟩
theorem VOk_fr {lo n : Int} {hd bn : Int → Int} {tm : Int → Tm} {V : Vx} {m : Nat} (hV : VOk lo n hd bn tm V) (fr : (V m).1 < 7) {x : Int} (x0 : lo ≤ x) (x1 : x < n) (x7 : 7 ≤ hd x) : tm x ≠ tV m := by
  intro e
  have := VOk_at hV x0 x1 x7 e
  rw [this] at fr
  have fr : hd x < 7 := fr
  omega
def CV (h : HP) (T R : Int) (tm : Int → Tm) (S : Sx) (V : Vx) : Prop := ∃ c, CW h T R tm S c ∧ VOk 0 (h T 13) (h (T + 3)) (h (T + 6)) tm V
/-- how a world goes on: what undoing gives back, and the terms -/
def XB (T : Int) (h : HP) (tm : Int → Tm) (g : HP) (tm' : Int → Tm) : Prop := ExB T h g ∧ ∀ x, 0 ≤ x → x < h T 13 → tm' x = tm x
theorem ExB_refl (T : Int) (h : HP) : ExB T h h := ExC_ExB (ExC_refl T h)
theorem XB_refl (T : Int) (h : HP) (tm : Int → Tm) : XB T h tm h tm := ⟨ExB_refl T h, fun _ _ _ => rfl⟩
theorem CV_L0 {h : HP} {T R : Int} {tm : Int → Tm} {S : Sx} {V : Vx} (C : CV h T R tm S V) : 0 ≤ h T 14 ∧ 0 ≤ h T 13 ∧ h T 13 ≤ R ∧ 0 ≤ h T 15 ∧ TR T R := by
  obtain ⟨c, W, _⟩ := C
  exact ⟨(CW_L0 W).1, W.1.2.1.2.1, W.1.2.1.2.2, W.2.2.2.2.2, W.1.1⟩
theorem XB_trans {T R : Int} {h h' h'' : HP} {tm tm' tm'' : Int → Tm} {S S' : Sx} {V V' : Vx} (C0 : CV h T R tm S V) (C : CV h' T R tm' S' V') (a : XB T h tm h' tm') (b : XB T h' tm' h'' tm'') : XB T h tm h'' tm'' := by
  obtain ⟨c, W, _⟩ := C
  have n := a.1.1.1
  refine ⟨ExB_trans W.1 (CV_L0 C0).1 a.1 b.1, fun x x0 x1 => by rw [b.2 x x0 (by omega), a.2 x x0 x1]⟩
theorem CV_loc {T R : Int} {h h' : HP} {tm : Int → Tm} {S : Sx} {V : Vx} (s : LcC T h h') (C : CV h T R tm S V) : CV h' T R tm S V := by
  obtain ⟨c, W, hV⟩ := C
  refine ⟨c, CW_loc s W, ?_⟩
  rw [s T 13 (by omega) (by omega), LcC_row s 3 (by omega) (by omega), LcC_row s 6 (by omega) (by omega)]
  exact hV
theorem XB_loc {T : Int} {h h1 h' h2 : HP} {tm tm' : Int → Tm} (s1 : LcC T h h1) (s2 : LcC T h' h2) (X : XB T h tm h' tm') : XB T h1 tm h2 tm' :=
  ⟨ExB_loc s1 s2 X.1, fun x x0 x1 => X.2 x x0 (by rw [← s1 T 13 (by omega) (by omega)]; exact x1)⟩
theorem c_obtF {d : Nat} {h : HP} {T R k x y : Int} {t : Tm} {tm : Int → Tm} {S : Sx} {V : Vx} {Q : PQ} (hd : 8 < d) (C : CV h T R tm S V) (hk : 0 ≤ k ∧ k ≤ 6) (hx : 2 ≤ k → 0 ≤ x ∧ x < h T 13) (hy : k = 2 → 0 ≤ y ∧ y < h T 13) (nx : k < 2 → x = -1) (ny : k ≠ 2 → y = -1) (hr : h T 13 < R)
    (ht : t = mkT k (tm x) (tm y))
    (H : ∀ (r : Int) (h' : HP) (tm' : Int → Tm), CV h' T R tm' S V → XB T h tm h' tm' → 0 ≤ r → r < h' T 13 → tm' r = t → h' T 13 ≤ h T 13 + 1 → (∀ a i, a < T ∨ T + 13 < a → h' a i = h a i) → Q r h') :
    Go d M_Types_obtain 0 [(17, T), (0, k), (0, x), (0, y), (2, 0), (2, 0), (2, 0), (2, 0)] [] h Q := by
  have C0 := C
  obtain ⟨c, W, hV⟩ := C
  have l := CV_L0 C0
  refine c_obtain (t := t) hd W ⟨hk.1, by omega⟩ (fun a _ => hx a) hy (fun a => nx (by omega)) ny hr (fun _ => ht) (fun z => by omega) (fun _ i i0 i1 _ _ _ e => H i h tm C0 (XB_refl T h tm) i0 i1 e (by omega) (fun _ _ _ => rfl)) (fun _ h' c' W' X e13 r3 r4 r5 r6 sc => ?_)
  refine H (h T 13) h' (upT tm (h T 13) t) ⟨c', W', ?_⟩ ⟨ExC_ExB X, fun x x0 x1 => upT_ne (by omega)⟩ l.2.1 (by omega) upT_eq (by omega) (fun a i p => ?_)
  · rw [e13]
    exact VOk_nf hV (fun i i0 i1 => ⟨(X.2.1 i i0 i1).1, (X.2.1 i i0 i1).2.2.2⟩) r3 (by omega)
  · by_cases z : T + 14 ≤ a ∧ a ≤ T + 24
    · exact sc a i z.1 z.2
    · exact X.2.2.2.2.2 a i (by omega)
theorem c_obtN {d : Nat} {h : HP} {T R k : Int} {m : Nat} {tm : Int → Tm} {S : Sx} {V : Vx} {Q : PQ} (hd : 8 < d) (C : CV h T R tm S V) (hk : k = 7 ∨ k = 8) (hr : h T 13 < R) (fr : (V m).1 < 7)
    (H : ∀ (r : Int) (h' : HP) (tm' : Int → Tm), CV h' T R tm' S (upV V m (k, h T 15)) → XB T h tm h' tm' → 0 ≤ r → r < h' T 13 → tm' r = tV m → h' T 13 ≤ h T 13 + 1 → (∀ a i, a < T ∨ T + 13 < a → h' a i = h a i) → Q r h') :
    Go d M_Types_obtain 0 [(17, T), (0, k), (0, -1), (0, -1), (2, 0), (2, 0), (2, 0), (2, 0)] [] h Q := by
  have C0 := C
  obtain ⟨c, W, hV⟩ := C
  have l := CV_L0 C0
  refine c_obtain (t := tV m) hd W (by omega) (fun a b => by omega) (fun a => by omega) (fun _ => rfl) (fun _ => rfl) hr (fun a => by omega) (fun _ => ⟨m, rfl, fun i i0 i1 i7 => VOk_fr hV fr i0 i1 i7⟩) (fun a => by omega) (fun _ h' c' W' X e13 r3 r4 r5 r6 sc => ?_)
  refine H (h T 13) h' (upT tm (h T 13) (tV m)) ⟨c', W', ?_⟩ ⟨ExC_ExB X, fun x x0 x1 => upT_ne (by omega)⟩ l.2.1 (by omega) upT_eq (by omega) (fun a i p => ?_)
  · rw [e13]
    exact VOk_nv l.2.1 hV (fun i i0 i1 => ⟨(X.2.1 i i0 i1).1, (X.2.1 i i0 i1).2.2.2⟩) ⟨r3, r6⟩ (by omega) fr
  · by_cases z : T + 14 ≤ a ∧ a ≤ T + 24
    · exact sc a i z.1 z.2
    · exact X.2.2.2.2.2 a i (by omega)
/-- new variables, those of the letters that occur -/
noncomputable def nV (V : Vx) (mu : Int → Nat) (P : Int → Prop) (p : Int × Int) : Vx := fun j => @ite _ (∃ v, 0 ≤ v ∧ v < 3 ∧ P v ∧ j = mu v) (Classical.propDecidable _) p (V j)
def FrN (V : Vx) (mu : Int → Nat) : Prop := (∀ v, 0 ≤ v → v < 3 → (V (mu v)).1 < 7) ∧ ∀ v w, 0 ≤ v → v < 3 → 0 ≤ w → w < 3 → mu v = mu w → v = w
theorem nV_in {V : Vx} {mu : Int → Nat} {P : Int → Prop} {p : Int × Int} {j : Nat} (h : ∃ v, 0 ≤ v ∧ v < 3 ∧ P v ∧ j = mu v) : nV V mu P p j = p := if_pos h
theorem nV_out {V : Vx} {mu : Int → Nat} {P : Int → Prop} {p : Int × Int} {j : Nat} (h : ¬ ∃ v, 0 ≤ v ∧ v < 3 ∧ P v ∧ j = mu v) : nV V mu P p j = V j := if_neg h
theorem nV_congr {V : Vx} {mu : Int → Nat} {P P' : Int → Prop} {p : Int × Int} (h : ∀ v, 0 ≤ v → v < 3 → (P v ↔ P' v)) : nV V mu P p = nV V mu P' p := by
  funext j
  by_cases q : ∃ v, 0 ≤ v ∧ v < 3 ∧ P v ∧ j = mu v
  · obtain ⟨v, v0, v1, v2, v3⟩ := q
    rw [nV_in ⟨v, v0, v1, v2, v3⟩, nV_in ⟨v, v0, v1, (h v v0 v1).mp v2, v3⟩]
  · rw [nV_out q, nV_out (fun ⟨v, v0, v1, v2, v3⟩ => q ⟨v, v0, v1, (h v v0 v1).mpr v2, v3⟩)]
theorem nV_nil {V : Vx} {mu : Int → Nat} {P : Int → Prop} {p : Int × Int} (h : ∀ v, 0 ≤ v → v < 3 → ¬ P v) : nV V mu P p = V := by
  funext j
  exact nV_out (fun ⟨v, v0, v1, v2, v3⟩ => h v v0 v1 v2)
theorem nV_up {V : Vx} {mu : Int → Nat} {P P' : Int → Prop} {p : Int × Int} {v : Int} (v0 : 0 ≤ v) (v1 : v < 3) (h : ∀ w, 0 ≤ w → w < 3 → (P' w ↔ (P w ∨ w = v))) : upV (nV V mu P p) (mu v) p = nV V mu P' p := by
  funext j
  by_cases q : j = mu v
  · rw [nV_in ⟨v, v0, v1, (h v v0 v1).mpr (Or.inr rfl), q⟩]
    exact if_pos q
  · rw [show upV (nV V mu P p) (mu v) p j = nV V mu P p j from if_neg q]
    by_cases q2 : ∃ w, 0 ≤ w ∧ w < 3 ∧ P w ∧ j = mu w
    · obtain ⟨w, w0, w1, w2, w3⟩ := q2
      rw [nV_in ⟨w, w0, w1, w2, w3⟩, nV_in ⟨w, w0, w1, (h w w0 w1).mpr (Or.inl w2), w3⟩]
    · rw [nV_out q2, nV_out]
      rintro ⟨w, w0, w1, w2, w3⟩
      rcases (h w w0 w1).mp w2 with z | z
      · exact q2 ⟨w, w0, w1, z, w3⟩
      · exact q (by rw [w3, z])
theorem nV_fr {V : Vx} {mu : Int → Nat} {P : Int → Prop} {p : Int × Int} {v : Int} (F : FrN V mu) (v0 : 0 ≤ v) (v1 : v < 3) (h : ¬ P v) : (nV V mu P p (mu v)).1 < 7 := by
  rw [nV_out]
  · exact F.1 v v0 v1
  · rintro ⟨w, w0, w1, w2, w3⟩
    rw [F.2 v w v0 v1 w0 w1 w3] at h
    exact h w2
/-- a stack of nodes, the top first -/
def StkL (row : Int → Int) (lo n : Int) (tm : Int → Tm) : List Tm → Prop
  | [] => True
  | t :: r => (lo ≤ row r.length ∧ row r.length < n ∧ tm (row r.length) = t) ∧ StkL row lo n tm r
theorem StkL_mono {row row' : Int → Int} {lo n n' : Int} {tm tm' : Int → Tm} : ∀ L : List Tm, (∀ i, 0 ≤ i → i < L.length → row' i = row i) → n ≤ n' → (∀ x, lo ≤ x → x < n → tm' x = tm x) → StkL row lo n tm L → StkL row' lo n' tm' L := by
  intro L
  induction L with
  | nil => intro _ _ _ _; exact trivial
  | cons t r ih =>
    intro e hn ht H
    obtain ⟨⟨a, b, c⟩, H⟩ := H
    rw [List.length_cons] at e
    have e1 := e r.length (by omega) (by omega)
    refine ⟨⟨by rw [e1]; exact a, by rw [e1]; omega, by rw [e1, ht _ a b]; exact c⟩, ih (fun i i0 i1 => e i i0 (by omega)) hn ht H⟩
theorem StkL_get {row : Int → Int} {lo n : Int} {tm : Int → Tm} : ∀ (L : List Tm) (i : Nat) (t : Tm), L[i]? = some t → StkL row lo n tm L → lo ≤ row ((L.length : Int) - 1 - i) ∧ row ((L.length : Int) - 1 - i) < n ∧ tm (row ((L.length : Int) - 1 - i)) = t := by
  intro L
  induction L with
  | nil => intro i t e; exact absurd e (by rw [List.getElem?_nil]; exact fun z => by cases z)
  | cons u r ih =>
    intro i t e H
    match i, e with
    | 0, e =>
      rw [List.getElem?_cons_zero] at e
      cases e
      rw [List.length_cons, show ((r.length + 1 : Nat) : Int) - 1 - ((0 : Nat) : Int) = r.length by omega]
      exact H.1
    | i + 1, e =>
      rw [List.getElem?_cons_succ] at e
      rw [List.length_cons, show ((r.length + 1 : Nat) : Int) - 1 - ((i + 1 : Nat) : Int) = (r.length : Int) - 1 - i by omega]
      exact ih i t e H.2
theorem getS_lt {L : List Tm} : ∀ {i : Nat} {t : Tm}, L[i]? = some t → i < L.length := by
  intro i t e
  rcases Nat.lt_or_ge i L.length with z | z
  · exact z
  · rw [List.getElem?_eq_none z] at e; cases e
end
