section
/-! the reference's partition: the row 141, of the nodes lo .. hi-1 -/
def mrg (c : Int → Int) (x y : Int) : Int → Int := fun i => if c i = max (c x) (c y) then min (c x) (c y) else c i
def Mi (lo hi : Int) (c : Int → Int) : Prop := ∀ i, lo ≤ i → i < hi → lo ≤ c i ∧ c i ≤ i ∧ c (c i) = c i
theorem mrg_le {c : Int → Int} {x y i : Int} : mrg c x y i ≤ c i := by
  unfold mrg
  split <;> omega
theorem mrg_same {c : Int → Int} {x y : Int} (h : c x = c y) (i : Int) : mrg c x y i = c i := by
  unfold mrg
  split <;> omega
theorem mrg_eq {c : Int → Int} {x y a b : Int} (h : c a = c b) : mrg c x y a = mrg c x y b := by
  unfold mrg
  rw [h]
theorem mrg_xy {c : Int → Int} {x y : Int} : mrg c x y x = mrg c x y y := by
  unfold mrg
  split <;> split <;> omega
theorem mrg_just {c : Int → Int} {x y a b : Int} (h : mrg c x y a = mrg c x y b) : c a = c b ∨ (c a = c x ∧ c b = c y) ∨ (c a = c y ∧ c b = c x) := by
  unfold mrg at h
  split at h <;> split at h <;> omega
theorem mrg_Mi {lo hi : Int} {c : Int → Int} (H : Mi lo hi c) {x y : Int} (hx : lo ≤ x ∧ x < hi) (hy : lo ≤ y ∧ y < hi) : Mi lo hi (mrg c x y) := by
  intro i h1 h2
  have a := H i h1 h2
  have b := H x hx.1 hx.2
  have e := H y hy.1 hy.2
  have l := mrg_le (c := c) (x := x) (y := y) (i := i)
  have key : ∀ z, c z = z → z ≠ max (c x) (c y) ∨ max (c x) (c y) = min (c x) (c y) → mrg c x y z = z := by
    intro z hz hn
    unfold mrg
    split <;> omega
  by_cases w : c i = max (c x) (c y)
  · have q : mrg c x y i = min (c x) (c y) := if_pos w
    refine ⟨by omega, by omega, ?_⟩
    rw [q]
    refine key _ ?_ (by omega)
    rcases Int.le_total (c x) (c y) with p | p
    · rw [show min (c x) (c y) = c x by omega]; exact b.2.2
    · rw [show min (c x) (c y) = c y by omega]; exact e.2.2
  · have q : mrg c x y i = c i := if_neg w
    refine ⟨by omega, by omega, ?_⟩
    rw [q]
    exact key _ a.2.2 (by omega)
/-- a step of the closure: groups grow together, justified -/
def MStp (lo hi : Int) (tm : Int → Tm) (c c' : Int → Int) : Prop := Mi lo hi c' ∧ (∀ a b, lo ≤ a → a < hi → lo ≤ b → b < hi → c a = c b → c' a = c' b) ∧ (∀ θ, Rsp lo hi tm c θ → Rsp lo hi tm c' θ) ∧ cnt (fun k => c' k = k) lo hi ≤ cnt (fun k => c k = k) lo hi
theorem MStp_refl {lo hi : Int} {tm : Int → Tm} {c : Int → Int} (h : Mi lo hi c) : MStp lo hi tm c c := ⟨h, fun _ _ _ _ _ _ e => e, fun _ e => e, Int.le_refl _⟩
theorem MStp_trans {lo hi : Int} {tm : Int → Tm} {c c' c'' : Int → Int} (h : MStp lo hi tm c c') (g : MStp lo hi tm c' c'') : MStp lo hi tm c c'' :=
  ⟨g.1, fun a b p q r s e => g.2.1 a b p q r s (h.2.1 a b p q r s e), fun θ e => g.2.2.1 θ (h.2.2.1 θ e), Int.le_trans g.2.2.2 h.2.2.2⟩
theorem mrg_cnt {lo hi : Int} {c : Int → Int} (H : Mi lo hi c) {x y : Int} (hx : lo ≤ x ∧ x < hi) (hy : lo ≤ y ∧ y < hi) (hn : c x ≠ c y) : cnt (fun k => c k = k) lo hi = cnt (fun k => mrg c x y k = k) lo hi + 1 := by
  have b := H x hx.1 hx.2
  have e := H y hy.1 hy.2
  have cg : c (max (c x) (c y)) = max (c x) (c y) := by
    rcases Int.le_total (c x) (c y) with p | p
    · rw [show max (c x) (c y) = c y by omega]; exact e.2.2
    · rw [show max (c x) (c y) = c x by omega]; exact b.2.2
  refine cnt_less (g := max (c x) (c y)) (by omega) (by omega) cg ?_ ?_
  · intro w
    have q : mrg c x y (max (c x) (c y)) = min (c x) (c y) := if_pos cg
    rw [q] at w
    omega
  · intro i h1 h2 h3
    constructor
    · intro w
      show mrg c x y i = i
      have q : mrg c x y i = c i := if_neg (by omega)
      rw [q]; exact w
    · intro w
      have a := H i h1 h2
      by_cases v : c i = max (c x) (c y)
      · have q : mrg c x y i = min (c x) (c y) := if_pos v
        have w2 : mrg c x y i = i := w
        omega
      · have q : mrg c x y i = c i := if_neg v
        have w2 : mrg c x y i = i := w
        show c i = i
        omega
theorem mrg_MStp {lo hi : Int} {tm : Int → Tm} {c : Int → Int} (H : Mi lo hi c) {x y : Int} (hx : lo ≤ x ∧ x < hi) (hy : lo ≤ y ∧ y < hi) (hj : ∀ θ, Rsp lo hi tm c θ → sb θ (tm x) = sb θ (tm y)) : MStp lo hi tm c (mrg c x y) := by
  refine ⟨mrg_Mi H hx hy, fun a b _ _ _ _ e => mrg_eq e, fun θ r a b p q p' q' e => ?_, ?_⟩
  · have j := hj θ r
    rcases mrg_just e with w | ⟨w1, w2⟩ | ⟨w1, w2⟩
    · exact r a b p q p' q' w
    · rw [r a x p q hx.1 hx.2 w1, r b y p' q' hy.1 hy.2 w2, j]
    · rw [r a y p q hy.1 hy.2 w1, r b x p' q' hx.1 hx.2 w2, j]
  · by_cases w : c x = c y
    · exact Int.le_of_eq (cnt_congr (fun i _ _ => by rw [mrg_same w]))
    · have := mrg_cnt H hx hy w
      omega
theorem c_merges {d : Nat} {x y lo hi : Int} {c : Int → Int} {h : HP} {Q : PQ} (hlo : h 135 14 = lo) (hhi : h 135 15 = hi) (h0 : 0 ≤ lo) (h1 : hi ≤ 1000) (hx : lo ≤ x ∧ x < hi) (hy : lo ≤ y ∧ y < hi)
    (H : ∀ r, ((r = 0 ∧ c x = c y) ∨ (r = 1 ∧ c x ≠ c y)) → Q r (setR h 141 lo hi (mrg c x y))) :
    Go d M_Mo_merges 0 [(22, 135), (0, x), (0, y), (2, 0), (2, 0), (2, 0)] [] (setR h 141 lo hi c) Q := by
  have loop : ∀ (keep gone i : Int) (f : Int → Int), keep ≠ gone → lo ≤ i → i ≤ hi → (∀ j, lo ≤ j → j < hi → f j = if c j = gone then keep else c j) → Q 1 (setR h 141 lo hi f) → ∀ g : HP, g = setR (setR h 141 lo hi c) 141 lo i f → Go d M_Mo_merges 69 [(22, 135), (0, x), (0, y), (0, keep), (0, gone), (0, i)] [] g Q := by
    intro keep gone i f hkg hi1 hi2 hf hQ
    refine up_loop (i := i) (hi := hi) hi2 (P := fun i => ∀ g : HP, g = setR (setR h 141 lo hi c) 141 lo i f → Go d M_Mo_merges 69 [(22, 135), (0, x), (0, y), (0, keep), (0, gone), (0, i)] [] g Q) ?_ ?_
    · rintro g rfl
      rw [setR_twice]
      refine N_Mo_merges_69 ⟨fun _ => ⟨fun w => absurd w hkg, fun _ => hQ⟩, fun w => ?_⟩
      rw [setR_ne (by decide), hhi] at w
      omega
    · rintro j j1 j2 ih g rfl
      have e1 : (setR (setR h 141 lo hi c) 141 lo j f) 135 15 = hi := by rw [setR_ne (by decide), setR_ne (by decide), hhi]
      have e2 : (setR (setR h 141 lo hi c) 141 lo j f) 141 j = c j := by rw [setR_out (by omega), setR_in (by omega) (by omega)]
      refine N_Mo_merges_69 ?_
      rw [e1, e2]
      refine ⟨fun w => by omega, fun _ => ⟨fun w => absurd w hkg, fun _ => ⟨⟨by omega, by omega⟩, fun w => ⟨⟨by omega, by omega⟩, ⟨by omega, by omega⟩, ?_⟩, fun w => ⟨⟨by omega, by omega⟩, ?_⟩⟩⟩⟩
      · rintro g1 rfl
        refine ⟨by unfold r32; omega, ih _ ?_⟩
        exact setR_snoc (by omega) (by rw [hf j (by omega) (by omega), if_neg w])
      · rintro g1 rfl
        refine ⟨by unfold r32; omega, ih _ ?_⟩
        exact setR_snoc (by omega) (by rw [hf j (by omega) (by omega), if_pos w])
  have ex : (setR h 141 lo hi c) 141 x = c x := setR_in hx.1 hx.2
  have ey : (setR h 141 lo hi c) 141 y = c y := setR_in hy.1 hy.2
  have el : (setR h 141 lo hi c) 135 14 = lo := by rw [setR_ne (by decide), hlo]
  have eh : (setR h 141 lo hi c) 135 15 = hi := by rw [setR_ne (by decide), hhi]
  have same : c x = c y → ∀ keep gone : Int, keep = gone → Go d M_Mo_merges 69 [(22, 135), (0, x), (0, y), (0, keep), (0, gone), (0, lo)] [] (setR h 141 lo hi c) Q := by
    intro w keep gone q
    have hq := H 0 (Or.inl ⟨rfl, w⟩)
    rw [setR_congr (g := c) (fun i _ _ => mrg_same w i)] at hq
    exact N_Mo_merges_69 ⟨fun _ => ⟨fun _ => hq, fun v => absurd q v⟩, fun _ => ⟨fun _ => ⟨fun _ => hq, fun v => absurd q v⟩, fun v => absurd q v⟩⟩
  refine N_Mo_merges_0 ?_
  rw [ex, ey, el]
  refine ⟨⟨by omega, by omega⟩, ⟨by omega, by omega⟩, fun w => ⟨⟨by omega, by omega⟩, ⟨by omega, by omega⟩, ⟨by omega, by omega⟩, fun _ => ⟨⟨by omega, by omega⟩, ?_⟩, fun v => by omega⟩, fun w => ⟨⟨by omega, by omega⟩, ⟨by omega, by omega⟩, ⟨by omega, by omega⟩, fun v => by omega, fun _ => ⟨⟨by omega, by omega⟩, ?_⟩⟩⟩
  · by_cases q : c x = c y
    · exact same q _ _ q.symm
    · exact loop (c y) (c x) lo (mrg c x y) (by omega) (by omega) (by omega) (fun j _ _ => by unfold mrg; rw [show max (c x) (c y) = c x by omega, show min (c x) (c y) = c y by omega]) (H 1 (Or.inr ⟨rfl, q⟩)) _ (by rw [setR_nil (h := setR h 141 lo hi c) (by omega)])
  · exact loop (c x) (c y) lo (mrg c x y) (by omega) (by omega) (by omega) (fun j _ _ => by unfold mrg; rw [show max (c x) (c y) = c y by omega, show min (c x) (c y) = c x by omega]) (H 1 (Or.inr ⟨rfl, by omega⟩)) _ (by rw [setR_nil (h := setR h 141 lo hi c) (by omega)])
end
