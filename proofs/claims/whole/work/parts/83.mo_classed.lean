section
def upf (f : Int → Int) (k v : Int) : Int → Int := fun j => if j = k then v else f j
theorem upf_eq {f : Int → Int} {k v : Int} : upf f k v k = v := if_pos rfl
theorem upf_ne {f : Int → Int} {k v j : Int} (h : j ≠ k) : upf f k v j = f j := if_neg h
theorem setR_up {h : HP} {a lo hi k v : Int} {f : Int → Int} (h1 : lo ≤ k) (h2 : k < hi) : up2 (setR h a lo hi f) a k v = setR h a lo hi (upf f k v) := by
  funext a' i
  unfold up2 setR
  by_cases w : a' = a ∧ i = k
  · rw [if_pos w, if_pos ⟨w.1, by omega, by omega⟩, w.2, upf_eq]
  · rw [if_neg w]
    by_cases w2 : a' = a ∧ lo ≤ i ∧ i < hi
    · rw [if_pos w2, if_pos w2, upf_ne (fun e => w ⟨w2.1, e⟩)]
    · rw [if_neg w2, if_neg w2]
def rnk (hd : Int) : Int := if 7 ≤ hd then hd else 0
theorem c_rank {d : Nat} {v : Int} {h : HP} {Q : PQ} (H : Q (rnk v) h) : Go d M_Mo_rank 0 [(0, v)] [] h Q :=
  V_Mo_rank_0 ⟨fun w => by unfold rnk at H; rw [if_pos w] at H; exact H, fun w => by unfold rnk at H; rw [if_neg (by omega)] at H; exact H⟩
/-- the best of the nodes before i -/
def ShpI (lo hi i : Int) (c hd s : Int → Int) : Prop := ∀ k, lo ≤ k → k < hi → (s k = -1 ∧ ∀ j, lo ≤ j → j < i → c j ≠ k) ∨ (lo ≤ s k ∧ s k < i ∧ c (s k) = k ∧ ∀ j, lo ≤ j → j < i → c j = k → rnk (hd (s k)) < rnk (hd j) ∨ (rnk (hd (s k)) = rnk (hd j) ∧ s k ≤ j))
def ShpF (lo hi : Int) (c hd s : Int → Int) : Prop := ∀ k, lo ≤ k → k < hi → (lo ≤ s (c k) ∧ s (c k) < hi ∧ c (s (c k)) = c k ∧ ∀ j, lo ≤ j → j < hi → c j = c k → rnk (hd (s (c k))) < rnk (hd j) ∨ (rnk (hd (s (c k))) = rnk (hd j) ∧ s (c k) ≤ j))
theorem c_shapes {d : Nat} {lo hi : Int} {c : Int → Int} {h : HP} {Q : PQ} (hd : 1 < d) (hlo : h 135 14 = lo) (hhi : h 135 15 = hi) (h0 : 0 ≤ lo) (h00 : lo ≤ hi) (h1 : hi ≤ 1000) (M : Mi lo hi c)
    (H : ∀ s, ShpF lo hi c (h 137) s → Q 0 (setR (setR h 141 lo hi c) 142 lo hi s)) :
    Go d M_Mo_shapes 0 [(22, 135), (2, 0), (2, 0)] [] (setR h 141 lo hi c) Q := by
  have el : (setR h 141 lo hi c) 135 14 = lo := by rw [setR_ne (by decide), hlo]
  have loop2 : ∀ s, ShpI lo hi lo c (h 137) s → Go d M_Mo_shapes 31 [(22, 135), (0, lo), (2, 0)] [] (setR (setR h 141 lo hi c) 142 lo hi s) Q := by
    have : ∀ s, ShpI lo hi lo c (h 137) s → ∀ w2, Go d M_Mo_shapes 31 [(22, 135), (0, lo), w2] [] (setR (setR h 141 lo hi c) 142 lo hi s) Q := by
      refine up_loop (i := lo) (hi := hi) h00 (P := fun i => ∀ s, ShpI lo hi i c (h 137) s → ∀ w2, Go d M_Mo_shapes 31 [(22, 135), (0, i), w2] [] (setR (setR h 141 lo hi c) 142 lo hi s) Q) ?_ ?_
      · intro s hs w2
        refine N_Mo_shapes_31 ⟨fun _ => H s ?_, fun w => ?_⟩
        · intro k a b
          have m := M k a b
          rcases hs (c k) (by omega) (by omega) with ⟨_, q⟩ | q
          · exact absurd rfl (q k a b)
          · exact q
        · rw [setR_ne (by decide), setR_ne (by decide), hhi] at w; omega
      · intro i i1 i2 ih s hs w2
        have m := M i i1 i2
        have e1 : (setR (setR h 141 lo hi c) 142 lo hi s) 135 15 = hi := by rw [setR_ne (by decide), setR_ne (by decide), hhi]
        have e2 : (setR (setR h 141 lo hi c) 142 lo hi s) 141 i = c i := by rw [setR_ne (by decide), setR_in i1 i2]
        have e3 : (setR (setR h 141 lo hi c) 142 lo hi s) 142 (c i) = s (c i) := setR_in (by omega) (by omega)
        have e4 : ∀ k, (setR (setR h 141 lo hi c) 142 lo hi s) 137 k = h 137 k := fun k => by rw [setR_ne (by decide), setR_ne (by decide)]
        have put : (s (c i) = -1 ∨ rnk (h 137 i) < rnk (h 137 (s (c i)))) → ShpI lo hi (i + 1) c (h 137) (upf s (c i) i) := by
          intro hp k a b
          by_cases w : k = c i
          · refine Or.inr ?_
            rw [show upf s (c i) i k = i by rw [w, upf_eq]]
            refine ⟨by omega, by omega, w.symm, fun j j1 j2 j3 => ?_⟩
            by_cases v : j = i
            · subst v; exact Or.inr ⟨rfl, Int.le_refl _⟩
            · rcases hs k a b with ⟨q1, q2⟩ | ⟨q1, q2, q3, q4⟩
              · exact absurd j3 (q2 j j1 (by omega))
              · have q5 := q4 j j1 (by omega) j3
                rw [w] at q5
                rw [w] at q1
                rcases hp with p | p
                · omega
                · left; omega
          · rw [upf_ne w]
            rcases hs k a b with ⟨q1, q2⟩ | ⟨q1, q2, q3, q4⟩
            · refine Or.inl ⟨q1, fun j j1 j2 => ?_⟩
              by_cases v : j = i
              · subst v; exact fun e => w e.symm
              · exact q2 j j1 (by omega)
            · refine Or.inr ⟨q1, by omega, q3, fun j j1 j2 j3 => ?_⟩
              by_cases v : j = i
              · subst v; exact absurd j3.symm w
              · exact q4 j j1 (by omega) j3
        have kept : s (c i) ≠ -1 → rnk (h 137 (s (c i))) ≤ rnk (h 137 i) → ShpI lo hi (i + 1) c (h 137) s := by
          intro p1 p2 k a b
          rcases hs k a b with ⟨q1, q2⟩ | ⟨q1, q2, q3, q4⟩
          · refine Or.inl ⟨q1, fun j j1 j2 => ?_⟩
            by_cases v : j = i
            · subst v
              intro e
              rw [e] at p1
              exact p1 q1
            · exact q2 j j1 (by omega)
          · refine Or.inr ⟨q1, by omega, q3, fun j j1 j2 j3 => ?_⟩
            by_cases v : j = i
            · subst v
              rw [j3] at p2
              omega
            · exact q4 j j1 (by omega) j3
        refine N_Mo_shapes_31 ?_
        rw [e1, e2, e3, e4 i]
        refine ⟨fun w => by omega, fun _ => ⟨⟨by omega, by omega⟩, ⟨by omega, by omega⟩, fun w => ⟨⟨by omega, by omega⟩, ?_⟩, fun w => ⟨⟨by omega, by omega⟩, by omega, c_rank ?_⟩⟩⟩
        · rintro g rfl
          refine ⟨by unfold r32; omega, ?_⟩
          rw [setR_up (by omega) (by omega)]
          exact ih _ (put (Or.inl w)) _
        · have q : lo ≤ s (c i) ∧ s (c i) < i := by
            rcases hs (c i) (by omega) (by omega) with ⟨q1, q2⟩ | ⟨q1, q2, q3, q4⟩
            · exact absurd q1 w
            · exact ⟨q1, q2⟩
          rw [e3]
          refine ⟨⟨by omega, by omega⟩, ⟨by omega, by omega⟩, by omega, c_rank ?_⟩
          rw [e4]
          refine ⟨fun v => ⟨by unfold r32; omega, ih _ (kept w v) _⟩, fun v => ⟨⟨by omega, by omega⟩, ?_⟩⟩
          rintro g rfl
          refine ⟨by unfold r32; omega, ?_⟩
          rw [setR_up (by omega) (by omega)]
          exact ih _ (put (Or.inr v)) _
    exact fun s hs => this s hs _
  refine N_Mo_shapes_0 ?_
  rw [el]
  have loop1 : Go d M_Mo_shapes 5 [(22, 135), (0, lo), (2, 0)] [] (setR (setR h 141 lo hi c) 142 lo lo (fun _ => -1)) Q := by
    refine up_loop (i := lo) (hi := hi) h00 (P := fun i => Go d M_Mo_shapes 5 [(22, 135), (0, i), (2, 0)] [] (setR (setR h 141 lo hi c) 142 lo i (fun _ => -1)) Q) ?_ ?_
    · refine N_Mo_shapes_5 ⟨fun _ => ?_, fun w => ?_⟩
      · rw [setR_ne (by decide), el]
        exact loop2 _ (fun k _ _ => Or.inl ⟨rfl, fun j a b => by omega⟩)
      · rw [setR_ne (by decide), setR_ne (by decide), hhi] at w; omega
    · intro i i1 i2 ih
      refine N_Mo_shapes_5 ?_
      rw [setR_ne (by decide), setR_ne (by decide), hhi]
      refine ⟨fun w => by omega, fun _ => ⟨⟨by omega, by omega⟩, ?_⟩⟩
      rintro g rfl
      refine ⟨by unfold r32; omega, ?_⟩
      rw [setR_snoc (by omega) rfl]
      exact ih
  rw [setR_nil (Int.le_refl _)] at loop1
  exact loop1
/-- what was made equal -/
def SolR (h : HP) (tm : Int → Tm) (θ : As) : Prop := ∀ e, h 135 16 ≤ e → e < h 135 17 → sb θ (tm (h 146 e)) = sb θ (tm (h 147 e))
def Clo (lo hi : Int) (hd fa fb c : Int → Int) : Prop := ∀ i j, lo ≤ i → i < hi → lo ≤ j → j < hi → hd i = hd j → hd i < 7 → (c i = c j ↔ Alk hd fa fb c i j)
theorem c_classed {d : Nat} {lo hi : Int} {tm : Int → Tm} {h : HP} {Q : PQ} (hd : 4 < d) (hlo : h 135 14 = lo) (hhi : h 135 15 = hi) (h0 : 0 ≤ lo) (h00 : lo ≤ hi) (h1 : hi ≤ 1000) (W : Wst lo hi (h 137) (h 138) (h 139) tm)
    (he0 : 0 ≤ h 135 16) (he1 : h 135 16 ≤ h 135 17) (he2 : h 135 17 ≤ 1000) (hE : ∀ e, h 135 16 ≤ e → e < h 135 17 → (lo ≤ h 146 e ∧ h 146 e < hi) ∧ (lo ≤ h 147 e ∧ h 147 e < hi))
    (H : ∀ c s, Mi lo hi c → (∀ θ, SolR h tm θ ↔ Rsp lo hi tm c θ) → Clo lo hi (h 137) (h 138) (h 139) c → ShpF lo hi c (h 137) s → Q 0 (setR (setR h 141 lo hi c) 142 lo hi s)) :
    Go d M_Mo_classed 0 [(22, 135), (2, 0), (2, 0), (2, 0)] [] h Q := by
  have eo : ∀ c a i, a ≠ 141 → (setR h 141 lo hi c) a i = h a i := fun c a i q => setR_ne q
  -- the rounds
  have rounds : ∀ (n : Nat) (c : Int → Int), Mi lo hi c → (∀ θ, SolR h tm θ ↔ Rsp lo hi tm c θ) → cnt (fun k => c k = k) lo hi < n → ∀ w2 w3, Go d M_Mo_classed 64 [(22, 135), (0, 1), w2, w3] [] (setR h 141 lo hi c) Q := by
    intro n
    induction n with
    | zero =>
      intro c M S hn
      have := (cnt_bd (p := fun k => c k = k) h00).1
      omega
    | succ n ihn =>
      intro c0 M0 S0 hn w2 w3
      refine N_Mo_classed_64 ⟨fun w => absurd w (by decide), fun _ => ?_⟩
      rw [eo c0 135 14 (by decide), hlo]
      have fine : (Int → Int) → Int → Int → Prop := fun c a b => h 137 a = h 137 b → h 137 a < 7 → (c a = c b ↔ Alk (h 137) (h 138) (h 139) c a b)
      have p75 : ∀ (c : Int → Int) (more : Int), Mi lo hi c → (∀ θ, SolR h tm θ ↔ Rsp lo hi tm c θ) → ((more = 0 ∧ c = c0 ∧ ∀ a b, lo ≤ b → b < a → a < lo → (h 137 a = h 137 b → h 137 a < 7 → (c0 a = c0 b ↔ Alk (h 137) (h 138) (h 139) c0 a b))) ∨ (more = 1 ∧ cnt (fun k => c k = k) lo hi < cnt (fun k => c0 k = k) lo hi)) → ∀ w3, Go d M_Mo_classed 75 [(22, 135), (0, more), (0, lo), w3] [] (setR h 141 lo hi c) Q := by
        refine up_loop (i := lo) (hi := hi) h00 (P := fun i => ∀ (c : Int → Int) (more : Int), Mi lo hi c → (∀ θ, SolR h tm θ ↔ Rsp lo hi tm c θ) → ((more = 0 ∧ c = c0 ∧ ∀ a b, lo ≤ b → b < a → a < i → (h 137 a = h 137 b → h 137 a < 7 → (c0 a = c0 b ↔ Alk (h 137) (h 138) (h 139) c0 a b))) ∨ (more = 1 ∧ cnt (fun k => c k = k) lo hi < cnt (fun k => c0 k = k) lo hi)) → ∀ w3, Go d M_Mo_classed 75 [(22, 135), (0, more), (0, i), w3] [] (setR h 141 lo hi c) Q) ?_ ?_
        · intro c more M S hm w3
          refine N_Mo_classed_75 ⟨fun _ => ?_, fun w => ?_⟩
          · rcases hm with ⟨m0, rfl, hf⟩ | ⟨m1, hc⟩
            · subst m0
              refine N_Mo_classed_64 ⟨fun _ => ⟨by omega, c_shapes (by omega) hlo hhi h0 h00 h1 M (fun s hs => H c s M S ?_ hs)⟩, fun w => absurd rfl w⟩
              intro a b a1 a2 b1 b2 e l
              rcases Int.lt_trichotomy a b with q | q | q
              · have w := hf b a a1 q b2 e.symm (by omega)
                constructor
                · intro p
                  have v := w.mp p.symm
                  exact ⟨fun r => (v.1 (by omega)).symm, fun r => (v.2 (by omega)).symm⟩
                · intro p
                  exact (w.mpr ⟨fun r => (p.1 (by omega)).symm, fun r => (p.2 (by omega)).symm⟩).symm
              · subst q
                exact ⟨fun _ => ⟨fun _ => rfl, fun _ => rfl⟩, fun _ => rfl⟩
              · exact hf a b b1 q a2 e l
            · subst m1
              exact ihn c M S (by omega) _ _
          · rw [eo c 135 15 (by decide), hhi] at w; omega
        · intro i i1 i2 ih c more M S hm w3
          refine N_Mo_classed_75 ?_
          rw [eo c 135 15 (by decide), hhi, eo c 135 14 (by decide), hlo]
          refine ⟨fun w => by omega, fun _ => ?_⟩
          have p88 : ∀ (c : Int → Int) (more : Int), Mi lo hi c → (∀ θ, SolR h tm θ ↔ Rsp lo hi tm c θ) → ((more = 0 ∧ c = c0 ∧ ∀ a b, lo ≤ b → b < a → (a < i ∨ (a = i ∧ b < lo)) → (h 137 a = h 137 b → h 137 a < 7 → (c0 a = c0 b ↔ Alk (h 137) (h 138) (h 139) c0 a b))) ∨ (more = 1 ∧ cnt (fun k => c k = k) lo hi < cnt (fun k => c0 k = k) lo hi)) → Go d M_Mo_classed 88 [(22, 135), (0, more), (0, i), (0, lo)] [] (setR h 141 lo hi c) Q := by
            refine up_loop (i := lo) (hi := i) i1 (P := fun j => ∀ (c : Int → Int) (more : Int), Mi lo hi c → (∀ θ, SolR h tm θ ↔ Rsp lo hi tm c θ) → ((more = 0 ∧ c = c0 ∧ ∀ a b, lo ≤ b → b < a → (a < i ∨ (a = i ∧ b < j)) → (h 137 a = h 137 b → h 137 a < 7 → (c0 a = c0 b ↔ Alk (h 137) (h 138) (h 139) c0 a b))) ∨ (more = 1 ∧ cnt (fun k => c k = k) lo hi < cnt (fun k => c0 k = k) lo hi)) → Go d M_Mo_classed 88 [(22, 135), (0, more), (0, i), (0, j)] [] (setR h 141 lo hi c) Q) ?_ ?_
            · intro c more M S hm
              refine N_Mo_classed_88 ⟨fun _ => ⟨by unfold r32; omega, ih c more M S ?_ _⟩, fun w => by omega⟩
              rcases hm with ⟨m0, e, hf⟩ | m1
              · exact Or.inl ⟨m0, e, fun a b b1 b2 b3 => hf a b b1 b2 (by omega)⟩
              · exact Or.inr m1
            · intro j j1 j2 ihj c more M S hm
              refine N_Mo_classed_88 ?_
              rw [eo c 137 i (by decide), eo c 137 j (by decide)]
              have keep : (h 137 i = h 137 j → h 137 i < 7 → (c i = c j ↔ Alk (h 137) (h 138) (h 139) c i j)) → Go d M_Mo_classed 88 [(22, 135), (0, more), (0, i), (0, j + 1)] [] (setR h 141 lo hi c) Q := by
                intro q
                refine ihj c more M S ?_
                rcases hm with ⟨m0, e, hf⟩ | m1
                · subst e
                  refine Or.inl ⟨m0, rfl, fun a b b1 b2 b3 => ?_⟩
                  by_cases v : a = i ∧ b = j
                  · rw [v.1, v.2]; exact q
                  · exact hf a b b1 b2 (by omega)
                · exact Or.inr m1
              refine ⟨fun w => by omega, fun _ => ⟨⟨by omega, by omega⟩, ⟨by omega, by omega⟩, fun w => ⟨by unfold r32; omega, keep (fun e => absurd e w)⟩, fun w => ⟨⟨by omega, by omega⟩, fun v => ⟨by unfold r32; omega, keep (fun _ e => by omega)⟩, fun v => ⟨by omega, ?_⟩⟩⟩⟩
              refine c_joins (tm := tm) (by omega) hlo hhi h0 h1 W M ⟨i1, i2⟩ ⟨by omega, by omega⟩ w v (fun q => ⟨fun _ => ⟨by unfold r32; omega, keep (fun _ _ => q)⟩, fun q => absurd rfl q⟩) (fun c' st lt => ⟨fun q => by omega, fun _ => ⟨by unfold r32; omega, ?_⟩⟩)
              refine ihj c' 1 st.1 (fun θ => ⟨fun q => st.2.2.1 θ ((S θ).mp q), fun q => (S θ).mpr (fun a b p1 p2 p3 p4 e => q a b p1 p2 p3 p4 (st.2.1 a b p1 p2 p3 p4 e))⟩) (Or.inr ⟨rfl, ?_⟩)
              rcases hm with ⟨_, e, _⟩ | ⟨_, m1⟩
              · rw [e] at lt; exact lt
              · omega
          refine p88 c more M S ?_
          rcases hm with ⟨m0, e, hf⟩ | m1
          · exact Or.inl ⟨m0, e, fun a b b1 b2 b3 => hf a b b1 b2 (by omega)⟩
          · exact Or.inr m1
      exact p75 c0 0 M0 S0 (Or.inl ⟨rfl, rfl, fun a b b1 b2 b3 => by omega⟩) _
  -- what was made equal
  have eqs : ∀ (c : Int → Int), Mi lo hi c → (∀ θ, (∀ e, h 135 16 ≤ e → e < h 135 16 → sb θ (tm (h 146 e)) = sb θ (tm (h 147 e))) ↔ Rsp lo hi tm c θ) → Go d M_Mo_classed 31 [(22, 135), (0, h 135 16), (2, 0), (2, 0)] [] (setR h 141 lo hi c) Q := by
    refine up_loop (i := h 135 16) (hi := h 135 17) he1 (P := fun i => ∀ (c : Int → Int), Mi lo hi c → (∀ θ, (∀ e, h 135 16 ≤ e → e < i → sb θ (tm (h 146 e)) = sb θ (tm (h 147 e))) ↔ Rsp lo hi tm c θ) → Go d M_Mo_classed 31 [(22, 135), (0, i), (2, 0), (2, 0)] [] (setR h 141 lo hi c) Q) ?_ ?_
    · intro c M S
      refine N_Mo_classed_31 ⟨fun _ => ?_, fun w => ?_⟩
      · exact rounds (cnt (fun k => c k = k) lo hi + 1).toNat c M S (by have := (cnt_bd (p := fun k => c k = k) h00).1; omega) _ _
      · rw [eo c 135 17 (by decide)] at w; omega
    · intro i i1 i2 ih c M S
      have q := hE i i1 i2
      refine N_Mo_classed_31 ?_
      rw [eo c 135 17 (by decide), eo c 146 i (by decide), eo c 147 i (by decide)]
      refine ⟨fun w => by omega, fun _ => ⟨⟨by omega, by omega⟩, ⟨by omega, by omega⟩, by omega, c_merges hlo hhi h0 h1 q.1 q.2 (fun r _ => ⟨by unfold r32; omega, ih _ (mrg_Mi M q.1 q.2) ?_⟩)⟩⟩
      intro θ
      constructor
      · intro p a b a1 a2 b1 b2 e
        have rs := (S θ).mp (fun e e1 e2 => p e e1 (by omega))
        have pj := p i i1 (by omega)
        rcases mrg_just e with w | ⟨w1, w2⟩ | ⟨w1, w2⟩
        · exact rs a b a1 a2 b1 b2 w
        · rw [rs a _ a1 a2 q.1.1 q.1.2 w1, rs b _ b1 b2 q.2.1 q.2.2 w2, pj]
        · rw [rs a _ a1 a2 q.2.1 q.2.2 w1, rs b _ b1 b2 q.1.1 q.1.2 w2, pj]
      · intro p e e1 e2
        by_cases w : e = i
        · subst w
          exact p _ _ q.1.1 q.1.2 q.2.1 q.2.2 mrg_xy
        · exact (S θ).mpr (fun a b a1 a2 b1 b2 e => p a b a1 a2 b1 b2 (mrg_eq e)) e e1 (by omega)
  refine N_Mo_classed_0 ?_
  rw [hlo]
  have loop1 : Go d M_Mo_classed 5 [(22, 135), (0, lo), (2, 0), (2, 0)] [] (setR h 141 lo lo (fun i => i)) Q := by
    refine up_loop (i := lo) (hi := hi) h00 (P := fun i => Go d M_Mo_classed 5 [(22, 135), (0, i), (2, 0), (2, 0)] [] (setR h 141 lo i (fun i => i)) Q) ?_ ?_
    · refine N_Mo_classed_5 ⟨fun _ => ?_, fun w => ?_⟩
      · rw [eo _ 135 16 (by decide)]
        refine eqs _ (fun i a b => ⟨a, Int.le_refl _, rfl⟩) (fun θ => ⟨fun _ a b _ _ _ _ e => by rw [show a = b from e], fun _ e e1 e2 => by omega⟩)
      · rw [eo _ 135 15 (by decide), hhi] at w; omega
    · intro i i1 i2 ih
      refine N_Mo_classed_5 ?_
      rw [setR_ne (by decide), hhi]
      refine ⟨fun w => by omega, fun _ => ⟨⟨by omega, by omega⟩, ?_⟩⟩
      rintro g rfl
      refine ⟨by unfold r32; omega, ?_⟩
      rw [setR_snoc (by omega) rfl]
      exact ih
  rw [setR_nil (Int.le_refl _)] at loop1
  exact loop1
end
