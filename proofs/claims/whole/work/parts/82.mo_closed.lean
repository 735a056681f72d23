section
theorem c_in {d : Nat} {v lo hi : Int} {h : HP} {Q : PQ} (H1 : lo ≤ v → v ≤ hi → Q 1 h) (H0 : (v < lo ∨ hi < v) → Q 0 h) : Go d M_Mo_in 0 [(0, v), (0, lo), (0, hi)] [] h Q :=
  V_Mo_in_0 ⟨fun w => H0 (Or.inl w), fun w => ⟨fun v => H0 (Or.inr v), fun v => H1 w v⟩⟩
def ari (hd : Int) : Int := if hd = 2 then 2 else if 3 ≤ hd ∧ hd ≤ 6 then 1 else 0
theorem ari_2 {k : Int} (h : k = 2) : ari k = 2 := by unfold ari; rw [if_pos h]
theorem ari_1 {k : Int} (h : 3 ≤ k) (h' : k ≤ 6) : ari k = 1 := by unfold ari; rw [if_neg (by omega), if_pos ⟨h, h'⟩]
theorem ari_0 {k : Int} (h : k < 2 ∨ 6 < k) : ari k = 0 := by unfold ari; rw [if_neg (by omega), if_neg (by omega)]
theorem c_parts {d : Nat} {k : Int} {h : HP} {Q : PQ} (hd : 0 < d) (H : Q (ari k) h) : Go d M_Mo_parts 0 [(0, k)] [] h Q := by
  refine V_Mo_parts_0 ⟨fun w => ⟨hd, c_in (fun a b => ⟨fun q => by omega, fun _ => ?_⟩) (fun a => ⟨fun _ => ?_, fun q => absurd rfl q⟩)⟩, fun w => ?_⟩
  · rw [ari_1 a b] at H; exact H
  · rw [ari_0 (by omega)] at H; exact H
  · rw [ari_2 w] at H; exact H
def Alk (hd fa fb c : Int → Int) (i j : Int) : Prop := (2 ≤ hd i → c (fa i) = c (fa j)) ∧ (hd i = 2 → c (fb i) = c (fb j))
def ArgIn (lo hi : Int) (hd fa fb : Int → Int) : Prop := ∀ x, lo ≤ x → x < hi → (2 ≤ hd x → hd x ≤ 6 → lo ≤ fa x ∧ fa x < hi) ∧ (hd x = 2 → lo ≤ fb x ∧ fb x < hi)
theorem Wst_arg {lo hi : Int} {hd fa fb : Int → Int} {tm : Int → Tm} (H : Wst lo hi hd fa fb tm) : ArgIn lo hi hd fa fb := by
  intro x a b
  have w := H.1 x a b
  refine ⟨fun p q => ?_, fun p => ?_⟩
  · have := w.2.1 p q; omega
  · have := w.2.2.1 p; omega
theorem c_joins {d : Nat} {i j lo hi : Int} {c : Int → Int} {tm : Int → Tm} {h : HP} {Q : PQ} (hd : 2 < d) (hlo : h 135 14 = lo) (hhi : h 135 15 = hi) (h0 : 0 ≤ lo) (h1 : hi ≤ 1000) (W : Wst lo hi (h 137) (h 138) (h 139) tm) (M : Mi lo hi c)
    (hi1 : lo ≤ i ∧ i < hi) (hj1 : lo ≤ j ∧ j < hi) (heq : h 137 i = h 137 j) (h6 : h 137 i < 7)
    (H0 : (c i = c j ↔ Alk (h 137) (h 138) (h 139) c i j) → Q 0 (setR h 141 lo hi c))
    (H1 : ∀ c', MStp lo hi tm c c' → cnt (fun k => c' k = k) lo hi < cnt (fun k => c k = k) lo hi → Q 1 (setR h 141 lo hi c')) :
    Go d M_Mo_joins 0 [(22, 135), (0, i), (0, j), (2, 0), (2, 0)] [] (setR h 141 lo hi c) Q := by
  have A := Wst_arg W
  have ai := A i hi1.1 hi1.2
  have aj := A j hj1.1 hj1.2
  have r0 := (W.1 i hi1.1 hi1.2).1
  have e137 : ∀ k, (setR h 141 lo hi c) 137 k = h 137 k := fun k => setR_ne (by decide)
  have e138 : ∀ k, (setR h 141 lo hi c) 138 k = h 138 k := fun k => setR_ne (by decide)
  have e139 : ∀ k, (setR h 141 lo hi c) 139 k = h 139 k := fun k => setR_ne (by decide)
  have e141 : ∀ k, lo ≤ k → k < hi → (setR h 141 lo hi c) 141 k = c k := fun k a b => setR_in a b
  have ci := e141 i hi1.1 hi1.2
  have cj := e141 j hj1.1 hj1.2
  -- the last step
  have last : ∀ (n al : Int), n = ari (h 137 i) → ((al = 1 ∧ Alk (h 137) (h 138) (h 139) c i j ∧ c i ≠ c j) ∨ (al = 0 ∧ ¬ Alk (h 137) (h 138) (h 139) c i j)) → Go d M_Mo_joins 99 [(22, 135), (0, i), (0, j), (0, n), (0, al)] [] (setR h 141 lo hi c) Q := by
    intro n al hn hal
    refine N_Mo_joins_99 ?_
    rw [ci, cj, e138 i, e138 j]
    refine ⟨⟨by omega, by omega⟩, ⟨by omega, by omega⟩, fun w => ⟨⟨by omega, by omega⟩, ⟨by omega, by omega⟩, by omega, ?_⟩, fun w => ⟨fun q => ?_, fun q => ⟨by omega, ?_⟩⟩⟩
    · have nal : ¬ Alk (h 137) (h 138) (h 139) c i j := by
        rcases hal with ⟨_, _, q⟩ | ⟨_, q⟩
        · exact absurd w q
        · exact q
      have n2 : 2 ≤ h 137 i := by
        rcases Int.lt_or_le (h 137 i) 2 with q | q
        · exact absurd ⟨fun p => by omega, fun p => by omega⟩ nal
        · exact q
      have fi := ai.1 n2 (by omega)
      have fj := aj.1 (by omega) (by omega)
      have j1 : ∀ θ, Rsp lo hi tm c θ → sb θ (tm (h 138 i)) = sb θ (tm (h 138 j)) := fun θ r => (Rsp_hd W r hi1.1 hi1.2 hj1.1 hj1.2 w (by omega) (by omega)).2.1 n2
      have s1 : MStp lo hi tm c (mrg c (h 138 i) (h 138 j)) := mrg_MStp M fi fj j1
      refine c_merges hlo hhi h0 h1 fi fj (fun r hr => ⟨fun q => ?_, fun q => ?_⟩)
      · refine H1 _ s1 ?_
        have n1 : c (h 138 i) ≠ c (h 138 j) := by
          intro e
          refine nal ⟨fun _ => e, fun p => ?_⟩
          rw [hn, ari_2 p] at q
          omega
        have := mrg_cnt M fi fj n1
        omega
      · have p2 : h 137 i = 2 := by
          rw [hn] at q
          unfold ari at q
          split at q
          · assumption
          · split at q <;> omega
        have gi := ai.2 p2
        have gj := aj.2 (by omega)
        have j2 : ∀ θ, Rsp lo hi tm (mrg c (h 138 i) (h 138 j)) θ → sb θ (tm (h 139 i)) = sb θ (tm (h 139 j)) := fun θ r => (Rsp_hd W r hi1.1 hi1.2 hj1.1 hj1.2 (mrg_eq w) (by omega) (by omega)).2.2 p2
        have s2 : MStp lo hi tm (mrg c (h 138 i) (h 138 j)) (mrg (mrg c (h 138 i) (h 138 j)) (h 139 i) (h 139 j)) := mrg_MStp s1.1 gi gj j2
        rw [setR_ne (show (139 : Int) ≠ 141 by decide), setR_ne (show (139 : Int) ≠ 141 by decide)]
        refine ⟨⟨by omega, by omega⟩, ⟨by omega, by omega⟩, by omega, c_merges hlo hhi h0 h1 gi gj (fun r2 hr2 => ?_)⟩
        refine H1 _ (MStp_trans s1 s2) ?_
        by_cases n1 : c (h 138 i) = c (h 138 j)
        · have n3 : (mrg c (h 138 i) (h 138 j)) (h 139 i) ≠ (mrg c (h 138 i) (h 138 j)) (h 139 j) := by
            intro e
            rw [mrg_same n1, mrg_same n1] at e
            exact nal ⟨fun _ => n1, fun _ => e⟩
          have := mrg_cnt s1.1 gi gj n3
          have := s1.2.2.2
          omega
        · have := mrg_cnt M fi fj n1
          have := s2.2.2.2
          omega
    · rcases hal with ⟨p, _, _⟩ | ⟨_, p⟩
      · omega
      · exact H0 ⟨fun e => absurd e w, fun e => absurd e p⟩
    · have al1 : Alk (h 137) (h 138) (h 139) c i j := by
        rcases hal with ⟨_, p, _⟩ | ⟨p, _⟩
        · exact p
        · exact absurd p q
      refine c_merges hlo hhi h0 h1 hi1 hj1 (fun r hr => ⟨fun p => ?_, fun p => ?_⟩)
      · rcases hr with ⟨_, p2⟩ | ⟨p2, _⟩
        · exact absurd p2 w
        · omega
      · refine H1 _ (mrg_MStp M hi1 hj1 (fun θ r => ?_)) ?_
        · rw [(W.1 i hi1.1 hi1.2).2.2.2.1 (by omega), (W.1 j hj1.1 hj1.2).2.2.2.1 (by omega), sb_mk, sb_mk, ← heq]
          refine mkT_congr r0.1 (fun p => ?_) (fun p => ?_)
          · have x1 := ai.1 p (by omega)
            have x2 := aj.1 (by omega) (by omega)
            exact r _ _ x1.1 x1.2 x2.1 x2.2 (al1.1 p)
          · have x1 := ai.2 p
            have x2 := aj.2 (by omega)
            exact r _ _ x1.1 x1.2 x2.1 x2.2 (al1.2 p)
        · have := mrg_cnt M hi1 hj1 w
          omega
  have mid : ∀ n : Int, n = ari (h 137 i) → ¬ Alk (h 137) (h 138) (h 139) c i j → Go d M_Mo_joins 74 [(22, 135), (0, i), (0, j), (0, n), (2, 0)] [] (setR h 141 lo hi c) Q := by
    intro n hn nal
    refine N_Mo_joins_74 ?_
    rw [ci, cj]
    exact ⟨⟨by omega, by omega⟩, ⟨by omega, by omega⟩, fun w => last n 0 hn (Or.inr ⟨rfl, nal⟩), fun w => last n 0 hn (Or.inr ⟨rfl, nal⟩)⟩
  have fin : ∀ n : Int, n = ari (h 137 i) → Alk (h 137) (h 138) (h 139) c i j → (c i ≠ c j → Go d M_Mo_joins 99 [(22, 135), (0, i), (0, j), (0, n), (0, 1)] [] (setR h 141 lo hi c) Q) ∧ (c i = c j → Q 0 (setR h 141 lo hi c)) :=
    fun n hn al => ⟨fun w => last n 1 hn (Or.inl ⟨rfl, al, w⟩), fun w => H0 ⟨fun _ => al, fun _ => w⟩⟩
  refine N_Mo_joins_0 ⟨⟨by omega, by omega⟩, by omega, c_parts (by omega) ?_⟩
  rw [e137 i, e138 i, e138 j, e139 i, e139 j, ci, cj]
  refine ⟨fun q1 => ⟨fun q2 => ⟨⟨by omega, by omega⟩, ⟨by omega, by omega⟩, ?_⟩, fun q2 => by omega⟩, fun q1 => ?_⟩
  · refine fin _ rfl ⟨fun p => ?_, fun p => ?_⟩
    · have : h 137 i = 2 ∨ 3 ≤ h 137 i := by omega
      rcases this with q | q
      · rw [ari_2 q] at q1; omega
      · rw [ari_1 q (by omega)] at q1; omega
    · rw [ari_2 p] at q1; omega
  · have n2 : 2 ≤ h 137 i := by
      rcases Int.lt_or_le (h 137 i) 2 with q | q
      · rw [ari_0 (by omega)] at q1; omega
      · exact q
    have fi := ai.1 n2 (by omega)
    have fj := aj.1 (by omega) (by omega)
    rw [e141 _ fi.1 fi.2, e141 _ fj.1 fj.2]
    refine ⟨⟨by omega, by omega⟩, ⟨by omega, by omega⟩, ⟨by omega, by omega⟩, ⟨by omega, by omega⟩, fun w => mid _ rfl (fun al => w (al.1 n2)), fun w => ⟨fun q2 => ⟨⟨by omega, by omega⟩, ⟨by omega, by omega⟩, ?_⟩, fun q2 => ?_⟩⟩
    · refine fin _ rfl ⟨fun p => w, fun p => ?_⟩
      rw [ari_2 p] at q2; omega
    · have p2 : h 137 i = 2 := by
        rcases Int.lt_or_le (h 137 i) 3 with q | q
        · omega
        · rw [ari_1 q (by omega)] at q2; omega
      have gi := ai.2 p2
      have gj := aj.2 (by omega)
      rw [e141 _ gi.1 gi.2, e141 _ gj.1 gj.2]
      refine ⟨⟨by omega, by omega⟩, ⟨by omega, by omega⟩, ⟨by omega, by omega⟩, ⟨by omega, by omega⟩, fun v => mid _ rfl (fun al => v (al.2 p2)), fun v => ⟨⟨by omega, by omega⟩, ⟨by omega, by omega⟩, ?_⟩⟩
      exact fin _ rfl ⟨fun _ => w, fun _ => v⟩
end
