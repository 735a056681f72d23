section
def upn (f : Int → Nat) (k : Int) (v : Nat) : Int → Nat := fun j => if j = k then v else f j
theorem upn_eq {f : Int → Nat} {k : Int} {v : Nat} : upn f k v k = v := if_pos rfl
theorem upn_ne {f : Int → Nat} {k j : Int} {v : Nat} (h : j ≠ k) : upn f k v j = f j := if_neg h
theorem pA1_upf {h : HP} {v : Int → Int} {i k y : Int} (h0 : v i = 0) (h1 : pA1 h v k ≠ 0) : pA1 h (upf v i y) k = pA1 h v k := by
  unfold pA1 at *
  split
  · rename_i w
    rw [if_pos w] at h1
    exact upf_ne (fun e => h1 (by rw [e]; exact h0))
  · rfl
theorem pB1_upf {h : HP} {v : Int → Int} {i k y : Int} (h0 : v i = 0) (h1 : pB1 h v k ≠ 0) : pB1 h (upf v i y) k = pB1 h v k := by
  unfold pB1 at *
  split
  · rename_i w
    rw [if_pos w] at h1
    exact upf_ne (fun e => h1 (by rw [e]; exact h0))
  · rfl
theorem ari_ge1 {k : Int} (h : 0 < ari k) : 2 ≤ k ∧ k ≤ 6 := by
  unfold ari at h
  split at h
  · omega
  · split at h <;> omega
theorem ari_ge2 {k : Int} (h : 1 < ari k) : k = 2 := by
  unfold ari at h
  split at h
  · assumption
  · split at h <;> omega
theorem WkI_put {h : HP} {lo hi what : Int} {v : Int → Int} {rk : Int → Nat} {T : Nat} {i y : Int} (W : WkI h lo hi what v rk T) (hi1 : lo ≤ i) (hi2 : i < hi) (hc : h 141 i = i) (h0 : v i = 0) (ha : pA1 h v i ≠ 0) (hb : pB1 h v i ≠ 0) (hy : y = wth what (h 137 (h 142 i)) (h 140 (h 142 i)) (pA1 h v i) (pB1 h v i)) (hy1 : 1 ≤ y ∧ y ≤ 10000)
    (hA : 0 < ari (h 137 (h 142 i)) → lo ≤ h 141 (h 138 (h 142 i)) ∧ h 141 (h 138 (h 142 i)) < hi) (hB : 1 < ari (h 137 (h 142 i)) → lo ≤ h 141 (h 139 (h 142 i)) ∧ h 141 (h 139 (h 142 i)) < hi) :
    WkI h lo hi what (upf v i y) (upn rk i T) (T + 1) := by
  constructor
  · intro k a b
    have := W.1 k a b
    by_cases w : k = i
    · subst w; rw [upf_eq, upn_eq]; omega
    · rw [upf_ne w, upn_ne w]; omega
  · intro k a b hv
    have neA : ∀ k, pA1 h v k ≠ 0 → 0 < ari (h 137 (h 142 k)) → h 141 (h 138 (h 142 k)) ≠ i := by
      intro k p q e
      unfold pA1 at p
      rw [if_pos q, e] at p
      exact p h0
    have neB : ∀ k, pB1 h v k ≠ 0 → 1 < ari (h 137 (h 142 k)) → h 141 (h 139 (h 142 k)) ≠ i := by
      intro k p q e
      unfold pB1 at p
      rw [if_pos q, e] at p
      exact p h0
    by_cases w : k = i
    · subst w
      rw [pA1_upf h0 ha, pB1_upf h0 hb, upf_eq, upn_eq]
      refine ⟨hc, ha, hb, hy, fun q => ?_, fun q => ?_⟩
      · rw [upn_ne (neA k ha q)]
        exact (W.1 _ (hA q).1 (hA q).2).2.2
      · rw [upn_ne (neB k hb q)]
        exact (W.1 _ (hB q).1 (hB q).2).2.2
    · rw [upf_ne w] at hv
      obtain ⟨x1, x2, x3, x4, x5, x6⟩ := W.2 k a b hv
      rw [pA1_upf h0 x2, pB1_upf h0 x3, upf_ne w, upn_ne w]
      refine ⟨x1, x2, x3, x4, fun q => ?_, fun q => ?_⟩
      · rw [upn_ne (neA k x2 q)]; exact x5 q
      · rw [upn_ne (neB k x3 q)]; exact x6 q
theorem c_works {d : Nat} {what lo hi : Int} {tm : Int → Tm} {h : HP} {Q : PQ} (hd : 2 < d) (R : RB h lo hi tm)
    (H : ∀ v rk T, WkI h lo hi what v rk T → (∀ k, lo ≤ k → k < hi → h 141 k = k → v k = 0 → pA1 h v k = 0 ∨ pB1 h v k = 0) → Q 0 (setR h 145 lo hi v)) :
    Go d M_Mo_works 0 [(22, 135), (0, what), (2, 0), (2, 0), (2, 0), (2, 0), (2, 0), (2, 0)] [] h Q := by
  obtain ⟨hlo, hhi, h0, h00, h1, W, hp, M, hs⟩ := R
  have A := Wst_arg W
  have eo : ∀ v a i, a ≠ 145 → (setR h 145 lo hi v) a i = h a i := fun v a i q => setR_ne q
  have rounds : ∀ (n : Nat) (v : Int → Int) (rk : Int → Nat) (T : Nat), WkI h lo hi what v rk T → cnt (fun k => v k = 0) lo hi < n → ∀ w3 w4 w5 w6 w7, Go d M_Mo_works 28 [(22, 135), (0, what), (0, 1), w3, w4, w5, w6, w7] [] (setR h 145 lo hi v) Q := by
    intro n
    induction n with
    | zero =>
      intro v rk T _ hn
      have := (cnt_bd (p := fun k => v k = 0) h00).1
      omega
    | succ n ihn =>
      intro v0 rk0 T0 I0 hn w3 w4 w5 w6 w7
      refine N_Mo_works_28 ⟨fun w => absurd w (by decide), fun _ => ?_⟩
      rw [eo v0 135 14 (by decide), hlo]
      have pass : ∀ (v : Int → Int) (rk : Int → Nat) (T : Nat) (more : Int), WkI h lo hi what v rk T → ((more = 0 ∧ v = v0 ∧ ∀ k, lo ≤ k → k < lo → h 141 k = k → v k = 0 → pA1 h v k = 0 ∨ pB1 h v k = 0) ∨ (more = 1 ∧ cnt (fun k => v k = 0) lo hi < cnt (fun k => v0 k = 0) lo hi)) → ∀ w4 w5 w6 w7, Go d M_Mo_works 39 [(22, 135), (0, what), (0, more), (0, lo), w4, w5, w6, w7] [] (setR h 145 lo hi v) Q := by
        refine up_loop (i := lo) (hi := hi) h00 (P := fun i => ∀ (v : Int → Int) (rk : Int → Nat) (T : Nat) (more : Int), WkI h lo hi what v rk T → ((more = 0 ∧ v = v0 ∧ ∀ k, lo ≤ k → k < i → h 141 k = k → v k = 0 → pA1 h v k = 0 ∨ pB1 h v k = 0) ∨ (more = 1 ∧ cnt (fun k => v k = 0) lo hi < cnt (fun k => v0 k = 0) lo hi)) → ∀ w4 w5 w6 w7, Go d M_Mo_works 39 [(22, 135), (0, what), (0, more), (0, i), w4, w5, w6, w7] [] (setR h 145 lo hi v) Q) ?_ ?_
        · intro v rk T more I hm w4 w5 w6 w7
          refine N_Mo_works_39 ⟨fun _ => ?_, fun w => ?_⟩
          · rcases hm with ⟨m0, e, hf⟩ | ⟨m1, hc⟩
            · subst m0
              exact N_Mo_works_28 ⟨fun _ => H v rk T I hf, fun w => absurd rfl w⟩
            · subst m1
              exact ihn v rk T I (by omega) _ _ _ _ _
          · rw [eo v 135 15 (by decide), hhi] at w; omega
        · intro i i1 i2 ih v rk T more I hm w4 w5 w6 w7
          have keep : (h 141 i = i → v i = 0 → pA1 h v i = 0 ∨ pB1 h v i = 0) → ∀ w4 w5 w6 w7, Go d M_Mo_works 39 [(22, 135), (0, what), (0, more), (0, i + 1), w4, w5, w6, w7] [] (setR h 145 lo hi v) Q := by
            intro q
            refine ih v rk T more I ?_
            rcases hm with ⟨m0, e, hf⟩ | m1
            · refine Or.inl ⟨m0, e, fun k k1 k2 => ?_⟩
              by_cases w : k = i
              · subst w; exact q
              · exact hf k k1 (by omega)
            · exact Or.inr m1
          have st : ∀ (a b y : Int) (w7 : AV), h 141 i = i → v i = 0 → a = pA1 h v i → b = pB1 h v i → Go d M_Mo_works 141 [(22, 135), (0, what), (0, more), (0, i), (0, h 142 i), (0, y), (0, a), w7] [(0, b)] (setR h 145 lo hi v) Q := by
            intro a b y w7 hc hv ha hb
            have S1 := hs i i1 i2
            rw [hc] at S1
            have up0 : up2 (setR h 145 lo hi v) 145 i 0 = setR h 145 lo hi v := up2_id (by rw [setR_in i1 i2, hv])
            have r0 : (setR h 145 lo hi v) 145 i = 0 := by rw [setR_in i1 i2, hv]
            have zero : (a = 0 ∨ b = 0) → ∀ g : HP, g = up2 (setR h 145 lo hi v) 145 i 0 → (more ≠ 0 → r32 (i + 1) ∧ Go d M_Mo_works 39 [(22, 135), (0, what), (0, 1), (0, i + 1), (0, h 142 i), (0, y), (0, a), (0, b)] [] g Q) ∧ (more = 0 → (0 ≤ i ∧ i < 1000) ∧ (g 145 i ≤ 0 → r32 (i + 1) ∧ Go d M_Mo_works 39 [(22, 135), (0, what), (0, 0), (0, i + 1), (0, h 142 i), (0, y), (0, a), (0, b)] [] g Q) ∧ (0 < g 145 i → r32 (i + 1) ∧ Go d M_Mo_works 39 [(22, 135), (0, what), (0, 1), (0, i + 1), (0, h 142 i), (0, y), (0, a), (0, b)] [] g Q)) := by
              intro q g e
              rw [up0] at e
              subst e
              rw [r0]
              have kk := keep (fun _ _ => by rw [← ha, ← hb]; exact q)
              refine ⟨fun m => ⟨by unfold r32; omega, ?_⟩, fun m => ⟨⟨by omega, by omega⟩, fun _ => ⟨by unfold r32; omega, ?_⟩, fun z => absurd z (by decide)⟩⟩
              · rcases hm with ⟨m0, _⟩ | ⟨m1, _⟩
                · exact absurd m0 m
                · subst m1; exact kk _ _ _ _
              · subst m; exact kk _ _ _ _
            refine N_Mo_works_141 ⟨fun w => ⟨⟨by omega, by omega⟩, zero (Or.inl w)⟩, fun w => ⟨fun u => ⟨by omega, ?_⟩, fun u => ⟨⟨by omega, by omega⟩, zero (Or.inr u)⟩⟩⟩
            have aA : 0 < ari (h 137 (h 142 i)) → lo ≤ h 141 (h 138 (h 142 i)) ∧ h 141 (h 138 (h 142 i)) < hi := by
              intro q
              have q1 := ari_ge1 q
              have q2 := (A (h 142 i) S1.1 S1.2.1).1 q1.1 q1.2
              have := M _ q2.1 q2.2
              omega
            have aB : 1 < ari (h 137 (h 142 i)) → lo ≤ h 141 (h 139 (h 142 i)) ∧ h 141 (h 139 (h 142 i)) < hi := by
              intro q
              have q2 := (A (h 142 i) S1.1 S1.2.1).2 (ari_ge2 q)
              have := M _ q2.1 q2.2
              omega
            have ba : 1 ≤ a ∧ a ≤ 10000 := by
              have : 0 ≤ a ∧ a ≤ 10000 := by
                rw [ha]; unfold pA1; split
                · rename_i q; have := I.1 _ (aA q).1 (aA q).2; omega
                · omega
              omega
            have bb : 1 ≤ b ∧ b ≤ 10000 := by
              have : 0 ≤ b ∧ b ≤ 10000 := by
                rw [hb]; unfold pB1; split
                · rename_i q; have := I.1 _ (aB q).1 (aB q).2; omega
                · omega
              omega
            have dp := hp (h 142 i) S1.1 S1.2.1
            refine c_worth (by omega) ⟨by omega, by omega⟩ ba bb (by rw [eo v 140 _ (by decide)]; exact dp) ?_
            rw [eo v 140 _ (by decide), eo v 137 _ (by decide)]
            have bd := wth_bd (what := what) (hd := h 137 (h 142 i)) ba bb dp
            refine ⟨⟨by omega, by omega⟩, ?_⟩
            rintro g rfl
            rw [setR_up i1 i2, setR_in i1 i2, upf_eq]
            have I2 := WkI_put (y := wth what (h 137 (h 142 i)) (h 140 (h 142 i)) a b) I i1 i2 hc hv (by rw [← ha]; exact w) (by rw [← hb]; exact u) (by rw [ha, hb]) bd aA aB
            have go := ih _ _ _ 1 I2 (Or.inr ⟨rfl, ?_⟩)
            · refine ⟨fun m => ⟨by unfold r32; omega, go _ _ _ _⟩, fun m => ⟨⟨by omega, by omega⟩, fun z => by omega, fun _ => ⟨by unfold r32; omega, go _ _ _ _⟩⟩⟩
            · have c1 := cnt_less (p := fun k => v k = 0) (q := fun k => upf v i (wth what (h 137 (h 142 i)) (h 140 (h 142 i)) a b) k = 0) i1 i2 hv (by show ¬ upf v i _ i = 0; rw [upf_eq]; omega) (fun k _ _ hk => by show v k = 0 ↔ upf v i _ k = 0; rw [upf_ne hk])
              rcases hm with ⟨_, e, _⟩ | ⟨_, m1⟩
              · rw [e] at c1 ⊢; omega
              · omega
          refine N_Mo_works_39 ?_
          rw [eo v 135 15 (by decide), hhi, eo v 141 i (by decide), setR_in (h := h) (a := 145) (f := v) i1 i2, eo v 142 i (by decide), eo v 137 _ (by decide)]
          refine ⟨fun w => by omega, fun _ => ⟨⟨by omega, by omega⟩, fun w => ⟨by unfold r32; omega, keep (fun e => absurd e w) _ _ _ _⟩, fun w => ⟨⟨by omega, by omega⟩, fun u => ⟨by unfold r32; omega, keep (fun _ e => absurd e u) _ _ _ _⟩, fun u => ?_⟩⟩⟩
          have S1 := hs i i1 i2
          rw [w] at S1
          refine ⟨⟨by omega, by omega⟩, ⟨by omega, by omega⟩, by omega, c_parts (by omega) ?_⟩
          rw [eo v 138 _ (by decide), eo v 139 _ (by decide), eo v 141 _ (by decide), eo v 141 _ (by decide)]
          refine ⟨fun q => ⟨fun q2 => ?_, fun q2 => by omega⟩, fun q => ?_⟩
          · exact st 1 1 _ _ w u (by unfold pA1; rw [if_neg (by omega)]) (by unfold pB1; rw [if_neg (by omega)])
          · have q1 := ari_ge1 q
            have q2 := (A (h 142 i) S1.1 S1.2.1).1 q1.1 q1.2
            have q3 := M _ q2.1 q2.2
            refine ⟨⟨by omega, by omega⟩, ⟨by omega, by omega⟩, ⟨by omega, by omega⟩, fun z => ?_, fun z => ?_⟩
            · rw [setR_in (by omega) (by omega)]
              exact st _ 1 _ _ w u (by unfold pA1; rw [if_pos q]) (by unfold pB1; rw [if_neg (by omega)])
            · have z2 := (A (h 142 i) S1.1 S1.2.1).2 (ari_ge2 z)
              have z3 := M _ z2.1 z2.2
              refine ⟨⟨by omega, by omega⟩, ⟨by omega, by omega⟩, ⟨by omega, by omega⟩, ?_⟩
              rw [setR_in (by omega) (by omega), setR_in (by omega) (by omega)]
              exact st _ _ _ _ w u (by unfold pA1; rw [if_pos q]) (by unfold pB1; rw [if_pos z])
      exact pass v0 rk0 T0 0 I0 (Or.inl ⟨rfl, rfl, fun k a b => by omega⟩) _ _ _ _
  refine N_Mo_works_0 ?_
  rw [hlo]
  have loop1 : Go d M_Mo_works 5 [(22, 135), (0, what), (0, lo), (2, 0), (2, 0), (2, 0), (2, 0), (2, 0)] [] (setR h 145 lo lo (fun _ => 0)) Q := by
    refine up_loop (i := lo) (hi := hi) h00 (P := fun i => Go d M_Mo_works 5 [(22, 135), (0, what), (0, i), (2, 0), (2, 0), (2, 0), (2, 0), (2, 0)] [] (setR h 145 lo i (fun _ => 0)) Q) ?_ ?_
    · refine N_Mo_works_5 ⟨fun _ => ?_, fun w => ?_⟩
      · exact rounds (hi - lo + 1).toNat _ (fun _ => 0) 1 ⟨fun k _ _ => ⟨Int.le_refl _, by decide, Nat.lt_succ_self 0⟩, fun k _ _ q => absurd rfl q⟩ (Int.lt_of_le_of_lt (cnt_bd h00).2 (by omega)) _ _ _ _ _
      · rw [setR_ne (by decide), hhi] at w; omega
    · intro i i1 i2 ih
      refine N_Mo_works_5 ?_
      rw [setR_ne (by decide), hhi]
      refine ⟨fun w => by omega, fun _ => ⟨⟨by omega, by omega⟩, ?_⟩⟩
      rintro g rfl
      refine ⟨by unfold r32; omega, ?_⟩
      rw [setR_snoc (by omega) rfl]
      exact ih
  rw [setR_nil (Int.le_refl _)] at loop1
  exact loop1
end
