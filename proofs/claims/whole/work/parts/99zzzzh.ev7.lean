section
/-- ? -/
theorem e_choose {d tg : Nat} {h0 h : HP} {K : Nat} {c p sc base k hs N w r w' : Int} {Γ : Int → Tm} {τ : Tm} {env : Int → Int} {Q : PQ} (ht : tg = 11 ∨ tg = 31) (rb : RB0 h0) (ih : EvT h0 K) (hK : 60 - k ≤ K) (hd : 8 * K + 66 < d) (E : EvS h0 c p sc base k hs N w r w' Γ τ env h) (cc : bA (h0 (c + 1)) (h0 c 2) p = 63) (HG : EvG h0 c p sc base k hs env τ h Q) (HB : EvN h0 c p sc k env h Q) : Go d M_Machine_choose 0 [(13, 124), (tg, c), (0, p), (0, base), (0, k), (2, 0), (2, 0)] [] h Q := by
  obtain ⟨⟨kk, C, p0, N1⟩, G, W, km, ss, ⟨e8, e9, hs0, hs1⟩, nn, ev⟩ := E
  have cz := cod_nz C
  have cn := C.2
  have z3 : aSZ (124 + 3) = 3000 := rfl
  have p3 := rb_p3 rb
  have p2 : pO (bA (h0 (c + 1)) (h0 c 2) p) = ((2 : Nat) : Int) + 1 := by rw [cc]; rfl
  obtain ⟨r1, w1, G1, r2, w2, G2, r3, w3, G3, _⟩ : GC (gh h0 c N) 3 (p + 1) sc w r w' := GD_op G p2
  have l1 := gh_w rb N1 (by omega) G1
  have l2 := gh_w rb N1 (by omega) G2
  have l3 := gh_w rb N1 (by omega) G3
  have E1 : h0 (c + 2) (p + 1) = r1 := (GD_e G1).2
  have E2 : h0 (c + 2) r1 = r2 := (GD_e G2).2
  have Ww : wh h0 c (p + 1) Γ sc tB ∧ wh h0 c (h0 (c + 2) (p + 1)) Γ sc τ ∧ wh h0 c (h0 (c + 2) (h0 (c + 2) (p + 1))) Γ sc τ := by
    rcases WT_out W with ⟨x, _⟩ | ⟨x, _⟩ | ⟨_, H⟩ | ⟨x, _⟩ | ⟨x, _⟩ | ⟨x, _⟩ | ⟨x, _⟩
    · unfold lfO at x; omega
    · omega
    · exact H
    all_goals omega
  rw [E1, E2] at Ww
  obtain ⟨wa, wb, wc⟩ := Ww
  -- the ninth way
  have w9 : ∀ (sk sv : Int → Int) (out s' dp' nv' : Int), (∃ o s1 d1 n1, er h0 sk sv c (p + 1) sc env (k + 1) (h 124 10) (h 124 11) (h 124 7) o s1 d1 n1 ∧ ((o < 0 ∧ out = o) ∨ (0 ≤ o ∧ (sk o = 11 ∧ (sv (3 * o) = 0 ∨ sv (3 * o) = 1)) ∧ er h0 sk sv c (if sv (3 * o) = 1 then r1 else r2) sc env (k + 1) s1 d1 n1 out s' dp' nv'))) → erb h0 sk sv c p sc env k (h 124 10) (h 124 11) (h 124 7) out s' dp' nv' := by
    intro sk sv out s' dp' nv' H
    rw [← E2, ← E1] at H
    exact Or.inr (Or.inr (Or.inr (Or.inr (Or.inr (Or.inr (Or.inr (Or.inr (Or.inl ⟨cc, H⟩))))))))
  refine VT_Machine_choose_0 ht cz ⟨by unfold r32; omega, by unfold r32; omega, by omega, ?_⟩
  refine ih tg c (p + 1) sc base (k + 1) hs N w r1 w1 Γ tB env h (d - 1) _ ht (by omega) (by omega) (by omega) C (by omega) N1 G1 wa km (by omega) (by omega) (by omega) ev (fun v h' F df tv erv => ⟨fun _ => ⟨by unfold r32; omega, cz, by omega, ?_⟩, fun z => by have := (vt_r tv).1; omega⟩) (fun o h' ho km' vs' nl erv => ⟨fun z => by omega, fun _ => HB o h' ho km' vs' nl (fun sk sv ag => ?_)⟩)
  · have F0 := F
    obtain ⟨f1, ⟨f2, f9⟩, f3, f4, f5, f6⟩ := F
    have kmg : KM h0 h' := fun a i p => (f1 a i p).trans (km a i p)
    obtain ⟨kv, wv, cv⟩ := vt_B tv
    have rv := vt_r tv
    have cv' : h' (124 + 3) (3 * v) = 0 ∨ h' (124 + 3) (3 * v) = 1 := cv
    -- the branch taken
    have go : ∀ (x w1 x' w2 : Int), 0 ≤ x → gh h0 c N x sc w1 x' w2 → wh h0 c x Γ sc τ → x = (if h' 127 (3 * v) = 1 then r1 else r2) → Go (d - 1) M_Machine_evaluate 0 [(13, 124), (tg, c), (0, x), (0, base), (0, k + 1), (2, 0), (2, 0), (2, 0), (2, 0), (2, 0), (2, 0), (2, 0), (2, 0)] [] h' (fun y k => Q y k) := by
      intro x w1 x' w2 x0 Gx Wx ex
      have w9' : ∀ (sk sv : Int → Int) (out s' dp' nv' : Int), AGr sk sv h' (h' 124 7) → er h0 sk sv c x sc env (k + 1) (h' 124 10) (h' 124 11) (h' 124 7) out s' dp' nv' → erb h0 sk sv c p sc env k (h 124 10) (h 124 11) (h 124 7) out s' dp' nv' := by
        intro sk sv out s' dp' nv' ag e
        have a := AGr_0 ag rv.1 rv.2
        refine w9 sk sv _ _ _ _ ⟨v, _, _, _, erv sk sv ag, Or.inr ⟨rv.1, ⟨by omega, by omega⟩, ?_⟩⟩
        rw [a.2.1, ← ex]
        exact e
      refine ih tg c x sc base (k + 1) hs N w1 x' w2 Γ τ env h' (d - 1) _ ht (by omega) (by omega) (by omega) C x0 N1 Gx Wx kmg (by omega) (by omega) (by omega) (fun i i0 i1 => ?_) (fun v2 h2 F2 df2 tv2 erv2 => ?_) (fun o h2 ho km2 vs2 nl2 erv2 => ?_)
      · obtain ⟨a, b⟩ := ev i i0 i1
        exact ⟨(f3 _ (by omega)).trans a, vt_mono f5 f6.1 p3 b⟩
      · have F2' := F2.2.2.2.2
        exact HG v2 h2 (EvF_trans (Int.le_refl _) (Int.le_refl _) F0 F2) (by omega) tv2 (fun sk sv ag => w9' sk sv _ _ _ _ (AGr_mono ag F2'.1 F2'.2.1) (erv2 sk sv ag))
      · refine HB o h2 ho km2 (VSm_trans f6.1 f5 vs2) (by omega) (fun sk sv ag => ?_)
        obtain ⟨s', dp', nv', e⟩ := erv2 sk sv ag
        exact ⟨s', dp', nv', w9' sk sv _ _ _ _ (AGr_mono ag vs2 nl2) e⟩
    refine m_beh (by omega) C kmg (by omega) (fun y hy => ?_)
    have ey := hy _ _ _ _ _ G1
    subst ey
    refine ⟨by omega, m_conV (by omega) rv.1 rv.2 (by omega) ⟨fun n0 => ⟨by unfold r32; omega, by omega, go _ _ _ _ (by omega) G2 wb ?_⟩, fun n0 => ⟨cz, by omega, m_beh (by omega) C kmg (by omega) (fun y2 hy2 => ⟨by unfold r32; omega, by omega, ?_⟩)⟩⟩⟩
    · have : h' 127 (3 * v) = 1 := by
        rcases cv' with z | z
        · exact absurd z n0
        · exact z
      rw [if_pos this]
    · have ey2 := hy2 _ _ _ _ _ G2
      subst ey2
      refine go _ _ _ _ (by omega) G3 wc ?_
      have : h' 127 (3 * v) = 0 := n0
      rw [this, if_neg (by omega)]
  · obtain ⟨s', dp', nv', e⟩ := erv sk sv ag
    exact ⟨0, 0, 0, w9 sk sv _ _ _ _ ⟨o, s', dp', nv', e, Or.inl ⟨by omega, rfl⟩⟩⟩
/-- the case of a match is found -/
theorem m_find {d tg : Nat} {h0 g : HP} {c p sc base k N r w' v j kf q0 : Int} {Γ : Int → Tm} {τ a : Tm} {α : Int → Tm} {Q : PQ} (ht : tg = 11 ∨ tg = 31) (rb : RB0 h0) (hd : 20 < d) (C : Cod h0 c) (N1 : N ≤ h0 36 5) (km : KM h0 g) (gj : g 125 v = j) (v0 : 0 ≤ v ∧ v < 1000) (v7 : v < g 124 7) (j0 : 0 ≤ j ∧ j < h0 36 4) (fmj : h0 (41 + 2 * j) 4 = kf - 3) (ea : sgTI (sbr h0 67 j) (llr h0 67 j) α (ppr h0 67 j) = a)
    (HH : ∀ q w1 r1 w2, 0 ≤ q → gh h0 c N (q + 1) (sc + ppr h0 67 j) w1 r1 w2 → wh h0 c (q + 1) (exG Γ sc ((sgT (sbr h0 67 j) (llr h0 67 j) α).take (ppr h0 67 j).toNat)) (sc + ppr h0 67 j) τ → (∃ f, FC (fun c => bA (h0 (c + 1)) (h0 c 2)) (fun c => h0 (c + 2)) c j f q0 q) → Go d M_Machine_match 94 [(13, 124), (tg, c), (0, p), (0, base), (0, k), (0, v), (0, q), (0, g 124 8), (0, 0)] [] g Q) :
    ∀ (f f2 : Nat) (q w1 n : Int) (seen : Int → Prop), caW (bA (h0 (c + 1)) (h0 c 2)) (h0 (c + 2)) (h0 36 4) (sbr h0) (llr h0) (ppr h0) (fun j => h0 (41 + 2 * j) 4) (wh h0 c) Γ sc kf a τ f q seen → ¬ seen j → GK (bA (h0 (c + 1)) (h0 c 2)) (nPn (h0 36 4) N) (ppr h0) (llr h0) (gh h0 c N) f2 q sc w1 r w' → 0 ≤ n → n ≤ q → (∀ q', (∃ f, FC (fun c => bA (h0 (c + 1)) (h0 c 2)) (fun c => h0 (c + 2)) c j f q q') → ∃ f, FC (fun c => bA (h0 (c + 1)) (h0 c 2)) (fun c => h0 (c + 2)) c j f q0 q') → Go d M_Machine_match 37 [(13, 124), (tg, c), (0, p), (0, base), (0, k), (0, v), (0, q), (0, n), (2, 0)] [] g Q := by
  have cz := cod_nz C
  have cn := C.2
  have z1 : aSZ (124 + 1) = 1000 := rfl
  intro f
  induction f with
  | zero => intro f2 q w1 n seen H; exact absurd H (fun z => z)
  | succ f ih =>
    intro f2 q w1 n seen H ns G n0 nq cx
    rcases H with ⟨b, H⟩ | ⟨b, X, H⟩
    · exact absurd ea (H j α j0.1 j0.2 fmj ns)
    · match f2, G with
      | f2 + 1, G =>
        rcases G with ⟨z, _⟩ | ⟨_, ok, _, r1, w2, G1, G2⟩
        · exact absurd z b
        · have ok1 := ok.1
          have ok2 := ok.2.1
          have qn := (bA_lt (b := h0 (c + 1)) (n := h0 c 2) (p := q) (by omega)).2
          have lw := gh_w rb N1 (by omega) G1
          have ee : h0 (c + 2) (q + 1) = r1 := (GD_e G1).2
          refine VT_Machine_match_37 ht cz ⟨fun z => by omega, fun _ => ⟨cz, by omega, m_dig C km (fun _ _ => ⟨fun z => by omega, fun _ => ⟨cz, by omega, m_dig C km (fun _ _ => ⟨by omega, m_kinV (by omega) v0.1 v7 v0.2 ⟨fun z => ?_, fun z => ⟨by unfold r32; omega, cz, by omega, m_beh (by omega) C km (by omega) (fun y hy => ⟨by unfold r32; omega, ?_⟩)⟩⟩⟩) (fun z => absurd ⟨ok1, ok2⟩ z)⟩⟩) (fun z => absurd ⟨ok1, ok2⟩ z)⟩⟩
          · have z : bA (h0 (c + 1)) (h0 c 2) q - 48 = j := z.trans gj
            rw [z] at X G1
            exact HH q _ _ _ (by omega) G1 (X α ea) (cx q ⟨1, b, Or.inl ⟨z, rfl⟩⟩)
          · have z : bA (h0 (c + 1)) (h0 c 2) q - 48 ≠ j := fun e => z (e.trans gj.symm)
            have ey := hy _ _ _ _ _ G1
            subst ey
            rw [ee] at H
            refine ih f2 y w2 (n + 1) _ H (fun s => ?_) G2 (by omega) (by omega) (fun q' fc => ?_)
            · rcases s with s | s
              · exact ns s
              · exact z s.symm
            · obtain ⟨f', fc⟩ := fc
              refine cx q' ⟨f' + 1, b, Or.inr ⟨z, ?_⟩⟩
              show FC _ _ c j f' (h0 (c + 2) (q + 1)) q'
              rw [ee]
              exact fc
/-- the parts of a value become letters -/
theorem m_ext {d tg : Nat} {h0 g : HP} {c p base k v S q n : Int} {Q : PQ} (ht : tg = 11 ∨ tg = 31) (hd : 20 < d) (cz : c ≠ 0) (e8 : g 124 8 = S) (v0 : 0 ≤ v ∧ v < 1000) (v7 : v < g 124 7) (S0 : 0 ≤ S) (n0 : 0 ≤ n) (n3 : n ≤ 3) (S1 : S + n ≤ 192) (ew : g 126 v = n)
    (H : ∀ g' : HP, (∀ a i, ¬ (a = 124 ∧ i = 8) → ¬ (a = 128 ∧ S ≤ i) → g' a i = g a i) → g' 124 8 = S + n → (∀ i, 0 ≤ i → i < n → g' 128 (S + i) = g 127 (3 * v + i)) → Go d M_Machine_match 94 [(13, 124), (tg, c), (0, p), (0, base), (0, k), (0, v), (0, q), (0, S), (0, n)] [] g' Q) : Go d M_Machine_match 94 [(13, 124), (tg, c), (0, p), (0, base), (0, k), (0, v), (0, q), (0, S), (0, 0)] [] g Q := by
  have z2 : aSZ (124 + 2) = 1000 := rfl
  have z3 : aSZ (124 + 3) = 3000 := rfl
  have z4 : aSZ (124 + 4) = 192 := rfl
  refine up_loop (P := fun t => ∀ g' : HP, (∀ a i, ¬ (a = 124 ∧ i = 8) → ¬ (a = 128 ∧ S ≤ i) → g' a i = g a i) → g' 124 8 = S + t → (∀ i, 0 ≤ i → i < t → g' 128 (S + i) = g 127 (3 * v + i)) → Go d M_Machine_match 94 [(13, 124), (tg, c), (0, p), (0, base), (0, k), (0, v), (0, q), (0, S), (0, t)] [] g' Q) n0 ?_ ?_ g (fun _ _ _ _ => rfl) (by omega) (fun i i0 i1 => by omega)
  · exact H
  · intro j j0 j1 ih g' o e r
    have w : g' 126 v = n := (o 126 v (by omega) (by omega)).trans ew
    have w7 : g' 124 7 = g 124 7 := o 124 7 (by omega) (by omega)
    have cv : g' (124 + 3) (3 * v + j) = g 127 (3 * v + j) := o 127 _ (by omega) (by omega)
    refine VT_Machine_match_94 ht cz ⟨by omega, m_widV (by omega) v0.1 (by omega) v0.2 ⟨fun z => by omega, fun _ => ⟨by omega, m_parV (by omega) v0.1 (by omega) v0.2 (by omega) (by omega) (by omega) ?_⟩⟩⟩
    rw [cv]
    refine ⟨by omega, V_Machine_extendScope_0 ⟨fun z => by omega, fun _ => ?_⟩⟩
    rw [e]
    refine ⟨by omega, fun g1 e1 => ?_⟩
    have q8 : g1 124 8 = S + j := by rw [e1, up2_nc (by decide)]; exact e
    rw [q8]
    refine ⟨by unfold r32; omega, fun g2 e2 => ⟨by unfold r32; omega, ih g2 (fun a i p q => ?_) (by rw [e2, up2_eq]; omega) (fun i i0 i1 => ?_)⟩⟩
    · rw [e2, up2_ext p, e1, show (124 : Int) + 4 = 128 by omega, up2_ext (by omega)]; exact o a i p q
    · by_cases z : i = j
      · rw [e2, up2_nc (by decide), e1, z, show (124 : Int) + 4 = 128 by omega, up2_eq]
      · rw [e2, up2_nc (by decide), e1, show (124 : Int) + 4 = 128 by omega, up2_ext (by omega)]; exact r i i0 (by omega)
end
