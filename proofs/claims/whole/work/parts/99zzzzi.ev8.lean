section
/-- M -/
theorem e_match {d tg : Nat} {h0 h : HP} {K : Nat} {c p sc base k hs N w r w' : Int} {Γ : Int → Tm} {τ : Tm} {env : Int → Int} {Q : PQ} (ht : tg = 11 ∨ tg = 31) (rb : RB0 h0) (ih : EvT h0 K) (hK : 60 - k ≤ K) (hd : 8 * K + 66 < d) (E : EvS h0 c p sc base k hs N w r w' Γ τ env h) (cc : bA (h0 (c + 1)) (h0 c 2) p = 77) (HG : EvG h0 c p sc base k hs env τ h Q) (HB : EvN h0 c p sc k env h Q) : Go d M_Machine_match 0 [(13, 124), (tg, c), (0, p), (0, base), (0, k), (2, 0), (2, 0), (2, 0), (2, 0)] [] h Q := by
  obtain ⟨⟨kk, C, p0, N1⟩, G, W, km, ss, ⟨e8, e9, hs0, hs1⟩, nn, ev⟩ := E
  have cz := cod_nz C
  have cn := C.2
  have z2 : aSZ (124 + 2) = 1000 := rfl
  have p3 := rb_p3 rb
  obtain ⟨r1, w1, G1, _, f2, Gk⟩ := GD_match G p0 cc
  have l1 := gh_w rb N1 (by omega) G1
  have E1 : h0 (c + 2) (p + 1) = r1 := (GD_e G1).2
  have Ww : ∃ kf a, (3 ≤ kf ∧ kf ≤ 6) ∧ wh h0 c (p + 1) Γ sc (tF kf a) ∧ ∃ f, caW (bA (h0 (c + 1)) (h0 c 2)) (h0 (c + 2)) (h0 36 4) (sbr h0) (llr h0) (ppr h0) (fun j => h0 (41 + 2 * j) 4) (wh h0 c) Γ sc kf a τ f (h0 (c + 2) (p + 1) + 1) (fun _ => False) := by
    rcases WT_out W with ⟨x, _⟩ | ⟨x, _⟩ | ⟨x, _⟩ | ⟨x, _⟩ | ⟨x, _⟩ | ⟨x, _⟩ | ⟨_, H⟩
    · unfold lfO at x; omega
    · omega
    · omega
    · omega
    · omega
    · omega
    · exact H
  rw [E1] at Ww
  obtain ⟨kf, a, _, wa, f, ca⟩ := Ww
  -- the tenth way
  have w10 : ∀ (sk sv : Int → Int) (out s' dp' nv' : Int), (∃ o s1 d1 n1, er h0 sk sv c (p + 1) sc env (k + 1) (h 124 10) (h 124 11) (h 124 7) o s1 d1 n1 ∧ ((o < 0 ∧ out = o) ∨ (0 ≤ o ∧ (0 ≤ sk o ∧ sk o < 10) ∧ ∃ f q env2, FC (fun c => bA (h0 (c + 1)) (h0 c 2)) (fun c => h0 (c + 2)) c (sk o) f (r1 + 1) q ∧ ((∀ i, 0 ≤ i → i < sc → env2 i = env i) ∧ (∀ i, 0 ≤ i → i < ppr h0 67 (sk o) → env2 (sc + i) = sv (3 * o + i))) ∧ er h0 sk sv c (q + 1) (sc + ppr h0 67 (sk o)) env2 (k + 1) s1 d1 n1 out s' dp' nv'))) → erb h0 sk sv c p sc env k (h 124 10) (h 124 11) (h 124 7) out s' dp' nv' := by
    intro sk sv out s' dp' nv' H
    rw [← E1] at H
    exact Or.inr (Or.inr (Or.inr (Or.inr (Or.inr (Or.inr (Or.inr (Or.inr (Or.inr ⟨cc, H⟩))))))))
  refine VT_Machine_match_0 ht cz ⟨by unfold r32; omega, by unfold r32; omega, by omega, ?_⟩
  refine ih tg c (p + 1) sc base (k + 1) hs N w r1 w1 Γ (tF kf a) env h (d - 1) _ ht (by omega) (by omega) (by omega) C (by omega) N1 G1 wa km (by omega) (by omega) (by omega) ev (fun v h' F df tv erv => ⟨fun _ => ⟨by unfold r32; omega, cz, by omega, ?_⟩, fun z => by have := (vt_r tv).1; omega⟩) (fun o h' ho km' vs' nl erv => ⟨fun z => by omega, fun _ => HB o h' ho km' vs' nl (fun sk sv ag => ?_)⟩)
  · have F0 := F
    obtain ⟨f1, ⟨f2', f9⟩, f3, f4, f5, f6⟩ := F
    have kmg : KM h0 h' := fun a i p => (f1 a i p).trans (km a i p)
    obtain ⟨jr, wv, fmj, α, ea, pv⟩ := vt_F tv
    have rv := vt_r tv
    have dd := rb.1.1
    have jp := (rb.1.2.1 _ jr.1 jr.2).1.2.2.2.2.1
    have slen := sig_len rb (k := 67) (N := N) (Or.inl rfl) N1 jr.1 (show h' 125 v < nPn (h0 36 4) N 67 from jr.2) α
    obtain ⟨⟨n0, n3⟩, sl, tl⟩ := slen
    refine m_beh (by omega) C kmg (by omega) (fun y hy => ⟨?_, ?_⟩)
    · have ey := hy _ _ _ _ _ G1
      unfold r32; omega
    have ey := hy _ _ _ _ _ G1
    subst ey
    generalize hj : h' 125 v = j at *
    refine m_find ht rb (by omega) C N1 kmg hj ⟨rv.1, by omega⟩ rv.2 jr fmj ea (fun q u1 u2 u3 q0 Gq Wq fc => ?_) f f2 (y + 1) w1 0 _ ca (fun z => z) Gk (by omega) (by omega) (fun q' z => z)
    rw [f2'.trans e8]
    refine m_ext (h0 := h0) (n := ppr h0 67 j) ht (by omega) cz (f2'.trans e8) ⟨rv.1, by omega⟩ rv.2 (by omega) n0 n3 (by omega) wv (fun g' og eg8 rg => ?_)
    have ew7 : g' 124 7 = h' 124 7 := og 124 7 (by omega) (by omega)
    have ew' : g' 126 v = ppr h0 67 j := (og 126 v (by omega) (by omega)).trans wv
    refine VT_Machine_match_94 ht cz ⟨by omega, m_widV (by omega) rv.1 (by have := rv.2; omega) (by have := rv.2; omega) ⟨fun _ => ⟨by have := GD_n Gq (by omega); unfold r32; omega, by unfold r32; omega, by omega, ?_⟩, fun z => by omega⟩⟩
    have vsg : VSm h' g' (h' 124 7) := fun v v0 v1 => ⟨og 125 v (by omega) (by omega), og 126 v (by omega) (by omega), fun i i0 i1 => og 127 _ (by omega) (by omega)⟩
    have q7 := og 124 7 (by omega) (by omega)
    have q9 := og 124 9 (by omega) (by omega)
    have q10 := og 124 10 (by omega) (by omega)
    have q11 := og 124 11 (by omega) (by omega)
    have km' : KM h0 g' := fun a i p => (og a i (by omega) (by omega)).trans (kmg a i p)
    have w10' : ∀ (sk sv : Int → Int) (out s' dp' nv' : Int), AGr sk sv h' (h' 124 7) → er h0 sk sv c (q + 1) (sc + ppr h0 67 j) (exE env sc (fun i => h' 127 (3 * v + i))) (k + 1) (h' 124 10) (h' 124 11) (h' 124 7) out s' dp' nv' → erb h0 sk sv c p sc env k (h 124 10) (h 124 11) (h 124 7) out s' dp' nv' := by
      intro sk sv out s' dp' nv' ag e
      obtain ⟨a1, a2⟩ := ag v rv.1 rv.2
      obtain ⟨ff, fc⟩ := fc
      have skv : sk v = j := a1.trans hj
      refine w10 sk sv _ _ _ _ ⟨v, _, _, _, erv sk sv ag, Or.inr ⟨rv.1, ⟨by omega, by omega⟩, ?_⟩⟩
      rw [skv]
      refine ⟨ff, q, exE env sc (fun i => h' 127 (3 * v + i)), fc, ⟨fun i i0 i1 => if_neg (by omega), fun i i0 i1 => ?_⟩, e⟩
      unfold exE
      rw [if_pos (by omega), a2 i i0 (by omega), show sc + i - sc = i by omega]
    refine ih tg c (q + 1) (sc + ppr h0 67 j) base (k + 1) hs N _ _ _ _ τ (exE env sc (fun i => h' 127 (3 * v + i))) g' (d - 1) _ ht (by omega) (by omega) (by omega) C (by omega) N1 Gq Wq km' (by omega) (by omega) (by omega) (fun i i0 i1 => ?_) (fun v2 h2 F2 df2 tv2 erv2 g2 e2 => ?_) (fun o h2 ho km2 vs2 nl2 erv2 g2 e2 => ?_)
    · by_cases z : i < sc
      · obtain ⟨a, b⟩ := ev i i0 z
        refine ⟨?_, ?_⟩
        · rw [og 128 _ (by omega) (by omega), f3 _ (by omega), a]
          exact (if_neg (by omega)).symm
        · rw [exG_lo z, q7]
          have := vt_mono (VSm_trans f6.1 f5 vsg) f6.1 p3 b
          rw [show exE env sc (fun i => h' 127 (3 * v + i)) i = env i from if_neg (by omega)]
          exact this
      · have ee : exE env sc (fun i => h' 127 (3 * v + i)) i = h' 127 (3 * v + (i - sc)) := if_pos (by omega)
        refine ⟨?_, ?_⟩
        · rw [ee, ← rg (i - sc) (by omega) (by omega), show base + sc + (i - sc) = base + i by omega]
        · have il : (i - sc).toNat < ((sgT (sbr h0 67 j) (llr h0 67 j) α).take (ppr h0 67 j).toNat).length := by omega
          have gt := List.getElem?_eq_getElem il
          have gt' := gt
          rw [List.getElem?_take_of_lt (by omega)] at gt'
          rw [exG_hi (by omega) gt, ee, q7]
          have := pv (i - sc).toNat _ (by omega) gt'
          rw [show (((i - sc).toNat : Nat) : Int) = i - sc by omega] at this
          exact vt_mono vsg (Int.le_refl _) p3 this
    · obtain ⟨b1, ⟨b8, b9⟩, b3, b4, b5, b6⟩ := F2
      have o2 : ∀ a i, ¬ (a = 124 ∧ i = 8) → g2 a i = h2 a i := fun a i p => by rw [e2, up2_ext p]
      have vs5 : VSm h2 g2 (h2 124 7) := fun v v0 v1 => ⟨o2 125 v (by omega), o2 126 v (by omega), fun i i0 i1 => o2 127 _ (by omega)⟩
      have r7 := o2 124 7 (by omega)
      have r9 := o2 124 9 (by omega)
      have r10 := o2 124 10 (by omega)
      have r11 := o2 124 11 (by omega)
      have vsh : VSm g' g2 (g' 124 7) := VSm_trans b6.1 b5 vs5
      have vgg : VSm h' g2 (h' 124 7) := VSm_trans (by omega) vsg vsh
      refine HG v2 g2 ⟨fun a i p => ?_, ⟨?_, by omega⟩, fun i p => ?_, fun i p => ?_, VSm_trans f6.1 f5 vgg, by omega⟩ (by omega) ?_ (fun sk sv ag => ?_)
      · rw [o2 a i (by omega), b1 a i p, og a i (by omega) (by omega)]; exact f1 a i p
      · rw [e2, up2_eq, e8]
      · rw [o2 128 i (by omega), b3 i (by omega), og 128 i (by omega) (by omega)]; exact f3 i p
      · rw [o2 129 i (by omega), b4 i (by omega), og 129 i (by omega) (by omega)]; exact f4 i p
      · rw [r7]
        exact vt_mono vs5 (Int.le_refl _) p3 tv2
      · have ag' := AGr_mono ag vs5 (by omega)
        have agg := AGr_mono ag vgg (by omega)
        have q := erv2 sk sv ag'
        rw [q7, q10, q11, ← r7, ← r10, ← r11] at q
        exact w10' sk sv _ _ _ _ agg q
    · have o2 : ∀ a i, ¬ (a = 124 ∧ i = 8) → g2 a i = h2 a i := fun a i p => by rw [e2, up2_ext p]
      have vs5 : VSm h2 g2 (h2 124 7) := fun v v0 v1 => ⟨o2 125 v (by omega), o2 126 v (by omega), fun i i0 i1 => o2 127 _ (by omega)⟩
      have r7 := o2 124 7 (by omega)
      have vsh : VSm g' g2 (g' 124 7) := VSm_trans nl2 vs2 vs5
      have vgg : VSm h' g2 (h' 124 7) := VSm_trans (by omega) vsg vsh
      refine HB o g2 ho (fun a i p => (o2 a i (by omega)).trans (km2 a i p)) (VSm_trans f6.1 f5 vgg) (by omega) (fun sk sv ag => ?_)
      obtain ⟨s', dp', nv', q⟩ := erv2 sk sv (AGr_mono ag vs5 (by omega))
      rw [q7, q10, q11] at q
      exact ⟨s', dp', nv', w10' sk sv _ _ _ _ (AGr_mono ag vgg (by omega)) q⟩
  · obtain ⟨s', dp', nv', e⟩ := erv sk sv ag
    exact ⟨0, 0, 0, w10 sk sv _ _ _ _ ⟨o, s', dp', nv', e, Or.inl ⟨by omega, rfl⟩⟩⟩
/-- evaluate -/
theorem ev_all {h0 : HP} (rb : RB0 h0) : ∀ K, EvT h0 K := by
  intro K
  induction K with
  | zero =>
    intro tg c p sc base k hs N w r w' Γ τ env h d Q ht hk k1 hd C p0 N1 G W km ss s89 nn ev HG HB
    have cz := cod_nz C
    refine VT_Machine_evaluate_0 ht cz ⟨by unfold r32; omega, fun g1 e1 => ?_⟩
    have q10 : g1 124 10 = h 124 10 + 1 := by rw [e1, up2_eq]
    have o1 : ∀ a i, ¬ (a = 124 ∧ i = 10) → g1 a i = h a i := fun a i p => by rw [e1, up2_ext p]
    have q7 := o1 124 7 (by omega)
    have vs1 : VSm h g1 (h 124 7) := fun v v0 v1 => ⟨o1 125 v (by omega), o1 126 v (by omega), fun i i0 i1 => o1 127 _ (by omega)⟩
    refine ⟨fun a => ⟨fun b => by omega, fun b => HB _ g1 (Or.inr (Or.inr rfl)) (fun a i p => (o1 a i (by omega)).trans (km a i p)) vs1 (by omega) (fun sk sv ag => ⟨0, 0, 0, ER_in (Or.inr (Or.inl ⟨by omega, by omega, rfl⟩))⟩)⟩, fun a => HB _ g1 (Or.inr (Or.inl rfl)) (fun a i p => (o1 a i (by omega)).trans (km a i p)) vs1 (by omega) (fun sk sv ag => ⟨0, 0, 0, ER_in (Or.inl ⟨by omega, rfl⟩)⟩)⟩
  | succ K ih =>
    intro tg c p sc base k hs N w r w' Γ τ env h d Q ht hk k1 hd C p0 N1 G W km ss s89 nn ev HG HB
    have cz := cod_nz C
    have cn := C.2
    have pn := GD_n G p0
    refine VT_Machine_evaluate_0 ht cz ⟨by unfold r32; omega, fun g1 e1 => ?_⟩
    have q10 : g1 124 10 = h 124 10 + 1 := by rw [e1, up2_eq]
    have o1 : ∀ a i, ¬ (a = 124 ∧ i = 10) → g1 a i = h a i := fun a i p => by rw [e1, up2_ext p]
    have q7 := o1 124 7 (by omega)
    have vs1 : VSm h g1 (h 124 7) := fun v v0 v1 => ⟨o1 125 v (by omega), o1 126 v (by omega), fun i i0 i1 => o1 127 _ (by omega)⟩
    refine ⟨fun a => ⟨fun b => ⟨by omega, fun g2 e2 => ⟨cz, by omega, ?_⟩⟩, fun b => HB _ g1 (Or.inr (Or.inr rfl)) (fun a i p => (o1 a i (by omega)).trans (km a i p)) vs1 (by omega) (fun sk sv ag => ⟨0, 0, 0, ER_in (Or.inr (Or.inl ⟨by omega, by omega, rfl⟩))⟩)⟩, fun a => HB _ g1 (Or.inr (Or.inl rfl)) (fun a i p => (o1 a i (by omega)).trans (km a i p)) vs1 (by omega) (fun sk sv ag => ⟨0, 0, 0, ER_in (Or.inl ⟨by omega, rfl⟩)⟩)⟩
    have o2 : ∀ a i, ¬ (a = 124 ∧ i = 10) → ¬ (a = 124 ∧ i = 11) → g2 a i = h a i := fun a i p q => by rw [e2, up2_ext q]; exact o1 a i p
    have x10 : g2 124 10 = h 124 10 + 1 := by rw [e2, up2_ext (by omega)]; exact q10
    have x11 : g2 124 11 = max (h 124 11) k := by rw [e2, up2_eq, o1 124 11 (by omega)]
    have x7 := o2 124 7 (by omega) (by omega)
    have x8 := o2 124 8 (by omega) (by omega)
    have x9 := o2 124 9 (by omega) (by omega)
    have vs2 : VSm h g2 (h 124 7) := fun v v0 v1 => ⟨o2 125 v (by omega) (by omega), o2 126 v (by omega) (by omega), fun i i0 i1 => o2 127 _ (by omega) (by omega)⟩
    have km2 : KM h0 g2 := fun a i p => (o2 a i (by omega) (by omega)).trans (km a i p)
    have E : EvS h0 c p sc base k hs N w r w' Γ τ env g2 := ⟨⟨⟨k1, b⟩, C, p0, N1⟩, G, W, km2, ss, by omega, by omega, fun i i0 i1 => by
      obtain ⟨s, t⟩ := ev i i0 i1
      exact ⟨(o2 128 _ (by omega) (by omega)).trans s, by rw [x7]; exact vt_mono vs2 (Int.le_refl _) (rb_p3 rb) t⟩⟩
    have tr : ∀ (sk sv : Int → Int) (o s' dp' nv' : Int), erb h0 sk sv c p sc env k (g2 124 10) (g2 124 11) (g2 124 7) o s' dp' nv' → er h0 sk sv c p sc env k (h 124 10) (h 124 11) (h 124 7) o s' dp' nv' := by
      intro sk sv o s' dp' nv' e
      rw [x10, x11, x7] at e
      exact ER_in (Or.inr (Or.inr ⟨⟨by omega, b⟩, e⟩))
    have HG' : EvG h0 c p sc base k hs env τ g2 Q := fun v h' F df tv erv => by
      obtain ⟨f1, ⟨f8, f9⟩, f3, f4, f5, f6⟩ := F
      exact HG v h' ⟨fun a i p => (f1 a i p).trans (o2 a i (by omega) (by omega)), by omega, fun i p => (f3 i p).trans (o2 128 i (by omega) (by omega)), fun i p => (f4 i p).trans (o2 129 i (by omega) (by omega)), VSm_trans (by omega) vs2 f5, by omega⟩ (by omega) tv (fun sk sv ag => tr sk sv _ _ _ _ (erv sk sv ag))
    have HB' : EvN h0 c p sc k env g2 Q := fun o h' ho km' vs' nl erv => HB o h' ho km' (VSm_trans (by omega) vs2 vs') (by omega) (fun sk sv ag => by
      obtain ⟨s', dp', nv', e⟩ := erv sk sv ag
      exact ⟨s', dp', nv', tr sk sv _ _ _ _ e⟩)
    refine m_byte C km2 ⟨fun n63 => ⟨fun n77 => ⟨fun c67 => e_cons ht rb ih (by omega) (by omega) E c67 HG' HB', fun n67 => ⟨fun n71 => ⟨by omega, ?_⟩, fun c71 => e_call ht rb ih (by omega) (by omega) E c71 HG' HB'⟩⟩, fun c77 => ⟨by omega, e_match ht rb ih (by omega) (by omega) E c77 HG' HB'⟩⟩, fun c63 => ⟨by omega, e_choose ht rb ih (by omega) (by omega) E c63 HG' HB'⟩⟩
    have e9 : g2 124 9 = hs := by omega
    have kinds : lfO (bA (h0 (c + 1)) (h0 c 2) p) sc ∨ (bA (h0 (c + 1)) (h0 c 2) p = 43 ∨ bA (h0 (c + 1)) (h0 c 2) p = 45 ∨ bA (h0 (c + 1)) (h0 c 2) p = 60 ∨ bA (h0 (c + 1)) (h0 c 2) p = 61) ∨ bA (h0 (c + 1)) (h0 c 2) p = 80 ∨ (bA (h0 (c + 1)) (h0 c 2) p = 76 ∨ bA (h0 (c + 1)) (h0 c 2) p = 82) := by
      rcases WT_out W with ⟨x, _⟩ | ⟨x, _⟩ | ⟨x, _⟩ | ⟨x, _⟩ | ⟨x, _⟩ | ⟨x, _⟩ | ⟨x, _⟩
      · exact Or.inl x
      · exact Or.inr (Or.inl x)
      · exact absurd x n63
      · exact Or.inr (Or.inr (Or.inl x))
      · exact Or.inr (Or.inr (Or.inr x))
      · omega
      · exact absurd x n77
    rcases kinds with kd | kd | kd | kd
    · have kd' := kd
      unfold lfO at kd'
      have np : pO (bA (h0 (c + 1)) (h0 c 2) p) = 0 := by
        unfold pO
        rw [if_neg (by omega), if_neg (by omega), if_neg (by omega)]
      refine c_partsO (fun _ => ⟨by unfold r32; omega, ?_⟩) (fun z => by omega) (fun z => by omega)
      rw [e9]
      exact e_leaf ht rb (by omega) E kd HG'
    · have np : pO (bA (h0 (c + 1)) (h0 c 2) p) = 2 := by
        unfold pO
        rw [if_neg (by omega), if_pos (by omega)]
      refine c_partsO (fun z => by omega) (fun _ => ⟨by unfold r32; omega, ?_⟩) (fun _ z => by omega)
      rw [e9, np]
      exact e_arith ht rb ih (by omega) (by omega) E kd HG' HB'
    · have np : pO (bA (h0 (c + 1)) (h0 c 2) p) = 2 := by
        unfold pO
        rw [if_neg (by omega), if_pos (by omega)]
      refine c_partsO (fun z => by omega) (fun _ => ⟨by unfold r32; omega, ?_⟩) (fun _ z => by omega)
      rw [e9, np]
      exact e_pair ht rb ih (by omega) (by omega) E kd HG' HB'
    · have np : pO (bA (h0 (c + 1)) (h0 c 2) p) = 1 := by
        unfold pO
        rw [if_pos kd]
      refine c_partsO (fun z => by omega) (fun _ => ⟨by unfold r32; omega, ?_⟩) (fun _ z => by omega)
      rw [e9, np]
      exact e_side ht rb ih (by omega) (by omega) E kd HG' HB'
/-- run -/
theorem m_run {d : Nat} {h0 : HP} {N w r w' : Int} {τ : Tm} {Q : PQ} (rb : RB0 h0) (hd : 600 < d) (C : Cod h0 30) (N1 : N ≤ h0 36 5) (G : gh h0 30 N 0 0 w r w') (W : wh h0 30 0 (fun _ => tI) 0 τ)
    (HG : ∀ v h', KM h0 h' → (0 ≤ h' 124 7 ∧ h' 124 7 ≤ h' 124 10 ∧ h' 124 10 ≤ 1000) → vt h0 h' (h' 124 7) v τ → (∀ sk sv, AGr sk sv h' (h' 124 7) → er h0 sk sv 30 0 0 (fun _ => 0) 1 0 0 0 v (h' 124 10) (h' 124 11) (h' 124 7)) → Q v h')
    (HB : ∀ o h', (o = -7 ∨ o = -8 ∨ o = -9) → KM h0 h' → (∀ sk sv, AGr sk sv h' (h' 124 7) → ∃ s' dp' nv', er h0 sk sv 30 0 0 (fun _ => 0) 1 0 0 0 o s' dp' nv') → Q o h') : Go d M_Machine_run 0 [(13, 124), (11, 30)] [] h0 Q := by
  refine V_Machine_run_0 (fun g1 e1 g2 e2 g3 e3 g4 e4 g5 e5 => ⟨by omega, ?_⟩)
  have o : ∀ a i, ¬ (a = 124 ∧ 7 ≤ i ∧ i ≤ 11) → g5 a i = h0 a i := fun a i p => by rw [e5, up2_ext (by omega), e4, up2_ext (by omega), e3, up2_ext (by omega), e2, up2_ext (by omega), e1, up2_ext (by omega)]
  have x11 : g5 124 11 = 0 := by rw [e5, up2_eq]
  have x10 : g5 124 10 = 0 := by rw [e5, up2_ext (by omega), e4, up2_eq]
  have x9 : g5 124 9 = 0 := by rw [e5, up2_ext (by omega), e4, up2_ext (by omega), e3, up2_eq]
  have x8 : g5 124 8 = 0 := by rw [e5, up2_ext (by omega), e4, up2_ext (by omega), e3, up2_ext (by omega), e2, up2_eq]
  have x7 : g5 124 7 = 0 := by rw [e5, up2_ext (by omega), e4, up2_ext (by omega), e3, up2_ext (by omega), e2, up2_ext (by omega), e1, up2_eq]
  refine ev_all rb 60 11 30 0 0 0 1 0 N w r w' (fun _ => tI) τ (fun _ => 0) g5 (d - 1) _ (Or.inl rfl) (by omega) (by omega) (by omega) C (by omega) N1 G W (fun a i p => o a i (by omega)) (by omega) (by omega) (by omega) (fun i i0 i1 => by omega) (fun v h' F df tv erv => ?_) (fun o' h' ho km' vs nl erv => ?_)
  · rw [x7, x10, x11] at erv
    have := F.2.2.2.2.2
    exact HG v h' (fun a i p => (F.1 a i p).trans (o a i (by omega))) (by omega) tv erv
  · rw [x7, x10, x11] at erv
    exact HB o' h' ho km' erv
end
