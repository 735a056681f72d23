section
/-- the held values become a scope -/
theorem m_scope {d : Nat} {g : HP} {S hs n f k bd : Int} {Q : PQ} (hd : 0 < d) (e8 : g 124 8 = S) (S0 : 0 ≤ S) (S1 : S + n ≤ 192) (e9 : g 124 9 = hs + n) (hs0 : 0 ≤ hs) (n0 : 0 ≤ n) (h1 : hs + n ≤ 192)
    (H : ∀ g' : HP, (∀ a i, ¬ (a = 124 ∧ i = 8) → ¬ (a = 128 ∧ S ≤ i) → g' a i = g a i) → g' 124 8 = S + n → (∀ i, 0 ≤ i → i < n → g' 128 (S + i) = g 129 (hs + i)) → Go d M_Machine_enter 27 [(13, 124), (0, f), (0, hs), (0, k), (31, bd), (0, S), (0, hs + n)] [] g' Q) : Go d M_Machine_enter 27 [(13, 124), (0, f), (0, hs), (0, k), (31, bd), (0, S), (0, hs)] [] g Q := by
  have z4 : aSZ (124 + 4) = 192 := rfl
  have z5 : aSZ (124 + 5) = 192 := rfl
  have loop : ∀ v, 0 ≤ v → v ≤ n → ∀ g' : HP, (∀ a i, ¬ (a = 124 ∧ i = 8) → ¬ (a = 128 ∧ S ≤ i) → g' a i = g a i) → g' 124 8 = S + v → (∀ i, 0 ≤ i → i < v → g' 128 (S + i) = g 129 (hs + i)) → Go d M_Machine_enter 27 [(13, 124), (0, f), (0, hs), (0, k), (31, bd), (0, S), (0, hs + v)] [] g' Q := by
    intro v v0 v1
    refine up_loop (P := fun v => ∀ g' : HP, (∀ a i, ¬ (a = 124 ∧ i = 8) → ¬ (a = 128 ∧ S ≤ i) → g' a i = g a i) → g' 124 8 = S + v → (∀ i, 0 ≤ i → i < v → g' 128 (S + i) = g 129 (hs + i)) → Go d M_Machine_enter 27 [(13, 124), (0, f), (0, hs), (0, k), (31, bd), (0, S), (0, hs + v)] [] g' Q) v1 ?_ ?_
    · intro g' o e r
      exact H g' o e r
    · intro j j0 j1 ih g' o e r
      have q9 : g' 124 9 = hs + n := (o 124 9 (by omega) (by omega)).trans e9
      have qh : g' (124 + 5) (hs + j) = g 129 (hs + j) := o 129 _ (by omega) (by omega)
      refine V_Machine_enter_27 ⟨fun z => by omega, fun _ => ⟨by omega, hd, V_Machine_extendScope_0 ⟨fun z => by omega, fun _ => ?_⟩⟩⟩
      rw [e]
      refine ⟨by omega, fun g1 e1 => ?_⟩
      have q8 : g1 124 8 = S + j := by rw [e1, up2_nc (by decide)]; exact e
      rw [q8]
      refine ⟨by unfold r32; omega, fun g2 e2 => ⟨by unfold r32; omega, ?_⟩⟩
      have := ih g2 (fun a i p q => ?_) (by rw [e2, up2_eq]; omega) (fun i i0 i1 => ?_)
      · rw [show hs + j + 1 = hs + (j + 1) by omega]
        exact this
      · rw [e2, up2_ext p, e1, show (124 : Int) + 4 = 128 by omega, up2_ext (by omega)]; exact o a i p q
      · by_cases z : i = j
        · rw [e2, up2_nc (by decide), e1, z, show (124 : Int) + 4 = 128 by omega, up2_eq]; exact qh
        · rw [e2, up2_nc (by decide), e1, show (124 : Int) + 4 = 128 by omega, up2_ext (by omega)]; exact r i i0 (by omega)
  have := loop 0 (by omega) n0 g (fun _ _ _ _ => rfl) (by omega) (fun i i0 i1 => by omega)
  rw [show hs + 0 = hs by omega] at this
  exact this
/-- G -/
theorem e_call {d tg : Nat} {h0 h : HP} {K : Nat} {c p sc base k hs N w r w' : Int} {Γ : Int → Tm} {τ : Tm} {env : Int → Int} {Q : PQ} (ht : tg = 11 ∨ tg = 31) (rb : RB0 h0) (ih : EvT h0 K) (hK : 60 - k ≤ K) (hd : 8 * K + 66 < d) (E : EvS h0 c p sc base k hs N w r w' Γ τ env h) (cc : bA (h0 (c + 1)) (h0 c 2) p = 71) (HG : EvG h0 c p sc base k hs env τ h Q) (HB : EvN h0 c p sc k env h Q) : Go d M_Machine_evaluate 101 [(13, 124), (tg, c), (0, p), (0, base), (0, k), (0, bA (h0 (c + 1)) (h0 c 2) p), (2, 0), (2, 0), (2, 0), (2, 0), (2, 0), (2, 0), (2, 0)] [] h Q := by
  obtain ⟨⟨kk, C, p0, N1⟩, G, W, km, ss, ⟨e8, e9, hs0, hs1⟩, nn, ev⟩ := E
  have cz := cod_nz C
  have cn := C.2
  have pn := GD_n G p0
  have dd := rb.1.1
  obtain ⟨ok, _, GG⟩ := GD_sign G p0 (Or.inr cc)
  have Ww : ∃ α, kiW (wh h0 c) (h0 (c + 2)) Γ sc ((sgT (sbr h0 71 (bA (h0 (c + 1)) (h0 c 2) (p + 1) - 48)) (llr h0 71 (bA (h0 (c + 1)) (h0 c 2) (p + 1) - 48)) α).take (ppr h0 71 (bA (h0 (c + 1)) (h0 c 2) (p + 1) - 48)).toNat) (p + 2) ∧ τ = sgTI (sbr h0 71 (bA (h0 (c + 1)) (h0 c 2) (p + 1) - 48)) (llr h0 71 (bA (h0 (c + 1)) (h0 c 2) (p + 1) - 48)) α (ppr h0 71 (bA (h0 (c + 1)) (h0 c 2) (p + 1) - 48)) := by
    rcases WT_out W with ⟨x, _⟩ | ⟨x, _⟩ | ⟨x, _⟩ | ⟨x, _⟩ | ⟨x, _⟩ | ⟨_, α, a, b⟩ | ⟨x, _⟩
    · unfold lfO at x; omega
    · omega
    · omega
    · omega
    · omega
    · rw [cc] at a b
      exact ⟨α, a, b⟩
    · omega
  obtain ⟨α, kw, eτ⟩ := Ww
  have ok1 := ok.1
  have ok2 := ok.2.1
  have jN : bA (h0 (c + 1)) (h0 c 2) (p + 1) - 48 < N := by
    have := ok.2.2
    rw [cc] at this
    exact this
  have p1n := (bA_lt (b := h0 (c + 1)) (n := h0 c 2) (p := p + 1) (by omega)).2
  rw [cc] at GG
  obtain ⟨⟨n0, n3⟩, sl, tl⟩ := sig_len rb (k := 71) (N := N) (Or.inr rfl) N1 (show 0 ≤ bA (h0 (c + 1)) (h0 c 2) (p + 1) - 48 by omega) jN α
  refine VT_Machine_evaluate_101 ht cz ⟨by omega, m_called (N := N) ht (by omega) rb C km p0 (by omega) N1 (Or.inr cc) ok ?_⟩
  rw [cc]
  generalize hj : bA (h0 (c + 1)) (h0 c 2) (p + 1) - 48 = j at *
  have ce : cel 71 j = 61 + 5 * j := rfl
  have e2 : h (cel 71 j) 2 = ppr h0 71 j := by rw [km _ 2 (by omega)]; exact cel_2 (Or.inr rfl)
  refine ⟨fun _ => ⟨by omega, by unfold r32; omega, ?_⟩, fun z => by omega⟩
  rw [e2, e9]
  generalize hT : (sgT (sbr h0 71 j) (llr h0 71 j) α).take (ppr h0 71 j).toNat = T at *
  rw [← tl] at GG
  have tn : (T.length : Int) = ppr h0 71 j := by omega
  rw [← tn]
  -- the eighth way
  have w8 : ∀ (sk sv : Int → Int) (out s' dp' nv' : Int), chE (er h0 sk sv) (fun c => h0 (c + 2)) c sc env k out (fun l s2 d2 n2 => (¬ h0 40 j = 1 ∧ out = -7) ∨ (h0 40 j = 1 ∧ er h0 sk sv (63 + 5 * j) 0 (ppr h0 71 j) (fun i => l.getD i.toNat 0) (k + 1) s2 d2 n2 out s' dp' nv')) T.length (p + 2) [] (h 124 10) (h 124 11) (h 124 7) → erb h0 sk sv c p sc env k (h 124 10) (h 124 11) (h 124 7) out s' dp' nv' := by
    intro sk sv out s' dp' nv' H
    refine Or.inr (Or.inr (Or.inr (Or.inr (Or.inr (Or.inr (Or.inr (Or.inl ⟨cc, ?_⟩)))))))
    show chE (er h0 sk sv) _ c sc env k _ (fun l s2 d2 n2 => (¬ h0 40 (bA (h0 (c + 1)) (h0 c 2) (p + 1) - 48) = 1 ∧ out = -7) ∨ (h0 40 (bA (h0 (c + 1)) (h0 c 2) (p + 1) - 48) = 1 ∧ er h0 sk sv (63 + 5 * (bA (h0 (c + 1)) (h0 c 2) (p + 1) - 48)) 0 (ppr h0 71 (bA (h0 (c + 1)) (h0 c 2) (p + 1) - 48)) (fun i => l.getD i.toNat 0) (k + 1) s2 d2 n2 out s' dp' nv')) (ppr h0 71 (bA (h0 (c + 1)) (h0 c 2) (p + 1) - 48)).toNat (p + 2) [] _ _ _
    rw [hj, ← tl]
    exact H
  refine ev_parts (T := T) (q0 := p + 2) ht rb ih hK kk.1 kk.2 hd C N1 ss e8 ⟨hs0, hs1⟩ ev nn.1 km (by omega) (fun acc g q w12 al F av cx => ?_) (fun o h' ho km' vs nl cx => HB o h' ho km' vs nl (fun sk sv ag => ⟨0, 0, 0, w8 sk sv o 0 0 0 (cx sk sv ag _)⟩)) T 0 (p + 2) _ [] h (2, 0) (fun i => by rw [Nat.zero_add]) (by omega) (by omega) kw GG rfl (EvL_0 e9 (by omega) nn.2.2) (fun i x e => by rw [List.getElem?_nil] at e; cases e) (fun _ _ _ _ _ H => H)
  have F0 := F
  obtain ⟨f1, ⟨f2, f9⟩, f3, f4, f5, f6⟩ := F
  have kmg : KM h0 g := fun a i p => (f1 a i p).trans (km a i p)
  have e40 : g 40 j = h0 40 j := kmg 40 j (by omega)
  have e365 : g 36 5 = h0 36 5 := kmg 36 5 (by omega)
  have zb4 : aSZ (124 + (-88) + 4) = 6 := rfl
  have zb3 : aSZ (124 + (-88) + 3) = 6 := rfl
  have g5e : g (124 + (-88)) 5 = h0 36 5 := e365
  refine VT_Machine_evaluate_173 ht cz ⟨fun _ => ⟨fun n71 => absurd rfl n71, fun _ => ⟨by unfold r32; omega, cz, by omega, m_dig C kmg (fun _ _ => ⟨by omega, ?_⟩) (fun z => absurd ⟨ok1, ok2⟩ z)⟩⟩, fun z => absurd z (Int.lt_irrefl _)⟩
  rw [hj]
  refine V_Machine_enter_0 ⟨by omega, V_Program_bodyOf_0 ⟨fun z => by omega, fun _ => ⟨fun z => ?_, fun _ => ⟨by omega, fun z => ?_, fun nz => ⟨by omega, ?_⟩⟩⟩⟩⟩
  · have : g (124 + (-88)) 5 = h0 36 5 := e365
    omega
  · -- no body
    have z : g 40 j = 0 := z
    refine ⟨fun q => absurd rfl q, fun _ g5 e5 => ?_⟩
    have o5 : ∀ a i, ¬ (a = 124 ∧ i = 9) → g5 a i = g a i := fun a i p => by rw [e5, up2_ext p]
    have vs5 : VSm g g5 (g 124 7) := fun v v0 v1 => ⟨o5 125 v (by omega), o5 126 v (by omega), fun i i0 i1 => o5 127 _ (by omega)⟩
    have q7 := o5 124 7 (by omega)
    refine HB (-7) g5 (Or.inl rfl) (fun a i p => (o5 a i (by omega)).trans (kmg a i p)) (VSm_trans f6.1 f5 vs5) (by omega) (fun sk sv ag => ⟨0, 0, 0, w8 sk sv _ 0 0 0 (cx sk sv (AGr_mono ag vs5 (by omega)) _ _ (Or.inl ⟨by omega, rfl⟩))⟩)
  · -- a body
    have nz : g 40 j ≠ 0 := nz
    have h40 : h0 40 j = 1 := by
      rcases (rb.1.2.2 j (by omega) (by omega)).2 with a | a
      · omega
      · exact a.1
    have cell : (124 : Int) + (-88) + 3 + 24 + 5 * j = 63 + 5 * j := by omega
    rw [cell]
    refine ⟨fun _ => ?_, fun z => by omega⟩
    rw [f2.trans e8]
    refine m_scope (n := ppr h0 71 j) (by omega) (f2.trans e8) (by omega) (by omega) (by omega) hs0 n0 (by omega) (fun g' og eg8 rg => ?_)
    have q9 : g' 124 9 = hs + ppr h0 71 j := by rw [og 124 9 (by omega) (by omega), f9]; omega
    refine V_Machine_enter_27 ⟨fun _ => ⟨by unfold r32; omega, by omega, ?_⟩, fun z => by omega⟩
    obtain ⟨N', wb, mb, ⟨Nb0, Nb1⟩, ⟨nb0, nb1⟩, _, rd, _⟩ := rb.2.2.1 j (by omega) (by omega) h40
    have Gb : gh h0 (63 + 5 * j) N' 0 (ppr h0 71 j) (h0 (63 + 5 * j) 2) (h0 (63 + 5 * j) 2) wb := ⟨mb, rd, by omega⟩
    have Wb := rb.2.2.2 j (by omega) (by omega) h40 α
    rw [hT] at Wb
    have vsg : VSm g g' (g 124 7) := fun v v0 v1 => ⟨og 125 v (by omega) (by omega), og 126 v (by omega) (by omega), fun i i0 i1 => og 127 _ (by omega) (by omega)⟩
    have q7 := og 124 7 (by omega) (by omega)
    have q10 := og 124 10 (by omega) (by omega)
    have q11 := og 124 11 (by omega) (by omega)
    have km' : KM h0 g' := fun a i p => (og a i (by omega) (by omega)).trans (kmg a i p)
    refine ih 31 (63 + 5 * j) 0 (ppr h0 71 j) (base + sc) (k + 1) (hs + ppr h0 71 j) N' _ _ wb (exG (fun _ => tI) 0 T) _ (fun i => acc.getD i.toNat 0) g' _ _ (Or.inr rfl) (by omega) (by omega) (by omega) ⟨Or.inr ⟨j, ⟨by omega, by omega, by omega⟩, rfl⟩, by omega⟩ (Int.le_refl 0) Nb1 Gb Wb km' (by omega) (by omega) (by omega) (fun i i0 i1 => ?_) (fun v h' F' df tv erv g2 e2' g5 e5 => ?_) (fun o h' ho km2 vs2 nl2 erv g2 e2' g5 e5 => ?_)
    · have il : i.toNat < acc.length := by omega
      have gx : acc[i.toNat]? = some acc[i.toNat] := List.getElem?_eq_getElem il
      have il2 : i.toNat < T.length := by omega
      have gt : T[i.toNat]? = some T[i.toNat] := List.getElem?_eq_getElem il2
      have a := av _ _ gx
      have ex : acc.getD i.toNat 0 = acc[i.toNat] := by rw [List.getD_eq_getElem?_getD, gx]; rfl
      refine ⟨?_, ?_⟩
      · rw [rg i i0 i1]
        show _ = acc.getD i.toNat 0
        rw [ex]
        have := a.1
        rw [show hs + ((i.toNat : Nat) : Int) = hs + i by omega] at this
        exact this
      · show vt h0 g' _ (acc.getD i.toNat 0) _
        rw [ex, exG_hi i0 (t := T[i.toNat]) (by rw [show (i - 0).toNat = i.toNat by omega]; exact gt), q7]
        exact vt_mono vsg (Int.le_refl _) (rb_p3 rb) (a.2 _ gt)
    · obtain ⟨b1, b2, b3, b4, b5, b6⟩ := F'
      have o5 : ∀ a i, ¬ (a = 124 ∧ (i = 9 ∨ i = 8)) → g5 a i = h' a i := fun a i p => by rw [e5, up2_ext (by omega), e2', up2_ext (by omega)]
      have vs5 : VSm h' g5 (h' 124 7) := fun v v0 v1 => ⟨o5 125 v (by omega), o5 126 v (by omega), fun i i0 i1 => o5 127 _ (by omega)⟩
      have r7 := o5 124 7 (by omega)
      have r10 := o5 124 10 (by omega)
      have r11 := o5 124 11 (by omega)
      have vsh : VSm g' g5 (g' 124 7) := VSm_trans b6.1 b5 vs5
      have vgg : VSm g g5 (g 124 7) := VSm_trans (by omega) vsg vsh
      refine HG v g5 ⟨fun a i p => ?_, ⟨?_, ?_⟩, fun i p => ?_, fun i p => ?_, VSm_trans f6.1 f5 vgg, by omega⟩ (by omega) ?_ (fun sk sv ag => ?_)
      · rw [o5 a i (by omega), b1 a i p, og a i (by omega) (by omega)]; exact f1 a i p
      · rw [e5, up2_ext (by omega), e2', up2_eq, e8]
      · rw [e5, up2_eq, e9]
      · rw [o5 128 i (by omega), b3 i (by omega), og 128 i (by omega) (by omega)]; exact f3 i p
      · rw [o5 129 i (by omega), b4 i (by omega), og 129 i (by omega) (by omega)]; exact f4 i p
      · rw [eτ, r7]
        exact vt_mono vs5 (Int.le_refl _) (rb_p3 rb) tv
      · have ag' := AGr_mono ag vs5 (by omega)
        have agg := AGr_mono ag vgg (by omega)
        have q := erv sk sv ag'
        rw [q7, q10, q11] at q
        rw [← r7, ← r10, ← r11] at q
        exact w8 sk sv _ _ _ _ (cx sk sv agg _ _ (Or.inr ⟨h40, q⟩))
    · have o5 : ∀ a i, ¬ (a = 124 ∧ (i = 9 ∨ i = 8)) → g5 a i = h' a i := fun a i p => by rw [e5, up2_ext (by omega), e2', up2_ext (by omega)]
      have vs5 : VSm h' g5 (h' 124 7) := fun v v0 v1 => ⟨o5 125 v (by omega), o5 126 v (by omega), fun i i0 i1 => o5 127 _ (by omega)⟩
      have r7 := o5 124 7 (by omega)
      have vsh : VSm g' g5 (g' 124 7) := VSm_trans nl2 vs2 vs5
      have vgg : VSm g g5 (g 124 7) := VSm_trans (by omega) vsg vsh
      refine HB o g5 ho (fun a i p => (o5 a i (by omega)).trans (km2 a i p)) (VSm_trans f6.1 f5 vgg) (by omega) (fun sk sv ag => ?_)
      obtain ⟨s', dp', nv', q⟩ := erv sk sv (AGr_mono ag vs5 (by omega))
      rw [q7, q10, q11] at q
      exact ⟨s', dp', nv', w8 sk sv _ _ _ _ (cx sk sv (AGr_mono ag vgg (by omega)) _ _ (Or.inr ⟨h40, q⟩))⟩
end
