section
theorem c_called11 {d : Nat} {h : HP} {a p : Int} {Q : PQ} (hd : 3 < d) (sz : aSZ (a + 1) = 100) (n1 : h a 2 ≤ 100) (D1 : h 36 4 ≤ 10) (D2 : h 36 5 ≤ 6) (p0 : 0 ≤ p) (p1 : p ≤ 100)
    (H1 : okD (bA (h (a + 1)) (h a 2)) (nPr h) (bA (h (a + 1)) (h a 2) p) (p + 1) → Q (cel (bA (h (a + 1)) (h a 2) p) (bA (h (a + 1)) (h a 2) (p + 1) - 48)) h) (ok : okD (bA (h (a + 1)) (h a 2)) (nPr h) (bA (h (a + 1)) (h a 2) p) (p + 1)) : Go d M_Program_calledAt 0 [(14, 36), (11, a), (0, p), (2, 0)] [] h Q := by
  have q := H1 ok
  have o3 := ok.2.2
  refine V_Program_calledAt_0 ⟨by unfold r32; omega, by omega, c_digB sz n1 (fun x y => ⟨by omega, c_codeB sz n1 ⟨fun z => ⟨by omega, c_consOf D1 (fun u v => ?_) (fun u => ?_)⟩, fun z => ⟨by omega, c_funcOf D2 (fun u v => ?_) (fun u => ?_)⟩⟩⟩) (fun x => absurd ⟨ok.1, ok.2.1⟩ x)⟩
  · unfold cel at q
    rw [if_neg z] at q
    exact q
  · unfold nPr at o3
    rw [if_neg z] at o3
    omega
  · unfold cel at q
    rw [if_pos z] at q
    exact q
  · unfold nPr at o3
    rw [if_pos z] at o3
    omega
theorem m_called {d tg : Nat} {h0 h : HP} {c p N : Int} {Q : PQ} (ht : tg = 11 ∨ tg = 31) (hd : 3 < d) (rb : RB0 h0) (C : Cod h0 c) (km : KM h0 h) (p0 : 0 ≤ p) (p1 : p ≤ 100) (N1 : N ≤ h0 36 5) (cc : bA (h0 (c + 1)) (h0 c 2) p = 67 ∨ bA (h0 (c + 1)) (h0 c 2) p = 71) (ok : okD (bA (h0 (c + 1)) (h0 c 2)) (nPn (h0 36 4) N) (bA (h0 (c + 1)) (h0 c 2) p) (p + 1)) (H : Q (cel (bA (h0 (c + 1)) (h0 c 2) p) (bA (h0 (c + 1)) (h0 c 2) (p + 1) - 48)) h) : Go d M_Program_calledAt 0 [(14, 124 + (-88)), (tg, c), (0, p), (2, 0)] [] h Q := by
  obtain ⟨z1, _, l⟩ := cod_sz C
  have dd := rb.1.1
  have cn := C.2
  have e2 : h c 2 = h0 c 2 := km c 2 (by omega)
  have er : h (c + 1) = h0 (c + 1) := funext fun q => km _ q (by omega)
  have e4 : h 36 4 = h0 36 4 := km 36 4 (by omega)
  have e5 : h 36 5 = h0 36 5 := km 36 5 (by omega)
  have ok' : okD (bA (h (c + 1)) (h c 2)) (nPr h) (bA (h (c + 1)) (h c 2) p) (p + 1) := by
    rw [er, e2]
    refine ⟨ok.1, ok.2.1, ?_⟩
    have o3 := ok.2.2
    unfold nPn at o3
    unfold nPr
    rw [e4, e5]
    split
    · rename_i z
      rw [if_pos z] at o3
      omega
    · rename_i z
      rw [if_neg z] at o3
      exact o3
  have H' : Q (cel (bA (h (c + 1)) (h c 2) p) (bA (h (c + 1)) (h c 2) (p + 1) - 48)) h := by rw [er, e2]; exact H
  rcases ht with e | e <;> subst e
  · exact c_called11 hd z1 (by omega) (by omega) (by omega) p0 p1 (fun _ => H') ok'
  · exact c_called hd (cod_nz C) z1 (by omega) (by omega) (by omega) p0 p1 (by rw [er, e2]; exact cc) (fun _ => H') (fun z => absurd ok' z)
theorem fuel_all {h0 h : HP} {n : Int} (rb : RB0 h0) : ∀ (l : List Int) (T : List Tm), (∀ (i : Nat) x t, l[i]? = some x → T[i]? = some t → vt h0 h n x t) → ∃ F, ∀ (i : Nat) x t, l[i]? = some x → T[i]? = some t → vtF h0 h n F x t := by
  intro l
  induction l with
  | nil => intro T _; exact ⟨0, fun i x t e => by rw [List.getElem?_nil] at e; cases e⟩
  | cons a l ih =>
    intro T H
    cases T with
    | nil => exact ⟨0, fun i x t _ e => by rw [List.getElem?_nil] at e; cases e⟩
    | cons t T =>
      obtain ⟨F, hF⟩ := ih T (fun i x u e1 e2 => H (i + 1) x u e1 e2)
      obtain ⟨f, hf⟩ := H 0 a t rfl rfl
      refine ⟨F + f, fun i x u e1 e2 => ?_⟩
      cases i with
      | zero =>
        have a1 : a = x := Option.some.inj e1
        have a2 : t = u := Option.some.inj e2
        subst a1 a2
        exact vtF_le rb (by omega) hf
      | succ i => exact vtF_le rb (by omega) (hF i x u e1 e2)
theorem sig_len {h0 : HP} (rb : RB0 h0) {k j N : Int} (hk : k = 67 ∨ k = 71) (N1 : N ≤ h0 36 5) (j0 : 0 ≤ j) (j1 : j < nPn (h0 36 4) N k) (α : Int → Tm) : (0 ≤ ppr h0 k j ∧ ppr h0 k j ≤ 3) ∧ ((sgT (sbr h0 k j) (llr h0 k j) α).length : Int) = ppr h0 k j + 1 ∧ ((sgT (sbr h0 k j) (llr h0 k j) α).take (ppr h0 k j).toNat).length = (ppr h0 k j).toNat := by
  have : (0 ≤ ppr h0 k j ∧ ppr h0 k j ≤ 3) ∧ ((sgT (sbr h0 k j) (llr h0 k j) α).length : Int) = ppr h0 k j + 1 := by
    rcases hk with e | e <;> subst e
    · have j1 : j < h0 36 4 := j1
      have s := (rb.1.2.1 j j0 j1).1
      have o := rb.2.1.1 j j0 j1
      unfold SgO at o
      rw [show 41 + 2 * j + 1 = 42 + 2 * j by omega] at o
      exact ⟨s.2.2.2.2.1, sgT_len s.2.2.2.1.1 s.2.2.2.2.1.1 o⟩
    · have j1 : j < N := j1
      have s := (rb.1.2.2 j j0 (by omega)).1
      have o := rb.2.1.2 j j0 (by omega)
      unfold SgO at o
      rw [show 61 + 5 * j + 1 = 62 + 5 * j by omega] at o
      exact ⟨s.2.2.2.2.1, sgT_len s.2.2.2.1.1 s.2.2.2.2.1.1 o⟩
  refine ⟨this.1, this.2, ?_⟩
  rw [List.length_take]
  exact Nat.min_eq_left (by omega)
theorem cel_2 {h0 : HP} {k j : Int} (hk : k = 67 ∨ k = 71) : h0 (cel k j) 2 = ppr h0 k j := by
  rcases hk with e | e <;> subst e <;> rfl
/-- C -/
theorem e_cons {d tg : Nat} {h0 h : HP} {K : Nat} {c p sc base k hs N w r w' : Int} {Γ : Int → Tm} {τ : Tm} {env : Int → Int} {Q : PQ} (ht : tg = 11 ∨ tg = 31) (rb : RB0 h0) (ih : EvT h0 K) (hK : 60 - k ≤ K) (hd : 8 * K + 66 < d) (E : EvS h0 c p sc base k hs N w r w' Γ τ env h) (cc : bA (h0 (c + 1)) (h0 c 2) p = 67) (HG : EvG h0 c p sc base k hs env τ h Q) (HB : EvN h0 c p sc k env h Q) : Go d M_Machine_evaluate 101 [(13, 124), (tg, c), (0, p), (0, base), (0, k), (0, bA (h0 (c + 1)) (h0 c 2) p), (2, 0), (2, 0), (2, 0), (2, 0), (2, 0), (2, 0), (2, 0)] [] h Q := by
  obtain ⟨⟨kk, C, p0, N1⟩, G, W, km, ss, ⟨e8, e9, hs0, hs1⟩, nn, ev⟩ := E
  have cz := cod_nz C
  have cn := C.2
  have pn := GD_n G p0
  have dd := rb.1.1
  obtain ⟨ok, _, GG⟩ := GD_sign G p0 (Or.inl cc)
  have Ww : ∃ α, kiW (wh h0 c) (h0 (c + 2)) Γ sc ((sgT (sbr h0 67 (bA (h0 (c + 1)) (h0 c 2) (p + 1) - 48)) (llr h0 67 (bA (h0 (c + 1)) (h0 c 2) (p + 1) - 48)) α).take (ppr h0 67 (bA (h0 (c + 1)) (h0 c 2) (p + 1) - 48)).toNat) (p + 2) ∧ τ = tF (3 + h0 (41 + 2 * (bA (h0 (c + 1)) (h0 c 2) (p + 1) - 48)) 4) (sgTI (sbr h0 67 (bA (h0 (c + 1)) (h0 c 2) (p + 1) - 48)) (llr h0 67 (bA (h0 (c + 1)) (h0 c 2) (p + 1) - 48)) α (ppr h0 67 (bA (h0 (c + 1)) (h0 c 2) (p + 1) - 48))) := by
    rcases WT_out W with ⟨x, _⟩ | ⟨x, _⟩ | ⟨x, _⟩ | ⟨x, _⟩ | ⟨x, _⟩ | ⟨_, α, a, b⟩ | ⟨x, _⟩
    · unfold lfO at x; omega
    · omega
    · omega
    · omega
    · omega
    · rw [cc] at a b
      exact ⟨α, a, b⟩
    · omega
  obtain ⟨α, kw, eτ⟩ := Ww
  have ok1 := ok.1
  have ok2 := ok.2.1
  have jn : bA (h0 (c + 1)) (h0 c 2) (p + 1) - 48 < h0 36 4 := by
    have := ok.2.2
    rw [cc] at this
    exact this
  have p1n := (bA_lt (b := h0 (c + 1)) (n := h0 c 2) (p := p + 1) (by omega)).2
  rw [cc] at GG
  obtain ⟨⟨n0, n3⟩, sl, tl⟩ := sig_len rb (k := 67) (N := N) (Or.inl rfl) N1 (show 0 ≤ bA (h0 (c + 1)) (h0 c 2) (p + 1) - 48 by omega) jn α
  refine VT_Machine_evaluate_101 ht cz ⟨by omega, m_called (N := N) ht (by omega) rb C km p0 (by omega) N1 (Or.inl cc) ok ?_⟩
  rw [cc]
  generalize hj : bA (h0 (c + 1)) (h0 c 2) (p + 1) - 48 = j at *
  have ce : cel 67 j = 41 + 2 * j := rfl
  have e2 : h (cel 67 j) 2 = ppr h0 67 j := by rw [km _ 2 (by omega)]; exact cel_2 (Or.inl rfl)
  refine ⟨fun _ => ⟨by omega, by unfold r32; omega, ?_⟩, fun z => by omega⟩
  rw [e2, e9]
  generalize hT : (sgT (sbr h0 67 j) (llr h0 67 j) α).take (ppr h0 67 j).toNat = T at *
  rw [← tl] at GG
  have tn : (T.length : Int) = ppr h0 67 j := by omega
  rw [← tn]
  refine ev_parts (T := T) (q0 := p + 2) ht rb ih hK kk.1 kk.2 hd C N1 ss e8 ⟨hs0, hs1⟩ ev nn.1 km (by omega) (fun acc g q w12 al F av cx => ?_) (fun o h' ho km' vs nl cx => HB o h' ho km' vs nl (fun sk sv ag => ⟨0, 0, 0, Or.inr (Or.inr (Or.inr (Or.inr (Or.inr (Or.inr (Or.inl ⟨cc, ?_⟩))))))⟩)) T 0 (p + 2) _ [] h (2, 0) (fun i => by rw [Nat.zero_add]) (by omega) (by omega) kw GG rfl (EvL_0 e9 (by omega) nn.2.2) (fun i x e => by rw [List.getElem?_nil] at e; cases e) (fun _ _ _ _ _ H => H)
  · have L := F.2.2.2.2.2
    have kmg : KM h0 g := fun a i p => (F.1 a i p).trans (km a i p)
    have g9 : g 124 9 = hs + T.length := F.2.1.2
    have nl : g 124 7 + 1 ≤ g 124 10 := by omega
    refine VT_Machine_evaluate_173 ht cz ⟨fun _ => ⟨fun n71 => ⟨by omega, ?_⟩, fun z => by omega⟩, fun z => absurd z (Int.lt_irrefl _)⟩
    refine VT_Machine_compose_0 ht cz ⟨cz, by omega, m_byte C kmg ⟨by omega, ?_⟩⟩
    have fin : Go (d - 1 - 1) M_Code_digitAt 0 [(11, c), (0, w32 (p + 1)), (2, 0)] [] g (fun y11 k11 => 0 < d - 1 ∧ Go (d - 1 - 1) M_Machine_composed 0 [(13, 124), (0, y11), (0, hs), (2, 0), (2, 0)] [] k11 (fun y12 k12 => ∀ g2 : HP, g2 = up2 k12 124 9 hs → Q y12 g2)) := by
      rw [w32_s (by omega) (by omega)]
      refine m_dig C kmg (fun _ _ => ⟨by omega, ?_⟩) (fun z => absurd ⟨ok1, ok2⟩ z)
      rw [hj]
      refine c_composed (hs := hs + T.length) (by omega) rfl (by omega) (by omega) g9 hs0 (by omega) (by omega) (by omega) (fun g3 o e7 e5 e6 e27 g2 e2' => ?_)
      obtain ⟨F2, vs, ⟨q7, q10, q11⟩, vsg⟩ := e_new F e9 o e7 nl e2'
      have vsn := vs (g 124 7) (by omega) (by omega)
      have vsa := VSm_trans (by omega) vsg vs
      have ct : ∀ (i : Nat) x, acc[i]? = some x → g2 127 (3 * g 124 7 + i) = x := by
        intro i x ex
        have il : i < acc.length := by
          rcases Nat.lt_or_ge i acc.length with z | z
          · exact z
          · rw [List.getElem?_eq_none z] at ex; cases ex
        rw [vsn.2.2 i (by omega) (by omega), e27 i (by omega) (by omega)]
        exact (av i x ex).1
      obtain ⟨Fu, hFu⟩ := fuel_all rb acc T (h := g2) (n := g2 124 7) (fun i x t ex et => vt_mono vsa (by omega) (rb_p3 rb) ((av i x ex).2 t et))
      have kj : g2 125 (g 124 7) = j := by rw [vsn.1]; exact e5
      have kw2 : g2 126 (g 124 7) = ppr h0 67 j := by rw [vsn.2.1, e6]; omega
      refine HG _ g2 F2 (by omega) ⟨Fu + 1, ⟨by omega, by omega⟩, Or.inr (Or.inr (Or.inr ?_))⟩ (fun sk sv ag => ?_)
      · rw [kj]
        refine ⟨⟨by omega, jn⟩, kw2, α, eτ, fun i t il gt => ?_⟩
        have gT : T[i]? = some t := by
          rw [← hT, List.getElem?_take, if_pos (by omega)]
          exact gt
        have il2 : i < acc.length := by omega
        have gx : acc[i]? = some acc[i] := List.getElem?_eq_getElem il2
        rw [ct i _ gx]
        exact hFu i _ t gx gT
      · have agg : AGr sk sv g (g 124 7) := AGr_mono ag vsa (by omega)
        have a := ag (g 124 7) (by omega) (by omega)
        refine Or.inr (Or.inr (Or.inr (Or.inr (Or.inr (Or.inr (Or.inl ⟨cc, ?_⟩))))))
        show chE (er h0 sk sv) _ c sc env k _ _ (ppr h0 67 (bA (h0 (c + 1)) (h0 c 2) (p + 1) - 48)).toNat (p + 2) [] _ _ _
        rw [hj, ← tl]
        refine cx sk sv agg _ _ ⟨?_, fun i x ex => ?_, rfl, q10, q11, q7⟩
        · rw [a.1]; exact kj
        · have il : i < acc.length := by
            rcases Nat.lt_or_ge i acc.length with z | z
            · exact z
            · rw [List.getElem?_eq_none z] at ex; cases ex
          rw [a.2 i (by omega) (by omega)]
          exact ct i x ex
    refine m_held (hs := hs) (j := T.length) (x := 0) g9 hs0 (by omega) (fun _ => ⟨by omega, ?_⟩) (fun _ => ⟨by omega, ?_⟩)
    · rw [w32_s (z := hs + 1) (by omega) (by omega)]
      refine m_held (hs := hs) (j := T.length) (x := 0) g9 (by omega) (by omega) (fun _ => ?_) (fun _ => ?_)
      · exact ⟨fun z => by omega, fun _ => ⟨fun z => by omega, fun _ => ⟨fun z => by omega, fun _ => ⟨fun z => by omega, fun _ => ⟨fun _ => ⟨cz, by omega, fin⟩, fun z => absurd cc z⟩⟩⟩⟩⟩
      · exact ⟨fun z => by omega, fun _ => ⟨fun z => by omega, fun _ => ⟨fun z => by omega, fun _ => ⟨fun z => by omega, fun _ => ⟨fun _ => ⟨cz, by omega, fin⟩, fun z => absurd cc z⟩⟩⟩⟩⟩
    · rw [w32_s (z := hs + 1) (by omega) (by omega)]
      refine m_held (hs := hs) (j := T.length) (x := 0) g9 (by omega) (by omega) (fun _ => ?_) (fun _ => ?_)
      · exact ⟨fun z => by omega, fun _ => ⟨fun z => by omega, fun _ => ⟨fun z => by omega, fun _ => ⟨fun z => by omega, fun _ => ⟨fun _ => ⟨cz, by omega, fin⟩, fun z => absurd cc z⟩⟩⟩⟩⟩
      · exact ⟨fun z => by omega, fun _ => ⟨fun z => by omega, fun _ => ⟨fun z => by omega, fun _ => ⟨fun z => by omega, fun _ => ⟨fun _ => ⟨cz, by omega, fin⟩, fun z => absurd cc z⟩⟩⟩⟩⟩
  · show chE (er h0 sk sv) _ c sc env k o _ (ppr h0 67 (bA (h0 (c + 1)) (h0 c 2) (p + 1) - 48)).toNat (p + 2) [] _ _ _
    rw [hj, ← tl]
    exact cx sk sv ag _
end
