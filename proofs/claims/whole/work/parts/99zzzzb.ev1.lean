section
def RB0 (h0 : HP) : Prop := DcR h0 ∧ DcO h0 ∧ BdR h0 ∧ BdW h0
theorem rb_p3 {h0 : HP} (rb : RB0 h0) : ∀ j, 0 ≤ j → j < h0 36 4 → ppr h0 67 j ≤ 3 := fun j j0 j1 => ((rb.1.2.1 j j0 j1).1.2.2.2.2.1).2
theorem gh_w {h0 : HP} {c N : Int} (rb : RB0 h0) (N1 : N ≤ h0 36 5) {q sc w r w' : Int} (q0 : 0 ≤ q) (G : gh h0 c N q sc w r w') : q < r ∧ r ≤ h0 c 2 := by
  have := GD_w (n := h0 c 2) (fun k j hk j0 j1 => ?_) (h0 c 2 - q).toNat q sc w r w' q0 (by omega) G
  · exact ⟨this.1, this.2.1⟩
  · rcases hk with e | e <;> subst e
    · exact ((rb.1.2.1 j j0 j1).1.2.2.2.1).1
    · have j1 : j < N := j1
      exact ((rb.1.2.2 j j0 (by omega)).1.2.2.2.1).1
/-- while the parts are worked out -/
def EvL (h h' : HP) (S hs j : Int) : Prop := (∀ a i, a < 124 ∨ 130 < a → h' a i = h a i) ∧ (h' 124 8 = h 124 8 ∧ h' 124 9 = hs + j) ∧ (∀ i, i < S → h' 128 i = h 128 i) ∧ (∀ i, i < hs → h' 129 i = h 129 i) ∧ VSm h h' (h 124 7) ∧ (h 124 7 ≤ h' 124 7 ∧ h' 124 7 ≤ h' 124 10 ∧ h' 124 10 ≤ 1000 ∧ h 124 10 ≤ h' 124 10 ∧ h' 124 7 + h 124 10 ≤ h' 124 10 + h 124 7)
theorem ev_parts {h0 h1 : HP} {K tg : Nat} {c p sc base k hs N r w' v5 v6 v7 q0 : Int} {Γ : Int → Tm} {env : Int → Int} {T : List Tm} {d : Nat} {Q : PQ} (ht : tg = 11 ∨ tg = 31) (rb : RB0 h0) (ih : EvT h0 K) (hK : 60 - k ≤ K) (k1 : 1 ≤ k) (k60 : k ≤ 60) (hd : 8 * K + 66 < d) (C : Cod h0 c) (N1 : N ≤ h0 36 5) (ss : 0 ≤ sc ∧ 0 ≤ base ∧ base + sc ≤ 3 * k) (e8 : h1 124 8 = base + sc) (hs0 : 0 ≤ hs ∧ hs ≤ 3 * (k - 1)) (ev : ∀ i, 0 ≤ i → i < sc → h1 128 (base + i) = env i ∧ vt h0 h1 (h1 124 7) (env i) (Γ i)) (n0 : 0 ≤ h1 124 7) (km : KM h0 h1) (T3 : T.length ≤ 3)
    (HG : ∀ (acc : List Int) (g : HP) (q : Int) (w12 : AV), acc.length = T.length → EvL h1 g (base + sc) hs T.length → (∀ (i : Nat) x, acc[i]? = some x → g 129 (hs + i) = x ∧ ∀ t, T[i]? = some t → vt h0 g (g 124 7) x t) → (∀ sk sv, AGr sk sv g (g 124 7) → ∀ out KK, KK acc (g 124 10) (g 124 11) (g 124 7) → chE (er h0 sk sv) (fun c => h0 (c + 2)) c sc env k out KK T.length q0 [] (h1 124 10) (h1 124 11) (h1 124 7)) → Go d M_Machine_evaluate 173 [(13, 124), (tg, c), (0, p), (0, base), (0, k), (0, v5), (0, v6), (36, v7), (0, (T.length : Int)), (0, q), (0, hs), (0, (T.length : Int)), w12] [] g Q)
    (HB : ∀ o h', (o = -7 ∨ o = -8 ∨ o = -9) → KM h0 h' → VSm h1 h' (h1 124 7) → h1 124 7 ≤ h' 124 7 → (∀ sk sv, AGr sk sv h' (h' 124 7) → ∀ KK, chE (er h0 sk sv) (fun c => h0 (c + 2)) c sc env k o KK T.length q0 [] (h1 124 10) (h1 124 11) (h1 124 7)) → Q o h') :
    ∀ (l : List Tm) (j : Nat) (q wq : Int) (acc : List Int) (g : HP) (w12 : AV), (∀ i : Nat, l[i]? = T[j + i]?) → j + l.length = T.length → 0 ≤ q → kiW (wh h0 c) (h0 (c + 2)) Γ sc l q → GC (gh h0 c N) l.length q sc wq r w' → acc.length = j → EvL h1 g (base + sc) hs j → (∀ (i : Nat) x, acc[i]? = some x → g 129 (hs + i) = x ∧ ∀ t, T[i]? = some t → vt h0 g (g 124 7) x t) → (∀ sk sv, AGr sk sv g (g 124 7) → ∀ out KK, chE (er h0 sk sv) (fun c => h0 (c + 2)) c sc env k out KK l.length q acc (g 124 10) (g 124 11) (g 124 7) → chE (er h0 sk sv) (fun c => h0 (c + 2)) c sc env k out KK T.length q0 [] (h1 124 10) (h1 124 11) (h1 124 7)) → Go d M_Machine_evaluate 173 [(13, 124), (tg, c), (0, p), (0, base), (0, k), (0, v5), (0, v6), (36, v7), (0, (T.length : Int)), (0, q), (0, hs), (0, (j : Int)), w12] [] g Q := by
  have p3 := rb_p3 rb
  have cz : c ≠ 0 := by
    rcases C.1 with e | ⟨f, hf, e⟩ <;> omega
  intro l
  induction l with
  | nil =>
    intro j q wq acc g w12 li jl q0' kw G al F av cx
    have je : j = T.length := by simpa using jl
    subst je
    exact HG acc g q w12 al F av (fun sk sv ag out KK kk => cx sk sv ag out KK kk)
  | cons t l ihl =>
    intro j q wq acc g w12 li jl q0' kw G al F av cx
    have jl' : j + (l.length + 1) = T.length := jl
    obtain ⟨r1, v1, G1, G2⟩ := G
    have lw := gh_w rb N1 q0' G1
    have cn := C.2
    have ee : h0 (c + 2) q = r1 := (GD_e G1).2
    have gt : T[j]? = some t := by
      have := li 0
      rw [show j + 0 = j by omega] at this
      rw [← this]; rfl
    obtain ⟨f1, ⟨f2, f9⟩, f3, f4, f5, f6⟩ := F
    have kmg : KM h0 g := fun a i p => (f1 a i p).trans (km a i p)
    refine VT_Machine_evaluate_173 ht cz ⟨fun z => by omega, fun _ => ⟨by unfold r32; omega, by omega, ?_⟩⟩
    refine ih tg c q sc base (k + 1) (hs + j) N wq r1 v1 Γ t env g (d - 1) _ ht (by omega) (by omega) (by omega) C q0' N1 G1 kw.1 kmg (by omega) (by omega) (by omega) (fun i i0 i1 => ?_) (fun v h' F' df tv erv => ⟨fun _ => ⟨by omega, ?_⟩, fun z => by have := (vt_r tv).1; omega⟩) (fun o h' ho km' vs' nl erv => ⟨fun z => by omega, fun _ => ?_⟩)
    · obtain ⟨a, b⟩ := ev i i0 i1
      exact ⟨(f3 _ (by omega)).trans a, vt_mono f5 f6.1 p3 b⟩
    · obtain ⟨b1, ⟨b2, b9⟩, b3, b4, b5, b6⟩ := F'
      have v0 := (vt_r tv).1
      have z5 : aSZ (124 + 5) = 192 := rfl
      have h9 : h' 124 9 = hs + j := b9.trans f9
      refine V_Machine_hold_0 ⟨fun z => by omega, fun _ => ?_⟩
      rw [h9]
      refine ⟨by omega, fun g2 e2 => ?_⟩
      have q9 : g2 124 9 = hs + j := by rw [e2, up2_nc (by decide)]; exact h9
      rw [q9]
      refine ⟨by unfold r32; omega, fun g3 e3 => ⟨cz, by omega, ?_⟩⟩
      have o3 : ∀ a i, ¬ (a = 129 ∧ i = hs + j) → ¬ (a = 124 ∧ i = 9) → g3 a i = h' a i := fun a i p q => by rw [e3, up2_ext q, e2, show (124 : Int) + 5 = 129 by omega, up2_ext p]
      have e9 : g3 124 9 = hs + (j + 1 : Nat) := by rw [e3, up2_eq]; omega
      have eh : g3 129 (hs + j) = v := by rw [e3, up2_nc (by decide), e2, show (124 : Int) + 5 = 129 by omega, up2_eq]
      have km3 : KM h0 g3 := fun a i p => (o3 a i (by omega) (by omega)).trans ((b1 a i p).trans (kmg a i p))
      have vs3 : VSm h' g3 (h' 124 7) := fun v v0 v1 => ⟨o3 125 v (by omega) (by omega), o3 126 v (by omega) (by omega), fun i i0 i1 => o3 127 _ (by omega) (by omega)⟩
      have e7 : g3 124 7 = h' 124 7 := o3 124 7 (by omega) (by omega)
      have e10 : g3 124 10 = h' 124 10 := o3 124 10 (by omega) (by omega)
      have e11 : g3 124 11 = h' 124 11 := o3 124 11 (by omega) (by omega)
      refine m_beh (by omega) C km3 q0' (fun y hy => ⟨by unfold r32; omega, ?_⟩)
      have ey := hy _ _ _ _ _ G1
      subst ey
      have kw2 := kw.2
      rw [ee] at kw2
      have vsg : VSm g g3 (g 124 7) := VSm_trans b6.1 b5 vs3
      have := ihl (j + 1) y v1 (acc ++ [v]) g3 (0, v) (fun i => ?_) (by omega) (by omega) kw2 G2 (by rw [List.length_append, al]; rfl) ⟨fun a i p => (o3 a i (by omega) (by omega)).trans ((b1 a i p).trans (f1 a i p)), ⟨(o3 124 8 (by omega) (by omega)).trans (b2.trans f2), e9⟩, fun i p => (o3 128 i (by omega) (by omega)).trans ((b3 i p).trans (f3 i p)), fun i p => (o3 129 i (by omega) (by omega)).trans ((b4 i (by omega)).trans (f4 i p)), VSm_trans f6.1 f5 vsg, by omega⟩ (fun i x ex => ?_) (fun sk sv ag out KK H => ?_)
      · exact this
      · have := li (i + 1)
        rw [show j + 1 + i = j + (i + 1) by omega, ← this]
        rfl
      · rcases Nat.lt_or_ge i acc.length with il | il
        · rw [List.getElem?_append_left il] at ex
          obtain ⟨a, b⟩ := av i x ex
          refine ⟨?_, fun u gu => ?_⟩
          · rw [o3 129 _ (by omega) (by omega), b4 _ (by omega)]; exact a
          · rw [e7]
            exact vt_mono vsg b6.1 p3 (b u gu)
        · have ie : i = acc.length := by
            rcases Nat.lt_or_ge i (acc.length + 1) with z | z
            · omega
            · rw [List.getElem?_eq_none (by rw [List.length_append]; exact z)] at ex
              cases ex
          subst ie
          rw [List.getElem?_append_right (Nat.le_refl _), Nat.sub_self] at ex
          have ev' : v = x := Option.some.inj ex
          subst ev'
          rw [al]
          refine ⟨eh, fun u gu => ?_⟩
          rw [gt] at gu
          have eu : t = u := Option.some.inj gu
          subst eu
          rw [e7]
          exact vt_mono vs3 (Int.le_refl _) p3 tv
      · rw [e7] at ag
        have ag' := AGr_mono ag vs3 (Int.le_refl _)
        refine cx sk sv (AGr_mono ag' b5 b6.1) out KK ⟨v, _, _, _, erv sk sv ag', Or.inr ⟨v0, ?_⟩⟩
        show chE (er h0 sk sv) _ c sc env k out KK l.length (h0 (c + 2) q) (acc ++ [v]) _ _ _
        rw [ee, ← e10, ← e11, ← e7]
        exact H
    · refine HB o h' ho km' (VSm_trans f6.1 f5 vs') (by omega) (fun sk sv ag KK => ?_)
      obtain ⟨s', dp', nv', e⟩ := erv sk sv ag
      exact cx sk sv (AGr_mono ag vs' nl) o KK ⟨o, s', dp', nv', e, Or.inl ⟨by omega, rfl⟩⟩
end
