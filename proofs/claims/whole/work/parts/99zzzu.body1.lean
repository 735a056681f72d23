section
theorem sgT_len {b : Int → Int} {n c : Int} {α : Int → Tm} (n0 : 0 ≤ n) (c0 : 0 ≤ c) (he : rdS b n n 3 0 = c) : ((sgT b n α).length : Int) = c + 1 := by
  have := (rdS_sk (b := b) (θ := α) (n := n) 3 0 (by omega) (by omega) n0 (by omega)).2
  rw [show n - 0 = n by omega, he] at this
  have e : sgT b n α = skT b α n.toNat 0 [] := rfl
  rw [e]
  omega
theorem DcR_o {h0 h : HP} (o : ∀ x i, (35 < x ∧ x < 91) ∨ (150 < x ∧ x < 156) ∨ x = 167 → h x i = h0 x i) (e30 : h 135 30 = h0 135 30) (e31 : h 135 31 = h0 135 31) (D : DcR h0) : DcR h := by
  obtain ⟨a, b, c⟩ := D
  refine ⟨?_, fun k k0 k1 => ?_, fun k k0 k1 => ?_⟩
  · rw [o 36 4 (by omega), o 36 5 (by omega), e30, e31]; exact a
  · rw [o 36 4 (by omega)] at k1
    obtain ⟨s, t⟩ := b k k0 k1
    refine ⟨SgR_keep s (fun i => o _ _ (by omega)) (fun i => o _ _ (by omega)) (o _ _ (by omega)) (o _ _ (by omega)) (o _ _ (by omega)) (fun i _ _ => o _ _ (by omega)), ?_⟩
    rw [o 155 k (by omega), o (41 + 2 * k) 4 (by omega)]
    exact t
  · rw [o 36 5 (by omega)] at k1
    obtain ⟨s, t⟩ := c k k0 k1
    refine ⟨SgR_keep s (fun i => o _ _ (by omega)) (fun i => o _ _ (by omega)) (o _ _ (by omega)) (o _ _ (by omega)) (o _ _ (by omega)) (fun i _ _ => o _ _ (by omega)), ?_⟩
    rw [o 40 k (by omega), o 167 k (by omega), o (63 + 5 * k) 3 (by omega)]
    exact t
theorem DcO_o {h0 h : HP} (o : ∀ x i, (x = 36 ∨ (40 < x ∧ x < 61)) ∨ (60 < x ∧ x < 91 ∧ (x - 61) % 5 < 2) → h x i = h0 x i) (D : DcR h0) (O : DcO h0) : DcO h := by
  have sg : ∀ x, ((40 < x ∧ x < 60) ∨ (60 < x ∧ x < 90 ∧ (x - 61) % 5 = 0)) → SgO h0 x → SgO h x := by
    intro x p s
    unfold SgO at *
    rw [o x 1 (by omega), o x 2 (by omega), show h (x + 1) = h0 (x + 1) from funext fun i => o (x + 1) i (by omega)]
    exact s
  have e4 := o 36 4 (by omega)
  have e5 := o 36 5 (by omega)
  have := D.1
  exact ⟨fun k k0 k1 => sg _ (by omega) (O.1 k k0 (by omega)), fun k k0 k1 => sg _ (by omega) (O.2 k k0 (by omega))⟩
theorem BIx_lo {h g : HP} (B : BIx h) (lc : LcC 5 h g) (f : ∀ i, 14 ≤ i → i ≤ 19 → g 135 i = h 135 i) (lo : LO h g) (o1 : ∀ i, 11 < i → i < 15 → g 1 i = h 1 i) (o2 : ∀ i, g 150 i = h 150 i) : BIx g := by
  obtain ⟨⟨k, ck⟩, ⟨tm, S, V, c, b⟩, c0, c1, c2⟩ := B
  have b0 := b
  obtain ⟨W, Rw, hV, ⟨f15, f14, f19, f18, n60, d8⟩, rows⟩ := b
  have d0 := W.2.2.2.2.2
  have nb : 0 ≤ ncl tm S (h 135 14) (h 135 15) := (cnt_bd (by have := (RC_SB Rw.1).1; omega)).1
  have h17 := Rw.2.2.2
  have h16 := Rw.2.2.1
  have xb : ExB 5 h g := ExB_loc (LcC_refl 5 h) lc (ExB_refl 5 h)
  have xn : ExN h g := by
    refine ⟨⟨f 14 (by omega) (by omega), f 16 (by omega) (by omega), f 18 (by omega) (by omega), f 19 (by omega) (by omega)⟩, by rw [f 15 (by omega) (by omega)]; exact Int.le_refl _, by rw [f 17 (by omega) (by omega)]; exact Int.le_refl _, fun i il => ⟨lo.1 137 i (by omega) (by omega), lo.1 138 i (by omega) (by omega), lo.1 139 i (by omega) (by omega), lo.1 140 i (by omega) (by omega)⟩, fun i il => ⟨lo.1 146 i (by omega) (by omega), lo.1 147 i (by omega) (by omega)⟩, fun i il => ⟨lo.2 148 i (by omega) (by omega), lo.2 149 i (by omega) (by omega)⟩, fun i il => ⟨lo.1 141 i (by omega) (by omega), lo.1 142 i (by omega) (by omega)⟩⟩
  exact BIx_same ck b0 c0 c1 c2 (CW_loc lc W) (RW_lo Rw (fun i a b => f i a (by omega)) (fun a x p q r s => lo.1 a x (by omega) (by omega)) (fun e p q => ⟨lo.1 146 e (by omega) (by omega), lo.1 147 e (by omega) (by omega)⟩)) xb xn (lc 5 13 (by omega) (by omega)) (f 15 (by omega) (by omega)) o1 o2
/-- the bodies have ground types -/
def BdW (h : HP) : Prop := ∀ f, 0 ≤ f → f < h 36 5 → h 40 f = 1 → ∀ α, WT (bA (h (63 + 5 * f + 1)) (h (63 + 5 * f) 2)) (h (63 + 5 * f + 2)) (h 36 4) (sbr h) (llr h) (ppr h) (fun j => h (41 + 2 * j) 4) 0 (exG (fun _ => tI) 0 ((sgT (sbr h 71 f) (llr h 71 f) α).take (ppr h 71 f).toNat)) (ppr h 71 f) (sgTI (sbr h 71 f) (llr h 71 f) α (ppr h 71 f))
theorem Unf_0 (n : Nat) : Unf S0x n := by
  intro k a b k0 e
  have := e (fun _ => tV 0) trivial
  rw [sb_mk] at this
  exact mkT_ne_V k0 0 this.symm
theorem IV_0 {V : Vx} {D : Int} (h : ∀ n, 7 ≤ (V n).1 → (V n).1 = 7) : IV S0x V D := ⟨fun _ _ _ _ => trivial, fun θ1 θ2 _ _ ag n p => ag n p (Unf_0 n), fun n v => Or.inl (h n v)⟩
theorem Vf_7 {h : HP} {f : Int} : ∀ n, 7 ≤ (Vf h f n).1 → (Vf h f n).1 = 7 := by
  intro n v
  rcases Classical.em (∃ w, 0 ≤ w ∧ w < 3 ∧ Oc (sbr h 71 f) 0 (llr h 71 f) w ∧ n = mu0 w) with q | q
  · show (nV V0x mu0 (Oc (sbr h 71 f) 0 (llr h 71 f)) (7, 0) n).1 = 7
    rw [nV_in q]
  · have v : 7 ≤ (nV V0x mu0 (Oc (sbr h 71 f) 0 (llr h 71 f)) (7, 0) n).1 := v
    rw [nV_out q] at v
    exact absurd v (by show ¬ ((7 : Int) ≤ 0); omega)
theorem b_WT {h : HP} {A f r w' : Int} {S' : Sx} {V' : Vx} {t : Tm} (bc : BC h A) (G : gd h A 0 (ppr h 71 f) (h A 2) r w') (J : jj h A 0 (Gf h f) (ppr h 71 f) (some (tf h f)) S0x (Vf h f) 0 0 S' V' t) (α : Int → Tm) : wt h A 0 (exG (fun _ => tI) 0 ((sgT (sbr h 71 f) (llr h 71 f) α).take (ppr h 71 f).toNat)) (ppr h 71 f) (sgTI (sbr h 71 f) (llr h 71 f) α (ppr h 71 f)) := by
  have bn := bc.2.1
  have hG : ∀ i, i < ppr h 71 f → VTS S0x (Vf h f) (Gf h f i) := by
    intro i il
    show VTS S0x (Vf h f) (exG (fun _ => tI) 0 (sgF (sbr h) (llr h) (ppr h) 71 f mu0) i)
    unfold exG
    split
    · rw [List.getD_eq_getElem?_getD]
      cases hh : (sgF (sbr h) (llr h) (ppr h) 71 f mu0)[(i - 0).toNat]? with
      | none => exact VTS_c (fun _ => rfl)
      | some t => exact sgF_VTS (p := (7, 0)) (by show (7 : Int) ≤ 7; omega) _ t hh
    · exact VTS_c (fun _ => rfl)
  obtain ⟨R, _, g1, w⟩ := jw_all bc (h A 2 + 1).toNat (some (tf h f)) 0 (ppr h 71 f) (h A 2) r w' (Gf h f) S0x (Vf h f) 0 S' V' t (by omega) (by omega) G J (IV_0 Vf_7) hG (sgR_VTS (p := (7, 0)) (by show (7 : Int) ≤ 7; omega))
  have e := g1 _ rfl
  subst e
  obtain ⟨θ, s, ag⟩ := R.2.2.2 (asL (fun _ => tI) mu0 α) trivial
  have q := w θ s
  have el : sgT (sbr h 71 f) (llr h 71 f) (fun v => θ (mu0 v)) = sgT (sbr h 71 f) (llr h 71 f) α := by
    refine sgT_cg (fun v v0 v1 oc => ?_)
    have vin : nV V0x mu0 (Oc (sbr h 71 f) 0 (llr h 71 f)) (7, 0) (mu0 v) = (7, 0) := nV_in ⟨v, v0, v1, oc, rfl⟩
    have := ag (mu0 v) (Or.inl (by show (nV V0x mu0 (Oc (sbr h 71 f) 0 (llr h 71 f)) (7, 0) (mu0 v)).1 = 7; rw [vin]))
    rw [this]
    exact asL_v FrN_0 v v0 v1
  have eI : sb θ (tf h f) = sgTI (sbr h 71 f) (llr h 71 f) α (ppr h 71 f) := by
    show sb θ (sgI (sbr h 71 f) (llr h 71 f) mu0 (ppr h 71 f)) = _
    rw [sgI_sb]
    unfold sgTI
    rw [el]
  rw [eI, exG_sb, sgF_map, el] at q
  exact q
end
