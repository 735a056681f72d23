section
/-! what is checked has ground types -/
def wt (h0 : HP) (A : Int) : WX := WT (bA (h0 (A + 1)) (h0 A 2)) (h0 (A + 2)) (h0 36 4) (sbr h0) (llr h0) (ppr h0) (fun j => h0 (41 + 2 * j) 4)
def goV (S : Sx) (V : Vx) : Option Tm → Prop
  | none => True
  | some g => VTS S V g
def JWg (h0 : HP) (A : Int) (N : Nat) (go : Option Tm) : Prop := ∀ (p sc w r w' : Int) (Γ : Int → Tm) (S : Sx) (V : Vx) (D : Int) (S' : Sx) (V' : Vx) (t : Tm), 0 ≤ p → h0 A 2 + 1 - p ≤ N → gd h0 A p sc w r w' → jj h0 A p Γ sc go S V D 0 S' V' t → IV S V D → (∀ i, i < sc → VTS S V (Γ i)) → goV S V go → RS S V D S' V' ∧ VTS S' V' t ∧ (∀ g, go = some g → t = g) ∧ ∀ θ, S' θ → wt h0 A p (fun i => sb θ (Γ i)) sc (sb θ t)
theorem th0 {X : JX} {p : Int} {Γ : Int → Tm} {sc : Int} {go : Option Tm} {S : Sx} {V : Vx} {D : Int} {K : Sx → Vx → Tm → Prop} (H : thJ X p Γ sc go S V D 0 K) : ∃ S1 V1 t1, X p Γ sc go S V D 0 S1 V1 t1 ∧ K S1 V1 t1 := by
  obtain ⟨r1, S1, V1, t1, x, ⟨a, b⟩ | ⟨a, b⟩⟩ := H
  · exact absurd b.symm a
  · rw [a] at x; exact ⟨S1, V1, t1, x, b⟩
theorem un0 {p : Int} {S : Sx} {V : Vx} {D : Int} {s t : Tm} {K : Sx → Prop} (p0 : 0 ≤ p) (H : unJ p S V D s t 0 K) : (¬ FixS S (Snd S s t) V D ∧ Ext1 S (Snd S s t) V D) ∧ K (Snd S s t) := by
  rcases H with ⟨_, e⟩ | ⟨_, _, e⟩ | ⟨_, a, b⟩
  · omega
  · omega
  · exact ⟨a, b⟩
theorem lfT_sb {c : Int} {Γ : Int → Tm} {θ : As} : sb θ (lfT c Γ) = lfT c (fun i => sb θ (Γ i)) := by
  unfold lfT
  split
  · rfl
  · split <;> rfl
theorem cllT_sb {fm : Int → Int} {c j : Int} {t : Tm} {θ : As} : sb θ (cllT fm c j t) = cllT fm c j (sb θ t) := by
  unfold cllT
  split <;> rfl
theorem VTS_c {S : Sx} {V : Vx} {t : Tm} (h : ∀ θ, sb θ t = t) : VTS S V t := fun θ θ' _ _ _ => by rw [h, h]
theorem VTS_P {S : Sx} {V : Vx} {a b : Tm} (h : VTS S V (tP a b)) : VTS S V a ∧ VTS S V b := by
  refine ⟨fun θ θ' p q r => ?_, fun θ θ' p q r => ?_⟩
  · have := h θ θ' p q r
    rw [sb_P, sb_P] at this
    exact (Std.Format.append.inj this).1
  · have := h θ θ' p q r
    rw [sb_P, sb_P] at this
    exact (Std.Format.append.inj this).2
theorem VTS_F {S : Sx} {V : Vx} {k : Int} {a : Tm} (h : VTS S V (tF k a)) : VTS S V a := fun θ θ' p q r => by
  have := h θ θ' p q r
  rw [sb_F, sb_F] at this
  exact (Std.Format.nest.inj this).2
theorem sgF_map {sb' : Int → Int → Int → Int} {ll pp : Int → Int → Int} {k j : Int} {mu : Int → Nat} {θ : As} : (sgF sb' ll pp k j mu).map (sb θ) = (sgT (sb' k j) (ll k j) (fun v => θ (mu v))).take (pp k j).toNat := by
  show ((sgL (sb' k j) (ll k j) mu).take (pp k j).toNat).map (sb θ) = _
  rw [List.map_take, sgL_sb]
theorem sgF_VTS {S : Sx} {V : Vx} {sb' : Int → Int → Int → Int} {ll pp : Int → Int → Int} {k j : Int} {mu : Int → Nat} {p : Int × Int} (p7 : 7 ≤ p.1) (i : Nat) (t : Tm) (e : (sgF sb' ll pp k j mu)[i]? = some t) : VTS S (nV V mu (Oc (sb' k j) 0 (ll k j)) p) t := by
  intro θ θ' _ _ a
  have q := sgL_VTS (S := S) p7 a
  have e1 : ((sgF sb' ll pp k j mu).map (sb θ))[i]? = some (sb θ t) := by rw [List.getElem?_map, e]; rfl
  have e2 : ((sgF sb' ll pp k j mu).map (sb θ'))[i]? = some (sb θ' t) := by rw [List.getElem?_map, e]; rfl
  rw [sgF_map] at e1 e2
  rw [q, e2] at e1
  exact (Option.some.inj e1).symm
theorem sgR_VTS {S : Sx} {V : Vx} {b : Int → Int} {n c : Int} {mu : Int → Nat} {p : Int × Int} (p7 : 7 ≤ p.1) : VTS S (nV V mu (Oc b 0 n) p) (sgI b n mu c) := by
  intro θ θ' _ _ a
  have q := sgL_VTS (S := S) p7 a
  rw [sgI_sb, sgI_sb]
  unfold sgTI
  rw [q]
/-- the parts of a construction or a call -/
theorem kiW_of {h0 : HP} {A : Int} {N : Nat} {Γ : Int → Tm} {sc D r w' : Int} {K : Sx → Vx → Prop} (bc : BC h0 A) (ih : ∀ go, JWg h0 A N go) : ∀ (l : List Tm) (q wq : Int) (S : Sx) (V : Vx), 0 ≤ q → h0 A 2 + 1 - q ≤ N → GC (gd h0 A) l.length q sc wq r w' → kiJ (jj h0 A) (h0 (A + 2)) Γ sc D 0 l q S V K → IV S V D → (∀ i, i < sc → VTS S V (Γ i)) → (∀ (i : Nat) t, l[i]? = some t → VTS S V t) → ∃ S2 V2, K S2 V2 ∧ RS S V D S2 V2 ∧ ∀ θ, S2 θ → kiW (wt h0 A) (h0 (A + 2)) (fun i => sb θ (Γ i)) sc (l.map (sb θ)) q := by
  intro l
  induction l with
  | nil => intro q wq S V _ _ _ J I _ _; exact ⟨S, V, J, RS_refl I, fun _ _ => trivial⟩
  | cons t l ihl =>
    intro q wq S V q0 hN G J I hΓ ht
    obtain ⟨r1, v1, G1, G2⟩ := G
    have lw := bc_w bc _ _ _ _ _ q0 G1
    have ee : h0 (A + 2) q = r1 := (GD_e G1).2
    obtain ⟨S1, V1, t1, j1, J2⟩ := th0 J
    obtain ⟨R1, T1, g1, w1⟩ := ih (some t) q sc wq r1 v1 Γ S V D S1 V1 t1 q0 hN G1 j1 I hΓ (ht 0 t rfl)
    have e1 := g1 t rfl
    subst e1
    rw [ee] at J2
    obtain ⟨S2, V2, k2, R2, w2⟩ := ihl r1 v1 S1 V1 (by omega) (by omega) G2 J2 R1.2.1 (fun i il => VTS_RS (hΓ i il) R1) (fun i u e => VTS_RS (ht (i + 1) u e) R1)
    refine ⟨S2, V2, k2, RS_trans R1 R2, fun θ s => ⟨w1 θ (R2.1 θ s), ?_⟩⟩
    rw [ee]
    exact w2 θ s
/-- the cases of a match -/
theorem caW_of {h0 : HP} {A : Int} {N : Nat} {p sc D k r w' : Int} {Γ : Int → Tm} {g a : Tm} {S : Sx} {V : Vx} (bc : BC h0 A) (ih : ∀ go, JWg h0 A N go) (p0 : 0 ≤ p) (hN : h0 A 2 - p ≤ N) (I : IV S V D) (hΓ : ∀ i, i < sc → VTS S V (Γ i)) (hg : VTS S V g) (ha : VTS S V a) : ∀ (fg f : Nat) (q wq : Int) (seen : Int → Prop), p + 1 ≤ q → GK (bA (h0 (A + 1)) (h0 A 2)) (nPr h0) (ppr h0) (llr h0) (gd h0 A) fg q sc wq r w' → cj h0 A p Γ sc S V D g k a 0 f q seen → ∀ θ, S θ → caW (bA (h0 (A + 1)) (h0 A 2)) (h0 (A + 2)) (h0 36 4) (sbr h0) (llr h0) (ppr h0) (fun j => h0 (41 + 2 * j) 4) (wt h0 A) (fun i => sb θ (Γ i)) sc k (sb θ a) (sb θ g) f q seen := by
  obtain ⟨dp, cl, vd⟩ := I
  -- values for the letters of a constructor
  have lift : ∀ (mu : Int → Nat) (j : Int) (α : Int → Tm) (θ : As), FrN V mu → S θ → sgTI (sbr h0 67 j) (llr h0 67 j) α (ppr h0 67 j) = sb θ a → Snd S (sgR' (sbr h0) (llr h0) (ppr h0) 67 j mu) a (asL θ mu α) := by
    intro mu j α θ F s e
    have s2 : S (asL θ mu α) := dp _ _ (asL_o F) s
    refine ⟨s2, ?_⟩
    rw [← ha θ _ s s2 (asL_o F), ← e]
    show sb (asL θ mu α) (sgI (sbr h0 67 j) (llr h0 67 j) mu (ppr h0 67 j)) = _
    rw [sgI_sb]
    exact sgTI_cg (fun v v0 v1 _ => asL_v F v v0 v1)
  intro fg
  induction fg with
  | zero => intro f q wq seen _ G; exact absurd G (fun z => z)
  | succ fg ihg =>
    intro f q wq seen pq G J θ sθ
    cases f with
    | zero => exact absurd J (fun z => z)
    | succ f =>
    rcases J with ⟨b, mu, F, hz⟩ | ⟨nb, hz⟩
    · refine Or.inl ⟨b, fun j α j0 j1 jf js e => ?_⟩
      rcases hz with ⟨_, z⟩ | ⟨no, _⟩
      · omega
      · exact no ⟨j, ⟨j0, j1⟩, jf, js, _, lift mu j α θ F sθ e⟩
    · refine Or.inr ⟨nb, ?_⟩
      rcases hz with ⟨_, z⟩ | ⟨⟨ef, ns⟩, mu, F, ⟨_, z⟩ | ⟨⟨sa, ca⟩, J2⟩⟩
      · omega
      · omega
      rcases G with ⟨b, _⟩ | ⟨_, ok, hl, r1, u1, G1, rest⟩
      · exact absurd b nb
      have lw := bc_w bc _ _ _ _ _ (by omega) G1
      have ee : h0 (A + 2) (q + 1) = r1 := (GD_e G1).2
      obtain ⟨S3, V3, t3, j3, J3⟩ := th0 J2
      refine ⟨fun α e => ?_, ?_⟩
      · have vx := nV_VX (P := Oc (sbr h0 67 (bA (h0 (A + 1)) (h0 A 2) q - 48)) 0 (llr h0 67 (bA (h0 (A + 1)) (h0 A 2) q - 48))) (p := (7, D + 1)) F
        have vd2 : ∀ n, 7 ≤ (nV V mu (Oc (sbr h0 67 (bA (h0 (A + 1)) (h0 A 2) q - 48)) 0 (llr h0 67 (bA (h0 (A + 1)) (h0 A 2) q - 48))) (7, D + 1) n).1 → PVn (nV V mu (Oc (sbr h0 67 (bA (h0 (A + 1)) (h0 A 2) q - 48)) 0 (llr h0 67 (bA (h0 (A + 1)) (h0 A 2) q - 48))) (7, D + 1)) (D + 1) n := by
          intro n v
          rcases Classical.em (∃ w, 0 ≤ w ∧ w < 3 ∧ Oc (sbr h0 67 (bA (h0 (A + 1)) (h0 A 2) q - 48)) 0 (llr h0 67 (bA (h0 (A + 1)) (h0 A 2) q - 48)) w ∧ n = mu w) with hh | hh
          · left; rw [nV_in hh]
          · rw [nV_out hh] at v
            unfold PVn
            rw [nV_out hh]
            rcases vd n v with x | ⟨x, y⟩
            · exact Or.inl x
            · exact Or.inr ⟨x, by omega⟩
        have I2 : IV (Snd S (sgR' (sbr h0) (llr h0) (ppr h0) 67 (bA (h0 (A + 1)) (h0 A 2) q - 48) mu) a) (nV V mu (Oc (sbr h0 67 (bA (h0 (A + 1)) (h0 A 2) q - 48)) 0 (llr h0 67 (bA (h0 (A + 1)) (h0 A 2) q - 48))) (7, D + 1)) (D + 1) := by
          refine ⟨fun θ1 θ2 ag s => ?_, fun θ1 θ2 s1 s2 ag n p => ca θ1 θ2 s1 s2 (fun n v u => ag n (vd2 n v) u) n (PVn_7 p), fun n v => ?_⟩
          · have s2 := dp θ1 θ2 (AgV_VX vx ag) s.1
            refine ⟨s2, ?_⟩
            rw [← ha θ1 θ2 s.1 s2 (AgV_VX vx ag), ← s.2]
            exact (sgR_VTS (S := fun _ => True) (V := V) (p := (7, D + 1)) (by show (7 : Int) ≤ 7; omega) θ1 θ2 trivial trivial ag).symm
          · rcases vd2 n v with x | ⟨x, y⟩
            · exact Or.inl x
            · exact Or.inr ⟨x, by omega⟩
        have hΓ2 : ∀ i, i < sc + ppr h0 67 (bA (h0 (A + 1)) (h0 A 2) q - 48) → VTS (Snd S (sgR' (sbr h0) (llr h0) (ppr h0) 67 (bA (h0 (A + 1)) (h0 A 2) q - 48) mu) a) (nV V mu (Oc (sbr h0 67 (bA (h0 (A + 1)) (h0 A 2) q - 48)) 0 (llr h0 67 (bA (h0 (A + 1)) (h0 A 2) q - 48))) (7, D + 1)) (exG Γ sc (sgF (sbr h0) (llr h0) (ppr h0) 67 (bA (h0 (A + 1)) (h0 A 2) q - 48) mu) i) := by
          intro i il
          by_cases c : i < sc
          · rw [exG_lo c]
            exact VTS_mono (hΓ i c) (fun _ z => z.1) vx
          · unfold exG
            rw [if_pos (by omega), List.getD_eq_getElem?_getD]
            cases hh : (sgF (sbr h0) (llr h0) (ppr h0) 67 (bA (h0 (A + 1)) (h0 A 2) q - 48) mu)[(i - sc).toNat]? with
            | none => exact VTS_c (fun _ => rfl)
            | some t => exact sgF_VTS (p := (7, D + 1)) (by show (7 : Int) ≤ 7; omega) _ t hh
        obtain ⟨R3, _, g3, w3⟩ := ih (some g) (q + 1) _ _ r1 u1 _ _ _ (D + 1) S3 V3 t3 (by omega) (by omega) G1 j3 I2 hΓ2 (VTS_mono hg (fun _ z => z.1) vx)
        have e3 := g3 g rfl
        subst e3
        have s2 := lift mu _ α θ F sθ e
        obtain ⟨θ3, s3, ag3⟩ := R3.2.2.2 _ s2
        have w := w3 θ3 s3
        have agV : AgV (nV V mu (Oc (sbr h0 67 (bA (h0 (A + 1)) (h0 A 2) q - 48)) 0 (llr h0 67 (bA (h0 (A + 1)) (h0 A 2) q - 48))) (7, D + 1)) θ3 (asL θ mu α) := fun n v => ag3 n (vd2 n v)
        have ag1 : AgV V θ3 θ := fun n v => (AgV_VX vx agV n v).trans (asL_o F n v).symm
        have s31 : S θ3 := (R3.1 θ3 s3).1
        rw [exG_sb, sgF_map, sgL_VTS (S := S) (by show (7 : Int) ≤ 7; omega) agV, sgT_cg (α' := α) (fun v v0 v1 _ => asL_v F v v0 v1), hg θ3 θ s31 sθ ag1] at w
        have eG : exG (fun i => sb θ3 (Γ i)) sc ((sgT (sbr h0 67 (bA (h0 (A + 1)) (h0 A 2) q - 48)) (llr h0 67 (bA (h0 (A + 1)) (h0 A 2) q - 48)) α).take (ppr h0 67 (bA (h0 (A + 1)) (h0 A 2) q - 48)).toNat) = exG (fun i => sb θ (Γ i)) sc ((sgT (sbr h0 67 (bA (h0 (A + 1)) (h0 A 2) q - 48)) (llr h0 67 (bA (h0 (A + 1)) (h0 A 2) q - 48)) α).take (ppr h0 67 (bA (h0 (A + 1)) (h0 A 2) q - 48)).toNat) := by
          funext i
          unfold exG
          split
          · rfl
          · exact hΓ i (by omega) θ3 θ s31 sθ ag1
        rw [eG] at w
        exact w
      · rw [ee]
        rw [ee] at J3
        exact ihg f r1 u1 _ (by omega) rest J3 θ sθ
end
