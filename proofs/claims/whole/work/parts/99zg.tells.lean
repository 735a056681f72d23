section
/-! the reference: a heading's types -/
theorem c_typeOf {d : Nat} {h : HP} {b : Int → Int} {θ : Int → Tm} {off p q : Int} {x : Tm} {tm : Int → Tm} {S : Sx} {V : Vx} {Q : PQ} (hd : 8 < d) (M : MV h tm S V) (h18 : 0 ≤ h 135 18 ∧ h 135 18 ≤ 99) (off0 : 0 ≤ off) (p0 : 0 ≤ p) (pq : p ≤ q) (q24 : q ≤ 24) (off1 : off ≤ 360) (hb : ∀ i, 0 ≤ i → i < q → h 151 (off + i) = b i) (gds : ∀ i, p ≤ i → i < q → Gd b θ [] q i) (hr : h 135 15 + (q - p) ≤ 1000) (ex : skT b θ (q - p).toNat p [] = [x])
    (hv : ∀ v, 0 ≤ v → v < 3 → (∃ i, p ≤ i ∧ i < q ∧ b i = 117 + v) → h 135 14 ≤ h 159 v ∧ h 159 v < h 135 15 ∧ tm (h 159 v) = θ v)
    (H : ∀ (r : Int) (g : HP) (tm' : Int → Tm), MV g tm' S V → XM h tm g tm' → h 135 14 ≤ r → r < g 135 15 → tm' r = x → g 135 15 ≤ h 135 15 + (q - p) → (∀ a j, a < 135 ∨ a = 136 ∨ (149 < a ∧ a ≠ 160) → g a j = h a j) → (∀ j, j < 14 ∨ 19 < j → g 135 j = h 135 j) → Q r g) :
    Go d M_Mo_typeOf 0 [(22, 135), (0, off + p), (0, off + q), (2, 0), (2, 0), (2, 0)] [] h Q := by
  refine N_Mo_typeOf_0 ⟨by unfold r32; omega, ?_⟩
  have G := c_typeOf7 (Q := Q) hd (MV_b M).1 h18 off0 p0 q24 off1 hb gds hr hv (fun g I => by
    obtain ⟨tm', M', X, St, nb, o, o5⟩ := I
    rw [ex] at St
    have e14 : g 135 14 = h 135 14 := X.1.1.1
    obtain ⟨⟨s1, s2, s3⟩, _⟩ := St
    have s1 : g 135 14 ≤ g 160 0 := s1
    have s2 : g 160 0 < g 135 15 := s2
    have s3 : tm' (g 160 0) = x := s3
    exact H (g 160 0) g tm' M' X (by omega) s2 s3 nb o o5) (q - p).toNat h (2, 0) 0 (by omega) ⟨tm, M, XM_refl h tm, by rw [show p + ((q - p).toNat : Int) = q by omega, show (q - q).toNat = 0 by omega]; exact trivial, by omega, fun _ _ _ => rfl, fun _ _ => rfl⟩ (by rw [show p + ((q - p).toNat : Int) = q by omega, show (q - q).toNat = 0 by omega]; rfl)
  rw [show p + ((q - p).toNat : Int) = q by omega] at G
  exact G
/-- the variables of a heading's first i bytes -/
def TvI (h g : HP) (tm : Int → Tm) (S : Sx) (V : Vx) (mu : Int → Nat) (kd : Int) (b : Int → Int) (i : Int) (tm' : Int → Tm) : Prop :=
  MV g tm' S (nV V mu (Oc b 0 i) (kd, h 135 18)) ∧ XM h tm g tm' ∧ (∀ v, 0 ≤ v → v < 3 → (Oc b 0 i v → h 135 14 ≤ g 159 v ∧ g 159 v < g 135 15 ∧ tm' (g 159 v) = tV (mu v)) ∧ (¬ Oc b 0 i v → g 159 v = -1)) ∧ g 135 15 ≤ h 135 15 + i ∧ (∀ a j, a < 135 ∨ a = 136 ∨ (149 < a ∧ a ≠ 159) → g a j = h a j) ∧ (∀ j, j < 14 ∨ 19 < j → g 135 j = h 135 j)
theorem Oc_s {b : Int → Int} {n v : Int} (n0 : 0 ≤ n) (w : Int) (h : b n = 117 + v) : Oc b 0 (n + 1) w ↔ (Oc b 0 n w ∨ w = v) := by
  constructor
  · rintro ⟨i, i0, i1, i2⟩
    by_cases z : i = n
    · rw [z, h] at i2; exact Or.inr (by omega)
    · exact Or.inl ⟨i, i0, by omega, i2⟩
  · rintro (⟨i, i0, i1, i2⟩ | z)
    · exact ⟨i, i0, by omega, i2⟩
    · exact ⟨n, n0, by omega, by rw [h, z]⟩
theorem Oc_so {b : Int → Int} {n v : Int} (h : b n ≠ 117 + v) : Oc b 0 (n + 1) v ↔ Oc b 0 n v := by
  constructor
  · rintro ⟨i, i0, i1, i2⟩
    have : i ≠ n := fun z => h (by rw [← z]; exact i2)
    exact ⟨i, i0, by omega, i2⟩
  · rintro ⟨i, i0, i1, i2⟩
    exact ⟨i, i0, by omega, i2⟩
theorem c_tells41 {d : Nat} {h : HP} {b : Int → Int} {s n kd : Int} {mu : Int → Nat} {tm : Int → Tm} {S : Sx} {V : Vx} {Q : PQ} (hd : 8 < d) (F : FrN V mu) (hk : kd = 7 ∨ kd = 8) (h18 : 0 ≤ h 135 18 ∧ h 135 18 ≤ 99) (h14 : 0 ≤ h 135 14) (s0 : 0 ≤ s) (s1 : s < 16) (n24 : n ≤ 24) (hb : ∀ i, 0 ≤ i → i < n → h 151 (24 * s + i) = b i) (hr : h 135 15 + n ≤ 1000) (b127 : ∀ i, 0 ≤ i → i < n → -1000 ≤ b i ∧ b i ≤ 1000)
    (H : ∀ g tm', TvI h g tm S V mu kd b n tm' → Go d M_Mo_tells 110 [(22, 135), (0, s), (0, kd), (0, 24 * s), (0, 24 * s + n), (0, 0), (0, 24 * s), (0, 24 * s)] [] g Q) : ∀ (r : Nat) (i : Int) (g : HP) (tm' : Int → Tm) (w6 : AV), 0 ≤ i → i + r = n → TvI h g tm S V mu kd b i tm' → Go d M_Mo_tells 41 [(22, 135), (0, s), (0, kd), (0, 24 * s), (0, 24 * s + n), (0, 24 * s + i), w6, (2, 0)] [] g Q := by
  intro r
  induction r with
  | zero =>
    intro i g tm' w6 i0 ir I
    have : i = n := by omega
    subst this
    exact N_Mo_tells_41 ⟨fun _ => H g tm' I, fun z => by omega⟩
  | succ r ih =>
    intro i g tm' w6 i0 ir I
    have I0 := I
    obtain ⟨M, X, Vr, nb, o, o5⟩ := I
    have gb : g 151 (24 * s + i) = b i := by rw [o 151 _ (by omega)]; exact hb i i0 (by omega)
    have bb := b127 i i0 (by omega)
    have e14 : g 135 14 = h 135 14 := X.1.1.1
    have e18 : g 135 18 = h 135 18 := X.1.1.2.2.1
    have mn := X.1.2.1
    have nx : ∀ (g4 : HP) (tm2 : Int → Tm) (w : AV), TvI h g4 tm S V mu kd b (i + 1) tm2 → r32 (24 * s + i + 1) ∧ Go d M_Mo_tells 41 [(22, 135), (0, s), (0, kd), (0, 24 * s), (0, 24 * s + n), (0, 24 * s + i + 1), w, (2, 0)] [] g4 Q := by
      intro g4 tm2 w I4
      rw [show 24 * s + i + 1 = 24 * s + (i + 1) by omega]
      exact ⟨by unfold r32; omega, ih (i + 1) g4 tm2 w (by omega) (by omega) I4⟩
    have same : (∀ v, 0 ≤ v → v < 3 → (Oc b 0 (i + 1) v ↔ Oc b 0 i v)) → TvI h g tm S V mu kd b (i + 1) tm' := by
      intro k
      refine ⟨?_, X, fun v v0 v1 => ⟨fun z => (Vr v v0 v1).1 ((k v v0 v1).mp z), fun z => (Vr v v0 v1).2 (fun u => z ((k v v0 v1).mpr u))⟩, by omega, o, o5⟩
      rw [nV_congr (P' := Oc b 0 i) k]; exact M
    refine N_Mo_tells_41 ⟨fun z => by omega, fun _ => ⟨⟨by omega, by omega⟩, ?_⟩⟩
    rw [gb]
    refine ⟨by unfold r32; omega, by omega, c_in (fun a c => ⟨fun z => absurd z (by decide), fun _ => ⟨⟨a, by omega⟩, ?_⟩⟩) (fun a => ⟨fun _ => nx g tm' _ (same (fun v v0 v1 => Oc_so (by omega))), fun z => absurd rfl z⟩)⟩
    obtain ⟨v, hv⟩ : ∃ v, v = b i - 117 := ⟨_, rfl⟩
    rw [← hv] at a c ⊢
    have ev : b i = 117 + v := by omega
    have v1 : v < 3 := by omega
    have oc := fun w => Oc_s (b := b) i0 w ev
    obtain ⟨va, vb⟩ := Vr v a v1
    refine ⟨fun z => nx g tm' _ (same (fun w w0 w1 => ?_)), fun z => ⟨by omega, ?_⟩⟩
    · have hv2 : Oc b 0 i v := Classical.byContradiction (fun u => z (vb u))
      constructor
      · intro u
        rcases (oc w).mp u with u | u
        · exact u
        · rw [u]; exact hv2
      · exact fun u => (oc w).mpr (Or.inl u)
    · have nv : ¬ Oc b 0 i v := fun u => by have := va u; omega
      refine c_mkN (m := mu v) (by omega) M hk (by omega) (by omega) (nV_fr F a v1 nv) (fun x g3 tm2 M2 X2 O2 x0 x1 xt n2 => ⟨⟨a, v1⟩, fun g4 e4 => nx g4 tm2 _ ?_⟩)
      have q4 : ∀ y j, y ≠ 159 → g4 y j = g3 y j := fun y j u => by rw [e4, up2_nc u]
      have lc : LcM g3 g4 := LcM_of (fun y j u => q4 y j (by omega))
      have m2 := X2.1.2.1
      have f15 : g4 135 15 = g3 135 15 := q4 135 15 (by omega)
      refine ⟨?_, XM_trans X (XM_loc (LcM_refl g) lc X2), fun w w0 w1 => ?_, by omega, fun y j u => by rw [q4 y j (by omega), O2.1 y j (by omega), o y j u], fun j u => by rw [q4 135 j (by omega), O2.2 j u, o5 j u]⟩
      · rw [e18, nV_up (P' := Oc b 0 (i + 1)) a v1 (fun w w0 w1 => oc w)] at M2
        exact MV_loc lc M2
      · by_cases y : w = v
        · subst y
          rw [show g4 159 w = x by rw [e4, up2_eq], f15]
          exact ⟨fun _ => ⟨by omega, x1, xt⟩, fun u => absurd ((oc w).mpr (Or.inr rfl)) u⟩
        · have q2 : g4 159 w = g 159 w := by rw [e4, up2_ni y, O2.1 159 w (by omega)]
          obtain ⟨wa, wb⟩ := Vr w w0 w1
          refine ⟨fun u => ?_, fun u => by rw [q2]; exact wb (fun u2 => u ((oc w).mpr (Or.inl u2)))⟩
          rcases (oc w).mp u with u | u
          · obtain ⟨u1, u2, u3⟩ := wa u
            rw [q2, f15]
            exact ⟨u1, by omega, by rw [X2.2 _ (by omega) u2]; exact u3⟩
          · exact absurd u y
theorem rdS_ge {b : Int → Int} {n m : Int} : ∀ (j : Nat) (p : Int), 0 ≤ p → 0 ≤ rdS b n m j p → 3 - (j : Int) ≤ rdS b n m j p := by
  intro j
  induction j with
  | zero =>
    intro p p0 h
    by_cases q : p < m ∧ b p = 58
    · rw [rdS_c q.1 q.2] at h ⊢; have := rdE_n h; omega
    · rw [rdS_z q] at h; omega
  | succ j ih =>
    intro p p0 h
    by_cases q : p < m ∧ b p = 58
    · rw [rdS_c q.1 q.2] at h ⊢; have := rdE_n h; omega
    · rw [rdS_s q] at h ⊢
      generalize rdT b (m - p).toNat 1 p = t at h
      by_cases c0 : t < 0
      · rw [if_pos c0] at h; omega
      · rw [if_neg c0] at h ⊢
        by_cases y : t < m ∧ b t = 44
        · rw [if_pos y] at h ⊢; have := ih _ (by omega) h; omega
        · rw [if_neg y] at h; omega
theorem rdS_rng {b : Int → Int} {n : Int} : ∀ (j : Nat) (p : Int), 0 ≤ p → p ≤ n → 0 ≤ rdS b n n j p → ∀ i, p ≤ i → i < n → 44 ≤ b i ∧ b i ≤ 119 := by
  have E : ∀ (c p : Int), 0 ≤ p → p < n → b p = 58 → 0 ≤ rdE b n n c p → ∀ i, p ≤ i → i < n → 44 ≤ b i ∧ b i ≤ 119 := by
    intro c p p0 p1 cc h i i0 i1
    obtain ⟨e1, e2, e3⟩ := rdE_n h
    obtain ⟨x, H⟩ := rdT_one (b := b) (θ := fun _ => tI) (r := (n - (p + 1)).toNat) (p := p + 1) (by omega) (by rw [e1]; exact e2)
    rw [e1] at H
    by_cases z : i = p
    · rw [z]; omega
    · have := ((H []).2 i (by omega) i1).2.2; omega
  intro j
  induction j with
  | zero =>
    intro p p0 p1 h
    by_cases q : p < n ∧ b p = 58
    · rw [rdS_c q.1 q.2] at h; exact E _ p p0 q.1 q.2 h
    · rw [rdS_z q] at h; omega
  | succ j ih =>
    intro p p0 p1 h
    by_cases q : p < n ∧ b p = 58
    · rw [rdS_c q.1 q.2] at h; exact E _ p p0 q.1 q.2 h
    · rw [rdS_s q] at h
      have l := rdT_le (b := b) _ (n - p).toNat 1 p (Nat.le_refl _) p0
      have on := rdT_one (b := b) (θ := fun _ => tI) (r := (n - p).toNat) (p := p) p0
      generalize rdT b (n - p).toNat 1 p = t at l on h
      by_cases c0 : t < 0
      · rw [if_pos c0] at h; omega
      · rw [if_neg c0] at h
        by_cases y : t < n ∧ b t = 44
        · rw [if_pos y] at h
          obtain ⟨x, H⟩ := on (by omega)
          intro i i0 i1
          rcases Int.lt_or_le i t with z | z
          · have := ((H []).2 i i0 z).2.2; omega
          · by_cases z2 : i = t
            · rw [z2]; omega
            · exact ih (t + 1) (by omega) (by omega) h i (by omega) i1
        · rw [if_neg y] at h; omega
/-- a node that stands for a term -/
abbrev RpM (g : HP) (tm : Int → Tm) (x : Int) (t : Tm) : Prop := g 135 14 ≤ x ∧ x < g 135 15 ∧ tm x = t
theorem RpM_mono {h g : HP} {tm tm' : Int → Tm} {x : Int} {t : Tm} (X : XM h tm g tm') (r : RpM h tm x t) : RpM g tm' x t := by
  obtain ⟨a, b, c⟩ := r
  have e14 : g 135 14 = h 135 14 := X.1.1.1
  have mn := X.1.2.1
  exact ⟨by omega, by omega, by rw [X.2 x a b]; exact c⟩
/-- behind all: the parts at 0, 1, .., what stands behind the colon at 3 -/
def TlE (g : HP) (tm : Int → Tm) (j : Int) (L : List Tm) : Prop := ∀ (i : Nat) (t : Tm), L[i]? = some t → (i + 1 < L.length → RpM g tm (g 158 (j + i)) t) ∧ (i + 1 = L.length → RpM g tm (g 158 3) t)
theorem c_tells110 {d : Nat} {h : HP} {b : Int → Int} {s n kd : Int} {θ : Int → Tm} {tm : Int → Tm} {S : Sx} {V : Vx} (hd : 9 < d) (h18 : 0 ≤ h 135 18 ∧ h 135 18 ≤ 99) (s0 : 0 ≤ s) (s1 : s < 16) (n0 : 0 ≤ n) (n24 : n ≤ 24) (hb : ∀ i, 0 ≤ i → i < n → h 151 (24 * s + i) = b i) (hr : h 135 15 + n ≤ 1000)
    (hv : ∀ v, 0 ≤ v → v < 3 → (∃ i, 0 ≤ i ∧ i < n ∧ b i = 117 + v) → RpM h tm (h 159 v) (θ v)) : ∀ (j : Nat) (p : Int) (g : HP) (tm' : Int → Tm) (Q : PQ), j ≤ 3 → 0 ≤ p → p ≤ n → 0 ≤ rdS b n n j p → MV g tm' S V → XM h tm g tm' → g 135 15 ≤ h 135 15 + p → (∀ a i, a < 135 ∨ a = 136 ∨ (149 < a ∧ a ≠ 158 ∧ a ≠ 160) → g a i = h a i) → (∀ i, i < 14 ∨ 19 < i → g 135 i = h 135 i) →
    (∀ (k : HP) (tm2 : Int → Tm), MV k tm2 S V → XM h tm k tm2 → XM g tm' k tm2 → (∀ i, i < 3 - (j : Int) → k 158 i = g 158 i) → TlE k tm2 (3 - j) (skT b θ (n - p).toNat p []) → k 135 15 ≤ h 135 15 + n → (∀ a i, a < 135 ∨ a = 136 ∨ (149 < a ∧ a ≠ 158 ∧ a ≠ 160) → k a i = h a i) → (∀ i, i < 14 ∨ 19 < i → k 135 i = h 135 i) → Q 0 k) →
    Go d M_Mo_tells 110 [(22, 135), (0, s), (0, kd), (0, 24 * s), (0, 24 * s + n), (0, 3 - j), (0, 24 * s + p), (0, 24 * s + p)] [] g Q := by
  -- bytes of a type are passed over
  have pass : ∀ (g : HP) (Q : PQ) (c st i t : Int), 0 ≤ i → i ≤ t → t ≤ n → (∀ a i, a < 135 ∨ a = 136 ∨ (149 < a ∧ a ≠ 158 ∧ a ≠ 160) → g a i = h a i) → (∀ x, i ≤ x → x < t → b x ≠ 44 ∧ b x ≠ 58) → Go d M_Mo_tells 110 [(22, 135), (0, s), (0, kd), (0, 24 * s), (0, 24 * s + n), (0, c), (0, st), (0, 24 * s + t)] [] g Q → Go d M_Mo_tells 110 [(22, 135), (0, s), (0, kd), (0, 24 * s), (0, 24 * s + n), (0, c), (0, st), (0, 24 * s + i)] [] g Q := by
    intro g Q c st i t i0 it tn o nb G
    refine up_loop (P := fun i => Go d M_Mo_tells 110 [(22, 135), (0, s), (0, kd), (0, 24 * s), (0, 24 * s + n), (0, c), (0, st), (0, 24 * s + i)] [] g Q) it G (fun x x0 x1 K => ?_)
    have gb : g 151 (24 * s + x) = b x := by rw [o 151 _ (by omega)]; exact hb x (by omega) (by omega)
    obtain ⟨q1, q2⟩ := nb x x0 x1
    refine N_Mo_tells_110 ⟨fun z => by omega, fun _ => ⟨⟨by omega, by omega⟩, ?_⟩⟩
    rw [gb]
    rw [show 24 * s + (x + 1) = 24 * s + x + 1 by omega] at K
    exact ⟨fun _ => ⟨⟨by omega, by omega⟩, fun z => absurd z q1, fun _ => ⟨⟨by omega, by omega⟩, fun _ => ⟨by unfold r32; omega, K⟩, fun z => absurd z q2⟩⟩, fun z => absurd z q1⟩
  have noc : ∀ q i s', Gd b θ s' q i → b i ≠ 44 ∧ b i ≠ 58 := fun q i s' gd => by
    have := gd.2.2; omega
  -- one type
  have one : ∀ (g : HP) (tm' : Int → Tm) (p t : Int) (x : Tm) (Q' : PQ), 0 ≤ p → p ≤ t → t ≤ n → MV g tm' S V → XM h tm g tm' → g 135 15 ≤ h 135 15 + p → (∀ a i, a < 135 ∨ a = 136 ∨ (149 < a ∧ a ≠ 158 ∧ a ≠ 160) → g a i = h a i) → (∀ i, p ≤ i → i < t → Gd b θ [] t i) → skT b θ (t - p).toNat p [] = [x] →
      (∀ (r : Int) (k : HP) (tm2 : Int → Tm), MV k tm2 S V → XM g tm' k tm2 → RpM k tm2 r x → k 135 15 ≤ h 135 15 + t → (∀ a j, a < 135 ∨ a = 136 ∨ (149 < a ∧ a ≠ 160) → k a j = g a j) → (∀ j, j < 14 ∨ 19 < j → k 135 j = g 135 j) → Q' r k) →
      Go (d - 1) M_Mo_typeOf 0 [(22, 135), (0, 24 * s + p), (0, 24 * s + t), (2, 0), (2, 0), (2, 0)] [] g Q' := by
    intro g tm' p t x Q' p0 pt tn M X n15 o gds ex K
    have e14 : g 135 14 = h 135 14 := X.1.1.1
    have e18 : g 135 18 = h 135 18 := X.1.1.2.2.1
    refine c_typeOf (θ := θ) (b := b) (by omega) M (by omega) (by omega) p0 pt (by omega) (by omega) (fun i i0 i1 => by rw [o 151 _ (by omega)]; exact hb i i0 (by omega)) gds (by omega) ex (fun v v0 v1 hi => ?_) (fun r k tm2 M2 X2 r0 r1 rt n2 o2 o52 => K r k tm2 M2 X2 ⟨?_, r1, rt⟩ (by omega) o2 o52)
    · obtain ⟨i, i0, i1, i2⟩ := hi
      rw [o 159 v (by omega)]
      have := RpM_mono X (hv v v0 v1 ⟨i, by omega, by omega, i2⟩)
      exact this
    · have : k 135 14 = g 135 14 := X2.1.1.1
      omega
  -- the end
  have fin : ∀ (j : Nat) (p : Int) (g : HP) (tm' : Int → Tm) (Q : PQ), j ≤ 3 → 0 ≤ p → p < n → b p = 58 → 0 ≤ rdE b n n (3 - j) p → MV g tm' S V → XM h tm g tm' → g 135 15 ≤ h 135 15 + p → (∀ a i, a < 135 ∨ a = 136 ∨ (149 < a ∧ a ≠ 158 ∧ a ≠ 160) → g a i = h a i) → (∀ i, i < 14 ∨ 19 < i → g 135 i = h 135 i) →
    (∀ (k : HP) (tm2 : Int → Tm), MV k tm2 S V → XM h tm k tm2 → XM g tm' k tm2 → (∀ i, i < 3 - (j : Int) → k 158 i = g 158 i) → TlE k tm2 (3 - j) (skT b θ (n - p).toNat p []) → k 135 15 ≤ h 135 15 + n → (∀ a i, a < 135 ∨ a = 136 ∨ (149 < a ∧ a ≠ 158 ∧ a ≠ 160) → k a i = h a i) → (∀ i, i < 14 ∨ 19 < i → k 135 i = h 135 i) → Q 0 k) →
    Go d M_Mo_tells 110 [(22, 135), (0, s), (0, kd), (0, 24 * s), (0, 24 * s + n), (0, 3 - j), (0, 24 * s + p), (0, 24 * s + p)] [] g Q := by
    intro j p g tm' Q hj p0 p1 c he M X n15 o o5 K
    obtain ⟨e1, e2, e3⟩ := rdE_n he
    obtain ⟨x, H⟩ := rdT_one (b := b) (θ := θ) (r := (n - (p + 1)).toNat) (p := p + 1) (by omega) (by rw [e1]; exact e2)
    rw [e1] at H
    obtain ⟨H1, H2⟩ := H []
    have gb : g 151 (24 * s + p) = b p := by rw [o 151 _ (by omega)]; exact hb p (by omega) (by omega)
    refine N_Mo_tells_110 ⟨fun z => by omega, fun _ => ⟨⟨by omega, by omega⟩, ?_⟩⟩
    rw [gb]
    refine ⟨fun _ => ⟨⟨by omega, by omega⟩, fun z => by omega, fun _ => ⟨⟨by omega, by omega⟩, fun z => absurd c z, fun _ => ⟨by unfold r32; omega, by unfold r32; omega, ?_⟩⟩⟩, fun z => by omega⟩
    rw [show 24 * s + p + 1 = 24 * s + (p + 1) by omega]
    refine pass g Q _ _ (p + 1) n (by omega) (by omega) (Int.le_refl _) o (fun y y0 y1 => noc _ _ _ (H2 y y0 y1)) ?_
    refine N_Mo_tells_110 ⟨fun _ => ⟨by omega, one g tm' (p + 1) n x _ (by omega) (by omega) (Int.le_refl _) M X (by omega) o H2 H1 (fun r k tm2 M2 X2 rp n2 o2 o52 => ⟨⟨by decide, by decide⟩, fun k2 ek => ?_⟩)⟩, fun z => by omega⟩
    have q4 : ∀ a i, ¬ (a = 158 ∧ i = 3) → k2 a i = k a i := fun a i u => by rw [ek, up2_ext u]
    have lc : LcM k k2 := LcM_of (fun a i u => q4 a i (by omega))
    have X3 : XM g tm' k2 tm2 := XM_loc (LcM_refl g) lc X2
    refine K k2 tm2 (MV_loc lc M2) (XM_trans X X3) X3 (fun i hi => by rw [q4 158 i (by omega), o2 158 i (by omega)]) ?_ (by rw [q4 135 15 (by omega)]; exact n2) (fun a i u => by rw [q4 a i (by omega), o2 a i (by omega), o a i u]) (fun i u => by rw [q4 135 i (by omega), o52 i u, o5 i u])
    rw [sk_st p1, H1, act_o (by omega) (by omega) (by omega) (by omega) (by omega)]
    intro i t ei
    have il := getS_lt ei
    have l1 : ([x] : List Tm).length = 1 := rfl
    have i0 : i = 0 := by omega
    subst i0
    rw [List.getElem?_cons_zero] at ei
    cases ei
    refine ⟨fun z => by omega, fun _ => ?_⟩
    rw [show k2 158 3 = r by rw [ek, up2_eq]]
    show k2 135 14 ≤ r ∧ r < k2 135 15 ∧ tm2 r = x
    rw [q4 135 14 (by omega), q4 135 15 (by omega)]
    exact rp
  intro j
  induction j with
  | zero =>
    intro p g tm' Q hj p0 p1 he M X n15 o o5 K
    by_cases q : p < n ∧ b p = 58
    · rw [rdS_c q.1 q.2] at he
      exact fin 0 p g tm' Q hj p0 q.1 q.2 he M X n15 o o5 K
    · rw [rdS_z q] at he; omega
  | succ j ih =>
    intro p g tm' Q hj p0 p1 he M X n15 o o5 K
    by_cases q : p < n ∧ b p = 58
    · rw [rdS_c q.1 q.2] at he
      exact fin (j + 1) p g tm' Q hj p0 q.1 q.2 he M X n15 o o5 K
    · rw [rdS_s q] at he
      have l := rdT_le (b := b) _ (n - p).toNat 1 p (Nat.le_refl _) p0
      have on := rdT_one (b := b) (θ := θ) (r := (n - p).toNat) (p := p) p0
      generalize rdT b (n - p).toNat 1 p = t at l on he
      by_cases c0 : t < 0
      · rw [if_pos c0] at he; omega
      · rw [if_neg c0] at he
        by_cases y : t < n ∧ b t = 44
        · rw [if_pos y] at he
          obtain ⟨x, Hx⟩ := on (by omega)
          obtain ⟨H1, H2⟩ := Hx []
          have gb : g 151 (24 * s + t) = b t := by rw [o 151 _ (by omega)]; exact hb t (by omega) (by omega)
          refine pass g Q _ _ p t (by omega) (by omega) (by omega) o (fun z z0 z1 => noc _ _ _ (H2 z z0 z1)) ?_
          refine N_Mo_tells_110 ⟨fun z => by omega, fun _ => ⟨⟨by omega, by omega⟩, ?_⟩⟩
          rw [gb]
          refine ⟨fun z => absurd y.2 z, fun _ => ⟨by omega, one g tm' p t x _ p0 (by omega) (by omega) M X n15 o H2 H1 (fun r k tm2 M2 X2 rp n2 o2 o52 => ⟨⟨by omega, by omega⟩, fun k2 ek => ?_⟩)⟩⟩
          have q4 : ∀ a i, ¬ (a = 158 ∧ i = 3 - ((j + 1 : Nat) : Int)) → k2 a i = k a i := fun a i u => by rw [ek, up2_ext u]
          have gb2 : k2 151 (24 * s + t) = b t := by rw [q4 151 _ (by omega), o2 151 _ (by omega)]; exact gb
          rw [gb2]
          have lc : LcM k k2 := LcM_of (fun a i u => q4 a i (by omega))
          have X3 : XM g tm' k2 tm2 := XM_loc (LcM_refl g) lc X2
          refine ⟨by unfold r32; omega, ⟨by omega, by omega⟩, fun _ => ⟨by unfold r32; omega, by unfold r32; omega, ?_⟩, fun z => absurd y.2 z⟩
          rw [show 24 * s + t + 1 = 24 * s + (t + 1) by omega, show (3 : Int) - ((j + 1 : Nat) : Int) + 1 = 3 - j by omega]
          refine ih (t + 1) k2 tm2 Q (by omega) (by omega) (by omega) he (MV_loc lc M2) (XM_trans X X3) (by rw [q4 135 15 (by omega)]; omega) (fun a i u => by rw [q4 a i (by omega), o2 a i (by omega), o a i u]) (fun i u => by rw [q4 135 i (by omega), o52 i u, o5 i u]) (fun k3 tm3 M3 X4 X5 r3 T3 n3 o3 o53 => ?_)
          refine K k3 tm3 M3 X4 (XM_trans X3 X5) (fun i hi => by rw [r3 i (by omega), q4 158 i (by omega), o2 158 i (by omega)]) ?_ n3 o3 o53
          have e44 : skT b θ (n - t).toNat t [] = skT b θ (n - (t + 1)).toNat (t + 1) [] := by rw [sk_st y.1, act_o (by omega) (by omega) (by omega) (by omega) (by omega)]
          rw [sk_cut (t := t) (by omega) (by omega), (Hx _).1, e44]
          intro i u ei
          match i, ei with
          | 0, ei =>
            rw [List.getElem?_cons_zero] at ei
            cases ei
            have lp : 0 < (skT b θ (n - (t + 1)).toNat (t + 1) []).length := by
              have := (rdS_sk (b := b) (θ := θ) (n := n) j (t + 1) (by omega) (by omega) (by omega) he).2
              have b3 := rdS_ge (b := b) (n := n) (m := n) j (t + 1) (by omega) he
              omega
            rw [List.length_cons]
            refine ⟨fun _ => ?_, fun z => by omega⟩
            rw [show 3 - ((j + 1 : Nat) : Int) + ((0 : Nat) : Int) = 3 - ((j + 1 : Nat) : Int) by omega, r3 _ (by omega), show k2 158 (3 - ((j + 1 : Nat) : Int)) = r by rw [ek, up2_eq]]
            have rp2 : RpM k2 tm2 r x := by
              show k2 135 14 ≤ r ∧ r < k2 135 15 ∧ tm2 r = x
              rw [q4 135 14 (by omega), q4 135 15 (by omega)]; exact rp
            exact RpM_mono X5 rp2
          | i + 1, ei =>
            rw [List.getElem?_cons_succ] at ei
            have := T3 i u ei
            rw [List.length_cons, show 3 - ((j + 1 : Nat) : Int) + ((i + 1 : Nat) : Int) = 3 - (j : Int) + i by omega]
            exact ⟨fun z => this.1 (by omega), fun z => this.2 (by omega)⟩
        · rw [if_neg y] at he; omega
/-- what a heading's types leave -/
def OuT (h g : HP) : Prop := (∀ a i, a < 135 ∨ a = 136 ∨ (149 < a ∧ a < 158) ∨ 160 < a → g a i = h a i) ∧ (∀ i, i < 14 ∨ 19 < i → g 135 i = h 135 i)
abbrev sgL (b : Int → Int) (n : Int) (mu : Int → Nat) : List Tm := skT b (fun v => tV (mu v)) n.toNat 0 []
theorem c_tells {d : Nat} {h : HP} {b : Int → Int} {s n kd : Int} {mu : Int → Nat} {tm : Int → Tm} {S : Sx} {V : Vx} {Q : PQ} (hd : 9 < d) (M : MV h tm S V) (F : FrN V mu) (hk : kd = 7 ∨ kd = 8) (h18 : 0 ≤ h 135 18 ∧ h 135 18 ≤ 99) (s0 : 0 ≤ s) (s1 : s < 16) (n0 : 0 ≤ n) (n24 : n ≤ 24) (en : h 152 s = n) (hb : ∀ i, 0 ≤ i → i < n → h 151 (24 * s + i) = b i) (he : 0 ≤ rdS b n n 3 0) (hr : h 135 15 + 2 * n ≤ 1000)
    (H : ∀ (k : HP) (tm2 : Int → Tm), MV k tm2 S (nV V mu (Oc b 0 n) (kd, h 135 18)) → XM h tm k tm2 → TlE k tm2 0 (sgL b n mu) → k 135 15 ≤ h 135 15 + 2 * n → OuT h k → Q 0 k) :
    Go d M_Mo_tells 0 [(22, 135), (0, s), (0, kd), (2, 0), (2, 0), (2, 0), (2, 0), (2, 0)] [] h Q := by
  have bb := MV_b M
  have rng := rdS_rng (b := b) (n := n) 3 0 (by omega) n0 he
  have main : ∀ (g : HP) (tm' : Int → Tm), TvI h g tm S V mu kd b n tm' → Go d M_Mo_tells 110 [(22, 135), (0, s), (0, kd), (0, 24 * s), (0, 24 * s + n), (0, 0), (0, 24 * s), (0, 24 * s)] [] g Q := by
    intro g tm' I
    obtain ⟨M', X, Vr, nb, o, o5⟩ := I
    have e14 : g 135 14 = h 135 14 := X.1.1.1
    have e18 : g 135 18 = h 135 18 := X.1.1.2.2.1
    have G := c_tells110 (h := g) (b := b) (s := s) (n := n) (kd := kd) (θ := fun v => tV (mu v)) (tm := tm') (S := S) (V := nV V mu (Oc b 0 n) (kd, h 135 18)) hd (by rw [e18]; exact h18) s0 s1 n0 n24 (fun i i0 i1 => by rw [o 151 _ (by omega)]; exact hb i i0 i1) (by omega) (fun v v0 v1 hi => by
      have := (Vr v v0 v1).1 hi
      exact ⟨by omega, this.2.1, this.2.2⟩) 3 0 g tm' Q (by omega) (by omega) n0 he M' (XM_refl g tm') (by omega) (fun _ _ _ => rfl) (fun _ _ => rfl) (fun k tm2 M2 X2 _ _ T2 n2 o2 o52 => by
      rw [show (3 : Int) - ((3 : Nat) : Int) = 0 by omega, show n - 0 = n by omega] at T2
      exact H k tm2 M2 (XM_trans X X2) T2 (by omega) ⟨fun a i u => by rw [o2 a i (by omega), o a i (by omega)], fun i u => by rw [o52 i u, o5 i u]⟩)
    rw [show (3 : Int) - ((3 : Nat) : Int) = 0 by omega, show 24 * s + 0 = 24 * s by omega] at G
    exact G
  refine N_Mo_tells_0 ⟨by unfold r32; omega, ⟨s0, s1⟩, ?_⟩
  rw [en]
  refine ⟨by unfold r32; omega, N_Mo_tells_18 ⟨fun z => by omega, fun _ => ⟨⟨by omega, by omega⟩, fun g1 e1 => ⟨by unfold r32; omega, N_Mo_tells_18 ⟨fun z => by omega, fun _ => ⟨⟨by omega, by omega⟩, fun g2 e2 => ⟨by unfold r32; omega, N_Mo_tells_18 ⟨fun z => by omega, fun _ => ⟨⟨by omega, by omega⟩, fun g3 e3 => ⟨by unfold r32; omega, N_Mo_tells_18 ⟨fun _ => ?_, fun z => by omega⟩⟩⟩⟩⟩⟩⟩⟩⟩⟩⟩
  have o : ∀ a i, a ≠ 159 → g3 a i = h a i := fun a i p => by rw [e3, up2_nc p, e2, up2_nc p, e1, up2_nc p]
  have lc : LcM h g3 := LcM_of (fun a i u => o a i (by omega))
  have I0 : TvI h g3 tm S V mu kd b 0 tm := by
    refine ⟨?_, XM_loc (LcM_refl h) lc (XM_refl h tm), fun v v0 v1 => ⟨fun z => ?_, fun _ => ?_⟩, by rw [o 135 15 (by omega)]; omega, fun a j u => o a j (by omega), fun j u => o 135 j (by omega)⟩
    · rw [nV_nil (P := Oc b 0 0) (fun v v0 v1 z => by obtain ⟨i, i0, i1, i2⟩ := z; omega)]; exact MV_loc lc M
    · obtain ⟨i, i0, i1, i2⟩ := z; omega
    · have : v = 0 ∨ v = 0 + 1 ∨ v = 0 + 1 + 1 := by omega
      rcases this with z | z | z
      · subst z; rw [e3, up2_ni (by omega), e2, up2_ni (by omega), e1, up2_eq]
      · subst z; rw [e3, up2_ni (by omega), e2, up2_eq]
      · subst z; rw [e3, up2_eq]
  have G := c_tells41 (b := b) (Q := Q) (by omega) F hk h18 bb.1 s0 s1 n24 hb (by omega) (fun i i0 i1 => by have := rng i i0 i1; omega) main n.toNat 0 g3 tm (2, 0) (by omega) (by omega) I0
  rw [show 24 * s + 0 = 24 * s by omega] at G
  exact G
end
