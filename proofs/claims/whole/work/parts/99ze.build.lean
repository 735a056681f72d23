section
/-! World.build -/
def GdS (b : Int → Int) (θ : Int → Tm) (n i : Int) : Prop := (b i = 112 → 2 ≤ (skT b θ (n - (i + 1)).toNat (i + 1) []).length) ∧ (b i = 100 → 1 ≤ (skT b θ (n - (i + 1)).toNat (i + 1) []).length ∧ 48 ≤ b (i + 1) ∧ b (i + 1) ≤ 51 ∧ i + 1 < n)
/-- the types of a signature from a place on -/
theorem rdS_sk {b : Int → Int} {θ : Int → Tm} {n : Int} : ∀ (j : Nat) (p : Int), j ≤ 3 → 0 ≤ p → p ≤ n → 0 ≤ rdS b n n j p → (∀ i, p ≤ i → i < n → GdS b θ n i) ∧ ((skT b θ (n - p).toNat p []).length : Int) = rdS b n n j p - (3 - j) + 1 := by
  have E : ∀ (j : Nat) (p : Int), 0 ≤ p → p < n → b p = 58 → 0 ≤ rdE b n n (3 - j) p → (∀ i, p ≤ i → i < n → GdS b θ n i) ∧ ((skT b θ (n - p).toNat p []).length : Int) = rdE b n n (3 - j) p - (3 - j) + 1 := by
    intro j p p0 p1 c h
    obtain ⟨e1, e2, e3⟩ := rdE_n h
    obtain ⟨x, H⟩ := rdT_one (b := b) (θ := θ) (r := (n - (p + 1)).toNat) (p := p + 1) (by omega) (by rw [e1]; exact e2)
    rw [e1] at H
    obtain ⟨H1, H2⟩ := H []
    refine ⟨fun i i0 i1 => ?_, ?_⟩
    · by_cases z : i = p
      · subst z; exact ⟨fun w => by omega, fun w => by omega⟩
      · have := H2 i (by omega) i1; exact ⟨this.1, this.2.1⟩
    · rw [sk_st p1, H1, act_o (by omega) (by omega) (by omega) (by omega) (by omega), e3]
      show ((1 : Nat) : Int) = _
      omega
  intro j
  induction j with
  | zero =>
    intro p hj p0 p1 h
    by_cases q : p < n ∧ b p = 58
    · rw [rdS_c q.1 q.2] at h ⊢; exact E 0 p p0 q.1 q.2 h
    · rw [rdS_z q] at h; omega
  | succ j ih =>
    intro p hj p0 p1 h
    by_cases q : p < n ∧ b p = 58
    · rw [rdS_c q.1 q.2] at h ⊢; exact E (j + 1) p p0 q.1 q.2 h
    · rw [rdS_s q] at h ⊢
      have l := rdT_le (b := b) _ (n - p).toNat 1 p (Nat.le_refl _) p0
      have o := rdT_one (b := b) (θ := θ) (r := (n - p).toNat) (p := p) p0
      generalize rdT b (n - p).toNat 1 p = t at l o h
      by_cases c0 : t < 0
      · rw [if_pos c0] at h; omega
      · rw [if_neg c0] at h ⊢
        by_cases y : t < n ∧ b t = 44
        · rw [if_pos y] at h ⊢
          obtain ⟨i1, i2⟩ := ih (t + 1) (by omega) (by omega) (by omega) h
          obtain ⟨x, H⟩ := o (by omega)
          have e44 : skT b θ (n - t).toNat t [] = skT b θ (n - (t + 1)).toNat (t + 1) [] := by rw [sk_st y.1, act_o (by omega) (by omega) (by omega) (by omega) (by omega)]
          obtain ⟨H1, H2⟩ := H (skT b θ (n - t).toNat t [])
          refine ⟨fun i ia ib => ?_, ?_⟩
          · rcases Int.lt_or_le i t with z | z
            · have g := H2 i ia z
              unfold GdS
              rw [sk_cut (t := t) (by omega) (by omega)]
              exact ⟨g.1, fun w => ⟨(g.2.1 w).1, (g.2.1 w).2.1, (g.2.1 w).2.2.1, by omega⟩⟩
            · by_cases z2 : i = t
              · subst z2; exact ⟨fun w => by omega, fun w => by omega⟩
              · exact i1 i (by omega) ib
          · rw [sk_cut (t := t) (by omega) (by omega), H1, List.length_cons, e44]
            omega
        · rw [if_neg y] at h; omega
def Oc (b : Int → Int) (p n v : Int) : Prop := ∃ i, p ≤ i ∧ i < n ∧ b i = 117 + v
theorem Oc_o {b : Int → Int} {p n v : Int} (h : b p ≠ 117 + v) : Oc b p n v ↔ Oc b (p + 1) n v := by
  constructor
  · rintro ⟨i, i0, i1, i2⟩
    have : i ≠ p := fun z => h (by rw [← z]; exact i2)
    exact ⟨i, by omega, i1, i2⟩
  · rintro ⟨i, i0, i1, i2⟩
    exact ⟨i, by omega, i1, i2⟩
theorem Oc_y {b : Int → Int} {p n v : Int} (h : b p = 117 + v) (q : p < n) (w : Int) : Oc b p n w ↔ (Oc b (p + 1) n w ∨ w = v) := by
  constructor
  · rintro ⟨i, i0, i1, i2⟩
    by_cases z : i = p
    · rw [z, h] at i2; exact Or.inr (by omega)
    · exact Or.inl ⟨i, by omega, i1, i2⟩
  · rintro (⟨i, i0, i1, i2⟩ | z)
    · exact ⟨i, by omega, i1, i2⟩
    · exact ⟨p, by omega, q, by rw [h, z]⟩
theorem c_sigAt {d : Nat} {h : HP} {s p : Int} {Q : PQ} (sz : aSZ (s + 1) = 24) (n1 : h s 1 ≤ 24) (p0 : 0 ≤ p) (p1 : p < h s 1) (H : Q (h (s + 1) p) h) : Go d M_Signature_byteAt 0 [(16, s), (0, p)] [] h Q :=
  V_Signature_byteAt_0 ⟨fun z => by omega, fun _ => ⟨fun z => by omega, fun _ => ⟨⟨p0, by omega⟩, H⟩⟩⟩
/-- what is built of the bytes from a place on -/
def BldI (h g : HP) (T R s : Int) (tm : Int → Tm) (S : Sx) (V : Vx) (mu : Int → Nat) (kd p : Int) : Prop :=
  ∃ tm', CV g T R tm' S (nV V mu (Oc (h (s + 1)) p (h s 1)) (kd, h T 15)) ∧ XB T h tm g tm' ∧ g (T - 3) 5 = (skT (h (s + 1)) (fun v => tV (mu v)) (h s 1 - p).toNat p []).length ∧ StkL (g (T - 1)) 0 (g T 13) tm' (skT (h (s + 1)) (fun v => tV (mu v)) (h s 1 - p).toNat p []) ∧
    (∀ v, 0 ≤ v → v < 3 → (Oc (h (s + 1)) p (h s 1) v → 0 ≤ g (T - 2) v ∧ g (T - 2) v < g T 13 ∧ tm' (g (T - 2) v) = tV (mu v)) ∧ (¬ Oc (h (s + 1)) p (h s 1) v → g (T - 2) v = -1)) ∧ g T 13 ≤ h T 13 + (h s 1 - p) ∧ (∀ a i, a < T - 3 ∨ T + 13 < a ∨ (a = T - 3 ∧ i ≠ 5) → g a i = h a i)
theorem c_build32 {d : Nat} {h : HP} {T R s kd : Int} {tm : Int → Tm} {S : Sx} {V : Vx} {mu : Int → Nat} {Q : PQ} (hd : 10 < d) (C : CV h T R tm S V) (F : FrN V mu) (hk : kd = 7 ∨ kd = 8) (sz : aSZ (s + 1) = 24) (sT : s + 1 < T - 3 ∨ T + 13 < s) (s0 : s ≠ 0) (n0 : 0 ≤ h s 1) (n1 : h s 1 ≤ 24) (O : 0 ≤ rdS (h (s + 1)) (h s 1) (h s 1) 3 0) (hr : h T 13 + h s 1 ≤ R)
    (H : ∀ g, BldI h g T R s tm S V mu kd 0 → Q 0 g) : ∀ (m : Nat) (g : HP) (w4 w5 : AV), (m : Int) ≤ h s 1 → BldI h g T R s tm S V mu kd m → Go d M_World_build 32 [(20, T - 3), (36, s), (0, kd), (0, (m : Int) - 1), w4, w5] [] g Q := by
  have hT := (CV_L0 C).2.2.2.2
  have tr := TR_le hT
  have gds := (rdS_sk (b := h (s + 1)) (θ := fun v => tV (mu v)) (n := h s 1) 3 0 (by omega) (by omega) n0 O).1
  intro m
  induction m with
  | zero =>
    intro g w4 w5 hm I
    exact W_World_build_32 hT ⟨fun _ => H g I, fun z => by omega⟩
  | succ m ih =>
    intro g w4 w5 hm I
    obtain ⟨tm', C', X, tp, St, Vr, nb, o⟩ := I
    have gd := gds m (by omega) (by omega)
    unfold GdS at gd
    rw [show ((m + 1 : Nat) : Int) = (m : Int) + 1 by omega] at C' tp St Vr nb hm ⊢
    rw [show (m : Int) + 1 - 1 = m by omega]
    have skE := sk_st (b := h (s + 1)) (θ := fun v => tV (mu v)) (s := []) (p := (m : Int)) (q := h s 1) (by omega)
    have skL := sk_len (b := h (s + 1)) (θ := fun v => tV (mu v)) (s := []) (h s 1 - ((m : Int) + 1)).toNat ((m : Int) + 1)
    have l0 : ([] : List Tm).length = 0 := rfl
    rw [l0] at skL
    have gs : ∀ i, g s i = h s i := fun i => o s i (by omega)
    have gb : g (s + 1) = h (s + 1) := funext fun i => o (s + 1) i (by omega)
    have b15 : g T 15 = h T 15 := X.1.1.2.2
    have gR : g T 13 < R := by omega
    have r1 : r32 ((m : Int) + (-1)) := by unfold r32; omega
    have mm : (m : Int) + (-1) = (m : Int) - 1 := by omega
    -- a step that leaves the letters
    have keep : ∀ v, (h (s + 1) m < 117 ∨ 119 < h (s + 1) m) → 0 ≤ v → v < 3 → (Oc (h (s + 1)) m (h s 1) v ↔ Oc (h (s + 1)) ((m : Int) + 1) (h s 1) v) := fun v q v0 v1 => Oc_o (by omega)
    -- one more formed type goes onto the stack in place of the top ones
    have form : ∀ (g1 : HP) (L : List Tm) (k x y : Int) (t : Tm) (Q' : PQ), (h (s + 1) m < 117 ∨ 119 < h (s + 1) m) → (∀ a i, ¬ (a = T - 3 ∧ i = 5) → g1 a i = g a i) → (0 ≤ k ∧ k ≤ 6) → (2 ≤ k → 0 ≤ x ∧ x < g T 13) → (k = 2 → 0 ≤ y ∧ y < g T 13) → (k < 2 → x = -1) → (k ≠ 2 → y = -1) → t = mkT k (tm' x) (tm' y) → skT (h (s + 1)) (fun v => tV (mu v)) (h s 1 - (m : Int)).toNat m [] = t :: L → StkL (g (T - 1)) 0 (g T 13) tm' L →
        (∀ (y3 : Int) (k3 : HP), k3 (T - 3) 5 = g1 (T - 3) 5 → (∀ g4 : HP, (∀ a i, a ≠ T - 1 → ¬ (a = T - 3 ∧ i = 5) → g4 a i = k3 a i) → (∀ i : Int, i ≠ L.length → g4 (T - 1) i = k3 (T - 1) i) → g4 (T - 1) L.length = y3 → g4 (T - 3) 5 = (L.length : Int) + 1 → ∀ w6 w7, Go d M_World_build 32 [(20, T - 3), (36, s), (0, kd), (0, (m : Int) + (-1)), w6, w7] [] g4 Q) → Q' y3 k3) →
        Go (d - 1) M_Types_obtain 0 [(17, T), (0, k), (0, x), (0, y), (2, 0), (2, 0), (2, 0), (2, 0)] [] g1 Q' := by
      intro g1 L k x y t Q' nl o1 hk hx hy nx ny ht es sl K
      have lc : LcC T g g1 := fun a i p q => o1 a i (by omega)
      have C1 := CV_loc lc C'
      have e13 : g1 T 13 = g T 13 := o1 T 13 (by omega)
      refine c_obtF (t := t) (by omega) C1 hk (by rw [e13]; exact hx) (by rw [e13]; exact hy) nx ny (by omega) ht (fun r h' tm2 C2 X2 r0 r1' rt nb2 o2 => K r h' (o2 _ _ (by omega)) (fun g4 o4 o4r e4 t4 w6 w7 => ?_))
      rw [mm]
      have lc4 : LcC T h' g4 := fun a i p q => o4 a i (by omega) (by omega)
      have X1 : XB T h tm h' tm2 := XB_trans C C' X (XB_loc (LcC_symm lc) (LcC_refl T h') X2)
      refine ih g4 w6 w7 (by omega) ⟨tm2, ?_, XB_loc (LcC_refl T h) lc4 X1, ?_, ?_, fun v v0 v1 => ?_, ?_, fun a i p => ?_⟩
      · rw [nV_congr (P' := Oc (h (s + 1)) ((m : Int) + 1) (h s 1)) (fun v v0 v1 => keep v nl v0 v1)]
        exact CV_loc lc4 C2
      · rw [es, t4, List.length_cons]; omega
      · rw [es]
        have q13 : g4 T 13 = h' T 13 := o4 T 13 (by omega) (by omega)
        refine ⟨⟨by rw [e4]; exact r0, by rw [e4, q13]; exact r1', by rw [e4]; exact rt⟩, StkL_mono L (fun i i0 i1 => ?_) ?_ (fun z z0 z1 => X2.2 z z0 (by rw [e13]; exact z1)) sl⟩
        · rw [o4r i (by omega), o2 (T - 1) i (by omega), o1 (T - 1) i (by omega)]
        · rw [q13]; have := X2.1.1.1; omega
      · have q13 : g4 T 13 = h' T 13 := o4 T 13 (by omega) (by omega)
        have q2 : g4 (T - 2) v = g (T - 2) v := by rw [o4 (T - 2) v (by omega) (by omega), o2 (T - 2) v (by omega), o1 (T - 2) v (by omega)]
        have k := keep v nl v0 v1
        obtain ⟨va, vb⟩ := Vr v v0 v1
        refine ⟨fun z => ?_, fun z => by rw [q2]; exact vb (fun u => z (k.mpr u))⟩
        obtain ⟨u1, u2, u3⟩ := va (k.mp z)
        have := X2.1.1.1
        rw [q2, q13]
        exact ⟨u1, by omega, by rw [X2.2 _ u1 (by omega)]; exact u3⟩
      · rw [o4 T 13 (by omega) (by omega)]; omega
      · rw [o4 a i (by omega) (by omega), o2 a i (by omega), o1 a i (by omega)]; exact o a i p
    -- bytes that tell nothing
    have skip : h (s + 1) m ≠ 112 → h (s + 1) m ≠ 100 → h (s + 1) m ≠ 105 → h (s + 1) m ≠ 98 → (h (s + 1) m < 117 ∨ 119 < h (s + 1) m) → ∀ w6 w7, r32 ((m : Int) + (-1)) ∧ Go d M_World_build 32 [(20, T - 3), (36, s), (0, kd), (0, (m : Int) + (-1)), w6, w7] [] g Q := by
      intro c1 c2 c3 c4 c5 w6 w7
      rw [mm]
      refine ⟨by unfold r32; omega, ih g w6 w7 (by omega) ⟨tm', ?_, X, ?_, ?_, fun v v0 v1 => ?_, by omega, o⟩⟩
      · rw [nV_congr (P' := Oc (h (s + 1)) ((m : Int) + 1) (h s 1)) (fun v v0 v1 => keep v c5 v0 v1)]; exact C'
      · rw [skE, act_o c1 c2 c3 c4 (by omega)]; exact tp
      · rw [skE, act_o c1 c2 c3 c4 (by omega)]; exact St
      · have k := keep v c5 v0 v1
        exact ⟨fun z => (Vr v v0 v1).1 (k.mp z), fun z => (Vr v v0 v1).2 (fun u => z (k.mpr u))⟩
    refine W_World_build_32 hT ⟨fun z => by omega, fun _ => ⟨s0, by omega, c_sigAt sz (by rw [gs]; exact n1) (by omega) (by rw [gs]; omega) ?_⟩⟩
    rw [gb]
    generalize hL : skT (h (s + 1)) (fun v => tV (mu v)) (h s 1 - ((m : Int) + 1)).toNat ((m : Int) + 1) [] = L at *
    -- i and b
    have leaf : ∀ w5, (h (s + 1) m = 105 ∨ h (s + 1) m = 98) → Go d M_World_build 183 [(20, T - 3), (36, s), (0, kd), (0, (m : Int)), (0, h (s + 1) m), w5] [] g Q := by
      intro w5 c
      refine W_World_build_183 hT ⟨fun z => by omega, fun z => ⟨fun c1 => ⟨by omega, ?_⟩, fun c1 => ⟨by omega, ?_⟩⟩⟩
      · have cb : h (s + 1) m = 98 := by omega
        refine form g L 1 (-1) (-1) tB _ (by omega) (fun _ _ _ => rfl) (by omega) (fun z => by omega) (fun z => by omega) (fun _ => rfl) (fun _ => rfl) rfl (by rw [skE, act_b cb]) St (fun y3 k3 e5 K => ⟨⟨by omega, z⟩, fun g2 e2 => ?_⟩)
        have t2 : g2 (T - 3) 5 = L.length := by rw [e2, up2_nc (by omega), e5, tp]
        rw [t2]
        refine ⟨by unfold r32; omega, fun g3 e3 => ⟨r1, K g3 (fun a i p q => by rw [e3, up2_ext q, e2, up2_nc p]) (fun i p => by rw [e3, up2_nc (by omega), e2, up2_ni (by omega)]) ?_ (by rw [e3, up2_eq]) _ _⟩⟩
        rw [e3, up2_nc (by omega), e2, tp, up2_eq]
      · refine form g L 0 (-1) (-1) tI _ (by omega) (fun _ _ _ => rfl) (by omega) (fun z => by omega) (fun z => by omega) (fun _ => rfl) (fun _ => rfl) rfl (by rw [skE, act_i c1]) St (fun y3 k3 e5 K => ⟨⟨by omega, z⟩, fun g2 e2 => ?_⟩)
        have t2 : g2 (T - 3) 5 = L.length := by rw [e2, up2_nc (by omega), e5, tp]
        rw [t2]
        refine ⟨by unfold r32; omega, fun g3 e3 => ⟨r1, K g3 (fun a i p q => by rw [e3, up2_ext q, e2, up2_nc p]) (fun i p => by rw [e3, up2_nc (by omega), e2, up2_ni (by omega)]) ?_ (by rw [e3, up2_eq]) _ _⟩⟩
        rw [e3, up2_nc (by omega), e2, tp, up2_eq]
    -- letters, and what is no type
    have rest : ∀ w5, h (s + 1) m ≠ 112 → h (s + 1) m ≠ 100 → h (s + 1) m ≠ 105 → h (s + 1) m ≠ 98 → Go d M_World_build 235 [(20, T - 3), (36, s), (0, kd), (0, (m : Int)), (0, h (s + 1) m), w5] [] g Q := by
      intro w5 c1 c2 c3 c4
      refine W_World_build_235 hT ⟨fun z => skip c1 c2 c3 c4 (by omega) _ _, fun z => ⟨fun y => skip c1 c2 c3 c4 (by omega) _ _, fun y => ⟨fun u => by omega, fun u => ⟨by unfold r32; omega, ⟨by omega, by omega⟩, ?_⟩⟩⟩⟩
      obtain ⟨v, hv⟩ : ∃ v, v = h (s + 1) m - 117 := ⟨_, rfl⟩
      rw [← hv]
      have ev : h (s + 1) m = 117 + v := by omega
      have v0 : 0 ≤ v := by omega
      have v1 : v < 3 := by omega
      have oc := fun w => Oc_y (n := h s 1) ev (by omega) w
      have es : skT (h (s + 1)) (fun v => tV (mu v)) (h s 1 - (m : Int)).toNat m [] = tV (mu v) :: L := by rw [skE, act_v (by omega), ← hv]
      -- the heap behind the step
      have fin : ∀ (g1 : HP) (tm2 : Int → Tm) (x : Int), CV g1 T R tm2 S (nV V mu (Oc (h (s + 1)) m (h s 1)) (kd, h T 15)) → XB T g tm' g1 tm2 → (∀ a i, a < T ∨ T + 13 < a → g1 a i = g a i) → g1 T 13 ≤ g T 13 + 1 → 0 ≤ x → x < g1 T 13 → tm2 x = tV (mu v) → ∀ g4 : HP, (∀ a i, a ≠ T - 1 → a ≠ T - 2 → ¬ (a = T - 3 ∧ i = 5) → g4 a i = g1 a i) → (∀ i : Int, i ≠ L.length → g4 (T - 1) i = g1 (T - 1) i) → (∀ i, i ≠ v → g4 (T - 2) i = g1 (T - 2) i) → g4 (T - 1) L.length = x → g4 (T - 2) v = x → g4 (T - 3) 5 = (L.length : Int) + 1 → ∀ w6 w7, r32 ((m : Int) + (-1)) ∧ Go d M_World_build 32 [(20, T - 3), (36, s), (0, kd), (0, (m : Int) + (-1)), w6, w7] [] g4 Q := by
        intro g1 tm2 x C2 X2 o2 nb2 x0 x1 xt g4 o4 o4r o4v e4 e4v t4 w6 w7
        rw [mm]
        have lc4 : LcC T g1 g4 := fun a i p q => o4 a i (by omega) (by omega) (by omega)
        have q13 : g4 T 13 = g1 T 13 := o4 T 13 (by omega) (by omega) (by omega)
        have mn := X2.1.1.1
        refine ⟨by unfold r32; omega, ih g4 w6 w7 (by omega) ⟨tm2, CV_loc lc4 C2, XB_loc (LcC_refl T h) lc4 (XB_trans C C' X X2), ?_, ?_, fun w w0 w1 => ?_, by omega, fun a i p => ?_⟩⟩
        · rw [es, t4, List.length_cons]; omega
        · rw [es]
          refine ⟨⟨by rw [e4]; exact x0, by rw [e4, q13]; exact x1, by rw [e4]; exact xt⟩, StkL_mono L (fun i i0 i1 => ?_) (by omega) X2.2 St⟩
          rw [o4r i (by omega), o2 (T - 1) i (by omega)]
        · by_cases z : w = v
          · subst z
            rw [e4v, q13]
            exact ⟨fun _ => ⟨x0, x1, xt⟩, fun u => absurd ((oc w).mpr (Or.inr rfl)) u⟩
          · have q2 : g4 (T - 2) w = g (T - 2) w := by rw [o4v w z, o2 (T - 2) w (by omega)]
            obtain ⟨va, vb⟩ := Vr w w0 w1
            refine ⟨fun u => ?_, fun u => by rw [q2]; exact vb (fun u2 => u ((oc w).mpr (Or.inl u2)))⟩
            rcases (oc w).mp u with u | u
            · obtain ⟨u1, u2, u3⟩ := va u
              rw [q2, q13]
              exact ⟨u1, by omega, by rw [X2.2 _ u1 u2]; exact u3⟩
            · exact absurd u z
        · rw [o4 a i (by omega) (by omega) (by omega), o2 a i (by omega)]; exact o a i p
      obtain ⟨va, vb⟩ := Vr v v0 v1
      refine ⟨fun c => ?_, fun c => ⟨by omega, ?_⟩⟩
      · have hv2 : Oc (h (s + 1)) ((m : Int) + 1) (h s 1) v := Classical.byContradiction (fun u => c (vb u))
        obtain ⟨u1, u2, u3⟩ := va hv2
        refine ⟨⟨by omega, u⟩, fun g1 e1 => ⟨by unfold r32; omega, ?_⟩⟩
        have t1 : g1 (T - 3) 5 = L.length := by rw [e1, up2_nc (by omega), tp]
        rw [t1]
        have r1' : g1 (T - 1) L.length = g (T - 2) v := by rw [e1, tp, up2_eq]
        rw [r1']
        refine ⟨⟨by omega, by omega⟩, ⟨v0, v1⟩, fun g2 e2 => ?_⟩
        have t2 : g2 (T - 3) 5 = L.length := by rw [e2, up2_nc (by omega), t1]
        rw [t2]
        refine ⟨by unfold r32; omega, fun g3 e3 => fin g tm' (g (T - 2) v) ?_ (XB_refl T g tm') (fun _ _ _ => rfl) (by omega) u1 u2 u3 g3 (fun a i p q r => by rw [e3, up2_ext r, e2, up2_nc q, e1, up2_nc p]) (fun i p => by rw [e3, up2_nc (by omega), e2, up2_nc (by omega), e1, up2_ni (by omega)]) (fun i p => by rw [e3, up2_nc (by omega), e2, up2_ni p, e1, up2_nc (by omega)]) (by rw [e3, up2_nc (by omega), e2, up2_nc (by omega)]; exact r1') (by rw [e3, up2_nc (by omega), e2, up2_eq]) (by rw [e3, up2_eq]) _ _⟩
        rw [nV_congr (P' := Oc (h (s + 1)) ((m : Int) + 1) (h s 1)) (fun w w0 w1 => ?_)]
        · exact C'
        · constructor
          · intro z
            rcases (oc w).mp z with z | z
            · exact z
            · rw [z]; exact hv2
          · exact fun z => (oc w).mpr (Or.inl z)
      · have nv : ¬ Oc (h (s + 1)) ((m : Int) + 1) (h s 1) v := fun z => by have := va z; omega
        refine c_obtN (m := mu v) (by omega) C' hk gR (nV_fr F v0 v1 nv) (fun r h' tm2 C2 X2 r0 r1' rt nb2 o2 => ⟨⟨by omega, u⟩, fun g1 e1 => ⟨by unfold r32; omega, ?_⟩⟩)
        have t1 : g1 (T - 3) 5 = L.length := by rw [e1, up2_nc (by omega), o2 _ _ (by omega), tp]
        rw [t1]
        have r1'' : g1 (T - 1) L.length = r := by rw [e1, tp, up2_eq]
        rw [r1'']
        refine ⟨⟨by omega, by omega⟩, ⟨v0, v1⟩, fun g2 e2 => ?_⟩
        have t2 : g2 (T - 3) 5 = L.length := by rw [e2, up2_nc (by omega), t1]
        rw [t2]
        refine ⟨by unfold r32; omega, fun g3 e3 => fin h' tm2 r ?_ X2 o2 nb2 r0 r1' rt g3 (fun a i p q r => by rw [e3, up2_ext r, e2, up2_nc q, e1, up2_nc p]) (fun i p => by rw [e3, up2_nc (by omega), e2, up2_nc (by omega), e1, up2_ni (by omega)]) (fun i p => by rw [e3, up2_nc (by omega), e2, up2_ni p, e1, up2_nc (by omega)]) (by rw [e3, up2_nc (by omega), e2, up2_nc (by omega)]; exact r1'') (by rw [e3, up2_nc (by omega), e2, up2_eq]) (by rw [e3, up2_eq]) _ _⟩
        rw [b15, nV_up (P' := Oc (h (s + 1)) m (h s 1)) v0 v1 (fun w w0 w1 => oc w)] at C2
        exact C2
    -- d, and all behind it
    have next : h (s + 1) m ≠ 112 → Go d M_World_build 110 [(20, T - 3), (36, s), (0, kd), (0, (m : Int)), (0, h (s + 1) m), w5] [] g Q := by
      intro c1
      refine W_World_build_110 hT ⟨fun c2 => ⟨fun c3 => leaf _ (Or.inl c3), fun c3 => ⟨fun c4 => rest _ c1 c2 c3 c4, fun c4 => leaf _ (Or.inr c4)⟩⟩, fun c2 => ⟨fun z => ?_, fun z => ⟨by unfold r32; omega, by unfold r32; omega, s0, by omega, c_sigAt sz (by rw [gs]; exact n1) (by omega) (by rw [gs]; have := (gd.2 c2).2.2.2; omega) ?_⟩⟩⟩
      · have := (gd.2 c2).1; omega
      · rw [gb]
        obtain ⟨g1, g2, g3, g4⟩ := gd.2 c2
        refine ⟨by unfold r32; omega, by unfold r32; omega, by unfold r32; omega, ⟨by omega, by omega⟩, by omega, ?_⟩
        match L, St, tp, skE, g1, skL with
        | [], St, tp, skE, g1, skL => exact absurd g1 (by rw [List.length_nil]; omega)
        | x :: L, St, tp, skE, g1, skL =>
          obtain ⟨⟨q1, q2, q3⟩, St⟩ := St
          rw [List.length_cons] at tp skL
          have tp' : g (T - 3) 5 - 1 = L.length := by omega
          rw [tp']
          refine form g L _ _ (-1) (tF (3 + h (s + 1) (m + 1) - 48) x) _ (by omega) (fun _ _ _ => rfl) (by omega) (fun _ => ⟨q1, q2⟩) (fun z => by omega) (fun z => by omega) (fun _ => rfl) (by rw [mkT_f (by omega), q3]) (by rw [skE, act_d c2]; rfl) St (fun y3 k3 e5 K => ⟨⟨by omega, by omega⟩, fun g3 e3 => ⟨r1, K g3 (fun a i p q => by rw [e3, up2_nc p]) (fun i p => by rw [e3, up2_ni p]) (by rw [e3, up2_eq]) (by rw [e3, up2_nc (by omega), e5, tp]; omega) _ _⟩⟩)
    refine ⟨fun c1 => next c1, fun c1 => ⟨fun z => ?_, fun z => ⟨by unfold r32; omega, fun g2 e2 => ?_⟩⟩⟩
    · have := gd.1 c1; omega
    · have t2 : g2 (T - 3) 5 = g (T - 3) 5 - 1 := by rw [e2, up2_eq]
      have o2 : ∀ a i, ¬ (a = T - 3 ∧ i = 5) → g2 a i = g a i := fun a i p => by rw [e2, up2_ext p]
      rw [t2, show g2 (T - 1) = g (T - 1) from funext fun i => o2 _ _ (by omega)]
      have g1 := gd.1 c1
      match L, St, tp, skE, g1, skL with
      | [], St, tp, skE, g1, skL => exact absurd g1 (by rw [List.length_nil]; omega)
      | [x], St, tp, skE, g1, skL => exact absurd g1 (by rw [List.length_cons, List.length_nil]; omega)
      | x :: y :: L, St, tp, skE, g1, skL =>
        obtain ⟨⟨q1, q2, q3⟩, ⟨q4, q5, q6⟩, St⟩ := St
        rw [List.length_cons, List.length_cons] at tp skL
        rw [List.length_cons] at q1 q2 q3
        have tp1 : g (T - 3) 5 - 1 = ((L.length + 1 : Nat) : Int) := by omega
        have tp2 : ((L.length + 1 : Nat) : Int) - 1 = L.length := by omega
        rw [tp1, tp2]
        refine ⟨by unfold r32; omega, ⟨by omega, by omega⟩, by unfold r32; omega, ⟨by omega, by omega⟩, by omega, ?_⟩
        refine form g2 L 2 _ _ (tP x y) _ (by omega) o2 (by omega) (fun _ => ⟨q1, q2⟩) (fun _ => ⟨q4, q5⟩) (fun z => by omega) (fun z => absurd rfl z) (by rw [mkT_2, q3, q6]) (by rw [skE, act_p c1]; rfl) St (fun y3 k3 e5 K => ⟨⟨by omega, by omega⟩, fun g4 e4 => ⟨r1, K g4 (fun a i p q => by rw [e4, up2_nc p]) (fun i p => by rw [e4, up2_ni p]) (by rw [e4, up2_eq]) (by rw [e4, up2_nc (by omega), e5, t2]; omega) _ _⟩⟩)
theorem c_build {d : Nat} {h : HP} {T R s kd : Int} {tm : Int → Tm} {S : Sx} {V : Vx} {mu : Int → Nat} {Q : PQ} (hd : 10 < d) (C : CV h T R tm S V) (F : FrN V mu) (hk : kd = 7 ∨ kd = 8) (sz : aSZ (s + 1) = 24) (sT : s + 1 < T - 3 ∨ T + 13 < s) (s0 : s ≠ 0) (n0 : 0 ≤ h s 1) (n1 : h s 1 ≤ 24) (O : 0 ≤ rdS (h (s + 1)) (h s 1) (h s 1) 3 0) (hr : h T 13 + h s 1 ≤ R)
    (H : ∀ g, BldI h g T R s tm S V mu kd 0 → Q 0 g) : Go d M_World_build 0 [(20, T - 3), (36, s), (0, kd), (2, 0), (2, 0), (2, 0)] [] h Q := by
  have hT := (CV_L0 C).2.2.2.2
  have tr := TR_le hT
  refine W_World_build_0 hT (fun g1 e1 => W_World_build_7 hT ⟨fun z => by omega, fun _ => ⟨⟨by omega, by omega⟩, fun g2 e2 => ⟨by unfold r32; omega, W_World_build_7 hT ⟨fun z => by omega, fun _ => ⟨⟨by omega, by omega⟩, fun g3 e3 => ⟨by unfold r32; omega, W_World_build_7 hT ⟨fun z => by omega, fun _ => ⟨⟨by omega, by omega⟩, fun g4 e4 => ⟨by unfold r32; omega, W_World_build_7 hT ⟨fun _ => ⟨s0, ?_⟩, fun z => by omega⟩⟩⟩⟩⟩⟩⟩⟩⟩⟩)
  have o : ∀ a i, a ≠ T - 2 → ¬ (a = T - 3 ∧ i = 5) → g4 a i = h a i := fun a i p q => by rw [e4, up2_nc p, e3, up2_nc p, e2, up2_nc p, e1, up2_ext q]
  have es : g4 s 1 = h s 1 := o s 1 (by omega) (by omega)
  rw [es]
  have lc : LcC T h g4 := fun a i p q => o a i (by omega) (by omega)
  have I0 : BldI h g4 T R s tm S V mu kd (h s 1) := by
    refine ⟨tm, ?_, XB_loc (LcC_refl T h) lc (XB_refl T h tm), ?_, ?_, fun v v0 v1 => ⟨fun z => ?_, fun _ => ?_⟩, ?_, fun a i p => o a i (by omega) (by omega)⟩
    · rw [nV_nil (P := Oc (h (s + 1)) (h s 1) (h s 1)) (fun v v0 v1 z => by obtain ⟨i, i0, i1, i2⟩ := z; omega)]; exact CV_loc lc C
    · rw [show (h s 1 - h s 1).toNat = 0 by omega, e4, up2_nc (by omega), e3, up2_nc (by omega), e2, up2_nc (by omega), e1, up2_eq]; rfl
    · rw [show (h s 1 - h s 1).toNat = 0 by omega]; exact trivial
    · obtain ⟨i, i0, i1, i2⟩ := z; omega
    · have : v = 0 ∨ v = 0 + 1 ∨ v = 0 + 1 + 1 := by omega
      rcases this with z | z | z
      · subst z; rw [e4, up2_ni (by omega), e3, up2_ni (by omega), e2, up2_eq]
      · subst z; rw [e4, up2_ni (by omega), e3, up2_eq]
      · subst z; rw [e4, up2_eq]
    · rw [lc T 13 (by omega) (by omega)]; omega
  have G := c_build32 (Q := Q) hd C F hk sz sT s0 n0 n1 O hr H (h s 1).toNat g4 (2, 0) (2, 0) (by omega) (by rw [show (((h s 1).toNat : Nat) : Int) = h s 1 by omega]; exact I0)
  rw [show (((h s 1).toNat : Nat) : Int) = h s 1 by omega] at G
  exact ⟨by unfold r32; omega, G⟩
theorem c_partAt {d : Nat} {g : HP} {T R : Int} {tm : Int → Tm} {L : List Tm} {i : Nat} {t : Tm} {Q : PQ} (hT : TR T R) (tp : g (T - 3) 5 = L.length) (l24 : L.length ≤ 24) (St : StkL (g (T - 1)) 0 (g T 13) tm L) (e : L[i]? = some t) (H : ∀ x, 0 ≤ x → x < g T 13 → tm x = t → Q x g) : Go d M_World_partAt 0 [(20, T - 3), (0, (i : Int)), (2, 0)] [] g Q := by
  have il := getS_lt e
  have q := StkL_get L i t e St
  refine W_World_partAt_0 hT ?_
  rw [tp]
  exact ⟨by unfold r32; omega, by unfold r32; omega, fun z => by omega, fun _ => ⟨fun z => by omega, fun _ => ⟨⟨by omega, by omega⟩, H _ q.1 q.2.1 q.2.2⟩⟩⟩
end
