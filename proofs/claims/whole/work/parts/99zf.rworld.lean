section
/-! worlds with their variables: the reference -/
def MV (h : HP) (tm : Int → Tm) (S : Sx) (V : Vx) : Prop := RW h tm S ∧ VOk (h 135 14) (h 135 15) (h 137) (h 140) tm V
def XM (h : HP) (tm : Int → Tm) (g : HP) (tm' : Int → Tm) : Prop := ExN h g ∧ ∀ x, h 135 14 ≤ x → x < h 135 15 → tm' x = tm x
/-- what stands outside the reference's types -/
def OuM (h g : HP) : Prop := (∀ a i, a < 135 ∨ a = 136 ∨ 149 < a → g a i = h a i) ∧ (∀ i, i < 14 ∨ 19 < i → g 135 i = h 135 i)
theorem OuM_refl (h : HP) : OuM h h := ⟨fun _ _ _ => rfl, fun _ _ => rfl⟩
theorem OuM_trans {h g k : HP} (a : OuM h g) (b : OuM g k) : OuM h k := ⟨fun x i p => by rw [b.1 x i p, a.1 x i p], fun i p => by rw [b.2 i p, a.2 i p]⟩
theorem ExM_OuM {h g : HP} (X : ExM h g) : OuM h g := ⟨fun a i p => X.2.2.2.2.2.2.1 a i p, fun i p => X.1 i (by omega) (by omega)⟩
theorem ExN_refl (h : HP) : ExN h h := ExM_ExN (ExM_refl h)
theorem XM_refl (h : HP) (tm : Int → Tm) : XM h tm h tm := ⟨ExN_refl h, fun _ _ _ => rfl⟩
theorem XM_trans {h g k : HP} {tm tm' tm'' : Int → Tm} (a : XM h tm g tm') (b : XM g tm' k tm'') : XM h tm k tm'' := by
  have a1 := a.1.1.1
  have a2 := a.1.2.1
  exact ⟨ExN_trans a.1 b.1, fun x x0 x1 => by rw [b.2 x (by omega) (by omega), a.2 x x0 x1]⟩
theorem MV_b {h : HP} {tm : Int → Tm} {S : Sx} {V : Vx} (M : MV h tm S V) : 0 ≤ h 135 14 ∧ h 135 14 ≤ h 135 15 ∧ h 135 15 ≤ 1000 := (RC_SB M.1.1).1
theorem MV_loc {h g : HP} {tm : Int → Tm} {S : Sx} {V : Vx} (s : LcM h g) (M : MV h tm S V) : MV g tm S V := by
  refine ⟨RW_loc s M.1, ?_⟩
  rw [s.1 14 (by omega) (by omega), s.1 15 (by omega) (by omega), LcM_row s 137 (by omega) (by omega) (by omega), LcM_row s 140 (by omega) (by omega) (by omega)]
  exact M.2
theorem XM_loc {h h1 g g1 : HP} {tm tm' : Int → Tm} (s1 : LcM h h1) (s2 : LcM g g1) (X : XM h tm g tm') : XM h1 tm g1 tm' :=
  ⟨ExN_loc s1 s2 X.1, fun x x0 x1 => X.2 x (by rw [← s1.1 14 (by omega) (by omega)]; exact x0) (by rw [← s1.1 15 (by omega) (by omega)]; exact x1)⟩
theorem LcM_of {h g : HP} (o : ∀ a i, ¬ (149 < a) → g a i = h a i) : LcM h g := ⟨fun i p q => o _ _ (by omega), fun a i p q r => o _ _ (by omega)⟩
theorem c_mkF {d : Nat} {h : HP} {k a b : Int} {t : Tm} {tm : Int → Tm} {S : Sx} {V : Vx} {Q : PQ} (hd : 5 < d) (M : MV h tm S V) (hk : 0 ≤ k ∧ k ≤ 6) (ha : 2 ≤ k → h 135 14 ≤ a ∧ a < h 135 15) (hb : k = 2 → h 135 14 ≤ b ∧ b < h 135 15) (hr : h 135 15 < 1000) (h18 : 0 ≤ h 135 18 ∧ h 135 18 ≤ 99) (ht : t = mkT k (tm a) (tm b))
    (H : ∀ (r : Int) (g : HP) (tm' : Int → Tm), MV g tm' S V → XM h tm g tm' → OuM h g → h 135 14 ≤ r → r < g 135 15 → tm' r = t → g 135 15 ≤ h 135 15 + 1 → Q r g) :
    Go d M_Mo_makes 0 [(22, 135), (0, k), (0, a), (0, b), (2, 0)] [] h Q := by
  have bb := MV_b M
  refine c_makes (t := t) hd M.1 ⟨hk.1, by omega⟩ (fun z _ => ha z) hb hr h18 (fun _ => ht) (fun z => by omega) (fun _ i i0 i1 _ _ _ e => H i h tm M (XM_refl h tm) (OuM_refl h) i0 i1 e (by omega)) (fun _ g R X e15 e17 r7 r8 r9 r10 => ?_)
  have e14 : g 135 14 = h 135 14 := X.1 14 (by omega) (by omega)
  refine H (h 135 15) g (upT tm (h 135 15) t) ⟨R, ?_⟩ ⟨ExM_ExN X, fun x x0 x1 => upT_ne (by omega)⟩ (ExM_OuM X) (by omega) (by omega) upT_eq (by omega)
  rw [e14, e15]
  exact VOk_nf M.2 (fun i i0 i1 => ⟨(X.2.2.2.1 i i1).1, (X.2.2.2.1 i i1).2.2.2⟩) r7 (by omega)
theorem c_mkN {d : Nat} {h : HP} {k : Int} {m : Nat} {tm : Int → Tm} {S : Sx} {V : Vx} {Q : PQ} (hd : 5 < d) (M : MV h tm S V) (hk : k = 7 ∨ k = 8) (hr : h 135 15 < 1000) (h18 : 0 ≤ h 135 18 ∧ h 135 18 ≤ 99) (fr : (V m).1 < 7)
    (H : ∀ (r : Int) (g : HP) (tm' : Int → Tm), MV g tm' S (upV V m (k, h 135 18)) → XM h tm g tm' → OuM h g → h 135 14 ≤ r → r < g 135 15 → tm' r = tV m → g 135 15 ≤ h 135 15 + 1 → Q r g) :
    Go d M_Mo_makes 0 [(22, 135), (0, k), (0, -1), (0, -1), (2, 0)] [] h Q := by
  have bb := MV_b M
  refine c_makes (t := tV m) hd M.1 (by omega) (fun z _ => by omega) (fun z => by omega) hr h18 (fun z => by omega) (fun _ => ⟨m, rfl, fun x x0 x1 x7 => VOk_fr M.2 fr x0 x1 x7⟩) (fun z => by omega) (fun _ g R X e15 e17 r7 r8 r9 r10 => ?_)
  have e14 : g 135 14 = h 135 14 := X.1 14 (by omega) (by omega)
  refine H (h 135 15) g (upT tm (h 135 15) (tV m)) ⟨R, ?_⟩ ⟨ExM_ExN X, fun x x0 x1 => upT_ne (by omega)⟩ (ExM_OuM X) (by omega) (by omega) upT_eq (by omega)
  rw [e14, e15]
  exact VOk_nv bb.2.1 M.2 (fun i i0 i1 => ⟨(X.2.2.2.1 i i1).1, (X.2.2.2.1 i i1).2.2.2⟩) ⟨r7, r10⟩ (by omega) fr
/-- a type of a heading: the bytes of a segment p .. q-1, read from behind down to place i -/
def TyI (h g : HP) (tm : Int → Tm) (S : Sx) (V : Vx) (θ : Int → Tm) (b : Int → Int) (q i : Int) : Prop :=
  ∃ tm', MV g tm' S V ∧ XM h tm g tm' ∧ StkL (g 160) (g 135 14) (g 135 15) tm' (skT b θ (q - i).toNat i []) ∧ g 135 15 ≤ h 135 15 + (q - i) ∧ (∀ a j, a < 135 ∨ a = 136 ∨ (149 < a ∧ a ≠ 160) → g a j = h a j) ∧ (∀ j, j < 14 ∨ 19 < j → g 135 j = h 135 j)
theorem c_typeOf7 {d : Nat} {h : HP} {b : Int → Int} {θ : Int → Tm} {off p q : Int} {tm : Int → Tm} {S : Sx} {V : Vx} {Q : PQ} (hd : 8 < d) (h14 : 0 ≤ h 135 14) (h18 : 0 ≤ h 135 18 ∧ h 135 18 ≤ 99) (off0 : 0 ≤ off) (p0 : 0 ≤ p) (q24 : q ≤ 24) (off1 : off ≤ 360) (hb : ∀ i, 0 ≤ i → i < q → h 151 (off + i) = b i) (gds : ∀ i, p ≤ i → i < q → Gd b θ [] q i) (hr : h 135 15 + (q - p) ≤ 1000)
    (hv : ∀ v, 0 ≤ v → v < 3 → (∃ i, p ≤ i ∧ i < q ∧ b i = 117 + v) → h 135 14 ≤ h 159 v ∧ h 159 v < h 135 15 ∧ tm (h 159 v) = θ v)
    (H : ∀ g, TyI h g tm S V θ b q p → Q (g 160 0) g) : ∀ (m : Nat) (g : HP) (w5 : AV) (v3 : Int), p + m ≤ q → TyI h g tm S V θ b q (p + m) → v3 = (skT b θ (q - (p + m)).toNat (p + m) []).length → Go d M_Mo_typeOf 7 [(22, 135), (0, off + p), (0, off + q), (0, v3), (0, off + (p + m) - 1), w5] [] g Q := by
  intro m
  induction m with
  | zero =>
    intro g w5 v3 hm I e3
    rw [show p + ((0 : Nat) : Int) = p by omega] at I e3 ⊢
    exact N_Mo_typeOf_7 ⟨fun _ => ⟨⟨by omega, by omega⟩, H g I⟩, fun z => by omega⟩
  | succ m ih =>
    intro g w5 v3 hm I e3
    obtain ⟨tm', M, X, St, nb, o, o5⟩ := I
    obtain ⟨x, hx⟩ : ∃ x, x = p + (m : Int) := ⟨_, rfl⟩
    rw [show p + ((m + 1 : Nat) : Int) = x + 1 by omega] at St nb e3 hm ⊢
    rw [← hx] at ih
    have gd := gds x (by omega) (by omega)
    unfold Gd at gd
    have skE := sk_st (b := b) (θ := θ) (s := []) (p := x) (q := q) (by omega)
    have skL := sk_len (b := b) (θ := θ) (s := []) (q - (x + 1)).toNat (x + 1)
    have l0 : ([] : List Tm).length = 0 := rfl
    rw [l0] at skL
    have gb : g 151 (off + (x + 1) - 1) = b x := by rw [show off + (x + 1) - 1 = off + x by omega, o 151 _ (by omega)]; exact hb x (by omega) (by omega)
    have e14 : g 135 14 = h 135 14 := X.1.1.1
    have e18 : g 135 18 = h 135 18 := X.1.1.2.2.1
    have mn := X.1.2.1
    have back : ∀ (g4 : HP) (tm2 : Int → Tm) (w : AV) (v : Int), MV g4 tm2 S V → XM g tm' g4 tm2 → StkL (g4 160) (g4 135 14) (g4 135 15) tm2 (skT b θ (q - x).toNat x []) → g4 135 15 ≤ g 135 15 + 1 → (∀ a j, a < 135 ∨ a = 136 ∨ (149 < a ∧ a ≠ 160) → g4 a j = g a j) → (∀ j, j < 14 ∨ 19 < j → g4 135 j = g 135 j) → v = (skT b θ (q - x).toNat x []).length → r32 (off + (x + 1) - 1 + (-1)) ∧ Go d M_Mo_typeOf 7 [(22, 135), (0, off + p), (0, off + q), (0, v), (0, off + (x + 1) - 1 + (-1)), w] [] g4 Q := by
      intro g4 tm2 w v M2 X2 S2 n2 o2 o52 ev
      rw [show off + (x + 1) - 1 + (-1) = off + x - 1 by omega]
      refine ⟨by unfold r32; omega, ih g4 w v (by omega) ⟨tm2, M2, XM_trans X X2, S2, by omega, fun a j z => by rw [o2 a j z, o a j z], fun j z => by rw [o52 j z, o5 j z]⟩ ev⟩
    generalize hL : skT b θ (q - (x + 1)).toNat (x + 1) [] = L at *
    -- a formed type onto the stack in place of the top ones
    have form : ∀ (L' : List Tm) (k y z : Int) (t : Tm) (Q' : PQ), (0 ≤ k ∧ k ≤ 6) → (2 ≤ k → g 135 14 ≤ y ∧ y < g 135 15) → (k = 2 → g 135 14 ≤ z ∧ z < g 135 15) → t = mkT k (tm' y) (tm' z) → skT b θ (q - x).toNat x [] = t :: L' → StkL (g 160) (g 135 14) (g 135 15) tm' L' →
        (∀ (y3 : Int) (k3 : HP), (∀ g4 : HP, g4 = up2 k3 160 L'.length y3 → ∀ w v, v = (L'.length : Int) + 1 → r32 (off + (x + 1) - 1 + (-1)) ∧ Go d M_Mo_typeOf 7 [(22, 135), (0, off + p), (0, off + q), (0, v), (0, off + (x + 1) - 1 + (-1)), w] [] g4 Q) → Q' y3 k3) →
        Go (d - 1) M_Mo_makes 0 [(22, 135), (0, k), (0, y), (0, z), (2, 0)] [] g Q' := by
      intro L' k y z t Q' hk hy hz ht es sl K
      refine c_mkF (t := t) (by omega) M hk hy hz (by omega) (by omega) ht (fun r g3 tm2 M2 X2 O2 r0 r1 rt n2 => K r g3 (fun g4 e4 w v ev => ?_))
      have q4 : ∀ a j, a ≠ 160 → g4 a j = g3 a j := fun a j u => by rw [e4, up2_nc u]
      have lc : LcM g3 g4 := LcM_of (fun a i u => q4 a i (by omega))
      refine back g4 tm2 w v (MV_loc lc M2) (XM_loc (LcM_refl g) lc X2) ?_ (by rw [q4 135 15 (by omega)]; omega) (fun a j u => by rw [q4 a j (by omega), O2.1 a j (by omega)]) (fun j u => by rw [q4 135 j (by omega), O2.2 j u]) (by rw [es, List.length_cons, ev]; omega)
      have f14 : g4 135 14 = g 135 14 := by rw [q4 135 14 (by omega)]; exact X2.1.1.1
      have m2 := X2.1.2.1
      rw [es, f14, q4 135 15 (by omega)]
      have tp : g4 160 L'.length = r := by rw [e4, up2_eq]
      refine ⟨⟨by rw [tp]; exact r0, by rw [tp]; exact r1, by rw [tp]; exact rt⟩, StkL_mono L' (fun i i0 i1 => ?_) m2 X2.2 sl⟩
      rw [e4, up2_ni (by omega), O2.1 160 i (by omega)]
    refine N_Mo_typeOf_7 ⟨fun z => by omega, fun _ => ⟨⟨by omega, by omega⟩, ?_⟩⟩
    rw [gb]
    refine ⟨fun c1 => ⟨fun c2 => ⟨fun c3 => ?_, fun c3 => ⟨fun c4 => ⟨fun c5 => ⟨by unfold r32; omega, ⟨by omega, by omega⟩, ⟨by omega, by omega⟩, fun g4 e4 => ⟨by unfold r32; omega, ?_⟩⟩, fun c5 => ⟨by omega, ?_⟩⟩, fun c4 => ⟨by omega, ?_⟩⟩⟩, fun c2 => ?_⟩, fun c1 => ?_⟩
    · -- a figure
      refine back g tm' _ _ M (XM_refl g tm') ?_ (by omega) (fun _ _ _ => rfl) (fun _ _ => rfl) ?_
      · rw [skE, act_o c1 c2 (by omega) (by omega) (by omega)]; exact St
      · rw [skE, act_o c1 c2 (by omega) (by omega) (by omega)]; exact e3
    · -- a variable
      obtain ⟨v, hv'⟩ : ∃ v, v = b x - 117 := ⟨_, rfl⟩
      rw [← hv'] at e4
      obtain ⟨u1, u2, u3⟩ := hv v (by omega) (by omega) ⟨x, by omega, by omega, by omega⟩
      have es : skT b θ (q - x).toNat x [] = θ v :: L := by rw [skE, act_v (by omega), ← hv']
      have e159 : g 159 v = h 159 v := o 159 v (by omega)
      rw [e159, e3] at e4
      have q4 : ∀ a j, a ≠ 160 → g4 a j = g a j := fun a j u => by rw [e4, up2_nc u]
      have lc : LcM g g4 := LcM_of (fun a i u => q4 a i (by omega))
      refine back g4 tm' _ _ (MV_loc lc M) (XM_loc (LcM_refl g) lc (XM_refl g tm')) ?_ (by rw [q4 135 15 (by omega)]; omega) (fun a j u => q4 a j (by omega)) (fun j u => q4 135 j (by omega)) (by rw [es, List.length_cons, e3]; omega)
      rw [es, q4 135 14 (by omega), q4 135 15 (by omega)]
      have tp : g4 160 L.length = h 159 v := by rw [e4, up2_eq]
      refine ⟨⟨by rw [tp]; omega, by rw [tp]; omega, by rw [tp, X.2 _ u1 u2]; exact u3⟩, StkL_mono L (fun i i0 i1 => ?_) (Int.le_refl _) (fun _ _ _ => rfl) St⟩
      rw [e4, up2_ni (by omega)]
    · -- b
      refine form L 1 (-1) (-1) tB _ (by omega) (fun z => by omega) (fun z => by omega) rfl (by rw [skE, act_b c5]) St (fun y3 k3 K => ⟨⟨by omega, by omega⟩, fun g4 e4 => ⟨by unfold r32; omega, ?_⟩⟩)
      rw [e3] at e4 ⊢
      exact K g4 e4 _ _ rfl
    · -- i
      refine form L 0 (-1) (-1) tI _ (by omega) (fun z => by omega) (fun z => by omega) rfl (by rw [skE, act_i c4]) St (fun y3 k3 K => ⟨⟨by omega, by omega⟩, fun g4 e4 => ⟨by unfold r32; omega, ?_⟩⟩)
      rw [e3] at e4 ⊢
      exact K g4 e4 _ _ rfl
    · -- d
      obtain ⟨d1, d2, d3, d4⟩ := gd.2.1 c2
      have gb1 : g 151 (off + (x + 1) - 1 + 1) = b (x + 1) := by rw [show off + (x + 1) - 1 + 1 = off + (x + 1) by omega, o 151 _ (by omega)]; exact hb (x + 1) (by omega) (by omega)
      rw [gb1]
      refine ⟨by unfold r32; omega, by unfold r32; omega, ⟨by omega, by omega⟩, by unfold r32; omega, by unfold r32; omega, by unfold r32; omega, ⟨by omega, by omega⟩, by omega, ?_⟩
      match L, St, e3, skE, d1, skL with
      | [], St, e3, skE, d1, skL => exact absurd d1 (by rw [List.length_nil]; omega)
      | y :: L, St, e3, skE, d1, skL =>
        obtain ⟨⟨q1, q2, q3⟩, St⟩ := St
        rw [List.length_cons] at e3 skL
        have e3' : v3 - 1 = L.length := by omega
        rw [e3']
        refine form L _ _ (-1) (tF (3 + b (x + 1) - 48) y) _ (by omega) (fun _ => ⟨q1, q2⟩) (fun z => by omega) (by rw [mkT_f (by omega), q3]) (by rw [skE, act_d c2]; rfl) St (fun y3 k3 K => ⟨⟨by omega, by omega⟩, fun g4 e4 => K g4 e4 _ _ (by omega)⟩)
    · -- p
      have d1 := gd.1 c1
      match L, St, e3, skE, d1, skL with
      | [], St, e3, skE, d1, skL => exact absurd d1 (by rw [List.length_nil]; omega)
      | [y], St, e3, skE, d1, skL => exact absurd d1 (by rw [List.length_cons, List.length_nil]; omega)
      | y :: z :: L, St, e3, skE, d1, skL =>
        obtain ⟨⟨q1, q2, q3⟩, ⟨q4, q5, q6⟩, St⟩ := St
        rw [List.length_cons, List.length_cons] at e3 skL
        rw [List.length_cons] at q1 q2 q3
        have e1 : v3 + (-1) = ((L.length + 1 : Nat) : Int) := by omega
        have e2 : ((L.length + 1 : Nat) : Int) - 1 = L.length := by omega
        rw [e1, e2]
        refine ⟨by unfold r32; omega, by unfold r32; omega, ⟨by omega, by omega⟩, by unfold r32; omega, ⟨by omega, by omega⟩, by omega, ?_⟩
        refine form L 2 _ _ (tP y z) _ (by omega) (fun _ => ⟨q1, q2⟩) (fun _ => ⟨q4, q5⟩) (by rw [mkT_2, q3, q6]) (by rw [skE, act_p c1]; rfl) St (fun y3 k3 K => ⟨⟨by omega, by omega⟩, fun g4 e4 => K g4 e4 _ _ (by omega)⟩)
end
