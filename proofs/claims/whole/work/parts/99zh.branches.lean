section
/-! a branch of a constructor: both sides -/
def sgI (b : Int → Int) (n : Int) (mu : Int → Nat) (c : Int) : Tm := match (sgL b n mu)[c.toNat]? with
  | some t => t
  | none => tI
theorem sgL_len {b : Int → Int} {n c : Int} {mu : Int → Nat} (n0 : 0 ≤ n) (c0 : 0 ≤ c) (he : rdS b n n 3 0 = c) : ((sgL b n mu).length : Int) = c + 1 := by
  have := (rdS_sk (b := b) (θ := fun v => tV (mu v)) (n := n) 3 0 (by omega) (by omega) n0 (by omega)).2
  rw [show n - 0 = n by omega, he] at this
  show ((skT b (fun v => tV (mu v)) n.toNat 0 []).length : Int) = c + 1
  omega
theorem sgI_get {b : Int → Int} {n c : Int} {mu : Int → Nat} (n0 : 0 ≤ n) (c0 : 0 ≤ c) (he : rdS b n n 3 0 = c) : (sgL b n mu)[c.toNat]? = some (sgI b n mu c) := by
  have l := sgL_len (mu := mu) n0 c0 he
  have e : (sgL b n mu)[c.toNat]? = some ((sgL b n mu)[c.toNat]'(by omega)) := List.getElem?_eq_getElem (by omega)
  unfold sgI
  rw [e]
theorem VOk_rows {lo n : Int} {hd hd' bn bn' : Int → Int} {tm : Int → Tm} {V : Vx} (hV : VOk lo n hd bn tm V) (ho : ∀ i, lo ≤ i → i < n → hd' i = hd i ∧ bn' i = bn i) : VOk lo n hd' bn' tm V := by
  refine ⟨fun x x0 x1 x7 => ?_, fun j hj => ?_⟩
  · obtain ⟨a, b⟩ := ho x x0 x1
    rw [a] at x7 ⊢
    rw [b]
    exact hV.1 x x0 x1 x7
  · obtain ⟨x, x0, x1, x7, xe⟩ := hV.2 j hj
    exact ⟨x, x0, x1, by rw [(ho x x0 x1).1]; exact x7, xe⟩
theorem CV_opH {h : HP} {T R : Int} {tm : Int → Tm} {S : Sx} {V : Vx} (C : CV h T R tm S V) : CV (opH h T) T R tm S V := by
  obtain ⟨c, W, hV⟩ := C
  have e13 : opH h T T 13 = h T 13 := opH_o (by omega) (by omega) (by omega)
  refine ⟨c, CW_opH W, ?_⟩
  rw [e13, show opH h T (T + 3) = h (T + 3) from funext fun i => opH_o (by omega) (by omega) (by omega), show opH h T (T + 6) = h (T + 6) from funext fun i => opH_o (by omega) (by omega) (by omega)]
  exact hV
theorem c_closeV {d : Nat} {h0 h : HP} {T R : Int} {tm tm' : Int → Tm} {S S' : Sx} {V V' : Vx} {Q : PQ} (hd : 0 < d) (C0 : CV h0 T R tm S V) (h15 : h0 T 15 < 32) (X : ExB T (opH h0 T) h) (C : CV h T R tm' S' V')
    (H : ∀ h', CV h' T R tm S V → ExB T h0 h' → h' T 13 = h0 T 13 → (∀ a i, a < T ∨ T + 13 < a → h' a i = h a i) → Q 0 h') : Go d M_Types_closeBranch 0 [(17, T)] [] h Q := by
  obtain ⟨c0, W0, hV⟩ := C0
  obtain ⟨c, W, _⟩ := C
  refine c_closeB hd W0 h15 X W.1 (fun h' W' X' e13 e14 o => H h' ⟨c0, W', ?_⟩ X' e13 o)
  rw [e13]
  exact VOk_rows hV (fun i i0 i1 => ⟨(X'.2.1 i i0 i1).1, (X'.2.1 i i0 i1).2.2.2⟩)
/-- the class: a branch's variables are built, and the index made equal -/
theorem c_bpj {d : Nat} {h : HP} {T R s y : Int} {tm : Int → Tm} {S : Sx} {V : Vx} {mu : Int → Nat} {X : PQ} (hd : 14 < d) (C : CV h T R tm S V) (F : FrN V mu) (sz : aSZ (s + 1) = 24) (sT : s + 1 < T - 3 ∨ T + 24 < s) (s0 : s ≠ 0) (n0 : 0 ≤ h s 1) (n1 : h s 1 ≤ 24) (c0 : 0 ≤ h s 2) (c3 : h s 2 ≤ 3) (O : rdS (h (s + 1)) (h s 1) (h s 1) 3 0 = h s 2) (hr : h T 13 + h s 1 ≤ R) (y0 : 0 ≤ y) (y1 : y < h T 13)
    (H : ∀ (r : Int) (g : HP) (tm' : Int → Tm), XB T (opH h T) tm g tm' → g (T - 3) 5 = (sgL (h (s + 1)) (h s 1) mu).length → StkL (g (T - 1)) 0 (g T 13) tm' (sgL (h (s + 1)) (h s 1) mu) → g T 13 ≤ h T 13 + h s 1 → (∀ a i, a < T - 3 ∨ T + 24 < a ∨ (a = T - 3 ∧ i ≠ 5) → g a i = h a i) →
      ((Sat (Snd S (sgI (h (s + 1)) (h s 1) mu (h s 2)) (tm y)) ∧ 0 ≤ r ∧ CV g T R tm' (Snd S (sgI (h (s + 1)) (h s 1) mu (h s 2)) (tm y)) (nV V mu (Oc (h (s + 1)) 0 (h s 1)) (7, h T 15 + 1))) ∨ (¬ Sat (Snd S (sgI (h (s + 1)) (h s 1) mu (h s 2)) (tm y)) ∧ r = -5 ∧ CV g T R tm' S (nV V mu (Oc (h (s + 1)) 0 (h s 1)) (7, h T 15 + 1)))) → X r g) :
    Go (d - 1) M_World_build 0 [(20, T - 3), (36, s), (0, 7), (2, 0), (2, 0), (2, 0)] [] (opH h T) (fun _ k3 => s ≠ 0 ∧ 0 < d ∧ Go (d - 1) M_World_partAt 0 [(20, T - 3), (0, k3 s 2), (2, 0)] [] k3 (fun y4 k4 => 0 < d ∧ Go (d - 1) M_Unifier_join 0 [(18, T + 20), (0, y4), (0, y), (0, 0), (2, 0), (2, 0), (2, 0)] [] k4 X)) := by
  have l0 := CV_L0 C
  have tr := TR_le l0.2.2.2.2
  have C1 := CV_opH C
  have e13 : opH h T T 13 = h T 13 := opH_o (by omega) (by omega) (by omega)
  have es : ∀ i, opH h T s i = h s i := fun i => opH_o (by omega) (by omega) (by omega)
  have eb : opH h T (s + 1) = h (s + 1) := funext fun i => opH_o (by omega) (by omega) (by omega)
  have e15 : opH h T T 15 = h T 15 + 1 := up2_eq
  have ll : ((skT (h (s + 1)) (fun v => tV (mu v)) (h s 1).toNat 0 []).length : Int) = h s 2 + 1 := sgL_len (mu := mu) n0 c0 O
  have lg := sgI_get (mu := mu) n0 c0 O
  refine c_build (by omega) C1 F (Or.inl rfl) sz (by omega) s0 (by rw [es]; exact n0) (by rw [es]; exact n1) (by rw [es, eb, O]; exact c0) (by rw [es, e13]; exact hr) (fun g I => ⟨s0, by omega, ?_⟩)
  obtain ⟨tm', C2, X2, tp, St, _, nb, o⟩ := I
  rw [es, eb, e15] at C2
  rw [es, eb, show h s 1 - 0 = h s 1 by omega] at tp St
  rw [es, e13] at nb
  have g2 : g s 2 = ((h s 2).toNat : Int) := by rw [o s 2 (by omega), es]; omega
  rw [g2]
  refine c_partAt l0.2.2.2.2 tp (by omega) St lg (fun x x0 x1 xt => ⟨by omega, ?_⟩)
  have ty : tm' y = tm y := X2.2 y y0 (by omega)
  have m13 := X2.1.1.1
  obtain ⟨c, W, hV⟩ := C2
  have o' : ∀ a i, a < T - 3 ∨ T + 24 < a ∨ (a = T - 3 ∧ i ≠ 5) → g a i = h a i := fun a i p => by rw [o a i (by omega)]; exact opH_o (by omega) (by omega) (by omega)
  have fin : ∀ (k : HP), ExC T g k → k T 13 = g T 13 → XB T (opH h T) tm k tm' ∧ k (T - 3) 5 = (sgL (h (s + 1)) (h s 1) mu).length ∧ StkL (k (T - 1)) 0 (k T 13) tm' (sgL (h (s + 1)) (h s 1) mu) ∧ k T 13 ≤ h T 13 + h s 1 ∧ (∀ a i, a < T - 3 ∨ T + 24 < a ∨ (a = T - 3 ∧ i ≠ 5) → k a i = h a i) ∧ VOk 0 (k T 13) (k (T + 3)) (k (T + 6)) tm' (nV V mu (Oc (h (s + 1)) 0 (h s 1)) (7, h T 15 + 1)) := by
    intro k XK k13
    have ko : ∀ a i, a < T → k a i = g a i := fun a i p => XK.2.2.2.2.2 a i (by omega)
    refine ⟨⟨ExB_trans W.1 (CV_L0 C1).1 X2.1 (ExC_ExB XK), X2.2⟩, by rw [ko _ _ (by omega)]; exact tp, ?_, by omega, fun a i p => by rw [XK.2.2.2.2.2 a i (by omega)]; exact o' a i p, ?_⟩
    · rw [k13, show k (T - 1) = g (T - 1) from funext fun i => ko _ _ (by omega)]; exact St
    · rw [k13]; exact VOk_rows hV (fun i i0 i1 => ⟨(XK.2.1 i i0 i1).1, (XK.2.1 i i0 i1).2.2.2⟩)
  refine c_join (pr := 0) (V := nV V mu (Oc (h (s + 1)) 0 (h s 1)) (7, h T 15 + 1)) (by omega) W hV x0 x1 y0 (by omega) ?_ ?_ (fun _ z => absurd rfl z)
  · intro sat _ k c' W' XK k13 r _ _ r0
    rw [xt, ty] at sat W'
    obtain ⟨f1, f2, f3, f4, f5, f6⟩ := fin k XK k13
    exact H r k tm' f1 f2 f3 f4 f5 (Or.inl ⟨sat, r0, c', W', f6⟩)
  · intro sat k W' XK k13 _
    rw [xt, ty] at sat
    obtain ⟨f1, f2, f3, f4, f5, f6⟩ := fin k XK k13
    exact H (-5) k tm' f1 f2 f3 f4 f5 (Or.inr ⟨sat, rfl, c, W', f6⟩)
/-- the reference: the same -/
theorem MV_ex {h g : HP} {tm : Int → Tm} {S S' : Sx} {V : Vx} (M : MV h tm S V) (R : RW g tm S') (X : ExN h g) (e15 : g 135 15 = h 135 15) : MV g tm S' V := by
  refine ⟨R, ?_⟩
  rw [X.1.1, e15]
  exact VOk_rows M.2 (fun i i0 i1 => ⟨(X.2.2.2.1 i i1).1, (X.2.2.2.1 i i1).2.2.2⟩)
theorem MV_iff {h : HP} {tm : Int → Tm} {S S' : Sx} {V : Vx} (M : MV h tm S V) (e : ∀ θ, S' θ ↔ S θ) : MV h tm S' V := ⟨RW_iff M.1 e, M.2⟩
theorem MV_brH {h : HP} {tm : Int → Tm} {S : Sx} {V : Vx} (M : MV h tm S V) : MV (brH h) tm S V := by
  refine ⟨RW_brH M.1, ?_⟩
  rw [brH_o (by omega) (by omega) (by omega), brH_o (by omega) (by omega) (by omega), show brH h 137 = h 137 from funext fun i => brH_o (by omega) (by omega) (by omega), show brH h 140 = h 140 from funext fun i => brH_o (by omega) (by omega) (by omega)]
  exact M.2
theorem c_unbrV {d : Nat} {h0 h : HP} {tm : Int → Tm} {S : Sx} {V : Vx} {Q : PQ} (hd : 5 < d) (M : MV h0 tm S V) (m1 : 0 ≤ h0 135 19 + h0 135 18) (m2 : h0 135 19 + h0 135 18 < 80) (h18 : 0 ≤ h0 135 18 ∧ h0 135 18 ≤ 99) (X : ExN (brH h0) h) (hh : h 135 15 ≤ 1000)
    (H : ∀ g, MV g tm S V → XM h0 tm g tm → g 135 15 = h0 135 15 → OuM h g → Q (h 135 15 - h0 135 15) g) : Go d M_Mo_unbranches 0 [(22, 135), (2, 0)] [] h Q :=
  c_unbranchesB hd M.1 m1 m2 h18 X hh (fun g R' X' e15 e17 o o2 => H g (MV_ex M R' X' e15) ⟨X', fun _ _ _ => rfl⟩ e15 ⟨o, o2⟩)
theorem c_brClash {d : Nat} {h : HP} {b : Int → Int} {s n c y : Int} {mu : Int → Nat} {tm : Int → Tm} {S : Sx} {V : Vx} {Q : PQ} (hd : 12 < d) (M : MV h tm S V) (F : FrN V mu) (h18 : 0 ≤ h 135 18 ∧ h 135 18 ≤ 98) (m1 : 0 ≤ h 135 19 + h 135 18) (m2 : h 135 19 + h 135 18 < 80) (s0 : 0 ≤ s) (s1 : s < 16) (n0 : 0 ≤ n) (n24 : n ≤ 24) (en : h 152 s = n) (hb : ∀ i, 0 ≤ i → i < n → h 151 (24 * s + i) = b i) (c0 : 0 ≤ c) (he : rdS b n n 3 0 = c) (hr : h 135 15 + 2 * n ≤ 1000) (y0 : h 135 14 ≤ y) (y1 : y < h 135 15)
    (H : ∀ (r : Int) (g : HP) (tm' : Int → Tm), XM (brH h) tm g tm' → TlE g tm' 0 (sgL b n mu) → g 135 15 ≤ h 135 15 + 2 * n → OuT h g →
      ((Sat (Snd S (sgI b n mu c) (tm y)) ∧ r = 0 ∧ MV g tm' (Snd S (sgI b n mu c) (tm y)) (nV V mu (Oc b 0 n) (7, h 135 18 + 1))) ∨ (¬ Sat (Snd S (sgI b n mu c) (tm y)) ∧ r = 1 ∧ MV g tm' S (nV V mu (Oc b 0 n) (7, h 135 18 + 1)))) → Q r g) :
    Go d M_Mo_branchClashes 0 [(22, 135), (0, s), (0, y)] [] h Q := by
  have bb := MV_b M
  have main : Go (d - 1) M_Mo_tells 0 [(22, 135), (0, s), (0, 7), (2, 0), (2, 0), (2, 0), (2, 0), (2, 0)] [] (brH h) (fun y4 k4 => ((0 : Int) ≤ 3 ∧ (3 : Int) < 4) ∧ 0 < d ∧ Go (d - 1) M_Mo_equated 0 [(22, 135), (0, k4 158 3), (0, y), (2, 0)] [] k4 (fun y5 k5 => (y5 ≠ -5 → Q 0 k5) ∧ (y5 = -5 → Q 1 k5))) := by
    have f : ∀ i, i ≠ 18 → brH h 135 i = h 135 i := fun i q => brH_o (by omega) (by omega) (fun z => q z.2)
    have f18 : brH h 135 18 = h 135 18 + 1 := up2_eq
    have fo : ∀ a i, a ≠ 148 → a ≠ 149 → a ≠ 135 → brH h a i = h a i := fun a i p q r => brH_o p q (fun z => r z.1)
    refine c_tells (b := b) (mu := mu) (by omega) (MV_brH M) F (Or.inl rfl) (by rw [f18]; omega) s0 s1 n0 n24 (by rw [fo 152 s (by omega) (by omega) (by omega)]; exact en) (fun i i0 i1 => by rw [fo 151 _ (by omega) (by omega) (by omega)]; exact hb i i0 i1) (by omega) (by rw [f 15 (by omega)]; exact hr) (fun k tm2 M2 X2 T2 n2 O2 => ⟨⟨by decide, by decide⟩, by omega, ?_⟩)
    rw [f18] at M2
    rw [f 15 (by omega)] at n2
    have ll := sgL_len (mu := mu) n0 c0 he
    have lg := sgI_get (mu := mu) n0 c0 he
    have rp := (T2 c.toNat (sgI b n mu c) lg).2 (by omega)
    have e14 : k 135 14 = h 135 14 := by rw [X2.1.1.1, f 14 (by omega)]
    have m15 : h 135 15 ≤ k 135 15 := by have := X2.1.2.1; rw [f 15 (by omega)] at this; exact this
    have ty : tm2 y = tm y := X2.2 y (by rw [f 14 (by omega)]; exact y0) (by rw [f 15 (by omega)]; exact y1)
    have O3 : OuT h k := ⟨fun a i u => by rw [O2.1 a i u]; exact fo a i (by omega) (by omega) (by omega), fun i u => by rw [O2.2 i u]; exact f i (by omega)⟩
    have fin : ∀ (g : HP), ExM k g → g 135 15 = k 135 15 → XM (brH h) tm g tm2 ∧ TlE g tm2 0 (sgL b n mu) ∧ g 135 15 ≤ h 135 15 + 2 * n ∧ OuT h g := by
      intro g X e15
      have O4 := ExM_OuM X
      refine ⟨⟨ExN_trans X2.1 (ExM_ExN X), X2.2⟩, fun i t ei => ?_, by omega, ⟨fun a i u => by rw [O4.1 a i (by omega)]; exact O3.1 a i u, fun i u => by rw [O4.2 i u]; exact O3.2 i u⟩⟩
      have := T2 i t ei
      have g14 : g 135 14 = k 135 14 := X.1 14 (by omega) (by omega)
      show (i + 1 < (sgL b n mu).length → g 135 14 ≤ _ ∧ _ < g 135 15 ∧ _) ∧ (i + 1 = (sgL b n mu).length → g 135 14 ≤ _ ∧ _ < g 135 15 ∧ _)
      rw [O4.1 158 _ (by omega), O4.1 158 _ (by omega), g14, e15]
      exact this
    refine c_equated (by omega) M2.1 ⟨rp.1, rp.2.1⟩ ⟨by omega, by omega⟩ ?_ ?_ ?_
    · intro eq
      rw [rp.2.2, ty] at eq
      have iff : ∀ θ, Snd S (sgI b n mu c) (tm y) θ ↔ S θ := fun θ => ⟨fun z => z.1, fun z => ⟨z, eq θ z⟩⟩
      obtain ⟨f1, f2, f3, f4⟩ := fin k (ExM_refl k) rfl
      obtain ⟨θ, hθ⟩ := M2.1.2.1
      exact ⟨fun _ => H 0 k tm2 f1 f2 f3 f4 (Or.inl ⟨⟨θ, (iff θ).mpr hθ⟩, rfl, MV_iff M2 iff⟩), fun z => absurd z (by decide)⟩
    · intro _ sat g R' X e15 _ _ r _ r0
      rw [rp.2.2, ty] at sat R'
      obtain ⟨f1, f2, f3, f4⟩ := fin g X e15
      exact ⟨fun _ => H 0 g tm2 f1 f2 f3 f4 (Or.inl ⟨sat, rfl, MV_ex M2 R' (ExM_ExN X) e15⟩), fun z => by omega⟩
    · intro sat g R' X e15 _
      rw [rp.2.2, ty] at sat
      obtain ⟨f1, f2, f3, f4⟩ := fin g X e15
      exact ⟨fun z => absurd rfl z, fun _ => H 1 g tm2 f1 f2 f3 f4 (Or.inr ⟨sat, rfl, MV_ex M2 R' (ExM_ExN X) e15⟩)⟩
  refine N_Mo_branchClashes_0 ⟨by omega, by unfold r32; omega, ⟨by omega, by omega⟩, fun g1 e1 => ?_⟩
  have q1 : ∀ i, g1 135 i = h 135 i := fun i => by rw [e1, up2_nc (by decide)]
  rw [q1, q1, q1]
  refine ⟨by unfold r32; omega, ⟨by omega, by omega⟩, fun g2 e2 => ?_⟩
  have q2 : ∀ i, g2 135 i = h 135 i := fun i => by rw [e2, up2_nc (by decide), q1]
  rw [q2]
  refine ⟨by unfold r32; omega, fun g3 e3 => ⟨by omega, ?_⟩⟩
  have eg : g3 = brH h := by rw [e3, e2, e1]; rfl
  rw [eg]
  exact main
end
