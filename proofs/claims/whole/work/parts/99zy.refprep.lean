section
/-! begins: the reference -/
theorem c_line {d : Nat} {h : HP} {fr : Nat} {k what : Int} {Q : PQ} (hd : 4 < d) (hs : HsR h) (sg : Seg fr k what) (k0 : 0 ≤ k) (k1 : k < 19) (frb : fr + 40 < 261 + 18 ∧ fr + 1 + (aSTR k).length < 261)
    (K : ∀ g : HP, (∀ x i, x ≠ 157 → ¬ (x = 135 ∧ i = 35) → g x i = h x i) → g 135 35 = aSLEN k → (∀ i, 0 ≤ i → i < aSLEN k → g 157 i = aSCH k i) → ((what ≠ 67 → (what ≠ 70 → r32 (10 + (g 135 31)) ∧ r32 ((10 + (g 135 31)) - 1) ∧ (0 ≤ (10 + (g 135 31)) - 1 ∧ (10 + (g 135 31)) - 1 < 16) ∧ 0 < d ∧ Go (d - 1) M_Mo_isTree 0 [(22, 135), (0, g 153 ((10 + (g 135 31)) - 1)), (2, 0), (2, 0)] [] g (fun y2 k2 => (y2 = 0 → r32 ((fr : Int) + 1 + aSLEN k + 1) ∧ Q ((fr : Int) + 1 + aSLEN k + 1) k2) ∧ (y2 ≠ 0 → r32 ((k2 135 31) - 1) ∧ 0 < d ∧ Go (d - 1) M_Mo_keepsBody 0 [(22, 135), (0, (k2 135 31) - 1), (2, 0), (2, 0)] [] k2 (fun y3 k3 => r32 ((fr : Int) + 1 + aSLEN k + 1) ∧ Q ((fr : Int) + 1 + aSLEN k + 1) k3)))) ∧ (what = 70 → 0 < d ∧ Go (d - 1) M_Mo_signsOne 0 [(22, 135)] [] g (fun y4 k4 => r32 ((fr : Int) + 1 + aSLEN k + 1) ∧ Q ((fr : Int) + 1 + aSLEN k + 1) k4))) ∧ (what = 67 → 0 < d ∧ Go (d - 1) M_Mo_declares 0 [(22, 135), (0, 0)] [] g (fun y5 k5 => r32 ((fr : Int) + 1 + aSLEN k + 1) ∧ Q ((fr : Int) + 1 + aSLEN k + 1) k5)))) :
    Go d M_Mo_declaresFrom 0 [(22, 135), (0, fr), (2, 0), (2, 0)] [] h Q := by
  obtain ⟨s1, s2, s3⟩ := sg
  have ll := sg_len ⟨k.toNat, by omega⟩
  dsimp only at ll
  rw [show ((k.toNat : Nat) : Int) = k by omega] at ll
  have bt : ∀ i, 0 ≤ i → i < aSLEN k → hbT.getD ((fr : Int) + 1 + i).toNat 0 = aSCH k i ∧ aSCH k i ≠ 32 := by
    intro i i0 i1
    have := s3 ⟨i.toNat, by omega⟩
    dsimp only at this
    rw [show ((fr : Int) + 1 + i).toNat = fr + 1 + i.toNat by omega]
    exact this
  have be : hbT.getD ((fr : Int) + 1 + aSLEN k).toNat 0 = 32 := by
    rw [show ((fr : Int) + 1 + aSLEN k).toNat = fr + 1 + (aSTR k).length by omega]; exact s2
  have HS : ∀ g : HP, (∀ x i, x ≠ 157 → ¬ (x = 135 ∧ i = 35) → g x i = h x i) → HsR g := fun g o j j0 j1 => by rw [o 136 j (by omega) (by omega)]; exact hs j j0 j1
  have L : ∀ i, 0 ≤ i → i ≤ aSLEN k → ∀ g : HP, (∀ x j, x ≠ 157 → ¬ (x = 135 ∧ j = 35) → g x j = h x j) → g 135 35 = i → (∀ j, 0 ≤ j → j < i → g 157 j = aSCH k j) → Go d M_Mo_declaresFrom 15 [(22, 135), (0, fr), (0, what), (0, (fr : Int) + 1 + i)] [] g Q := by
    intro i i0 i1
    refine up_loop (P := fun i => ∀ g : HP, (∀ x j, x ≠ 157 → ¬ (x = 135 ∧ j = 35) → g x j = h x j) → g 135 35 = i → (∀ j, 0 ≤ j → j < i → g 157 j = aSCH k j) → Go d M_Mo_declaresFrom 15 [(22, 135), (0, fr), (0, what), (0, (fr : Int) + 1 + i)] [] g Q) i1 ?_ ?_
    · intro g o e35 r
      refine N_Mo_declaresFrom_15 ⟨by omega, c_house (HS g o) (by omega) (by omega) ?_⟩
      rw [be]
      exact ⟨fun _ => K g o e35 r, fun z => absurd rfl z⟩
    · intro j j0 j1 ih g o e35 r
      obtain ⟨b1, b2⟩ := bt j (by omega) j1
      refine N_Mo_declaresFrom_15 ⟨by omega, c_house (HS g o) (by omega) (by omega) ?_⟩
      rw [b1]
      refine ⟨fun z => absurd z b2, fun _ => ⟨by omega, c_house (HS g o) (by omega) (by omega) ?_⟩⟩
      rw [b1, e35]
      refine ⟨⟨by omega, by omega⟩, fun g7 x7 => ?_⟩
      have q35 : g7 135 35 = j := by rw [x7, up2_nc (by decide)]; exact e35
      rw [q35]
      refine ⟨by unfold r32; omega, fun g8 x8 => ⟨by unfold r32; omega, ?_⟩⟩
      rw [show (fr : Int) + 1 + j + 1 = (fr : Int) + 1 + (j + 1) by omega]
      refine ih g8 (fun x i p q => by rw [x8, up2_ext q, x7, up2_nc p]; exact o x i p q) (by rw [x8, up2_eq]) (fun i i0' i1' => ?_)
      rw [x8, up2_nc (by decide), x7]
      by_cases z : i = j
      · rw [z, up2_eq]
      · rw [up2_ni z]; exact r i i0' (by omega)
  refine N_Mo_declaresFrom_0 ⟨by omega, c_house hs (by omega) (by omega) ?_⟩
  rw [show ((fr : Int)).toNat = fr by omega, s1]
  refine ⟨by unfold r32; omega, fun g2 x2 => ?_⟩
  have := L 0 (by omega) (by omega) g2 (fun x i p q => by rw [x2, up2_ext q]) (by rw [x2, up2_eq]) (fun j _ _ => by omega)
  rw [show (fr : Int) + 1 + 0 = (fr : Int) + 1 by omega] at this
  exact this
/-- a heading that the reference keeps -/
def RfS (h : HP) (j k : Int) : Prop := h 152 j = aSLEN k ∧ h 153 j = pS k ∧ h 154 j = occ (aSCH k) 117 (aSLEN k).toNat + occ (aSCH k) 118 (aSLEN k).toNat + occ (aSCH k) 119 (aSLEN k).toNat ∧ ∀ i, 0 ≤ i → i < aSLEN k → h 151 (24 * j + i) = aSCH k i
theorem KpN_RfS {h g : HP} {s k : Int} {b : Int → Int} (K : KpN b h g s (aSLEN k) (pS k)) (e : ∀ i, 0 ≤ i → i < aSLEN k → b i = aSCH k i) : RfS g s k := by
  obtain ⟨k1, k2, k3, k4, k5, k6, k7⟩ := K
  have oc : ∀ c : Int, occ b c (aSLEN k).toNat = occ (aSCH k) c (aSLEN k).toNat := fun c => occ_congr _ (fun i a d => e i a (by omega))
  exact ⟨k4, k5, by rw [k6, oc, oc, oc], fun i i0 i1 => by rw [k7 i i0 i1, e i i0 i1]⟩
theorem c_decC {d : Nat} {h : HP} {fr : Nat} {k : Int} {Q : PQ} (hd : 8 < d) (hs : HsR h) (sg : Seg fr k 67) (k0 : 0 ≤ k) (k1 : k < 19) (frb : fr + 40 < 261 + 18 ∧ fr + 1 + (aSTR k).length < 261) (l0 : 0 ≤ aSLEN k) (l1 : aSLEN k ≤ 24) (ok : 0 ≤ pS k) (c0 : 0 ≤ h 135 30) (c1 : h 135 30 < 10)
    (H : ∀ g : HP, (∀ x i, ¬ (151 ≤ x ∧ x ≤ 155) → x ≠ 157 → ¬ (x = 135 ∧ (i = 30 ∨ i = 35)) → g x i = h x i) → (∀ x j, 152 ≤ x → x ≤ 155 → j ≠ h 135 30 → g x j = h x j) → (∀ i, i < 24 * h 135 30 ∨ 24 * h 135 30 + 24 ≤ i → g 151 i = h 151 i) → RfS g (h 135 30) k → g 155 (h 135 30) = 0 → g 135 30 = h 135 30 + 1 → Q ((fr : Int) + 1 + aSLEN k + 1) g) :
    Go d M_Mo_declaresFrom 0 [(22, 135), (0, fr), (2, 0), (2, 0)] [] h Q := by
  refine c_line (by omega) hs sg k0 k1 frb (fun g o e35 r => ⟨fun z => absurd rfl z, fun _ => ⟨by omega, ?_⟩⟩)
  have q30 : g 135 30 = h 135 30 := o _ _ (by omega) (by omega)
  refine N_Mo_declares_0 ?_
  rw [q30]
  refine ⟨by omega, c_keepsN (n := aSLEN k) (c := pS k) c0 (by omega) e35 l0 l1 ok (rdS_congr (b := aSCH k) (b' := g 157) 3 0 (by omega) (fun i i0 i1 => r i i0 i1)) (fun g2 K => ?_)⟩
  have rf := KpN_RfS K (fun i i0 i1 => r i i0 i1)
  obtain ⟨t1, t2, t3, t4, t5, t6, t7⟩ := K
  have q2 : g2 135 30 = h 135 30 := by rw [t1 _ _ (by omega) (by omega) (by omega) (by omega)]; exact q30
  rw [q2]
  refine ⟨⟨c0, c1⟩, fun g3 x3 => ?_⟩
  have q3 : g3 135 30 = h 135 30 := by rw [x3, up2_nc (by decide)]; exact q2
  rw [q3]
  refine ⟨by unfold r32; omega, fun g4 x4 => ⟨by unfold r32; omega, ?_⟩⟩
  have o4 : ∀ x i, ¬ (x = 135 ∧ i = 30) → ¬ (x = 155 ∧ i = h 135 30) → g4 x i = g2 x i := fun x i p q => by rw [x4, up2_ext p, x3, up2_ext q]
  refine H g4 (fun x i p1 p2 p3 => by rw [o4 x i (by omega) (by omega), t1 x i (by omega) (by omega) (by omega) (by omega)]; exact o x i p2 (by omega)) (fun x j x0 x1 nj => ?_) (fun i p => by rw [o4 _ _ (by omega) (by omega), t3 i p]; exact o _ _ (by omega) (by omega)) ?_ (by rw [x4, up2_nc (by decide), x3, up2_eq]) (by rw [x4, up2_eq])
  · rw [o4 x j (by omega) (fun u => nj u.2)]
    have : x = 152 ∨ x = 153 ∨ x = 154 ∨ x = 155 := by omega
    rcases this with z | z | z | z
    · subst z; rw [(t2 j nj).1]; exact o _ _ (by omega) (by omega)
    · subst z; rw [(t2 j nj).2.1]; exact o _ _ (by omega) (by omega)
    · subst z; rw [(t2 j nj).2.2]; exact o _ _ (by omega) (by omega)
    · subst z; rw [t1 155 j (by omega) (by omega) (by omega) (by omega)]; exact o _ _ (by omega) (by omega)
  · obtain ⟨u1, u2, u3, u4⟩ := rf
    exact ⟨by rw [o4 _ _ (by omega) (by omega)]; exact u1, by rw [o4 _ _ (by omega) (by omega)]; exact u2, by rw [o4 _ _ (by omega) (by omega)]; exact u3, fun i i0 i1 => by rw [o4 _ _ (by omega) (by omega)]; exact u4 i i0 i1⟩
theorem c_decF {d : Nat} {h : HP} {fr : Nat} {k : Int} {Q : PQ} (hd : 8 < d) (hs : HsR h) (sg : Seg fr k 70) (k0 : 0 ≤ k) (k1 : k < 19) (frb : fr + 40 < 261 + 18 ∧ fr + 1 + (aSTR k).length < 261) (l0 : 0 ≤ aSLEN k) (l1 : aSLEN k ≤ 24) (ok : 0 ≤ pS k) (c0 : 0 ≤ h 135 31) (c1 : h 135 31 < 6)
    (H : ∀ g : HP, (∀ x i, ¬ (151 ≤ x ∧ x ≤ 154) → x ≠ 157 → ¬ (x = 167 ∧ i = h 135 31) → ¬ (x = 135 ∧ (i = 31 ∨ i = 35)) → g x i = h x i) → (∀ x j, 152 ≤ x → x ≤ 154 → j ≠ 10 + h 135 31 → g x j = h x j) → (∀ i, i < 24 * (10 + h 135 31) ∨ 24 * (10 + h 135 31) + 24 ≤ i → g 151 i = h 151 i) → RfS g (10 + h 135 31) k → g 167 (h 135 31) = 0 → g 135 31 = h 135 31 + 1 → Q ((fr : Int) + 1 + aSLEN k + 1) g) :
    Go d M_Mo_declaresFrom 0 [(22, 135), (0, fr), (2, 0), (2, 0)] [] h Q := by
  refine c_line (by omega) hs sg k0 k1 frb (fun g o e35 r => ⟨fun _ => ⟨fun z => absurd rfl z, fun _ => ⟨by omega, ?_⟩⟩, fun z => absurd z (by decide)⟩)
  have q30 : g 135 31 = h 135 31 := o _ _ (by omega) (by omega)
  refine N_Mo_signsOne_0 ?_
  rw [q30]
  refine ⟨by unfold r32; omega, by omega, c_keepsN (n := aSLEN k) (c := pS k) (by omega) (by omega) e35 l0 l1 ok (rdS_congr (b := aSCH k) (b' := g 157) 3 0 (by omega) (fun i i0 i1 => r i i0 i1)) (fun g2 K => ?_)⟩
  have rf := KpN_RfS K (fun i i0 i1 => r i i0 i1)
  obtain ⟨t1, t2, t3, t4, t5, t6, t7⟩ := K
  have q2 : g2 135 31 = h 135 31 := by rw [t1 _ _ (by omega) (by omega) (by omega) (by omega)]; exact q30
  rw [q2]
  refine ⟨⟨c0, c1⟩, fun g3 x3 => ?_⟩
  have q3 : g3 135 31 = h 135 31 := by rw [x3, up2_nc (by decide)]; exact q2
  rw [q3]
  refine ⟨by unfold r32; omega, fun g4 x4 => ⟨by unfold r32; omega, ?_⟩⟩
  have o4 : ∀ x i, ¬ (x = 135 ∧ i = 31) → ¬ (x = 167 ∧ i = h 135 31) → g4 x i = g2 x i := fun x i p q => by rw [x4, up2_ext p, x3, up2_ext q]
  refine H g4 (fun x i p1 p2 p3 p4 => by rw [o4 x i (by omega) p3, t1 x i (by omega) (by omega) (by omega) (by omega)]; exact o x i p2 (by omega)) (fun x j x0 x1 nj => ?_) (fun i p => by rw [o4 _ _ (by omega) (by omega), t3 i p]; exact o _ _ (by omega) (by omega)) ?_ (by rw [x4, up2_nc (by decide), x3, up2_eq]) (by rw [x4, up2_eq])
  · rw [o4 x j (by omega) (by omega)]
    have : x = 152 ∨ x = 153 ∨ x = 154 := by omega
    rcases this with z | z | z
    · subst z; rw [(t2 j nj).1]; exact o _ _ (by omega) (by omega)
    · subst z; rw [(t2 j nj).2.1]; exact o _ _ (by omega) (by omega)
    · subst z; rw [(t2 j nj).2.2]; exact o _ _ (by omega) (by omega)
  · obtain ⟨u1, u2, u3, u4⟩ := rf
    exact ⟨by rw [o4 _ _ (by omega) (by omega)]; exact u1, by rw [o4 _ _ (by omega) (by omega)]; exact u2, by rw [o4 _ _ (by omega) (by omega)]; exact u3, fun i i0 i1 => by rw [o4 _ _ (by omega) (by omega)]; exact u4 i i0 i1⟩
theorem c_keepsBody {d : Nat} {h : HP} {f N : Int} {Q : PQ} (f0 : 0 ≤ f) (f1 : f < 6) (eN : h 135 48 = N) (N0 : 0 ≤ N) (N1 : N ≤ 100) (H : ∀ g : HP, (∀ x i, ¬ (161 ≤ x ∧ x ≤ 166 ∧ 100 * f ≤ i ∧ i < 100 * f + N) → ¬ (x = 167 ∧ i = f) → g x i = h x i) → (∀ x i, 161 ≤ x → x ≤ 166 → 0 ≤ i → i < N → g x (100 * f + i) = h x (600 + i)) → g 167 f = h 135 49 → Q 0 g) : Go d M_Mo_keepsBody 0 [(22, 135), (0, f), (2, 0), (2, 0)] [] h Q := by
  have L : ∀ i, 0 ≤ i → i ≤ N → ∀ (g : HP) (w3 : AV), (∀ x j, ¬ (161 ≤ x ∧ x ≤ 166 ∧ 100 * f ≤ j ∧ j < 100 * f + i) → g x j = h x j) → (∀ x j, 161 ≤ x → x ≤ 166 → 0 ≤ j → j < i → g x (100 * f + j) = h x (600 + j)) → Go d M_Mo_keepsBody 2 [(22, 135), (0, f), (0, i), w3] [] g Q := by
    intro i i0 i1
    refine up_loop (P := fun i => ∀ (g : HP) (w3 : AV), (∀ x j, ¬ (161 ≤ x ∧ x ≤ 166 ∧ 100 * f ≤ j ∧ j < 100 * f + i) → g x j = h x j) → (∀ x j, 161 ≤ x → x ≤ 166 → 0 ≤ j → j < i → g x (100 * f + j) = h x (600 + j)) → Go d M_Mo_keepsBody 2 [(22, 135), (0, f), (0, i), w3] [] g Q) i1 ?_ ?_
    · intro g w3 o r
      have e48 : g 135 48 = N := by rw [o _ _ (by omega)]; exact eN
      have e49 : g 135 49 = h 135 49 := o _ _ (by omega)
      refine N_Mo_keepsBody_2 ⟨fun _ => ⟨⟨f0, f1⟩, fun g1 x1 => ?_⟩, fun z => by omega⟩
      rw [e49] at x1
      exact H g1 (fun x j p q => by rw [x1, up2_ext q]; exact o x j p) (fun x j x0 x1' j0 j1 => by rw [x1, up2_nc (by omega)]; exact r x j x0 x1' j0 j1) (by rw [x1, up2_eq])
    · intro j j0 j1 ih g w3 o r
      have e48 : g 135 48 = N := by rw [o _ _ (by omega)]; exact eN
      have ix : (0 ≤ 600 + j ∧ 600 + j < 700) := by omega
      have iy : (0 ≤ (100 * f) + j ∧ (100 * f) + j < 700) := by omega
      have s600 : ∀ x, g x (600 + j) = h x (600 + j) := fun x => o _ _ (by omega)
      refine N_Mo_keepsBody_2 ⟨fun z => by omega, fun _ => ⟨by unfold r32; omega, by unfold r32; omega, by unfold r32; omega, ix, iy, fun g2 x2 => ⟨by unfold r32; omega, ix, iy, fun g3 x3 => ⟨by unfold r32; omega, ix, iy, fun g4 x4 => ⟨by unfold r32; omega, ix, iy, fun g5 x5 => ⟨by unfold r32; omega, ix, iy, fun g6 x6 => ⟨by unfold r32; omega, ix, iy, fun g7 x7 => ⟨by unfold r32; omega, ?_⟩⟩⟩⟩⟩⟩⟩⟩
      rw [s600] at x2
      rw [show g2 162 (600 + j) = h 162 (600 + j) by rw [x2, up2_nc (by decide), s600]] at x3
      rw [show g3 163 (600 + j) = h 163 (600 + j) by rw [x3, up2_nc (by decide), x2, up2_nc (by decide), s600]] at x4
      rw [show g4 164 (600 + j) = h 164 (600 + j) by rw [x4, up2_nc (by decide), x3, up2_nc (by decide), x2, up2_nc (by decide), s600]] at x5
      rw [show g5 165 (600 + j) = h 165 (600 + j) by rw [x5, up2_nc (by decide), x4, up2_nc (by decide), x3, up2_nc (by decide), x2, up2_nc (by decide), s600]] at x6
      rw [show g6 166 (600 + j) = h 166 (600 + j) by rw [x6, up2_nc (by decide), x5, up2_nc (by decide), x4, up2_nc (by decide), x3, up2_nc (by decide), x2, up2_nc (by decide), s600]] at x7
      have o7 : ∀ x i, ¬ (161 ≤ x ∧ x ≤ 166 ∧ i = 100 * f + j) → g7 x i = g x i := fun x i p => by rw [x7, up2_ext (by omega), x6, up2_ext (by omega), x5, up2_ext (by omega), x4, up2_ext (by omega), x3, up2_ext (by omega), x2, up2_ext (by omega)]
      refine ih g7 _ (fun x i p => by rw [o7 x i (by omega)]; exact o x i (by omega)) (fun x i x0 x1 i0 i1 => ?_)
      by_cases z : i = j
      · subst z
        have : x = 161 ∨ x = 162 ∨ x = 163 ∨ x = 164 ∨ x = 165 ∨ x = 166 := by omega
        rcases this with y | y | y | y | y | y
        · subst y; rw [x7, up2_nc (by decide), x6, up2_nc (by decide), x5, up2_nc (by decide), x4, up2_nc (by decide), x3, up2_nc (by decide), x2, up2_eq]
        · subst y; rw [x7, up2_nc (by decide), x6, up2_nc (by decide), x5, up2_nc (by decide), x4, up2_nc (by decide), x3, up2_eq]
        · subst y; rw [x7, up2_nc (by decide), x6, up2_nc (by decide), x5, up2_nc (by decide), x4, up2_eq]
        · subst y; rw [x7, up2_nc (by decide), x6, up2_nc (by decide), x5, up2_eq]
        · subst y; rw [x7, up2_nc (by decide), x6, up2_eq]
        · subst y; rw [x7, up2_eq]
      · rw [o7 x _ (by omega)]; exact r x i x0 x1 i0 (by omega)
  exact N_Mo_keepsBody_0 (L 0 (by omega) N0 h _ (fun _ _ _ => rfl) (fun x j _ _ _ _ => by omega))
/-- the body of the function that was declared last -/
theorem c_decB {d : Nat} {h : HP} {fr : Nat} {k F r w' m : Int} {e : Int → Int} {nP : Int → Int} {pp ll : Int → Int → Int} {Q : PQ} (hd : 12 < d) (hs : HsR h) (sg : Seg fr k 66) (k0 : 0 ≤ k) (k1 : k < 19) (frb : fr + 40 < 261 + 18 ∧ fr + 1 + (aSTR k).length < 261) (l0 : 0 ≤ aSLEN k) (l1 : aSLEN k ≤ 100) (bb : ∀ i, 0 ≤ i → i < aSLEN k → 0 ≤ aSCH k i ∧ aSCH k i ≤ 127) (F0 : 0 ≤ F) (F1 : F < 6) (eF : h 135 31 = F + 1)
    (n67 : nP 67 = h 135 30 ∧ 0 ≤ nP 67 ∧ nP 67 ≤ 10) (n71 : nP 71 = h 135 31) (pc : ∀ j, 0 ≤ j → j < nP 67 → pp 67 j = h 153 j ∧ ll 67 j = h 152 j ∧ (0 ≤ pp 67 j ∧ pp 67 j ≤ 3) ∧ (0 ≤ ll 67 j ∧ ll 67 j ≤ 24)) (pf : ∀ j, 0 ≤ j → j < nP 71 → pp 71 j = h 153 (10 + j) ∧ ll 71 j = h 152 (10 + j) ∧ (0 ≤ pp 71 j ∧ pp 71 j ≤ 3) ∧ (0 ≤ ll 71 j ∧ ll 71 j ≤ 24))
    (R : RD (bA (aSCH k) (aSLEN k)) e nP pp ll 0 (h 153 (10 + F)) (aSLEN k) r w' m)
    (H : ∀ g : HP, (∀ x i, ¬ (161 ≤ x ∧ x ≤ 166 ∧ 100 * F ≤ i) → ¬ (168 ≤ x ∧ x ≤ 172) → x ≠ 157 → ¬ (x = 167 ∧ i = F) → ¬ (x = 135 ∧ (i = 35 ∨ i = 36 ∨ i = 37 ∨ i = 48 ∨ i = 49 ∨ i = 50 ∨ i = 56)) → g x i = h x i) → ((r = aSLEN k ∧ g 167 F = m ∧ NX (fun x i => g x (100 * F + i)) (bA (aSCH k) (aSLEN k)) e nP pp 0 0 (h 153 (10 + F))) ∨ (r ≠ aSLEN k ∧ g 167 F = h 167 F)) → Q ((fr : Int) + 1 + aSLEN k + 1) g) :
    Go d M_Mo_declaresFrom 0 [(22, 135), (0, fr), (2, 0), (2, 0)] [] h Q := by
  have ps := pf F F0 (by omega)
  refine c_line (by omega) hs sg k0 k1 frb (fun g o e35 rw => ⟨fun _ => ⟨fun _ => ?_, fun z => absurd z (by decide)⟩, fun z => absurd z (by decide)⟩)
  have q31 : g 135 31 = F + 1 := by rw [o _ _ (by omega) (by omega)]; exact eF
  rw [q31, show (10 : Int) + (F + 1) - 1 = 10 + F by omega]
  have q153 : g 153 (10 + F) = h 153 (10 + F) := o _ _ (by omega) (by omega)
  rw [q153]
  refine ⟨by unfold r32; omega, by unfold r32; omega, ⟨by omega, by omega⟩, by omega, ?_⟩
  have C : TrC g (bA (aSCH k) (aSLEN k)) nP pp ll (aSLEN k) := by
    refine ⟨fun q q0 => ?_, ⟨e35, l0, l1⟩, ⟨by rw [o _ _ (by omega) (by omega)]; exact n67.1, n67.2⟩, ⟨by rw [o _ _ (by omega) (by omega)]; exact n71, by omega, by omega⟩, fun j j0 j1 => by rw [o _ _ (by omega) (by omega), o _ _ (by omega) (by omega)]; exact pc j j0 j1, fun j j0 j1 => by rw [o _ _ (by omega) (by omega), o _ _ (by omega) (by omega)]; exact pf j j0 j1⟩
    rcases Int.lt_or_le q (aSLEN k) with z | z
    · rw [bA_in q0 z, bA_in q0 z, rw q q0 z]
      have := bb q q0 z
      exact ⟨rfl, by omega, by omega⟩
    · rw [bA_out (Or.inr z), bA_out (Or.inr z)]; exact ⟨rfl, by decide, by decide⟩
  refine c_isTree (by omega) C (by omega) (by omega) R (fun er g2 I2 e49 N0 N1 X => ⟨fun z => absurd z (by decide), fun _ => ?_⟩) (fun er g2 I2 _ _ => ⟨fun _ => ⟨by unfold r32; omega, ?_⟩, fun z => absurd rfl z⟩)
  · have q31' : g2 135 31 = F + 1 := by rw [I2 _ _ (by omega) (by omega) (by omega)]; exact q31
    rw [q31', show F + 1 - 1 = F by omega]
    refine ⟨by unfold r32; omega, by omega, c_keepsBody F0 F1 rfl (by omega) N1 (fun g3 o3 r3 e167 => ⟨by unfold r32; omega, H g3 (fun x i p1 p2 p3 p4 p5 => ?_) (Or.inl ⟨er, by rw [e167, e49], X _ (fun x i x0 x1 i0 i1 _ => r3 x i x0 x1 i0 i1)⟩)⟩)⟩
    rw [o3 x i (by omega) p4, I2 x i (by omega) p2 (by omega)]
    exact o x i p3 (by omega)
  · refine H g2 (fun x i p1 p2 p3 p4 p5 => ?_) (Or.inr ⟨er, ?_⟩)
    · rw [I2 x i (by omega) p2 (by omega)]; exact o x i p3 (by omega)
    · rw [I2 _ _ (by omega) (by omega) (by omega)]; exact o _ _ (by omega) (by omega)
end
