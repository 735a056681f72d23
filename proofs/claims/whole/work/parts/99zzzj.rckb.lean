section
/-! branches of the reference's check -/
theorem bitsB : ∀ a b : Fin 10, bAnd (bShr (bShl 1 (a.val : Int)) (b.val : Int)) 1 = if a.val = b.val then 1 else 0 := by decide +kernel
def sn1 (v : Int) (seen : Int → Prop) : Prop := ∀ j, 0 ≤ j → j < 10 → (seen j → bAnd (bShr v j) 1 = 1) ∧ (¬ seen j → bAnd (bShr v j) 1 = 0)
theorem bit_sr {v k j : Int} (k0 : 0 ≤ k) (k1 : k < 10) (j0 : 0 ≤ j) (j1 : j < 10) : (j ≠ k → bAnd (bShr (bOr v (bShl 1 k)) j) 1 = bAnd (bShr v j) 1) ∧ (j = k → (bAnd (bShr v j) 1 = 0 ∨ bAnd (bShr v j) 1 = 1) → bAnd (bShr (bOr v (bShl 1 k)) j) 1 = 1) := by
  have t : ∀ a b : Int32, a.toInt = b.toInt ↔ a = b := fun a b => Int32.toInt_inj
  have b := bitsB ⟨k.toNat, by omega⟩ ⟨j.toNat, by omega⟩
  have ek : ((k.toNat : Nat) : Int) = k := by omega
  have ej : ((j.toNat : Nat) : Int) = j := by omega
  dsimp only at b
  rw [ek, ej] at b
  unfold bAnd bShr bOr at *
  rw [Int32.ofInt_toInt] at b
  rw [Int32.ofInt_toInt, Int32.ofInt_toInt, Int32.ofInt_toInt]
  generalize Int32.ofInt v = x at *
  generalize Int32.ofInt (bShl 1 k) = y at *
  generalize (Int32.ofInt j &&& 31) = s at *
  have one : Int32.ofInt 1 = 1 := rfl
  rw [one] at b ⊢
  have ds : ((x ||| y) >>> s) &&& 1 = ((x >>> s) &&& 1) ||| ((y >>> s) &&& 1) := by
    rw [Int32.shiftRight_or]
    exact Int32.toBitVec_inj.1 BitVec.and_or_distrib_right
  rw [ds]
  have z0 : (0 : Int) = (0 : Int32).toInt := rfl
  have z1 : (1 : Int) = (1 : Int32).toInt := rfl
  refine ⟨fun ne => ?_, fun e h => ?_⟩
  · rw [if_neg (by omega), z0, t] at b
    rw [b, Int32.or_zero]
  · rw [if_pos (by omega)] at b
    have b := (t _ 1).1 b
    rw [b]
    rcases h with h | h
    · rw [z0, t] at h
      rw [h, Int32.zero_or]
      rfl
    · rw [z1, t] at h
      rw [h, Int32.or_self]
      rfl
theorem sn1_up {v k : Int} {seen : Int → Prop} (k0 : 0 ≤ k) (k1 : k < 10) (H : sn1 v seen) : sn1 (bOr v (bShl 1 k)) (fun j => seen j ∨ j = k) := by
  intro j j0 j1
  have b := bit_sr (v := v) k0 k1 j0 j1
  have h := H j j0 j1
  have two : bAnd (bShr v j) 1 = 0 ∨ bAnd (bShr v j) 1 = 1 := by
    rcases Classical.em (seen j) with s | s
    · exact Or.inr (h.1 s)
    · exact Or.inl (h.2 s)
  refine ⟨fun s => ?_, fun s => ?_⟩
  · by_cases e : j = k
    · exact b.2 e two
    · rw [b.1 e]
      exact h.1 (s.resolve_right e)
  · have e : j ≠ k := fun e => s (Or.inr e)
    rw [b.1 e]
    exact h.2 (fun q => s (Or.inl q))
theorem sn1_0 : sn1 0 (fun _ => False) := by
  intro j j0 j1
  refine ⟨fun z => z.elim, fun _ => ?_⟩
  have b : ∀ b : Fin 10, bAnd (bShr 0 (b.val : Int)) 1 = 0 := by decide +kernel
  have := b ⟨j.toNat, by omega⟩
  dsimp only at this
  rw [show ((j.toNat : Nat) : Int) = j by omega] at this
  exact this
/-- a branch for a constructor: its types made, its index unified -/
theorem q_brC {d : Nat} {q0 g0 h : HP} {A j x : Int} {mu : Int → Nat} {tm : Int → Tm} {S : Sx} {V : Vx} {D sc F m : Int} {Γ : Int → Tm} {Q : PQ} (bc : BD q0 g0 A) (hd : 12 < d) (j0 : 0 ≤ j) (j1 : j < q0 36 4) (T : QT g0 h tm S V D sc Γ F m) (d0 : 0 ≤ D) (d1 : D ≤ 60) (Fm : FrN V mu) (hr : m + 50 ≤ 1000) (xr : 100 ≤ x ∧ x < h 135 15)
    (H1 : Sat (Snd S (sgR' (sbr q0) (llr q0) (ppr q0) 67 j mu) (tm x)) → ∀ (g : HP) (tm' : Int → Tm), QT g0 g tm' (Snd S (sgR' (sbr q0) (llr q0) (ppr q0) 67 j mu) (tm x)) (nV V mu (Oc (sbr q0 67 j) 0 (llr q0 67 j)) (7, D + 1)) (D + 1) sc Γ F (m + 2 * llr q0 67 j) → XM (brH h) tm g tm' → OuT h g → TlE g tm' 0 (sgL (sbr q0 67 j) (llr q0 67 j) mu) → Q 0 g)
    (H0 : ¬ Sat (Snd S (sgR' (sbr q0) (llr q0) (ppr q0) 67 j mu) (tm x)) → ∀ (g : HP) (tm' : Int → Tm), QB g0 g → LO g0 g → XM (brH h) tm g tm' → OuT h g → g 135 15 ≤ 1000 → Q 1 g) :
    Go d M_Mo_branchClashes 0 [(22, 135), (0, j), (0, x)] [] h Q := by
  obtain ⟨⟨s0, s1⟩, e152, e153, e151, _, _⟩ := q_sig bc (Or.inl rfl) j0 (show j < nPr q0 67 from j1)
  obtain ⟨_, _, _, _, _, ⟨l0, l1⟩, ⟨n0, n3⟩, O⟩ := cel_ok bc.1 (Or.inl rfl) j0 (show j < nPr q0 67 from j1)
  have sj : sI 67 j = j := rfl
  rw [sj] at s0 s1 e152 e153 e151
  have q := T.2.2.1.2.1
  have lm := T.2.2.2
  have b := T.1
  have lb : LO h (brH h) := ⟨fun a i p _ => brH_o (by omega) (by omega) (by omega), fun a i p r => by
    unfold brH
    rw [up2_nc (by omega), up2_ext (by omega), up2_ext (by omega)]⟩
  have qb : (brH h) 135 14 = 100 ∧ (brH h) 135 18 = D + 1 ∧ (brH h) 135 19 = 16 := by
    refine ⟨by rw [brH_o (by decide) (by decide) (by omega)]; exact q.1, ?_, by rw [brH_o (by decide) (by decide) (by omega)]; exact q.2.2⟩
    unfold brH
    rw [up2_eq]; omega
  have Mb := MV_brH T.2.2.1.1
  refine c_brClash (b := sbr q0 67 j) (n := llr q0 67 j) (c := ppr q0 67 j) (mu := mu) hd T.2.2.1.1 Fm (by omega) (by omega) (by omega) s0 s1 l0 l1 ((b.1 152 _ (by omega)).trans e152) (fun i i0 i1 => (b.1 151 _ (by omega)).trans (e151 i i0 i1)) n0 O (by omega) (by omega) xr.2 (fun r g tm' X tl nb o c => ?_)
  rw [q.2.1] at c
  have lg : LO g0 g := LO_trans T.2.1 (LO_trans lb (ExN_LO Mb qb (by omega) X.1))
  have qg : QB g0 g := QB_trans b (OuT_QB o)
  rcases c with ⟨sa, r0, M⟩ | ⟨ns, r1, M⟩
  · subst r0
    refine H1 sa g tm' ⟨qg, lg, ⟨M, ?_, ?_, fun i i0 i1 => ?_⟩, by omega⟩ X o tl
    · rw [X.1.1.1, X.1.1.2.2.1, X.1.1.2.2.2]; exact qb
    · rw [o.2 62 (by omega), o.2 65 (by omega)]; exact T.2.2.1.2.2.1
    · have u := T.2.2.1.2.2.2 i i0 i1
      have x15 := X.1.2.1
      have e15 : (brH h) 135 15 = h 135 15 := brH_o (by decide) (by decide) (by omega)
      rw [o.1 178 i (by omega)]
      refine ⟨u.1, by omega, ?_⟩
      rw [X.2 _ (by omega) (by omega)]
      exact EqS_sub (fun _ z => z.1) u.2.2
  · subst r1
    exact H0 ns g tm' qg lg X o (MV_b M).2.2
/-- and closed again -/
theorem q_unbr {d : Nat} {g0 h g : HP} {tm tm' : Int → Tm} {S : Sx} {V : Vx} {D sc F m : Int} {Γ : Int → Tm} {Q : PQ} (hd : 6 < d) (T : QT g0 h tm S V D sc Γ F m) (d0 : 0 ≤ D) (d1 : D ≤ 60) (X : XM (brH h) tm g tm') (b : QB g0 g) (lt : ∀ i, i < sc → g 178 i = h 178 i) (e62 : g 135 62 = h 135 62) (e65 : g 135 65 = h 135 65) (h15 : g 135 15 ≤ 1000)
    (H : ∀ v g', QT g0 g' tm S V D sc Γ F m → OuM g g' → XM h tm g' tm → Q v g') : Go d M_Mo_unbranches 0 [(22, 135), (2, 0)] [] g Q := by
  have q := T.2.2.1.2.1
  refine c_unbrV (h0 := h) (by omega) T.2.2.1.1 (by omega) (by omega) (by omega) X.1 h15 (fun g' M X' e15 o => H _ g' ?_ o X')
  refine ⟨QB_trans b (OuM_QB o), LO_trans T.2.1 (ExN_LO T.2.2.1.1 q d0 X'.1), ⟨M, ?_, ?_, fun i i0 i1 => ?_⟩, by have := T.2.2.2; omega⟩
  · rw [X'.1.1.1, X'.1.1.2.2.1, X'.1.1.2.2.2]; exact q
  · rw [o.2 62 (by omega), o.2 65 (by omega), e62, e65]; exact T.2.2.1.2.2.1
  · rw [o.1 178 i (by omega), lt i i1, e15]
    exact T.2.2.1.2.2.2 i i0 i1
/-- whether a constructor that is in no case can come -/
theorem q_left {d : Nat} {q0 g0 h : HP} {A f L kk x v : Int} {a : Tm} {mu : Int → Nat} {seen : Int → Prop} {tm : Int → Tm} {S : Sx} {V : Vx} {D sc F m : Int} {Γ : Int → Tm} {Q : PQ} (bc : BD q0 g0 A) (hd : 16 < d) (T : QT g0 h tm S V D sc Γ F m) (d0 : 0 ≤ D) (d1 : D ≤ 60) (Fm : FrN V mu) (hr : m + 50 ≤ 1000) (f0 : 0 ≤ f) (f1 : f < 260) (Lr : 100 ≤ L ∧ L < h 135 15) (eK : h 137 L = kk) (eX : h 138 L = x) (xr : 100 ≤ x ∧ x < h 135 15) (ex : EqS S (tm x) a) (e7 : h 177 (4 * f) = v) (sn : sn1 v seen)
    (H1 : (∃ j, mj q0 seen kk a S mu j) → ∀ g, QT g0 g tm S V D sc Γ F m → XM h tm g tm → OuT h g → Q 1 g)
    (H0 : (¬ ∃ j, mj q0 seen kk a S mu j) → ∀ g, QT g0 g tm S V D sc Γ F m → XM h tm g tm → OuT h g → Q 0 g) :
    Go d M_Mo_isLeftOut 0 [(22, 135), (0, f), (0, L), (2, 0), (2, 0)] [] h Q := by
  have dd := bc.1.2.2.1.1
  have x14 := T.2.2.1.2.1.1
  have b15 := (MV_b T.2.2.1.1).2.2
  have yes : ∀ (g : HP) (j : Int), Q 1 g → Go d M_Mo_isLeftOut 5 [(22, 135), (0, f), (0, L), (0, 1), (0, j)] [] g Q := fun g j q => N_Mo_isLeftOut_5 ⟨fun _ => ⟨Or.inr rfl, q⟩, fun _ => ⟨fun _ => ⟨Or.inr rfl, q⟩, fun z => absurd z (by decide)⟩⟩
  have loop : ∀ k, 0 ≤ k → k ≤ q0 36 4 → (∀ k', 0 ≤ k' → k' < k → ¬ mj q0 seen kk a S mu k') → ∀ (g : HP), QT g0 g tm S V D sc Γ F m → XM h tm g tm → OuT h g → Go d M_Mo_isLeftOut 5 [(22, 135), (0, f), (0, L), (0, 0), (0, k)] [] g Q := by
    intro k k0 k1
    refine up_loop (P := fun k => (∀ k', 0 ≤ k' → k' < k → ¬ mj q0 seen kk a S mu k') → ∀ (g : HP), QT g0 g tm S V D sc Γ F m → XM h tm g tm → OuT h g → Go d M_Mo_isLeftOut 5 [(22, 135), (0, f), (0, L), (0, 0), (0, k)] [] g Q) k1 ?_ ?_
    · intro no g Tg Xg og
      have e30 : g 135 30 = q0 36 4 := ((Tg.1.2 30 (by omega)).trans bc.2.2).trans dd.2.2.1
      refine N_Mo_isLeftOut_5 ⟨fun _ => ⟨Or.inl rfl, H0 (fun ⟨j, q⟩ => ?_) g Tg Xg og⟩, fun z => by omega⟩
      exact no j q.1.1 q.1.2 q
    · intro j j0 j1 ih no g Tg Xg og
      have e30 : g 135 30 = q0 36 4 := ((Tg.1.2 30 (by omega)).trans bc.2.2).trans dd.2.2.1
      obtain ⟨_, _, _, _, fmC, _⟩ := q_sig bc (Or.inl rfl) (show 0 ≤ j by omega) (show j < nPr q0 67 from j1)
      obtain ⟨j10, f5, f50, f53⟩ := fmC rfl
      have e155 : g 155 j = g0 155 j := Tg.1.1 155 _ (by omega)
      have row := Xg.1.2.2.2.1 L (by omega)
      have e137 : g 137 L = kk := row.1.trans eK
      have e138 : g 138 L = x := row.2.1.trans eX
      have e177 : g 177 (4 * f) = v := (og.1 177 _ (by omega)).trans e7
      have x15 := Xg.1.2.1
      have s := sn j (by omega) j10
      have next : ∀ (g2 : HP), QT g0 g2 tm S V D sc Γ F m → XM h tm g2 tm → OuT h g2 → ¬ mj q0 seen kk a S mu j → r32 (j + 1) ∧ Go d M_Mo_isLeftOut 5 [(22, 135), (0, f), (0, L), (0, 0), (0, j + 1)] [] g2 Q := by
        intro g2 T2 X2 o2 nj
        refine ⟨by unfold r32; omega, ih (fun k' a b => ?_) g2 T2 X2 o2⟩
        by_cases z : k' = j
        · subst z; exact nj
        · exact no k' a (by omega)
      refine N_Mo_isLeftOut_5 ⟨fun z => by omega, fun _ => ⟨fun z => absurd rfl z, fun _ => ?_⟩⟩
      rw [e137, e138, e155, e177]
      have close : ∀ (g2 : HP) (tm2 : Int → Tm) (s0 : Int), XM (brH g) tm g2 tm2 → QB g0 g2 → OuT g g2 → g2 135 15 ≤ 1000 → (∀ g3, QT g0 g3 tm S V D sc Γ F m → XM h tm g3 tm → OuT h g3 → r32 (j + 1) ∧ Go d M_Mo_isLeftOut 5 [(22, 135), (0, f), (0, L), (0, s0), (0, j + 1)] [] g3 Q) → Go (d - 1) M_Mo_unbranches 0 [(22, 135), (2, 0)] [] g2 (fun _ k2 => r32 (j + 1) ∧ Go d M_Mo_isLeftOut 5 [(22, 135), (0, f), (0, L), (0, s0), (0, j + 1)] [] k2 Q) := by
        intro g2 tm2 s0 X2 b2 o2 h15 K
        refine q_unbr (by omega) Tg d0 d1 X2 b2 (fun i _ => o2.1 178 i (by omega)) (o2.2 62 (by omega)) (o2.2 65 (by omega)) h15 (fun v g3 T3 o3 X3 => K g3 T3 (XM_trans Xg X3) ⟨fun a i p => ?_, fun i p => ?_⟩)
        · rw [o3.1 a i (by omega), o2.1 a i p, og.1 a i p]
        · rw [o3.2 i p, o2.2 i p, og.2 i p]
      refine ⟨by omega, by omega, by unfold r32; omega, fun nf => next g Tg Xg og (fun q => nf ?_), fun ef => ⟨by unfold r32; omega, by omega, fun nz => next g Tg Xg og (fun q => nz (s.2 q.2.2.1)), fun ez => ⟨by omega, by omega, ?_⟩⟩⟩
      · have := q.2.1
        dsimp only at this
        omega
      · have ns : ¬ seen j := fun q => by have := s.1 q; omega
        have eq : Snd S (sgR' (sbr q0) (llr q0) (ppr q0) 67 j mu) (tm x) = Snd S (sgR' (sbr q0) (llr q0) (ppr q0) 67 j mu) a := Snd_eq EqS_rfl ex
        refine q_brC (mu := mu) bc (by omega) (by omega) j1 Tg d0 d1 Fm hr (by omega) (fun sa g2 tm2 T2 X2 o2 tl => ⟨fun z => absurd rfl z, fun _ => ⟨by omega, close g2 tm2 1 X2 T2.1 o2 (MV_b T2.2.2.1.1).2.2 (fun g3 T3 X3 o3 => ⟨by unfold r32; omega, yes g3 _ (H1 ⟨j, ⟨by omega, j1⟩, ?_, ns, ?_⟩ g3 T3 X3 o3)⟩)⟩⟩) (fun nsa g2 tm2 b2 l2 X2 o2 h15 => ⟨fun _ => ⟨by omega, close g2 tm2 0 X2 b2 o2 h15 (fun g3 T3 X3 o3 => next g3 T3 X3 o3 (fun q => nsa ?_))⟩, fun z => absurd z (by decide)⟩)
        · show q0 (41 + 2 * j) 4 = kk - 3
          omega
        · rw [← eq]; exact sa
        · rw [eq]; exact q.2.2.2
  exact N_Mo_isLeftOut_0 (loop 0 (by omega) dd.1 (fun k' a b => by omega) h T (XM_refl h tm) ⟨fun _ _ _ => rfl, fun _ _ => rfl⟩)
end
