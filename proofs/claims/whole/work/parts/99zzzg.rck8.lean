section
/-! C and G in the reference -/
def sI (c j : Int) : Int := if c = 67 then j else 10 + j
theorem q_sig {q0 g0 : HP} {A c j : Int} (bc : BD q0 g0 A) (hc : c = 67 ∨ c = 71) (j0 : 0 ≤ j) (j1 : j < nPr q0 c) : (0 ≤ sI c j ∧ sI c j < 16) ∧ g0 152 (sI c j) = llr q0 c j ∧ g0 153 (sI c j) = ppr q0 c j ∧ (∀ i, 0 ≤ i → i < llr q0 c j → g0 151 (24 * sI c j + i) = sbr q0 c j i) ∧ (c = 67 → j < 10 ∧ g0 155 j = q0 (41 + 2 * j) 4 ∧ 0 ≤ g0 155 j ∧ g0 155 j ≤ 3) ∧ (c = 71 → j < 6) := by
  have D := bc.1.2.2.1
  have d1 := D.1
  have lk := bc.2.1
  rcases hc with e | e <;> subst e
  · have j1' : j < q0 36 4 := j1
    obtain ⟨⟨a, b, _, _, _, e⟩, f, f0, f3⟩ := D.2.1 j j0 j1'
    have s : sI 67 j = j := rfl
    have k5 := lk 155 j (by omega) (by omega)
    rw [s]
    refine ⟨by omega, (lk 152 j (by omega) (by omega)).trans a, (lk 153 j (by omega) (by omega)).trans b, fun i i0 i1 => ?_, fun _ => ⟨by omega, k5.trans f, by omega, by omega⟩, fun z => by omega⟩
    have := e i i0 i1
    rw [lk 151 _ (by omega) (by omega), this]
    show q0 (41 + 2 * j + 1) i = q0 (42 + 2 * j) i
    rw [show 41 + 2 * j + 1 = 42 + 2 * j by omega]
  · have j1' : j < q0 36 5 := j1
    obtain ⟨⟨a, b, _, _, _, e⟩, _⟩ := D.2.2 j j0 j1'
    have s : sI 71 j = 10 + j := rfl
    rw [s]
    refine ⟨by omega, (lk 152 _ (by omega) (by omega)).trans a, (lk 153 _ (by omega) (by omega)).trans b, fun i i0 i1 => ?_, fun z => by omega, fun _ => by omega⟩
    have := e i i0 i1
    rw [lk 151 _ (by omega) (by omega), this]
    show q0 (61 + 5 * j + 1) i = q0 (62 + 5 * j) i
    rw [show 61 + 5 * j + 1 = 62 + 5 * j by omega]
theorem s48 {d : Nat} {h : HP} {f nd v3 : Int} {Q : PQ} (f0 : 0 ≤ f) (f1 : f < 260) (H : ∀ g : HP, (∀ a i, ¬ (a = 177 ∧ 4 * f ≤ i ∧ i < 4 * f + 4) → g a i = h a i) → (∀ i, 0 ≤ i → i < 4 → g 177 (4 * f + i) = h 158 i) → Go d M_Mo_signType 48 [(22, 135), (0, f), (0, nd), (0, v3), (0, 4)] [] g Q) : Go d M_Mo_signType 48 [(22, 135), (0, f), (0, nd), (0, v3), (0, 0)] [] h Q := by
  have loop : ∀ v, 0 ≤ v → v ≤ 4 → ∀ g : HP, (∀ a i, ¬ (a = 177 ∧ 4 * f ≤ i ∧ i < 4 * f + 4) → g a i = h a i) → (∀ i, 0 ≤ i → i < v → g 177 (4 * f + i) = h 158 i) → Go d M_Mo_signType 48 [(22, 135), (0, f), (0, nd), (0, v3), (0, v)] [] g Q := by
    intro v v0 v1
    refine up_loop (P := fun v => ∀ g : HP, (∀ a i, ¬ (a = 177 ∧ 4 * f ≤ i ∧ i < 4 * f + 4) → g a i = h a i) → (∀ i, 0 ≤ i → i < v → g 177 (4 * f + i) = h 158 i) → Go d M_Mo_signType 48 [(22, 135), (0, f), (0, nd), (0, v3), (0, v)] [] g Q) v1 ?_ ?_
    · intro g o e
      exact H g o e
    · intro j j0 j1 ih g o e
      refine N_Mo_signType_48 ⟨fun z => by omega, fun _ => ⟨by unfold r32; omega, by unfold r32; omega, by omega, by omega, fun g2 e2 => ⟨by unfold r32; omega, ih g2 (fun a i q => ?_) (fun i i0 i1 => ?_)⟩⟩⟩
      · rw [e2, up2_ext (by omega)]; exact o a i q
      · by_cases z : i = j
        · rw [e2, z, up2_eq]; exact o 158 j (by omega)
        · rw [e2, up2_ext (by omega)]; exact e i i0 (by omega)
  exact loop 0 (by omega) (by omega) h (fun _ _ _ => rfl) (fun i i0 i1 => by omega)
/-- the type of a sign, and its parts -/
theorem q_signT {d : Nat} {q0 g0 h : HP} {A c j f k : Int} {mu : Int → Nat} {tm : Int → Tm} {S : Sx} {V : Vx} {D sc m : Int} {Γ : Int → Tm} {Q : PQ} (bc : BD q0 g0 A) (hd : 12 < d) (hc : c = 67 ∨ c = 71) (j0 : 0 ≤ j) (j1 : j < nPr q0 c) (T : QT g0 h tm S V D sc Γ (f + 1) m) (d0 : 0 ≤ D) (d1 : D ≤ 98) (f0 : 0 ≤ f) (f1 : f < 260) (k0 : 0 ≤ k) (k1 : k < 100) (o1 : g0 161 (600 + k) = c) (o3 : g0 163 (600 + k) = j) (F : FrN V mu) (hr : m + 50 ≤ 1000)
    (H : ∀ (y : Int) (g : HP) (tm' : Int → Tm), QT g0 g tm' S (nV V mu (Oc (sbr q0 c j) 0 (llr q0 c j)) (8, D)) D sc Γ (f + 1) (m + 2 * llr q0 c j + 1) → XM h tm g tm' → QX h g f sc → (g 173 f = h 173 f ∧ g 174 f = h 174 f ∧ g 175 f = h 175 f) → (100 ≤ y ∧ y < g 135 15) → tm' y = cllT (fun j => q0 (41 + 2 * j) 4) c j (sgR' (sbr q0) (llr q0) (ppr q0) c j mu) → (∀ (i : Nat) (t : Tm), (i : Int) < ppr q0 c j → (sgF (sbr q0) (llr q0) (ppr q0) c j mu)[i]? = some t → (100 ≤ g 177 (4 * f + i) ∧ g 177 (4 * f + i) < g 135 15) ∧ tm' (g 177 (4 * f + i)) = t) → Q y g) :
    Go d M_Mo_signType 0 [(22, 135), (0, f), (0, 600 + k), (2, 0), (2, 0)] [] h Q := by
  obtain ⟨⟨s0, s1⟩, e152, e153, e151, fmC, fmG⟩ := q_sig bc hc j0 j1
  obtain ⟨_, _, _, _, _, ⟨l0, l1⟩, ⟨n0, n3⟩, O⟩ := cel_ok bc.1 hc j0 j1
  have q := T.2.2.1.2.1
  have lm := T.2.2.2
  have b := T.1
  have h161 : h 161 (600 + k) = c := (b.1 161 _ (by omega)).trans o1
  have h163 : h 163 (600 + k) = j := (b.1 163 _ (by omega)).trans o3
  have lL := sgL_len (mu := mu) l0 n0 O
  have lF := sgF_get (sb' := sbr q0) (ll := llr q0) (pp := ppr q0) (k := c) (j := j) (mu := mu) rfl n0 lL
  have gI := sgI_get (mu := mu) l0 n0 O
  -- the words told
  have tell : ∀ (W : PQ), (∀ (g : HP) (tm' : Int → Tm), QT g0 g tm' S (nV V mu (Oc (sbr q0 c j) 0 (llr q0 c j)) (8, D)) D sc Γ (f + 1) (m + 2 * llr q0 c j) → XM h tm g tm' → OuT h g → TlE g tm' 0 (sgL (sbr q0 c j) (llr q0 c j) mu) → W 0 g) → Go (d - 1) M_Mo_tells 0 [(22, 135), (0, sI c j), (0, 8), (2, 0), (2, 0), (2, 0), (2, 0), (2, 0)] [] h W := by
    intro W K
    refine c_tells (b := sbr q0 c j) (n := llr q0 c j) (mu := mu) (by omega) T.2.2.1.1 F (Or.inr rfl) (by omega) s0 s1 l0 l1 ((b.1 152 _ (by omega)).trans e152) (fun i i0 i1 => (b.1 151 _ (by omega)).trans (e151 i i0 i1)) (by rw [O]; exact n0) (by omega) (fun g tm' M X tl nb o => ?_)
    rw [q.2.1] at M
    exact K g tm' (QT_step T d0 M X (OuT_QB o) (fun i _ => o.1 178 i (by omega)) (o.2 62 (by omega)) (o.2 65 (by omega)) (fun _ z => z) (by omega)) X o tl
  -- the rest
  have rest : ∀ (v3 : Int), (v3 = if c = 67 then 1 else 0) → ∀ (g : HP) (tm' : Int → Tm), QT g0 g tm' S (nV V mu (Oc (sbr q0 c j) 0 (llr q0 c j)) (8, D)) D sc Γ (f + 1) (m + 2 * llr q0 c j) → XM h tm g tm' → OuT h g → TlE g tm' 0 (sgL (sbr q0 c j) (llr q0 c j) mu) → Go d M_Mo_signType 48 [(22, 135), (0, f), (0, 600 + k), (0, v3), (0, 0)] [] g Q := by
    intro v3 ev g tm' T1 X1 o1' tl
    refine s48 f0 f1 (fun g2 o2 r2 => ?_)
    have op : ∀ a i, a < 173 ∨ 177 < a → ¬ (a = 135 ∧ (i = 62 ∨ i = 63)) → g2 a i = g a i := fun a i p q => o2 a i (by omega)
    have T2 := QT_pile T1 op (F' := f + 1) (by rw [o2 135 62 (by omega)]; exact T1.2.2.1.2.2.1.1)
    have X2 : XM g tm' g2 tm' := XM_pile op
    have q2 : QX h g2 f sc := fun a i p => by rw [o2 a i (by omega)]; exact o1'.1 a i (by omega)
    have fr2 : g2 173 f = h 173 f ∧ g2 174 f = h 174 f ∧ g2 175 f = h 175 f := ⟨by rw [o2 173 f (by omega)]; exact o1'.1 173 f (by omega), by rw [o2 174 f (by omega)]; exact o1'.1 174 f (by omega), by rw [o2 175 f (by omega)]; exact o1'.1 175 f (by omega)⟩
    have x14 := T1.2.2.1.2.1.1
    have e15 : g2 135 15 = g 135 15 := o2 135 15 (by omega)
    have pt : ∀ (i : Nat) (t : Tm), (i : Int) < ppr q0 c j → (sgF (sbr q0) (llr q0) (ppr q0) c j mu)[i]? = some t → (100 ≤ g2 177 (4 * f + i) ∧ g2 177 (4 * f + i) < g2 135 15) ∧ tm' (g2 177 (4 * f + i)) = t := by
      intro i t il gt
      rw [lF.2 i il] at gt
      have u := (tl i t gt).1 (by omega)
      rw [show (0 : Int) + (i : Int) = i by omega] at u
      rw [r2 i (by omega) (by omega)]
      exact ⟨⟨by have := u.1; omega, by have := u.2.1; omega⟩, u.2.2⟩
    have la := (tl _ _ gI).2 (by omega)
    have e158 : g2 158 3 = g 158 3 := o2 158 3 (by omega)
    refine N_Mo_signType_48 ⟨fun _ => ⟨fun v => ⟨by omega, ?_⟩, fun v => ?_⟩, fun z => by omega⟩
    · have c71 : c = 71 := by
        rcases hc with e | e
        · rw [if_pos e] at ev; omega
        · exact e
      refine H _ g2 tm' (QT_le T2 (by omega)) (XM_trans X1 X2) q2 fr2 (by rw [e158]; have := la.1; have := la.2.1; omega) ?_ pt
      rw [e158, la.2.2]
      unfold cllT
      rw [if_neg (by omega)]
    · have c67 : c = 67 := by
        rcases hc with e | e
        · exact e
        · rw [if_neg (by omega)] at ev; omega
      obtain ⟨j10, f5, f50, f53⟩ := fmC c67
      have h163' : g2 163 (600 + k) = j := (T2.1.1 163 _ (by omega)).trans o3
      have h155 : g2 155 j = g0 155 j := T2.1.1 155 _ (by omega)
      rw [h163', h155]
      refine ⟨by omega, by omega, by unfold r32; omega, by omega, by omega, ?_⟩
      have la1 := la.1
      have la2 := la.2.1
      refine q_mkF (t := cllT (fun j => q0 (41 + 2 * j) 4) c j (sgR' (sbr q0) (llr q0) (ppr q0) c j mu)) (by omega) T2 d0 (by omega) (by omega) (fun _ => by omega) (fun z => by omega) (by omega) ?_ (fun y g3 tm3 T3 X3 o3' y0 y1 ye => ?_)
      · rw [mkT_f (by omega), e158, la.2.2]
        unfold cllT
        rw [if_pos c67, f5]
      · have x3 := X3.1.2.1
        refine H y g3 tm3 T3 (XM_trans X1 (XM_trans X2 X3)) (QX_trans (Int.le_refl _) (Int.le_refl _) q2 (OuM_QX o3')) ⟨by rw [o3'.1 173 f (by omega)]; exact fr2.1, by rw [o3'.1 174 f (by omega)]; exact fr2.2.1, by rw [o3'.1 175 f (by omega)]; exact fr2.2.2⟩ ⟨y0, y1⟩ ye (fun i t il gt => ?_)
        have u := pt i t il gt
        rw [o3'.1 177 _ (by omega)]
        refine ⟨by omega, ?_⟩
        rw [X3.2 _ (by have := T2.2.2.1.2.1.1; omega) u.1.2]
        exact u.2
  refine N_Mo_signType_0 ?_
  rw [h161, h163]
  refine ⟨by omega, fun n => ⟨by omega, ?_, by omega, ?_⟩, fun e => ⟨by omega, by omega, ?_⟩⟩
  · have := fmG (by omega)
    unfold r32; omega
  · have := tell (fun _ g => Go d M_Mo_signType 48 [(22, 135), (0, f), (0, 600 + k), (0, 0), (0, 0)] [] g Q) (rest 0 (by rw [if_neg n]))
    unfold sI at this
    rw [if_neg n] at this
    exact this
  · have := tell (fun _ g => Go d M_Mo_signType 48 [(22, 135), (0, f), (0, 600 + k), (0, 1), (0, 0)] [] g Q) (rest 1 (by rw [if_pos e]))
    unfold sI at this
    rw [if_pos e] at this
    exact this
end
