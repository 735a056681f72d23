section
/-! what is worked out along the leads: once, whatever works it out -/
def rcF (f : Int → Int → Int → Int) (hd fa fb L : Int → Int) : Nat → Int → Int
  | 0, _ => 0
  | k + 1, z => f (L z) (if 0 < ari (hd (L z)) then rcF f hd fa fb L k (fa (L z)) else 1) (if 1 < ari (hd (L z)) then rcF f hd fa fb L k (fb (L z)) else 1)
def RcV (n : Int) (f : Int → Int → Int → Int) (hd fa fb L v : Int → Int) : Prop := ∀ z, 0 ≤ z → z < n → v z = f (L z) (if 0 < ari (hd (L z)) then v (fa (L z)) else 1) (if 1 < ari (hd (L z)) then v (fb (L z)) else 1)
theorem rc_step {n : Int} {hd fa fb c L : Int → Int} {rk : Int → Nat} (Ar : ArgIn 0 n hd fa fb) (A : Acy 0 n hd fa fb c rk) (Ld : Led 0 n hd c L) {z : Int} (z0 : 0 ≤ z) (z1 : z < n) : (0 < ari (hd (L z)) → (0 ≤ fa (L z) ∧ fa (L z) < n) ∧ rk (c (fa (L z))) < rk (c z)) ∧ (1 < ari (hd (L z)) → (0 ≤ fb (L z) ∧ fb (L z) < n) ∧ rk (c (fb (L z))) < rk (c z)) := by
  obtain ⟨l0, l1, l2, _⟩ := Ld z z0 z1
  refine ⟨fun q => ?_, fun q => ?_⟩
  · have q1 := ari_ge1 q
    have k := (A _ l0 l1 q1.2).1 q1.1
    rw [l2] at k
    exact ⟨(Ar _ l0 l1).1 q1.1 q1.2, k⟩
  · have q1 := ari_ge2 q
    have k := (A _ l0 l1 (by omega)).2 q1
    rw [l2] at k
    exact ⟨(Ar _ l0 l1).2 q1, k⟩
theorem rc_ex {n : Int} {hd fa fb c L : Int → Int} {rk : Int → Nat} (f : Int → Int → Int → Int) (Ar : ArgIn 0 n hd fa fb) (A : Acy 0 n hd fa fb c rk) (Ld : Led 0 n hd c L) : ∃ v, RcV n f hd fa fb L v := by
  have st : ∀ (m : Nat) (z : Int), 0 ≤ z → z < n → rk (c z) < m → ∀ k j, m ≤ k → m ≤ j → rcF f hd fa fb L k z = rcF f hd fa fb L j z := by
    intro m
    induction m with
    | zero => intro z _ _ h; omega
    | succ m ih =>
      intro z z0 z1 hz k j hk hj
      obtain ⟨k, rfl⟩ : ∃ k', k = k' + 1 := ⟨k - 1, by omega⟩
      obtain ⟨j, rfl⟩ : ∃ j', j = j' + 1 := ⟨j - 1, by omega⟩
      obtain ⟨sa, sb'⟩ := rc_step Ar A Ld z0 z1
      show f _ _ _ = f _ _ _
      have e1 : (if 0 < ari (hd (L z)) then rcF f hd fa fb L k (fa (L z)) else 1) = (if 0 < ari (hd (L z)) then rcF f hd fa fb L j (fa (L z)) else 1) := by
        split
        · rename_i q
          have := sa q
          exact ih _ this.1.1 this.1.2 (by omega) _ _ (by omega) (by omega)
        · rfl
      have e2 : (if 1 < ari (hd (L z)) then rcF f hd fa fb L k (fb (L z)) else 1) = (if 1 < ari (hd (L z)) then rcF f hd fa fb L j (fb (L z)) else 1) := by
        split
        · rename_i q
          have := sb' q
          exact ih _ this.1.1 this.1.2 (by omega) _ _ (by omega) (by omega)
        · rfl
      rw [e1, e2]
  refine ⟨fun z => rcF f hd fa fb L (rk (c z) + 1) z, fun z z0 z1 => ?_⟩
  obtain ⟨sa, sb'⟩ := rc_step Ar A Ld z0 z1
  show f _ _ _ = f _ _ _
  have e1 : (if 0 < ari (hd (L z)) then rcF f hd fa fb L (rk (c z)) (fa (L z)) else 1) = (if 0 < ari (hd (L z)) then rcF f hd fa fb L (rk (c (fa (L z))) + 1) (fa (L z)) else 1) := by
    split
    · rename_i q
      have := sa q
      exact st (rk (c (fa (L z))) + 1) _ this.1.1 this.1.2 (by omega) _ _ (by omega) (by omega)
    · rfl
  have e2 : (if 1 < ari (hd (L z)) then rcF f hd fa fb L (rk (c z)) (fb (L z)) else 1) = (if 1 < ari (hd (L z)) then rcF f hd fa fb L (rk (c (fb (L z))) + 1) (fb (L z)) else 1) := by
    split
    · rename_i q
      have := sb' q
      exact st (rk (c (fb (L z))) + 1) _ this.1.1 this.1.2 (by omega) _ _ (by omega) (by omega)
    · rfl
  rw [e1, e2]
theorem rc_uniq {n : Int} {hd fa fb c L : Int → Int} {rk : Int → Nat} {f : Int → Int → Int → Int} (Ar : ArgIn 0 n hd fa fb) (A : Acy 0 n hd fa fb c rk) (Ld : Led 0 n hd c L) {v w : Int → Int} (hv : RcV n f hd fa fb L v) (hw : RcV n f hd fa fb L w) : ∀ z, 0 ≤ z → z < n → v z = w z := by
  have st : ∀ (m : Nat) (z : Int), 0 ≤ z → z < n → rk (c z) < m → v z = w z := by
    intro m
    induction m with
    | zero => intro z _ _ h; omega
    | succ m ih =>
      intro z z0 z1 hz
      obtain ⟨sa, sb'⟩ := rc_step Ar A Ld z0 z1
      rw [hv z z0 z1, hw z z0 z1]
      have e1 : (if 0 < ari (hd (L z)) then v (fa (L z)) else 1) = (if 0 < ari (hd (L z)) then w (fa (L z)) else 1) := by
        split
        · rename_i q
          have := sa q
          exact ih _ this.1.1 this.1.2 (by omega)
        · rfl
      have e2 : (if 1 < ari (hd (L z)) then v (fb (L z)) else 1) = (if 1 < ari (hd (L z)) then w (fb (L z)) else 1) := by
        split
        · rename_i q
          have := sb' q
          exact ih _ this.1.1 this.1.2 (by omega)
        · rfl
      rw [e1, e2]
  exact fun z z0 z1 => st _ z z0 z1 (Nat.lt_succ_self _)
/-- leads of the same groups -/
theorem Led_eq {n : Int} {hd hd' c c' L L' : Int → Int} (H : Led 0 n hd c L) (H' : Led 0 n hd' c' L') (eh : ∀ x, 0 ≤ x → x < n → hd' x = hd x) (ec : ∀ x y, 0 ≤ x → x < n → 0 ≤ y → y < n → (c x = c y ↔ c' x = c' y)) {x : Int} (x0 : 0 ≤ x) (x1 : x < n) : L x = L' x := by
  obtain ⟨l1, l2, l3, l4⟩ := H x x0 x1
  obtain ⟨m1, m2, m3, m4⟩ := H' x x0 x1
  have a := l4 (L' x) m1 m2 ((ec _ _ m1 m2 x0 x1).mpr m3)
  have b := m4 (L x) l1 l2 ((ec _ _ l1 l2 x0 x1).mp l3)
  rw [eh _ l1 l2, eh _ m1 m2] at b
  omega
/-- all groups get their value -/
theorem works_pos {h : HP} {tm : Int → Tm} {S : Sx} {what : Int} {v : Int → Int} (R : RW h tm S) (Z : ∀ k, h 135 14 ≤ k → k < h 135 15 → h 141 k = k → v k = 0 → pA1 h v k = 0 ∨ pB1 h v k = 0) : ∀ k, h 135 14 ≤ k → k < h 135 15 → h 141 k = k → v k ≠ 0 := by
  obtain ⟨⟨⟨_, _, _, _, _, W, _, M, hs⟩, _, _, Rs, _, _⟩, ⟨θ, hθ⟩, _⟩ := R
  have A := Wst_arg W
  obtain ⟨rk', A'⟩ := Rsp_acy W ((Rs θ).mp hθ)
  have : ∀ (n : Nat) (k : Int), h 135 14 ≤ k → k < h 135 15 → h 141 k = k → rk' k < n → v k ≠ 0 := by
    intro n
    induction n with
    | zero => intro k _ _ _ hk; omega
    | succ n ih =>
      intro k k1 k2 k3 k4 k5
      have s1 := hs k k1 k2
      rw [k3] at s1
      have a1 := A' (h 142 k) s1.1 s1.2.1
      have rs : rk' (h 141 (h 142 k)) = rk' k := by rw [s1.2.2.1]
      rcases Z k k1 k2 k3 k5 with z | z
      · unfold pA1 at z
        split at z
        · rename_i q
          have q1 := ari_ge1 q
          have q2 := (A (h 142 k) s1.1 s1.2.1).1 q1.1 q1.2
          have q3 := M _ q2.1 q2.2
          have q4 := (a1 q1.2).1 q1.1
          exact ih _ q3.1 (by omega) q3.2.2 (by omega) z
        · omega
      · unfold pB1 at z
        split at z
        · rename_i q
          have q1 := ari_ge2 q
          have q2 := (A (h 142 k) s1.1 s1.2.1).2 q1
          have q3 := M _ q2.1 q2.2
          have q4 := (a1 (by omega)).2 q1
          exact ih _ q3.1 (by omega) q3.2.2 (by omega) z
        · omega
  exact fun k k1 k2 k3 => this _ k k1 k2 k3 (Nat.lt_succ_self _)
/-- what the bench's lead tells -/
abbrev wF (h : HP) (what : Int) : Int → Int → Int → Int := fun l a b => wth what (h (5 + 3) l) (h (5 + 6) l) a b
theorem BR_lead {h : HP} {tm : Int → Tm} {S : Sx} {V : Vx} {c : Int → Int} (b : BR h tm S V c) {x : Int} (x0 : 0 ≤ x) (x1 : x < h 5 13) : ldC h 5 c x = h 142 (h 141 x) := by
  obtain ⟨W, Rw, hV, ⟨e15, e14, _⟩, rows⟩ := b
  have l2 := RW_Led Rw
  rw [e14, e15] at l2
  exact Led_eq (FB_lead W.1).1 l2 (fun z z0 z1 => (rows z z0 z1).1) (fun z w z0 z1 w0 w1 => (Ptn_eq W.2.1 z0 z1 w0 w1).trans (RW_eq Rw (by omega) (by omega) (by omega) (by omega)).symm) x0 x1
/-- the reference's row is what is worked out along the leads -/
theorem works_rc {h : HP} {tm : Int → Tm} {S : Sx} {V : Vx} {c : Int → Int} {what : Int} {v : Int → Int} {rk : Int → Nat} {T : Nat} (b : BR h tm S V c) (I : WkI h 0 (h 5 13) what v rk T) (Z : ∀ k, 0 ≤ k → k < h 5 13 → h 141 k = k → v k = 0 → pA1 h v k = 0 ∨ pB1 h v k = 0) : RcV (h 5 13) (wF h what) (h (5 + 3)) (h (5 + 4)) (h (5 + 5)) (ldC h 5 c) (fun z => v (h 141 z)) := by
  have b' := b
  obtain ⟨W, Rw, hV, ⟨e15, e14, _⟩, rows⟩ := b
  have M : Mi 0 (h 5 13) (h 141) := by
    have := Rw.1.1.2.2.2.2.2.2.2.1
    rw [e14, e15] at this
    exact this
  have pos := works_pos (what := what) Rw (by rw [e14, e15]; exact Z)
  rw [e14, e15] at pos
  intro z z0 z1
  have m := M z z0 z1
  have k := I.2 (h 141 z) m.1 (by omega) (pos _ m.1 (by omega) m.2.2)
  have le := BR_lead b' z0 z1
  have Ld := (FB_lead W.1).1 z z0 z1
  have r := rows _ Ld.1 Ld.2.1
  show v (h 141 z) = wth what (h (5 + 3) (ldC h 5 c z)) (h (5 + 6) (ldC h 5 c z)) _ _
  rw [k.2.2.2.1]
  unfold pA1 pB1
  rw [← le, r.1, r.2.1]
  have e1 : (if 0 < ari (h (5 + 3) (ldC h 5 c z)) then v (h 141 (h 138 (ldC h 5 c z))) else 1) = (if 0 < ari (h (5 + 3) (ldC h 5 c z)) then v (h 141 (h (5 + 4) (ldC h 5 c z))) else 1) := by
    split
    · rename_i q
      have q1 := ari_ge1 q
      rw [r.2.2.1 q1.1 q1.2]
    · rfl
  have e2 : (if 1 < ari (h (5 + 3) (ldC h 5 c z)) then v (h 141 (h 139 (ldC h 5 c z))) else 1) = (if 1 < ari (h (5 + 3) (ldC h 5 c z)) then v (h 141 (h (5 + 5) (ldC h 5 c z))) else 1) := by
    split
    · rename_i q
      rw [r.2.2.2 (ari_ge2 q)]
    · rfl
  rw [e1, e2]
/-- the arguments of a lead, as the class sees them -/
theorem kid_lead {h : HP} {T R : Int} {tm : Int → Tm} {S : Sx} {c v : Int → Int} (W : CW h T R tm S c) (hv : ∀ z w, 0 ≤ z → z < h T 13 → 0 ≤ w → w < h T 13 → c z = c w → v z = v w) {r : Int} (r0 : 0 ≤ r) (r1 : r < h T 13) (cr : c r = r) :
    (kA h T c (h T 13) r ≠ -1 ↔ 0 < ari (hdL h T r)) ∧ (kB h T c (h T 13) r ≠ -1 ↔ 1 < ari (hdL h T r)) ∧ (0 < ari (hdL h T r) → v (kA h T c (h T 13) r) = v (h (T + 4) (ldC h T c r))) ∧ (1 < ari (hdL h T r) → v (kB h T c (h T 13) r) = v (h (T + 5) (ldC h T c r))) := by
  obtain ⟨F, ⟨Ws, _⟩, _, NA, _⟩ := W
  have Ld := (FB_lead F).1 r r0 r1
  have Fr := F.2.2.2.2.1
  have Ar := Wst_arg Ws
  have el : ldC h T c r = h (T + 9) r % 1024 := by unfold ldC; rw [cr]
  have na := NA _ Ld.1 Ld.2.1
  have ha : hdL h T r = h (T + 3) (ldC h T c r) := by unfold hdL; rw [el]
  rw [ha]
  have ka : kA h T c (h T 13) r = c1 c (h T 13) (h (T + 4) (ldC h T c r)) := by unfold kA; rw [el]
  have kb : kB h T c (h T 13) r = c1 c (h T 13) (h (T + 5) (ldC h T c r)) := by unfold kB; rw [el]
  rw [ka, kb]
  have inA : 0 < ari (h (T + 3) (ldC h T c r)) → 0 ≤ h (T + 4) (ldC h T c r) ∧ h (T + 4) (ldC h T c r) < h T 13 := fun q => (Ar _ Ld.1 Ld.2.1).1 (ari_ge1 q).1 (ari_ge1 q).2
  have inB : 1 < ari (h (T + 3) (ldC h T c r)) → 0 ≤ h (T + 5) (ldC h T c r) ∧ h (T + 5) (ldC h T c r) < h T 13 := fun q => (Ar _ Ld.1 Ld.2.1).2 (ari_ge2 q)
  have ab := ari_bd (h (T + 3) (ldC h T c r))
  refine ⟨⟨fun z => ?_, fun z => ?_⟩, ⟨fun z => ?_, fun z => ?_⟩, fun z => ?_, fun z => ?_⟩
  · rcases Int.lt_or_le 0 (ari (h (T + 3) (ldC h T c r))) with q | q
    · exact q
    · refine absurd ?_ z
      have : h (T + 3) (ldC h T c r) < 2 ∨ 6 < h (T + 3) (ldC h T c r) := by
        rcases Int.lt_or_le (h (T + 3) (ldC h T c r)) 2 with y | y
        · exact Or.inl y
        · rcases Int.lt_or_le 6 (h (T + 3) (ldC h T c r)) with u | u
          · exact Or.inr u
          · rcases Int.lt_or_le (h (T + 3) (ldC h T c r)) 3 with t | t
            · rw [ari_2 (by omega)] at q; omega
            · rw [ari_1 t u] at q; omega
      rw [na.1 this]
      exact c1_out (by omega)
  · have q := inA z
    have := (Fr _ q.1 q.2).2.1
    rw [c1_in q.1 q.2]; omega
  · by_cases q : h (T + 3) (ldC h T c r) = 2
    · rw [ari_2 q]; omega
    · refine absurd ?_ z
      rw [na.2 q]
      exact c1_out (by omega)
  · have q := inB z
    have := (Fr _ q.1 q.2).2.1
    rw [c1_in q.1 q.2]; omega
  · have q := inA z
    have f := (Fr _ q.1 q.2).2.1
    rw [c1_in q.1 q.2]
    exact hv _ _ f.1 f.2 q.1 q.2 (Frs_cc Fr q.1 q.2)
  · have q := inB z
    have f := (Fr _ q.1 q.2).2.1
    rw [c1_in q.1 q.2]
    exact hv _ _ f.1 f.2 q.1 q.2 (Frs_cc Fr q.1 q.2)
theorem rc_same {n : Int} {f : Int → Int → Int → Int} {hd fa fb c L v : Int → Int} (Ld : Led 0 n hd c L) (hv : RcV n f hd fa fb L v) : ∀ z w, 0 ≤ z → z < n → 0 ≤ w → w < n → c z = c w → v z = v w := by
  intro z w z0 z1 w0 w1 e
  rw [hv z z0 z1, hv w w0 w1, Led_best Ld z0 z1 w0 w1 e]
/-- the reference's work on the bench -/
theorem c_workedB {d : Nat} {h : HP} {tm : Int → Tm} {S : Sx} {V : Vx} {c vn : Int → Int} {what x : Int} {Q : PQ} (hd : 4 < d) (b : BR h tm S V c) (hv : RcV (h 5 13) (wF h what) (h (5 + 3)) (h (5 + 4)) (h (5 + 5)) (ldC h 5 c) vn) (x0 : 0 ≤ x) (x1 : x < h 5 13) (H : ∀ v, Q (vn x) (setR h 145 0 (h 5 13) v)) : Go d M_Mo_worked 0 [(22, 135), (0, what), (0, x)] [] h Q := by
  have b' := b
  obtain ⟨W, Rw, hV, ⟨e15, e14, e19, e18, n60, d8⟩, rows⟩ := b
  have RBh := Rw.1.1
  rw [e14, e15] at RBh
  have M := RBh.2.2.2.2.2.2.2.1
  have m := M x x0 x1
  obtain ⟨rk, A⟩ := W.2.1.2.2.2.1
  refine N_Mo_worked_0 ⟨by omega, c_works (by omega) RBh (fun v rk' T I Z => ?_)⟩
  have rv := works_rc b' I Z
  have eq := rc_uniq (Wst_arg W.2.1.1) A (FB_lead W.1).1 rv hv x x0 x1
  rw [setR_ne (show (141 : Int) ≠ 145 by decide), setR_in (by omega) (by omega)]
  have eq : v (h 141 x) = vn x := eq
  rw [eq]
  exact ⟨⟨by omega, by omega⟩, ⟨by omega, by omega⟩, H v⟩
theorem BIx_scr {h h1 h2 : HP} (B : BIx h) (s : ScC 5 h h1) (e : ∃ v, h2 = setR h1 145 0 (h 5 13) v) : BIx h2 ∧ FrB h h2 := by
  obtain ⟨v, rfl⟩ := e
  have o : ∀ a i, (a < 19 ∨ 29 < a) → a ≠ 145 → (setR h1 145 0 (h 5 13) v) a i = h a i := fun a i p q => by rw [setR_ne q, s a i (by omega)]
  have lc : LcC 5 h (setR h1 145 0 (h 5 13) v) := fun a i p q => o a i (by omega) (by omega)
  have lm : LcM h (setR h1 145 0 (h 5 13) v) := ⟨fun i p q => o _ _ (by omega) (by omega), fun a i p q r => o _ _ (by omega) (by omega)⟩
  obtain ⟨⟨k, ck⟩, ⟨tm, S, V, c, b⟩, c0, c1, c2⟩ := B
  refine ⟨⟨⟨k, CH_loc lc lm ck⟩, ⟨tm, S, V, c, BR_loc lc lm b⟩, ?_⟩, ⟨fun a i p => o _ _ (by omega) (by omega), fun i p => o _ _ (by omega) (by omega), fun i p => o _ _ (by omega) (by omega)⟩⟩
  rw [o 1 12 (by omega) (by omega), o 1 13 (by omega) (by omega), o 1 14 (by omega) (by omega), o 150 0 (by omega) (by omega), o 150 1 (by omega) (by omega), o 150 2 (by omega) (by omega)]
  exact ⟨c0, c1, c2⟩
end
