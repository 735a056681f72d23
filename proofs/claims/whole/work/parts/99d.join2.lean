section
theorem cnt_inj {p q : Int → Prop} {f : Int → Int} {lo hi : Int} (w : lo ≤ hi) (h1 : ∀ x, lo ≤ x → x < hi → p x → lo ≤ f x ∧ f x < hi ∧ q (f x)) (h2 : ∀ x y, lo ≤ x → x < hi → lo ≤ y → y < hi → p x → p y → f x = f y → x = y) : cnt p lo hi ≤ cnt q lo hi := by
  have key : ∀ i, lo ≤ i → i ≤ hi → cnt p lo i ≤ cnt (fun y => q y ∧ ∃ x, lo ≤ x ∧ x < i ∧ p x ∧ f x = y) lo hi := by
    refine up_ind (lo := lo) (P := fun i => i ≤ hi → cnt p lo i ≤ cnt (fun y => q y ∧ ∃ x, lo ≤ x ∧ x < i ∧ p x ∧ f x = y) lo hi) ?_ ?_
    · intro _
      rw [cnt_nil (Int.le_refl _)]
      exact (cnt_bd w).1
    · intro i hi1 ih hi2
      have ih := ih (by omega)
      rcases Classical.em (p i) with hp | hp
      · rw [cnt_st hi1 hp]
        obtain ⟨a, b, e⟩ := h1 i hi1 (by omega) hp
        have l := cnt_less (p := fun y => q y ∧ ∃ x, lo ≤ x ∧ x < i + 1 ∧ p x ∧ f x = y) (q := fun y => q y ∧ ∃ x, lo ≤ x ∧ x < i ∧ p x ∧ f x = y) a b ⟨e, i, hi1, by omega, hp, rfl⟩ (fun ⟨_, x, x1, x2, x3, x4⟩ => by
          have := h2 x i x1 (by omega) hi1 (by omega) x3 hp x4
          omega) (fun y _ _ hy => ⟨fun ⟨z, x, x1, x2, x3, x4⟩ => ⟨z, x, x1, by
            by_cases v : x = i
            · rw [v] at x4; exact absurd x4.symm hy
            · omega, x3, x4⟩, fun ⟨z, x, x1, x2, x3, x4⟩ => ⟨z, x, x1, by omega, x3, x4⟩⟩)
        omega
      · rw [cnt_sf hi1 hp]
        have m : cnt (fun y => q y ∧ ∃ x, lo ≤ x ∧ x < i ∧ p x ∧ f x = y) lo hi ≤ cnt (fun y => q y ∧ ∃ x, lo ≤ x ∧ x < i + 1 ∧ p x ∧ f x = y) lo hi := cnt_mono (fun y _ _ ⟨z, x, x1, x2, x3, x4⟩ => ⟨z, x, x1, by omega, x3, x4⟩)
        omega
  have := key hi w (Int.le_refl _)
  have m : cnt (fun y => q y ∧ ∃ x, lo ≤ x ∧ x < hi ∧ p x ∧ f x = y) lo hi ≤ cnt q lo hi := cnt_mono (fun y _ _ z => z.1)
  omega
/-- the roots are as many as the groups -/
theorem FB_ncl {h : HP} {T R n L : Int} {tm : Int → Tm} {S : Sx} {c : Int → Int} (F : FB h T R n L c) (E : ∀ x y, 0 ≤ x → x < n → 0 ≤ y → y < n → (c x = c y ↔ EqS S (tm x) (tm y))) : cnt (fun x => c x = x) 0 n = ncl tm S 0 n := by
  obtain ⟨hT, ⟨hn, n0, nR⟩, hL, eL, Fr, M1, M2, Hs, H8⟩ := F
  have low : ∀ x, 0 ≤ x → x < n → 0 ≤ h (T + 10) (c x) ∧ h (T + 10) (c x) < n ∧ c (h (T + 10) (c x)) = c x ∧ ∀ z, 0 ≤ z → z < n → c z = c x → h (T + 10) (c x) ≤ z := by
    intro x x0 x1
    obtain ⟨⟨y, y0, y1, y2, y3⟩, m⟩ := M2 x x0 x1
    have y3 : h (T + 10) (c x) = y := y3
    rw [y3]
    refine ⟨y0, y1, y2, fun z z0 z1 z2 => ?_⟩
    have m1 : h (T + 10) (c x) ≤ z := m z z0 z1 z2
    omega
  have a : cnt (fun x => c x = x) 0 n ≤ ncl tm S 0 n := by
    refine cnt_inj (f := fun x => h (T + 10) (c x)) n0 (fun x x0 x1 hx => ?_) (fun x y x0 x1 y0 y1 hx hy e => ?_)
    · obtain ⟨l1, l2, l3, l4⟩ := low x x0 x1
      refine ⟨l1, l2, fun y y0 y1 q => ?_⟩
      have := l4 y y0 (by omega) (by rw [← l3]; exact (E y _ y0 (by omega) l1 l2).mpr q)
      omega
    · have e1 := (low x x0 x1).2.2.1
      have e2 := (low y y0 y1).2.2.1
      have e : h (T + 10) (c x) = h (T + 10) (c y) := e
      rw [e, e2] at e1
      have hx : c x = x := hx
      have hy : c y = y := hy
      omega
  have b : ncl tm S 0 n ≤ cnt (fun x => c x = x) 0 n := by
    refine cnt_inj (f := c) n0 (fun x x0 x1 hx => ?_) (fun x y x0 x1 y0 y1 hx hy e => ?_)
    · have f := (Fr x x0 x1).2.1
      exact ⟨f.1, f.2, Frs_cc Fr x0 x1⟩
    · have q := (E x y x0 x1 y0 y1).mp e
      rcases Int.lt_trichotomy x y with z | z | z
      · exact absurd q (hy x x0 z)
      · exact z
      · exact absurd (EqS_symm q) (hx y y0 z)
  omega
theorem ex_min {P : Nat → Prop} (h : ∃ j, P j) : ∃ j, P j ∧ ∀ i, i < j → ¬ P i := by
  obtain ⟨j, hj⟩ := h
  have : ∀ (n j : Nat), j < n → P j → ∃ j, P j ∧ ∀ i, i < j → ¬ P i := by
    intro n
    induction n with
    | zero => intro j h; omega
    | succ n ih =>
      intro j hj hp
      rcases Classical.em (∃ i, i < j ∧ P i) with ⟨i, i1, i2⟩ | q
      · exact ih i (by omega) i2
      · exact ⟨j, hp, fun i hi pi => q ⟨i, hi, pi⟩⟩
  exact this (j + 1) j (by omega) hj
theorem FB_rank {h : HP} {T R n L : Int} {tm : Int → Tm} {c : Int → Int} {rk : Int → Nat} (F : FB h T R n L c) (Ws : Wst 0 n (h (T + 3)) (h (T + 4)) (h (T + 5)) tm) (NA : NoA n (h (T + 3)) (h (T + 4)) (h (T + 5))) (A : Acy 0 n (h (T + 3)) (h (T + 4)) (h (T + 5)) c rk) : (∀ r, 0 ≤ r → r < n → c r = r → kA h T c n r ≠ -1 → rk (kA h T c n r) < rk r) ∧ (∀ r, 0 ≤ r → r < n → c r = r → kB h T c n r ≠ -1 → rk (kB h T c n r) < rk r) := by
  have Ld := (FB_lead F).1
  have Ar := Wst_arg Ws
  refine ⟨fun r r0 r1 cr q => ?_, fun r r0 r1 cr q => ?_⟩
  · obtain ⟨l0, l1, l2, _⟩ := Ld r r0 r1
    unfold ldC at l0 l1 l2
    rw [cr] at l0 l1 l2
    have na := NA _ l0 l1
    have h2 : 2 ≤ h (T + 3) (h (T + 9) r % 1024) ∧ h (T + 3) (h (T + 9) r % 1024) ≤ 6 := by
      rcases Int.lt_or_le (h (T + 3) (h (T + 9) r % 1024)) 2 with z | z
      · exact absurd (by unfold kA; rw [na.1 (Or.inl z)]; exact c1_out (by omega)) q
      · rcases Int.lt_or_le 6 (h (T + 3) (h (T + 9) r % 1024)) with v | v
        · exact absurd (by unfold kA; rw [na.1 (Or.inr v)]; exact c1_out (by omega)) q
        · exact ⟨z, v⟩
    have a := (Ar _ l0 l1).1 h2.1 h2.2
    have k := (A _ l0 l1 h2.2).1 h2.1
    unfold kA
    rw [c1_in a.1 a.2]
    rw [l2] at k
    exact k
  · obtain ⟨l0, l1, l2, _⟩ := Ld r r0 r1
    unfold ldC at l0 l1 l2
    rw [cr] at l0 l1 l2
    have na := NA _ l0 l1
    have h2 : h (T + 3) (h (T + 9) r % 1024) = 2 := by
      by_cases z : h (T + 3) (h (T + 9) r % 1024) = 2
      · exact z
      · exact absurd (by unfold kB; rw [na.2 z]; exact c1_out (by omega)) q
    have a := (Ar _ l0 l1).2 h2
    have k := (A _ l0 l1 (by omega)).2 h2
    unfold kB
    rw [c1_in a.1 a.2]
    rw [l2] at k
    exact k
/-- a walk that ended gives a rank -/
theorem Ord_acy {h : HP} {T R n L : Int} {tm : Int → Tm} {c : Int → Int} {P : Int → Prop} {w : Int} {od : Int → Int} (F : FB h T R n L c) (Ws : Wst 0 n (h (T + 3)) (h (T + 4)) (h (T + 5)) tm) (D : Dwn 0 n (h (T + 3)) (h (T + 4)) (h (T + 5)) c) (O : OrdOk n c (kA h T c n) (kB h T c n) 0 n P w od) : ∃ rk, Acy 0 n (h (T + 3)) (h (T + 4)) (h (T + 5)) c rk := by
  have Ld := (FB_lead F).1
  have Fr := F.2.2.2.2.1
  have Ar := Wst_arg Ws
  obtain ⟨o1, o2, o3, o4⟩ := O
  have mn : ∀ r, (∃ j, 0 ≤ j ∧ j < w ∧ od j = r) → ∃ m : Nat, cho (fun m : Nat => ((m : Int) < w ∧ od m = r) ∧ ∀ i : Nat, i < m → ¬ ((i : Int) < w ∧ od i = r)) = some m ∧ ((m : Int) < w ∧ od m = r) ∧ ∀ i : Nat, i < m → ¬ ((i : Int) < w ∧ od i = r) := by
    rintro r ⟨j, j0, j1, j2⟩
    obtain ⟨m, m1, m2⟩ := ex_min (P := fun m : Nat => (m : Int) < w ∧ od m = r) ⟨j.toNat, by omega, by rw [show ((j.toNat : Nat) : Int) = j by omega]; exact j2⟩
    exact cho_ex (P := fun m : Nat => ((m : Int) < w ∧ od m = r) ∧ ∀ i : Nat, i < m → ¬ ((i : Int) < w ∧ od i = r)) ⟨m, m1, m2⟩
  refine ⟨fun r => match cho (fun m : Nat => ((m : Int) < w ∧ od m = r) ∧ ∀ i : Nat, i < m → ¬ ((i : Int) < w ∧ od i = r)) with | some m => m | none => 0, fun x x0 x1 h6 => ?_⟩
  obtain ⟨l0, l1, l2, _⟩ := Ld x x0 x1
  have lf := Led_form Ld x0 x1 x0 x1 rfl h6
  obtain ⟨e1, e2, e3⟩ := D _ x l0 l1 x0 x1 l2 lf h6
  have cx := (Fr x x0 x1).2.1
  obtain ⟨m, em, ⟨m1, m2⟩, m3⟩ := mn (c x) (o2 x x0 x1)
  obtain ⟨p1, p2, p3, p4, p5⟩ := o1 m (by omega) m1
  have kid : ∀ z, 0 ≤ z → z < n → (∃ j', 0 ≤ j' ∧ j' < (m : Int) ∧ od j' = c z) → ∀ (f : Int → Nat), (f = fun r => match cho (fun m : Nat => ((m : Int) < w ∧ od m = r) ∧ ∀ i : Nat, i < m → ¬ ((i : Int) < w ∧ od i = r)) with | some m => m | none => 0) → f (c z) < f (c x) := by
    rintro z z0 z1 ⟨j', a, b, e⟩ f hf
    obtain ⟨k, ek, ⟨k1, k2⟩, k3⟩ := mn (c z) ⟨j', a, by omega, e⟩
    subst hf
    dsimp only
    rw [ek, em]
    rcases Nat.lt_or_ge k m with q | q
    · exact q
    · exact absurd ⟨by omega, by rw [show ((j'.toNat : Nat) : Int) = j' by omega]; exact e⟩ (k3 j'.toNat (by omega))
  dsimp only
  rw [m2] at p4 p5
  refine ⟨fun z => ?_, fun z => ?_⟩
  · have a := (Ar _ l0 l1).1 (by omega) lf
    have b := (Ar x x0 x1).1 z h6
    have ka : kA h T c n (c x) = c (h (T + 4) x) := by
      unfold kA
      have : h (T + 9) (c x) % 1024 = ldC h T c x := rfl
      rw [this, c1_in a.1 a.2]
      exact e2 (by omega)
    rw [ka] at p4
    have cb := (Fr _ b.1 b.2).2.1
    rcases p4 with p4 | p4
    · omega
    · exact kid _ b.1 b.2 p4 _ rfl
  · have a := (Ar _ l0 l1).2 (by omega)
    have b := (Ar x x0 x1).2 z
    have kb : kB h T c n (c x) = c (h (T + 5) x) := by
      unfold kB
      have : h (T + 9) (c x) % 1024 = ldC h T c x := rfl
      rw [this, c1_in a.1 a.2]
      exact e3 (by omega)
    rw [kb] at p5
    have cb := (Fr _ b.1 b.2).2.1
    rcases p5 with p5 | p5
    · omega
    · exact kid _ b.1 b.2 p5 _ rfl
/-- touched: what the words say of protected variables -/
theorem Fix_Tch {n : Int} {hd fa fb bn : Int → Int} {tm : Int → Tm} {c0 L0 c L : Int → Int} {S S' : Sx} {V : Vx} {dp : Int} (P0 : Ptn 0 n hd fa fb tm c0 S) (P : Ptn 0 n hd fa fb tm c S') (H0 : Led 0 n hd c0 L0) (H : Led 0 n hd c L) (hV : VOk 0 n hd bn tm V) (hb : ∀ x y, 0 ≤ x → x ≤ y → y < n → bn x ≤ bn y) (mono : ∀ a b, 0 ≤ a → a < n → 0 ≤ b → b < n → c0 a = c0 b → c a = c b) : FixS S S' V dp ↔ Tch n hd bn dp c0 L0 c := by
  have h8 : ∀ x, 0 ≤ x → x < n → 0 ≤ hd x ∧ hd x ≤ 8 := fun x a b => (P.1.1 x a b).1
  have node : ∀ m, Prot S V dp m → ∃ v, 0 ≤ v ∧ v < n ∧ tm v = tV m ∧ 7 ≤ hd v ∧ 7 ≤ hd (L0 v) ∧ ¬ Fre hd bn dp (L0 v) := by
    intro m p
    have k7 : 7 ≤ (V m).1 := by
      rcases p with ⟨p, _⟩ | ⟨p, _⟩ <;> omega
    obtain ⟨v, v0, v1, v2, v3⟩ := hV.2 m k7
    have q := (Led_prot P0 H0 hV v0 v1 v2 v3).mp p
    refine ⟨v, v0, v1, v3, v2, by omega, fun f => ?_⟩
    obtain ⟨l1, l2, l3, l4⟩ := H0 v v0 v1
    have lv := l4 v v0 v1 rfl
    rcases q with q | q
    · have := f.1; omega
    · rw [rnk_v (by omega), rnk_v (by omega), q.1, q.2.2] at lv
      have := hb (L0 v) v l1 (by omega) v1
      have := f.2
      omega
  constructor
  · rintro ⟨m, p, q⟩
    obtain ⟨v, v0, v1, v2, v3, v4, v5⟩ := node m p
    rcases q with q | ⟨k, pk, q1, q2⟩
    · have ch := (Led_chg P H hV v0 v1 v3 v2).mp q
      obtain ⟨l1, l2, l3, l4⟩ := H v v0 v1
      have old := Led_old H0 H mono v0 v1
      have pq := (Led_prot P0 H0 hV v0 v1 v3 v2).mp p
      have lv := l4 v v0 v1 rfl
      have b8 := h8 _ l1 l2
      have b8v := h8 v v0 v1
      have lo : hd (L v) < hd v ∧ (hd (L v) ≤ 6 ∨ hd (L v) = 7) := by
        rcases Int.lt_or_le (hd (L v)) 7 with z | z
        · omega
        · rw [rnk_v z, rnk_v v3] at lv
          omega
      refine ⟨v, L v, v0, v1, l1, l2, l3.symm, fun e => ?_, v5, ?_, Or.inl v4⟩
      · have := Led_best H0 v0 v1 l1 l2 e
        rw [old] at this
        rw [this] at pq v4
        omega
      · rw [old]
        intro f
        have := f.1
        omega
    · obtain ⟨u, u0, u1, u2, u3, u4, u5⟩ := node k pk
      rw [← v2, ← u2] at q1 q2
      exact ⟨v, u, v0, v1, u0, u1, (Ptn_eq P v0 v1 u0 u1).mpr q2, fun e => q1 ((Ptn_eq P0 v0 v1 u0 u1).mp e), v5, u5, Or.inl v4⟩
  · rintro ⟨a, b, a0, a1, b0, b1, e, ne, fa', fb', h7⟩
    have key : ∀ a b, 0 ≤ a → a < n → 0 ≤ b → b < n → c a = c b → c0 a ≠ c0 b → ¬ Fre hd bn dp (L0 a) → ¬ Fre hd bn dp (L0 b) → 7 ≤ hd (L0 a) → FixS S S' V dp := by
      intro a b a0 a1 b0 b1 e ne na nb h7
      have la := H0 a a0 a1
      have lb := H0 b b0 b1
      have lla : L0 (L0 a) = L0 a := Led_best H0 la.1 la.2.1 a0 a1 la.2.2.1
      have llb : L0 (L0 b) = L0 b := Led_best H0 lb.1 lb.2.1 b0 b1 lb.2.2.1
      have prot : ∀ z, 0 ≤ z → z < n → L0 z = z → 7 ≤ hd z → ¬ Fre hd bn dp z → ∃ m, tm z = tV m ∧ Prot S V dp m := by
        intro z z0 z1 lz z7 nf
        obtain ⟨m, m1, m2⟩ := hV.1 z z0 z1 z7
        refine ⟨m, m1, (Led_prot P0 H0 hV z0 z1 z7 m1).mpr ?_⟩
        rw [lz]
        have := h8 z z0 z1
        unfold Fre at nf
        omega
      obtain ⟨m, m1, m2⟩ := prot (L0 a) la.1 la.2.1 lla h7 na
      have ce : c (L0 a) = c (L0 b) := by rw [mono _ _ la.1 la.2.1 a0 a1 la.2.2.1, mono _ _ lb.1 lb.2.1 b0 b1 lb.2.2.1, e]
      refine ⟨m, m2, ?_⟩
      rcases Int.lt_or_le (hd (L0 b)) 7 with z | z
      · left
        refine (Led_chg P H hV la.1 la.2.1 h7 m1).mpr ?_
        have := Led_form H la.1 la.2.1 lb.1 lb.2.1 ce.symm (by omega)
        omega
      · right
        obtain ⟨k, k1, k2⟩ := prot (L0 b) lb.1 lb.2.1 llb z nb
        refine ⟨k, k2, ?_, ?_⟩
        · rw [← m1, ← k1]
          intro q
          have := (Ptn_eq P0 la.1 la.2.1 lb.1 lb.2.1).mpr q
          rw [la.2.2.1, lb.2.2.1] at this
          exact ne this
        · rw [← m1, ← k1]
          exact (Ptn_eq P la.1 la.2.1 lb.1 lb.2.1).mp ce
    rcases h7 with h7 | h7
    · exact key a b a0 a1 b0 b1 e ne fa' fb' h7
    · exact key b a b0 b1 a0 a1 e.symm (fun z => ne z.symm) fb' fa' h7
end
