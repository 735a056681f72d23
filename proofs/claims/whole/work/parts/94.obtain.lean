section
def c1 (c : Int → Int) (n x : Int) : Int := if 0 ≤ x ∧ x < n then c x else -1
theorem c1_in {c : Int → Int} {n x : Int} (h0 : 0 ≤ x) (h1 : x < n) : c1 c n x = c x := if_pos ⟨h0, h1⟩
theorem c1_out {c : Int → Int} {n x : Int} (h : x < 0 ∨ n ≤ x) : c1 c n x = -1 := if_neg (by omega)
theorem c_root1 {d : Nat} {h : HP} {T R n L x : Int} {c : Int → Int} {Q : PQ} (F : FB h T R n L c) (H : Q (c1 c n x) h) : Go d M_Types_root 0 [(17, T), (0, x), (2, 0), (2, 0)] [] h Q :=
  c_root F (fun a b => by rw [c1_in a b] at H; exact H) (fun a => by rw [c1_out a] at H; exact H)
theorem c_rankOf {d : Nat} {k : Int} {h : HP} {Q : PQ} (hk : 0 ≤ k ∧ k ≤ 8) (H : Q (rk1 k) h) : Go d M_Types_rankOf 0 [(0, k)] [] h Q :=
  V_Types_rankOf_0 ⟨fun w => ⟨by unfold r32; omega, by unfold r32; omega, by unfold rk1 at H; rw [if_neg (by omega)] at H; exact H⟩, fun w => by unfold rk1 at H; rw [if_pos w] at H; exact H⟩
theorem rk1_bd {k : Int} (hk : 0 ≤ k ∧ k ≤ 8) : 0 ≤ rk1 k ∧ rk1 k ≤ 2 := by
  unfold rk1
  split <;> omega
theorem c_obtain {d : Nat} {h : HP} {T R k x y : Int} {t : Tm} {tm : Int → Tm} {S : Sx} {c : Int → Int} {Q : PQ} (hd : 8 < d) (W : CW h T R tm S c) (hk : 0 ≤ k ∧ k ≤ 8) (hx : 2 ≤ k → k ≤ 6 → 0 ≤ x ∧ x < h T 13) (hy : k = 2 → 0 ≤ y ∧ y < h T 13) (nx : (k < 2 ∨ 6 < k) → x = -1) (ny : k ≠ 2 → y = -1) (hr : h T 13 < R)
    (ht : k ≤ 6 → t = mkT k (tm x) (tm y)) (ht7 : 7 ≤ k → ∃ n, t = tV n ∧ ∀ i, 0 ≤ i → i < h T 13 → 7 ≤ h (T + 3) i → tm i ≠ tV n)
    (H1 : k < 7 → ∀ i, 0 ≤ i → i < h T 13 → h (T + 3) i = k → h (T + 4) i = x → h (T + 5) i = y → tm i = t → Q i h)
    (H2 : (k < 7 → ∀ i, 0 ≤ i → i < h T 13 → ¬ (h (T + 3) i = k ∧ h (T + 4) i = x ∧ h (T + 5) i = y)) → ∀ h' c', CW h' T R (upT tm (h T 13) t) S c' → ExC T h h' → h' T 13 = h T 13 + 1 → h' (T + 3) (h T 13) = k → h' (T + 4) (h T 13) = x → h' (T + 5) (h T 13) = y → h' (T + 6) (h T 13) = h T 15 → (∀ a i, T + 14 ≤ a → a ≤ T + 24 → h' a i = h a i) → Q (h T 13) h') :
    Go d M_Types_obtain 0 [(17, T), (0, k), (0, x), (0, y), (2, 0), (2, 0), (2, 0), (2, 0)] [] h Q := by
  have W0 := W
  have L0 := CW_L0 W
  obtain ⟨F, P, U, NA, hb, hd0⟩ := W
  have F0 := F
  obtain ⟨hT, ⟨_, n0, nR⟩, _, eL, Fr, M1, M2, Hs, H8⟩ := F
  have tr := TR_le hT
  have Ws := P.1
  have Ar := Wst_arg Ws
  generalize hn : h T 13 = n at *
  -- the new node
  have fresh : ∀ (tw v5 v6 v7 : Int), ((tw = -1 ∧ (k < 7 → ∀ i, 0 ≤ i → i < n → ¬ Cgr n (h (T + 3)) (h (T + 4)) (h (T + 5)) c k x y i)) ∨ (0 ≤ tw ∧ tw < n ∧ k < 7 ∧ Cgr n (h (T + 3)) (h (T + 4)) (h (T + 5)) c k x y tw)) → (k < 7 → ∀ i, 0 ≤ i → i < n → ¬ (h (T + 3) i = k ∧ h (T + 4) i = x ∧ h (T + 5) i = y)) → Go d M_Types_obtain 113 [(17, T), (0, k), (0, x), (0, y), (0, tw), (0, v5), (0, v6), (0, v7)] [] h Q := by
    intro tw v5 v6 v7 htw none
    have kb := rk1_bd hk
    refine W_Types_obtain_113 hT ⟨fun _ => ?_, fun w => by omega⟩
    rw [hn]
    refine ⟨by unfold r32; omega, ?_⟩
    rintro g1 rfl
    refine ⟨⟨by omega, by omega⟩, ?_⟩
    rintro g2 rfl
    refine ⟨⟨by omega, by omega⟩, ?_⟩
    rintro g3 rfl
    refine ⟨⟨by omega, by omega⟩, ?_⟩
    rintro g4 rfl
    rw [show (up2 (up2 (up2 (up2 h T 13 (n + 1)) (T + 3) n k) (T + 4) n x) (T + 5) n y) T 15 = h T 15 by rw [up2_nc (by omega), up2_nc (by omega), up2_nc (by omega), up2_ni (by decide)]]
    refine ⟨⟨by omega, by omega⟩, ?_⟩
    rintro g5 rfl
    refine ⟨⟨by omega, by omega⟩, ?_⟩
    rintro g6 rfl
    refine ⟨⟨by omega, by omega⟩, ?_⟩
    rintro g7 rfl
    refine ⟨by omega, c_rankOf hk ⟨by unfold r32; omega, by unfold r32; omega, ⟨by omega, by omega⟩, ?_⟩⟩
    rintro g9 rfl
    refine ⟨⟨by omega, by omega⟩, ?_⟩
    intro g10 e10
    have q13 : g10 T 13 = n + 1 := by rw [e10, up2_nc (by omega), up2_nc (by omega), up2_nc (by omega), up2_nc (by omega), up2_nc (by omega), up2_nc (by omega), up2_nc (by omega), up2_nc (by omega), up2_eq]
    have qT : ∀ i, i ≠ 13 → g10 T i = h T i := fun i q => by rw [e10, up2_nc (by omega), up2_nc (by omega), up2_nc (by omega), up2_nc (by omega), up2_nc (by omega), up2_nc (by omega), up2_nc (by omega), up2_nc (by omega), up2_ni q]
    have q3 : g10 (T + 3) = upf (h (T + 3)) n k := by rw [e10, up2_rown (by omega), up2_rown (by omega), up2_rown (by omega), up2_rown (by omega), up2_rown (by omega), up2_rown (by omega), up2_rown (by omega), up2_row, up2_rown (by omega)]
    have q4 : g10 (T + 4) = upf (h (T + 4)) n x := by rw [e10, up2_rown (by omega), up2_rown (by omega), up2_rown (by omega), up2_rown (by omega), up2_rown (by omega), up2_rown (by omega), up2_row, up2_rown (by omega), up2_rown (by omega)]
    have q5 : g10 (T + 5) = upf (h (T + 5)) n y := by rw [e10, up2_rown (by omega), up2_rown (by omega), up2_rown (by omega), up2_rown (by omega), up2_rown (by omega), up2_row, up2_rown (by omega), up2_rown (by omega), up2_rown (by omega)]
    have q6 : g10 (T + 6) = upf (h (T + 6)) n (h T 15) := by rw [e10, up2_rown (by omega), up2_rown (by omega), up2_rown (by omega), up2_rown (by omega), up2_row, up2_rown (by omega), up2_rown (by omega), up2_rown (by omega), up2_rown (by omega)]
    have q7 : g10 (T + 7) = upf (h (T + 7)) n n := by rw [e10, up2_rown (by omega), up2_rown (by omega), up2_rown (by omega), up2_row, up2_rown (by omega), up2_rown (by omega), up2_rown (by omega), up2_rown (by omega), up2_rown (by omega)]
    have q8 : g10 (T + 8) = upf (h (T + 8)) n 1 := by rw [e10, up2_rown (by omega), up2_rown (by omega), up2_row, up2_rown (by omega), up2_rown (by omega), up2_rown (by omega), up2_rown (by omega), up2_rown (by omega), up2_rown (by omega)]
    have q9 : g10 (T + 9) = upf (h (T + 9)) n (rk1 k * 1024 + n) := by rw [e10, up2_rown (by omega), up2_row, up2_rown (by omega), up2_rown (by omega), up2_rown (by omega), up2_rown (by omega), up2_rown (by omega), up2_rown (by omega), up2_rown (by omega)]
    have q10 : g10 (T + 10) = upf (h (T + 10)) n n := by rw [e10, up2_row, up2_rown (by omega), up2_rown (by omega), up2_rown (by omega), up2_rown (by omega), up2_rown (by omega), up2_rown (by omega), up2_rown (by omega), up2_rown (by omega)]
    have qo : ∀ a i, (a < T + 3 ∨ T + 10 < a) → a ≠ T → g10 a i = h a i := fun a i q r => by rw [e10, up2_nc (by omega), up2_nc (by omega), up2_nc (by omega), up2_nc (by omega), up2_nc (by omega), up2_nc (by omega), up2_nc (by omega), up2_nc (by omega), up2_nc r]
    clear e10
    have FG : FB g10 T R (n + 1) (h T 14) (upf c n n) := FB_new F0 hr hk q13 (qT 14 (by decide)) q3 q7 q8 q9 q10 (funext fun i => qo _ i (by omega) (by omega)) (funext fun i => qo _ i (by omega) (by omega)) (funext fun i => qo _ i (by omega) (by omega))
    have to : ∀ i, i < n → upT tm n t i = tm i := fun i q => upT_ne (by omega)
    have WG : Wst 0 (n + 1) (g10 (T + 3)) (g10 (T + 4)) (g10 (T + 5)) (upT tm n t) := by
      rw [q3, q4, q5]
      constructor
      · intro i i0 i1
        by_cases z : i = n
        · rw [z, upf_eq, upf_eq, upf_eq, upT_eq]
          refine ⟨hk, hx, hy, fun z => ?_, fun z => ?_⟩
          · refine (ht z).trans ?_
            exact mkT_congr hk.1 (fun v => by rw [to x (by have := hx v z; omega)]) (fun v => by rw [to y (by have := hy v; omega)])
          · obtain ⟨m, q, _⟩ := ht7 z
            exact ⟨m, q⟩
        · have w := Ws.1 i i0 (by omega)
          rw [upf_ne z, upf_ne z, upf_ne z, to i (by omega)]
          refine ⟨w.1, w.2.1, w.2.2.1, fun v => ?_, w.2.2.2.2⟩
          rw [w.2.2.2.1 v]
          exact mkT_congr w.1.1 (fun u => by rw [to _ (by have := w.2.1 u v; omega)]) (fun u => by rw [to _ (by have := w.2.2.1 u; omega)])
      · intro i j i0 i1 j0 j1 hi hj e
        by_cases zi : i = n <;> by_cases zj : j = n
        · omega
        · rw [zi, upf_eq] at hi
          rw [upf_ne zj] at hj
          rw [zi, upT_eq, to j (by omega)] at e
          obtain ⟨m, q, q2⟩ := ht7 hi
          exact absurd (e.symm.trans q) (q2 j j0 (by omega) hj)
        · rw [zj, upf_eq] at hj
          rw [upf_ne zi] at hi
          rw [zj, upT_eq, to i (by omega)] at e
          obtain ⟨m, q, q2⟩ := ht7 hj
          exact absurd (e.trans q) (q2 i i0 (by omega) hi)
        · rw [upf_ne zi] at hi
          rw [upf_ne zj] at hj
          rw [to i (by omega), to j (by omega)] at e
          exact Ws.2 i j i0 (by omega) j0 (by omega) hi hj e
    have UG : Unq 0 (n + 1) (g10 (T + 3)) (g10 (T + 4)) (g10 (T + 5)) := by
      rw [q3, q4, q5]
      have nf : ∀ j, 0 ≤ j → j < n → k = h (T + 3) j → k < 7 → (2 ≤ k → x = h (T + 4) j) → (k = 2 → y = h (T + 5) j) → False := by
        intro j j0 j1 e1 e2 e3 e4
        have na := NA j j0 j1
        refine none e2 j j0 j1 ⟨e1.symm, ?_, ?_⟩
        · rcases Int.lt_or_le k 2 with z | z
          · rw [nx (Or.inl z)]; exact na.1 (by omega)
          · exact (e3 z).symm
        · by_cases z : k = 2
          · exact (e4 z).symm
          · rw [ny z]; exact na.2 (by omega)
      intro i j i0 i1 j0 j1 e1 e2 e3 e4
      by_cases zi : i = n <;> by_cases zj : j = n
      · omega
      · rw [zi, upf_eq, upf_ne zj] at e1
        rw [zi, upf_eq] at e2
        rw [zi, upf_eq, upf_eq, upf_ne zj] at e3
        rw [zi, upf_eq, upf_eq, upf_ne zj] at e4
        exact (nf j j0 (by omega) e1 e2 e3 e4).elim
      · rw [zj, upf_eq, upf_ne zi] at e1
        rw [upf_ne zi] at e2
        rw [zj, upf_eq, upf_ne zi, upf_ne zi] at e3
        rw [zj, upf_eq, upf_ne zi, upf_ne zi] at e4
        rw [e1] at e2 e3 e4
        exact (nf i i0 (by omega) e1.symm e2 (fun z => (e3 z).symm) (fun z => (e4 z).symm)).elim
      · rw [upf_ne zi, upf_ne zj] at e1
        rw [upf_ne zi] at e2
        rw [upf_ne zi, upf_ne zi, upf_ne zj] at e3
        rw [upf_ne zi, upf_ne zi, upf_ne zj] at e4
        exact U i j i0 (by omega) j0 (by omega) e1 e2 e3 e4
    have NG : NoA (n + 1) (g10 (T + 3)) (g10 (T + 4)) (g10 (T + 5)) := by
      rw [q3, q4, q5]
      intro i i0 i1
      by_cases z : i = n
      · rw [z, upf_eq, upf_eq, upf_eq]; exact ⟨nx, ny⟩
      · rw [upf_ne z, upf_ne z, upf_ne z]; exact NA i i0 (by omega)
    have BG : ∀ i j, 0 ≤ i → i ≤ j → j < n + 1 → 0 ≤ g10 (T + 6) i ∧ g10 (T + 6) i ≤ g10 (T + 6) j ∧ g10 (T + 6) j ≤ h T 15 := by
      rw [q6]
      intro i j i0 ij j1
      by_cases zi : i = n <;> by_cases zj : j = n
      · rw [zi, zj, upf_eq]; omega
      · omega
      · rw [zj, upf_eq, upf_ne zi]
        have := hb i i i0 (by omega) (by omega)
        omega
      · rw [upf_ne zi, upf_ne zj]
        exact hb i j i0 ij (by omega)
    have XG : ExC T h g10 := by
      refine ⟨⟨by omega, by rw [qT 14 (by decide)]; omega, qT 15 (by decide)⟩, fun i i0 i1 => ?_, fun i _ _ => ⟨qo _ _ (by omega) (by omega), qo _ _ (by omega) (by omega), qo _ _ (by omega) (by omega)⟩, fun i _ _ => ⟨qo _ _ (by omega) (by omega), qo _ _ (by omega) (by omega)⟩, ?_, fun a i q => qo a i (by omega) (by omega)⟩
      · rw [q3, q4, q5, q6, upf_ne (by omega), upf_ne (by omega), upf_ne (by omega), upf_ne (by omega)]
        exact ⟨rfl, rfl, rfl, rfl⟩
      · rw [qT 14 (by decide), show (h T 14 - h T 14).toNat = 0 by omega]
        intro i i0 i1
        show g10 (T + 7) i = h (T + 7) i ∧ g10 (T + 8) i = h (T + 8) i ∧ g10 (T + 9) i = h (T + 9) i ∧ g10 (T + 10) i = h (T + 10) i
        rw [q7, q8, q9, q10, upf_ne (by omega), upf_ne (by omega), upf_ne (by omega), upf_ne (by omega)]
        exact ⟨rfl, rfl, rfl, rfl⟩
    have ho : ∀ i, 0 ≤ i → i < n → g10 (T + 3) i = h (T + 3) i := fun i _ q => by rw [q3, upf_ne (by omega)]
    have cr : ∀ i, 0 ≤ i → i < n → 0 ≤ c i ∧ c i < n := fun i a b => (Fr i a b).2.1
    have nn3 : g10 (T + 3) n = k := by rw [q3, upf_eq]
    have nn4 : g10 (T + 4) n = x := by rw [q4, upf_eq]
    have nn5 : g10 (T + 5) n = y := by rw [q5, upf_eq]
    have nn6 : g10 (T + 6) n = h T 15 := by rw [q6, upf_eq]
    refine ⟨fun z => ?_, fun z => ⟨by omega, ?_⟩⟩
    · have nc : k < 7 → ∀ i, 0 ≤ i → i < n → ¬ Cgr n (h (T + 3)) (h (T + 4)) (h (T + 5)) c k x y i := by
        rcases htw with ⟨_, q⟩ | ⟨q, _⟩
        · exact q
        · omega
      have PG : Ptn 0 (n + 1) (g10 (T + 3)) (g10 (T + 4)) (g10 (T + 5)) (upT tm n t) (upf c n n) S := by
        refine Ptn_new n0 P WG ho hk hx hy ht ht7 (fun i i0 i1 => ?_) (fun i j i0 i1 j0 j1 => ?_) (Or.inr ⟨nc, fun i i0 i1 => ?_⟩)
        · by_cases w : i = n
          · rw [w, upf_eq]; exact n0
          · rw [upf_ne w]; exact (cr i i0 (by omega)).1
        · rw [upf_ne (by omega), upf_ne (by omega)]
        · rw [upf_eq, upf_ne (by omega)]
          have := cr i i0 i1
          omega
      refine H2 none g10 (upf c n n) ⟨by rw [q13, qT 14 (by decide)]; exact FG, ?_⟩ XG q13 nn3 nn4 nn5 nn6 (fun a i q1 q2 => qo a i (by omega) (by omega))
      rw [q13, qT 15 (by decide)]
      exact ⟨PG, UG, NG, BG, hd0⟩
    · have tw0 : 0 ≤ tw ∧ tw < n ∧ k < 7 ∧ Cgr n (h (T + 3)) (h (T + 4)) (h (T + 5)) c k x y tw := by
        rcases htw with ⟨q, _⟩ | q
        · exact absurd q z
        · exact q
      obtain ⟨t0, t1, t2, t3⟩ := tw0
      have ct := cr tw t0 t1
      have ctt : c (c tw) = c tw := Frs_cc Fr t0 t1
      refine c_root FG (fun _ _ => ⟨by omega, ?_⟩) (fun w => by omega)
      rw [upf_ne (show tw ≠ n by omega)]
      refine c_link (by omega) FG ct.1 (by omega) n0 (by omega) (by rw [upf_ne (by omega)]; exact ctt) upf_eq (by omega) (fun h' s g hsg K F' => ?_)
      have hs : 0 ≤ s ∧ s < n + 1 ∧ upf c n n s = s ∧ s ≠ g := by
        rcases hsg with ⟨q1, q2⟩ | ⟨q1, q2⟩
        · subst q1 q2
          exact ⟨ct.1, by omega, by rw [upf_ne (by omega)]; exact ctt, by omega⟩
        · subst q1 q2
          exact ⟨n0, by omega, upf_eq, by omega⟩
      have X' := ExC_link FG hs.1 hs.2.1 hs.2.2.1 hs.2.2.2 K
      obtain ⟨k1, k2, k3, k4, k5, k6⟩ := K
      have jj : ∀ i j, 0 ≤ i → i < n → 0 ≤ j → j < n → (jnC (upf c n n) s g i = jnC (upf c n n) s g j ↔ c i = c j) := by
        intro i j i0 i1 j0 j1
        have a1 := cr i i0 i1
        have a2 := cr j j0 j1
        unfold jnC
        rw [upf_ne (show i ≠ n by omega), upf_ne (show j ≠ n by omega)]
        rcases hsg with ⟨q1, q2⟩ | ⟨q1, q2⟩
        · subst q1 q2
          split <;> split <;> omega
        · subst q1 q2
          rw [if_neg (by omega), if_neg (by omega)]
      have jn : jnC (upf c n n) s g n = jnC (upf c n n) s g tw := by
        unfold jnC
        rw [upf_eq, upf_ne (show tw ≠ n by omega)]
        rcases hsg with ⟨q1, q2⟩ | ⟨q1, q2⟩
        · subst q1 q2
          split <;> split <;> omega
        · subst q1 q2
          rw [if_pos rfl, if_neg (by omega)]
      have PG : Ptn 0 (n + 1) (g10 (T + 3)) (g10 (T + 4)) (g10 (T + 5)) (upT tm n t) (jnC (upf c n n) s g) S := by
        refine Ptn_new n0 P WG ho hk hx hy ht ht7 (fun i i0 i1 => ?_) jj (Or.inl ⟨tw, t0, t1, t2, t3, jn⟩)
        exact (F'.2.2.2.2.1 i i0 i1).2.1.1
      have row : ∀ j, j ≤ 6 → h' (T + j) = g10 (T + j) ∨ j = 0 := by
        intro j hj
        by_cases w : j = 0
        · exact Or.inr w
        · exact Or.inl (funext fun i => k6 _ i (by omega) (by omega))
      have r3 : h' (T + 3) = g10 (T + 3) := (row 3 (by omega)).resolve_right (by decide)
      have r4 : h' (T + 4) = g10 (T + 4) := (row 4 (by omega)).resolve_right (by decide)
      have r5 : h' (T + 5) = g10 (T + 5) := (row 5 (by omega)).resolve_right (by decide)
      have r6 : h' (T + 6) = g10 (T + 6) := (row 6 (by omega)).resolve_right (by decide)
      have f13 : h' T 13 = n + 1 := by rw [k6 T 13 (by omega) (by omega), q13]
      have f15 : h' T 15 = h T 15 := by rw [k6 T 15 (by omega) (by omega), qT 15 (by decide)]
      have f14 : h' T 14 = h T 14 + 1 := by rw [k5, qT 14 (by decide)]
      refine H2 none h' (jnC (upf c n n) s g) ⟨by rw [f13, f14]; exact F', ?_⟩ (ExC_trans FG L0.1 XG X') f13 (by rw [r3, nn3]) (by rw [r4, nn4]) (by rw [r5, nn5]) (by rw [r6, nn6]) (fun a i p1 p2 => by rw [k6 a i (by omega) (by omega), qo a i (by omega) (by omega)])
      rw [f13, f15, r3, r4, r5, r6]
      exact ⟨PG, UG, NG, BG, hd0⟩
  -- the search
  have cg_iff : ∀ i, 0 ≤ i → i < n → (Cgr n (h (T + 3)) (h (T + 4)) (h (T + 5)) c k x y i ↔ (h (T + 3) i = k ∧ (k < 7 → c1 c n (h (T + 4) i) = c1 c n x ∧ c1 c n (h (T + 5) i) = c1 c n y) ∨ (h (T + 3) i = k ∧ 7 ≤ k))) := by
    intro i i0 i1
    have na := NA i i0 i1
    unfold Cgr
    constructor
    · rintro ⟨e1, e2, e3⟩
      rcases Int.lt_or_le k 7 with w | w
      · refine Or.inl ⟨e1, fun _ => ⟨?_, ?_⟩⟩
        · rcases Int.lt_or_le k 2 with z | z
          · rw [na.1 (by omega), nx (Or.inl z)]
          · have a := (Ar i i0 i1).1 (by omega) (by omega)
            have b := hx z (by omega)
            rw [c1_in a.1 a.2, c1_in b.1 b.2]; exact e2 z
        · by_cases z : k = 2
          · have a := (Ar i i0 i1).2 (by omega)
            have b := hy z
            rw [c1_in a.1 a.2, c1_in b.1 b.2]; exact e3 z
          · rw [na.2 (by omega), ny z]
      · exact Or.inr ⟨e1, w⟩
    · rintro (⟨e1, e2⟩ | ⟨e1, e2⟩)
      · refine ⟨e1, fun z => ?_, fun z => ?_⟩
        · rcases Int.lt_or_le k 7 with w | w
          · have a := (Ar i i0 i1).1 (by omega) (by omega)
            have b := hx z (by omega)
            have := (e2 w).1
            rw [c1_in a.1 a.2, c1_in b.1 b.2] at this; exact this
          · rw [na.1 (by omega), nx (by omega)]
        · have a := (Ar i i0 i1).2 (by omega)
          have b := hy z
          have := (e2 (by omega)).2
          rw [c1_in a.1 a.2, c1_in b.1 b.2] at this; exact this
      · refine ⟨e1, fun z => ?_, fun z => by omega⟩
        rw [na.1 (by omega), nx (by omega)]
  have loop : ∀ (tw : Int), ((tw = -1 ∧ (k < 7 → ∀ i, 0 ≤ i → i < 0 → ¬ Cgr n (h (T + 3)) (h (T + 4)) (h (T + 5)) c k x y i)) ∨ (0 ≤ tw ∧ tw < n ∧ k < 7 ∧ Cgr n (h (T + 3)) (h (T + 4)) (h (T + 5)) c k x y tw)) → (k < 7 → ∀ i, 0 ≤ i → i < 0 → ¬ (h (T + 3) i = k ∧ h (T + 4) i = x ∧ h (T + 5) i = y)) → Go d M_Types_obtain 20 [(17, T), (0, k), (0, x), (0, y), (0, tw), (0, c1 c n x), (0, c1 c n y), (0, 0)] [] h Q := by
    refine up_loop (i := 0) (hi := n) n0 (P := fun j => ∀ (tw : Int), ((tw = -1 ∧ (k < 7 → ∀ i, 0 ≤ i → i < j → ¬ Cgr n (h (T + 3)) (h (T + 4)) (h (T + 5)) c k x y i)) ∨ (0 ≤ tw ∧ tw < n ∧ k < 7 ∧ Cgr n (h (T + 3)) (h (T + 4)) (h (T + 5)) c k x y tw)) → (k < 7 → ∀ i, 0 ≤ i → i < j → ¬ (h (T + 3) i = k ∧ h (T + 4) i = x ∧ h (T + 5) i = y)) → Go d M_Types_obtain 20 [(17, T), (0, k), (0, x), (0, y), (0, tw), (0, c1 c n x), (0, c1 c n y), (0, j)] [] h Q) ?_ ?_
    · intro tw q1 q2
      exact W_Types_obtain_20 hT ⟨fun _ => fresh tw _ _ _ q1 q2, fun w => by omega⟩
    · intro j j0 j1 ih tw q1 q2
      have ci := cg_iff j j0 j1
      have skip : ¬ Cgr n (h (T + 3)) (h (T + 4)) (h (T + 5)) c k x y j → Go d M_Types_obtain 20 [(17, T), (0, k), (0, x), (0, y), (0, tw), (0, c1 c n x), (0, c1 c n y), (0, j + 1)] [] h Q := by
        intro nc
        refine ih tw ?_ (fun k7 i i0 i1 => ?_)
        · rcases q1 with ⟨q, q'⟩ | q
          · refine Or.inl ⟨q, fun k7 i i0 i1 => ?_⟩
            by_cases z : i = j
            · rw [z]; exact nc
            · exact q' k7 i i0 (by omega)
          · exact Or.inr q
        · by_cases z : i = j
          · rw [z]
            rintro ⟨e1, e2, e3⟩
            exact nc ⟨e1, fun _ => by rw [e2], fun _ => by rw [e3]⟩
          · exact q2 k7 i i0 (by omega)
      have take : k < 7 → Cgr n (h (T + 3)) (h (T + 4)) (h (T + 5)) c k x y j → ¬ (h (T + 3) j = k ∧ h (T + 4) j = x ∧ h (T + 5) j = y) → Go d M_Types_obtain 20 [(17, T), (0, k), (0, x), (0, y), (0, j), (0, c1 c n x), (0, c1 c n y), (0, j + 1)] [] h Q := by
        intro k7 cg ne
        refine ih j (Or.inr ⟨j0, j1, k7, cg⟩) (fun k7 i i0 i1 => ?_)
        by_cases z : i = j
        · rw [z]; exact ne
        · exact q2 k7 i i0 (by omega)
      refine W_Types_obtain_20 hT ?_
      rw [hn]
      refine ⟨fun w => by omega, fun _ => ⟨fun w => fresh tw _ _ _ ?_ (fun z => by omega), fun w => ⟨⟨by omega, by omega⟩, fun z => ⟨by unfold r32; omega, skip (fun q => z q.1)⟩, fun z => ⟨⟨by omega, by omega⟩, by omega, c_root1 F0 ⟨fun u => ⟨by unfold r32; omega, skip (fun q => ?_)⟩, fun u => ⟨⟨by omega, by omega⟩, by omega, c_root1 F0 ⟨fun v => ⟨by unfold r32; omega, skip (fun q => ?_)⟩, fun v => ?_⟩⟩⟩⟩⟩⟩⟩
      · rcases q1 with ⟨q, _⟩ | q
        · exact Or.inl ⟨q, fun z => by omega⟩
        · exact Or.inr q
      · rcases ci.mp q with ⟨_, q⟩ | ⟨_, q⟩
        · exact u (q w).1
        · omega
      · rcases ci.mp q with ⟨_, q⟩ | ⟨_, q⟩
        · exact v (q w).2
        · omega
      · have cg := ci.mpr (Or.inl ⟨z, fun _ => ⟨u, v⟩⟩)
        refine ⟨⟨by omega, by omega⟩, fun s => ⟨by unfold r32; omega, take w cg (fun q => s q.2.1)⟩, fun s => ⟨⟨by omega, by omega⟩, fun r => ⟨by unfold r32; omega, take w cg (fun q => r q.2.2)⟩, fun r => H1 w j j0 j1 z s r ?_⟩⟩
        rw [(Ws.1 j j0 j1).2.2.2.1 (by omega), ht (by omega), z, s, r]
  exact W_Types_obtain_0 hT ⟨by omega, c_root1 F0 ⟨by omega, c_root1 F0 (loop (-1) (Or.inl ⟨rfl, fun _ i a b => by omega⟩) (fun _ i a b => by omega))⟩⟩
end
