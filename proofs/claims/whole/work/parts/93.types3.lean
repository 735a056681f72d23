section
/-- values at the variables of the nodes decide the nodes' values -/
theorem Wst_dep {lo hi : Int} {hd fa fb : Int → Int} {tm : Int → Tm} (H : Wst lo hi hd fa fb tm) {θ θ' : As} (he : ∀ x n, lo ≤ x → x < hi → 7 ≤ hd x → tm x = tV n → θ n = θ' n) : ∀ x, lo ≤ x → x < hi → sb θ (tm x) = sb θ' (tm x) := by
  have main : ∀ (k : Nat) (x : Int), lo ≤ x → x < hi → (x - lo).toNat < k → sb θ (tm x) = sb θ' (tm x) := by
    intro k
    induction k with
    | zero => intro x _ _ h; omega
    | succ k ih =>
      intro x h1 h2 h3
      obtain ⟨⟨a0, a8⟩, aA, aB, aT, aV⟩ := H.1 x h1 h2
      rcases Int.lt_or_le (hd x) 7 with q | q
      · rw [aT (by omega), sb_mk, sb_mk]
        refine mkT_congr a0 (fun w => ?_) (fun w => ?_)
        · have := aA w (by omega)
          exact ih _ (by omega) (by omega) (by omega)
        · have := aB w
          exact ih _ (by omega) (by omega) (by omega)
      · obtain ⟨n, hn⟩ := aV q
        rw [hn, sb_V, sb_V]
        exact he x n h1 h2 q hn
  exact fun x h1 h2 => main _ x h1 h2 (Nat.lt_succ_self _)
/-- a partition that tells just what S tells -/
theorem Ptn_of_E {lo hi : Int} {hd fa fb : Int → Int} {tm : Int → Tm} {c : Int → Int} {S : Sx} (W : Wst lo hi hd fa fb tm) (E : ∀ x y, lo ≤ x → x < hi → lo ≤ y → y < hi → (c x = c y ↔ EqS S (tm x) (tm y))) (hs : Sat S) (hr : ∀ θ, Rsp lo hi tm c θ → S θ) (h0 : ∀ x, lo ≤ x → x < hi → 0 ≤ c x) : Ptn lo hi hd fa fb tm c S := by
  have rs : ∀ θ, S θ → Rsp lo hi tm c θ := fun θ q x y a b a' b' e => (E x y a b a' b').mp e θ q
  obtain ⟨θ, hθ⟩ := hs
  have Ar := Wst_arg W
  refine ⟨W, ?_, ?_, Rsp_acy W (rs θ hθ), fun θ => ⟨rs θ, hr θ⟩, h0⟩
  · intro x y x1 x2 y1 y2 e h6 p q
    refine (E x y x1 x2 y1 y2).mpr (fun θ hθ => ?_)
    rw [(W.1 x x1 x2).2.2.2.1 h6, (W.1 y y1 y2).2.2.2.1 (by omega), sb_mk, sb_mk, ← e]
    refine mkT_congr (W.1 x x1 x2).1.1 (fun w => ?_) (fun w => ?_)
    · have u := (Ar x x1 x2).1 w h6
      have v := (Ar y y1 y2).1 (by omega) (by omega)
      exact (E _ _ u.1 u.2 v.1 v.2).mp (p w) θ hθ
    · have u := (Ar x x1 x2).2 w
      have v := (Ar y y1 y2).2 (by omega)
      exact (E _ _ u.1 u.2 v.1 v.2).mp (q w) θ hθ
  · intro x y x1 x2 y1 y2 e hx hy
    have k := fun θ hθ => Rsp_hd W (rs θ hθ) x1 x2 y1 y2 e hx hy
    have h1 := (k θ hθ).1
    refine ⟨h1, fun w => ?_, fun w => ?_⟩
    · have u := (Ar x x1 x2).1 w hx
      have v := (Ar y y1 y2).1 (by omega) hy
      exact (E _ _ u.1 u.2 v.1 v.2).mpr (fun θ hθ => (k θ hθ).2.1 w)
    · have u := (Ar x x1 x2).2 w
      have v := (Ar y y1 y2).2 (by omega)
      exact (E _ _ u.1 u.2 v.1 v.2).mpr (fun θ hθ => (k θ hθ).2.2 w)
/-- nodes of the same head with arguments of the same groups -/
def Cgr (n : Int) (hd fa fb c : Int → Int) (k x y i : Int) : Prop := hd i = k ∧ (2 ≤ k → c (fa i) = c x) ∧ (k = 2 → c (fb i) = c y)
/-- one node more -/
theorem Ptn_new {n k x y : Int} {hd fa fb hd' fa' fb' : Int → Int} {tm : Int → Tm} {t : Tm} {c c' : Int → Int} {S : Sx} (n0 : 0 ≤ n) (P : Ptn 0 n hd fa fb tm c S) (W' : Wst 0 (n + 1) hd' fa' fb' (upT tm n t))
    (ho : ∀ i, 0 ≤ i → i < n → hd' i = hd i) (hk : 0 ≤ k ∧ k ≤ 8) (hx : 2 ≤ k → k ≤ 6 → 0 ≤ x ∧ x < n) (hy : k = 2 → 0 ≤ y ∧ y < n)
    (ht : k ≤ 6 → t = mkT k (tm x) (tm y)) (ht7 : 7 ≤ k → ∃ m, t = tV m ∧ ∀ i, 0 ≤ i → i < n → 7 ≤ hd i → tm i ≠ tV m)
    (hc0 : ∀ i, 0 ≤ i → i < n + 1 → 0 ≤ c' i) (hcc : ∀ i j, 0 ≤ i → i < n → 0 ≤ j → j < n → (c' i = c' j ↔ c i = c j))
    (hn : (∃ tw, 0 ≤ tw ∧ tw < n ∧ k < 7 ∧ Cgr n hd fa fb c k x y tw ∧ c' n = c' tw) ∨ ((k < 7 → ∀ i, 0 ≤ i → i < n → ¬ Cgr n hd fa fb c k x y i) ∧ ∀ i, 0 ≤ i → i < n → c' n ≠ c' i)) :
    Ptn 0 (n + 1) hd' fa' fb' (upT tm n t) c' S := by
  have P0 := P
  obtain ⟨W, U, D, ⟨rk, A⟩, R, N⟩ := P
  have to : ∀ i, i < n → upT tm n t i = tm i := fun i q => upT_ne (by omega)
  have Ar := Wst_arg W
  have eqn : ∀ i, 0 ≤ i → i < n → (c' n = c' i ↔ EqS S t (tm i)) := by
    intro i i0 i1
    rcases hn with ⟨tw, t0, t1, k7, cg, e⟩ | ⟨nc, ne⟩
    · have et : EqS S t (tm tw) := by
        intro θ hθ
        rw [ht (by omega), (W.1 tw t0 t1).2.2.2.1 (by rw [cg.1]; omega), sb_mk, sb_mk, cg.1]
        refine mkT_congr hk.1 (fun w => ?_) (fun w => ?_)
        · have u := (Ar tw t0 t1).1 (by rw [cg.1]; exact w) (by rw [cg.1]; omega)
          have v := hx w (by omega)
          exact ((R θ).mp hθ _ _ u.1 u.2 v.1 v.2 (cg.2.1 w)).symm
        · have u := (Ar tw t0 t1).2 (by rw [cg.1]; exact w)
          have v := hy w
          exact ((R θ).mp hθ _ _ u.1 u.2 v.1 v.2 (cg.2.2 w)).symm
      rw [e, hcc tw i t0 t1 i0 i1, Ptn_eq P0 t0 t1 i0 i1]
      exact ⟨fun q => EqS_trans et q, fun q => EqS_trans (EqS_symm et) q⟩
    · refine ⟨fun q => absurd q (ne i i0 i1), fun q => ?_⟩
      exfalso
      rcases Int.lt_or_le k 7 with k7 | k7
      · rw [ht (by omega)] at q
        have fm : ∃ f, 0 ≤ f ∧ f < n ∧ c i = c f ∧ hd f ≤ 6 := by
          rcases Classical.em (∃ f, 0 ≤ f ∧ f < n ∧ c i = c f ∧ hd f ≤ 6) with z | z
          · exact z
          · refine absurd (EqS_symm q) (Ptn_unf P0 i0 i1 (fun y y0 y1 y2 => ?_) hk.1)
            rcases Int.lt_or_le 6 (hd y) with v | v
            · exact v
            · exact absurd ⟨y, y0, y1, y2, v⟩ z
        obtain ⟨f, f0, f1, f2, f3⟩ := fm
        have q2 : EqS S (mkT k (tm x) (tm y)) (tm f) := EqS_trans q ((Ptn_eq P0 i0 i1 f0 f1).mp f2)
        have q3 : ∀ θ, S θ → k = hd f ∧ (2 ≤ k → sb θ (tm x) = sb θ (tm (fa f))) ∧ (k = 2 → sb θ (tm y) = sb θ (tm (fb f))) := by
          intro θ hθ
          have := q2 θ hθ
          rw [(W.1 f f0 f1).2.2.2.1 f3, sb_mk, sb_mk] at this
          exact mkT_inj hk.1 (W.1 f f0 f1).1.1 this
        obtain ⟨θ, hθ⟩ := Ptn_sat P0
        have q4 := (q3 θ hθ).1
        refine nc k7 f f0 f1 ⟨q4.symm, fun w => ?_, fun w => ?_⟩
        · have u := (Ar f f0 f1).1 (by omega) f3
          have v := hx w (by omega)
          exact (Ptn_eq P0 u.1 u.2 v.1 v.2).mpr (fun θ hθ => ((q3 θ hθ).2.1 w).symm)
        · have u := (Ar f f0 f1).2 (by omega)
          have v := hy w
          exact (Ptn_eq P0 u.1 u.2 v.1 v.2).mpr (fun θ hθ => ((q3 θ hθ).2.2 w).symm)
      · obtain ⟨m, e, fr⟩ := ht7 k7
        obtain ⟨θ, hθ⟩ := Ptn_sat P0
        rw [e] at q
        have key : ∀ v : Tm, S (fun j => if j = m then v else θ j) ∧ sb (fun j => if j = m then v else θ j) (tm i) = sb θ (tm i) := by
          intro v
          have dep := Wst_dep W (θ := fun j => if j = m then v else θ j) (θ' := θ) (fun x j x0 x1 x7 ex => if_neg (fun z => fr x x0 x1 x7 (by rw [ex, z])))
          refine ⟨(R _).mpr (fun a b a0 a1 b0 b1 eab => ?_), dep i i0 i1⟩
          rw [dep a a0 a1, dep b b0 b1]
          exact (R θ).mp hθ a b a0 a1 b0 b1 eab
        have k1 := q _ (key (tP (sb θ (tm i)) tI)).1
        rw [(key _).2, sb_V] at k1
        have k2 : tP (sb θ (tm i)) tI = sb θ (tm i) := by
          have : (if m = m then tP (sb θ (tm i)) tI else θ m) = sb θ (tm i) := k1
          rw [if_pos rfl] at this
          exact this
        have k3 := congrArg tsz k2
        have k4 : tsz (tP (sb θ (tm i)) tI) = tsz (sb θ (tm i)) + tsz tI + 1 := rfl
        omega
  refine Ptn_of_E W' ?_ (Ptn_sat P0) ?_ hc0
  · intro i j i0 i1 j0 j1
    by_cases zi : i = n <;> by_cases zj : j = n
    · subst zi zj
      exact ⟨fun _ => EqS_rfl, fun _ => rfl⟩
    · subst zi
      rw [upT_eq, to j (by omega)]
      exact eqn j j0 (by omega)
    · subst zj
      rw [upT_eq, to i (by omega)]
      have := eqn i i0 (by omega)
      exact ⟨fun e => EqS_symm (this.mp e.symm), fun e => (this.mpr (EqS_symm e)).symm⟩
    · rw [to i (by omega), to j (by omega), hcc i j i0 (by omega) j0 (by omega)]
      exact Ptn_eq P0 i0 (by omega) j0 (by omega)
  · intro θ r
    refine (R θ).mpr (fun i j i0 i1 j0 j1 e => ?_)
    have := r i j i0 (by omega) j0 (by omega) ((hcc i j i0 i1 j0 j1).mpr e)
    rw [to i i1, to j j1] at this
    exact this
/-- the class's types, closed and without a clash -/
def NoA (n : Int) (hd fa fb : Int → Int) : Prop := ∀ x, 0 ≤ x → x < n → ((hd x < 2 ∨ 6 < hd x) → fa x = -1) ∧ (hd x ≠ 2 → fb x = -1)
def CW (h : HP) (T R : Int) (tm : Int → Tm) (S : Sx) (c : Int → Int) : Prop := FB h T R (h T 13) (h T 14) c ∧ Ptn 0 (h T 13) (h (T + 3)) (h (T + 4)) (h (T + 5)) tm c S ∧ Unq 0 (h T 13) (h (T + 3)) (h (T + 4)) (h (T + 5)) ∧ NoA (h T 13) (h (T + 3)) (h (T + 4)) (h (T + 5)) ∧ (∀ x y, 0 ≤ x → x ≤ y → y < h T 13 → 0 ≤ h (T + 6) x ∧ h (T + 6) x ≤ h (T + 6) y ∧ h (T + 6) y ≤ h T 15) ∧ 0 ≤ h T 15
theorem CW_scr {T R : Int} {h h' : HP} {tm : Int → Tm} {S : Sx} {c : Int → Int} (s : ScC T h h') (W : CW h T R tm S c) : CW h' T R tm S c := by
  have f : ∀ i, h' T i = h T i := fun i => s T i (by omega)
  obtain ⟨a, b⟩ := W
  refine ⟨by rw [f, f]; exact FB_scr s a, ?_⟩
  rw [f 13, f 15, ScC_row s 3 (by omega), ScC_row s 4 (by omega), ScC_row s 5 (by omega), ScC_row s 6 (by omega)]
  exact b
theorem CW_iff {T R : Int} {h : HP} {tm : Int → Tm} {S S' : Sx} {c : Int → Int} (W : CW h T R tm S c) (e : ∀ θ, S' θ ↔ S θ) : CW h T R tm S' c := by
  obtain ⟨a, ⟨p1, p2, p3, p4, p5, p6⟩, b⟩ := W
  exact ⟨a, ⟨p1, p2, p3, p4, fun θ => (e θ).trans (p5 θ), p6⟩, b⟩
theorem CW_L0 {T R : Int} {h : HP} {tm : Int → Tm} {S : Sx} {c : Int → Int} (W : CW h T R tm S c) : 0 ≤ h T 14 ∧ h T 14 ≤ h T 13 := by
  obtain ⟨⟨_, ⟨_, n0, _⟩, _, e, _⟩, _⟩ := W
  have := cnt_bd (p := fun x => c x = x) n0
  omega
/-- one node more in the forest, alone -/
theorem FB_new {h h' : HP} {T R n L k : Int} {c : Int → Int} (F : FB h T R n L c) (hn1 : n < R) (hk : 0 ≤ k ∧ k ≤ 8) (e13 : h' T 13 = n + 1) (e14 : h' T 14 = L) (r3 : h' (T + 3) = upf (h (T + 3)) n k) (r7 : h' (T + 7) = upf (h (T + 7)) n n) (r8 : h' (T + 8) = upf (h (T + 8)) n 1) (r9 : h' (T + 9) = upf (h (T + 9)) n (rk1 k * 1024 + n)) (r10 : h' (T + 10) = upf (h (T + 10)) n n) (r11 : h' (T + 11) = h (T + 11)) (r12 : h' (T + 12) = h (T + 12)) (r13 : h' (T + 13) = h (T + 13)) : FB h' T R (n + 1) L (upf c n n) := by
  obtain ⟨hT, ⟨hn, n0, nR⟩, hL, eL, Fr, M1, M2, Hs, H8⟩ := F
  have cc : ∀ x, 0 ≤ x → x < n → 0 ≤ c x ∧ c x < n := fun x a b => (Fr x a b).2.1
  have co : ∀ x, x < n → upf c n n x = c x := fun x q => upf_ne (by omega)
  have cnt1 : ∀ r, 0 ≤ r → r < n → cnt (fun y => upf c n n y = r) 0 (n + 1) = cnt (fun y => c y = r) 0 n := by
    intro r r0 r1
    rw [cnt_sf (p := fun y => upf c n n y = r) n0 (by show ¬ upf c n n n = r; rw [upf_eq]; omega)]
    exact cnt_congr (fun i i0 i1 => by rw [co i i1])
  refine ⟨hT, ⟨e13, by omega, by omega⟩, e14, ?_, ?_, ?_, ?_, ?_, ?_⟩
  · rw [cnt_st (p := fun x => upf c n n x = x) n0 upf_eq, cnt_congr (q := fun x => c x = x) (fun i i0 i1 => by rw [co i i1])]
    omega
  · rw [r7, r8]
    intro x x0 x1
    by_cases z : x = n
    · subst z
      have p7 : upf (h (T + 7)) x x x = x := upf_eq
      have p8 : upf (h (T + 8)) x 1 x = 1 := upf_eq
      have pc : upf c x x x = x := upf_eq
      rw [pc, p7, p8, pc]
      refine ⟨⟨by omega, by omega⟩, ⟨by omega, by omega⟩, rfl, rfl, fun _ => rfl, fun w => absurd rfl w, by omega, by omega, fun _ => ?_⟩
      rw [cnt_st (p := fun y => upf c x x y = x) n0 upf_eq, cnt_congr (q := fun _ => False) (fun i i0 i1 => by
        rw [co i i1]
        have := cc i i0 i1
        exact ⟨fun w => by omega, fun w => w.elim⟩)]
      have : cnt (fun _ => False) 0 x = 0 := by
        refine up_ind (lo := 0) (P := fun i => cnt (fun _ => False) 0 i = 0) (cnt_nil (Int.le_refl _)) (fun i hi ih => ?_) x n0
        rw [cnt_sf (p := fun _ => False) hi (fun w => w), ih]
      omega
    · obtain ⟨q1, q2, q3, q4, q5, q6, q7, q8, q9⟩ := Fr x x0 (by omega)
      have p7 : upf (h (T + 7)) n n x = h (T + 7) x := upf_ne z
      have p8 : upf (h (T + 8)) n 1 x = h (T + 8) x := upf_ne z
      rw [p7, p8, co x (by omega)]
      refine ⟨⟨by omega, by omega⟩, ⟨by omega, by omega⟩, ?_, ?_, q5, fun w => ?_, q7, by omega, fun w => ?_⟩
      · rw [co _ (by omega)]; exact q3
      · rw [upf_ne (by omega)]; exact q4
      · rw [upf_ne (by omega)]; exact q6 w
      · rw [cnt1 x x0 (by omega)]; exact q9 w
  · rw [r3, r9]
    intro x x0 x1
    by_cases z : x = n
    · subst z
      rw [upf_eq, upf_eq]
      refine ⟨⟨x, x0, by omega, upf_eq, by unfold kyF; rw [upf_eq]⟩, fun j j0 j1 ej => ?_⟩
      by_cases zj : j = x
      · subst zj; unfold kyF; rw [upf_eq]; omega
      · rw [co j (by omega)] at ej
        have := cc j j0 (by omega)
        omega
    · have cx := cc x x0 (by omega)
      rw [co x (by omega), upf_ne (show c x ≠ n by omega)]
      obtain ⟨⟨y, y0, y1, y2, y3⟩, m⟩ := M1 x x0 (by omega)
      refine ⟨⟨y, y0, by omega, by rw [co y y1]; exact y2, by rw [y3]; unfold kyF; rw [upf_ne (by omega)]⟩, fun j j0 j1 ej => ?_⟩
      by_cases zj : j = n
      · subst zj; rw [upf_eq] at ej; omega
      · rw [co j (by omega)] at ej
        have := m j j0 (by omega) ej
        unfold kyF at *
        rw [upf_ne zj]
        exact this
  · rw [r10]
    intro x x0 x1
    by_cases z : x = n
    · subst z
      rw [upf_eq, upf_eq]
      refine ⟨⟨x, x0, by omega, upf_eq, rfl⟩, fun j j0 j1 ej => ?_⟩
      by_cases zj : j = x
      · show x ≤ j; omega
      · rw [co j (by omega)] at ej
        have := cc j j0 (by omega)
        omega
    · have cx := cc x x0 (by omega)
      rw [co x (by omega), upf_ne (show c x ≠ n by omega)]
      obtain ⟨⟨y, y0, y1, y2, y3⟩, m⟩ := M2 x x0 (by omega)
      refine ⟨⟨y, y0, by omega, by rw [co y y1]; exact y2, y3⟩, fun j j0 j1 ej => ?_⟩
      by_cases zj : j = n
      · subst zj; rw [upf_eq] at ej; omega
      · rw [co j (by omega)] at ej
        exact m j j0 (by omega) ej
  · rw [r11, r12, r13]
    refine ⟨fun i i0 i1 => by have := Hs.1 i i0 i1; omega, fun m hm x x0 x1 => ?_⟩
    have ag : Ag n (ar4 h T) (ar4 h' T) := by
      intro x x0 x1
      show h (T + 7) x = h' (T + 7) x ∧ h (T + 8) x = h' (T + 8) x ∧ h (T + 9) x = h' (T + 9) x ∧ h (T + 10) x = h' (T + 10) x
      rw [r7, r8, r9, r10, upf_ne (by omega), upf_ne (by omega), upf_ne (by omega), upf_ne (by omega)]
      exact ⟨rfl, rfl, rfl, rfl⟩
    have rng : ∀ x, 0 ≤ x → x < n → 0 ≤ (ar4 h T).1 x ∧ (ar4 h T).1 x < n := fun x a b => (Fr x a b).1
    by_cases z : x = n
    · have rng' : ∀ x, 0 ≤ x → x < n → 0 ≤ (ar4 h' T).1 x ∧ (ar4 h' T).1 x < n := fun x a b => by rw [← (ag x a b).1]; exact rng x a b
      obtain ⟨u1, u2, _, _⟩ := UN_out (n := n) (lk := h (T + 11)) (ol := h (T + 12)) (ow := h (T + 13)) m L (ar4 h' T) hm Hs.1 rng' x (by omega)
      rw [u1, u2]
      show (0 ≤ h' (T + 7) x ∧ h' (T + 7) x < n + 1) ∧ 1 ≤ h' (T + 8) x ∧ h' (T + 8) x ≤ n + 1
      rw [r7, r8, z, upf_eq, upf_eq]
      omega
    · have g := Hs.2 m hm x x0 (by omega)
      have u := UN_Ag (n := n) (lk := h (T + 11)) (ol := h (T + 12)) (ow := h (T + 13)) m L (ar4 h T) (ar4 h' T) ag hm Hs.1 rng x x0 (by omega)
      rw [← u.1, ← u.2.1]
      omega
  · rw [r3]
    intro x x0 x1
    by_cases z : x = n
    · rw [z, upf_eq]; exact hk
    · rw [upf_ne z]; exact H8 x x0 (by omega)
end
