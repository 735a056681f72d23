section
abbrev ar4 (h : HP) (T : Int) : Qd := (h (T + 7), h (T + 8), h (T + 9), h (T + 10))
def FB (h : HP) (T R n L : Int) (c : Int → Int) : Prop := TR T R ∧ (h T 13 = n ∧ 0 ≤ n ∧ n ≤ R) ∧ h T 14 = L ∧ L = n - cnt (fun x => c x = x) 0 n ∧ Frs n (h (T + 7)) (h (T + 8)) c ∧ MinC n c (kyF (h (T + 3))) (h (T + 9)) ∧ MinC n c (fun x => x) (h (T + 10)) ∧ Hst n (h (T + 11)) (h (T + 12)) (h (T + 13)) L (ar4 h T) ∧ (∀ x, 0 ≤ x → x < n → 0 ≤ h (T + 3) x ∧ h (T + 3) x ≤ 8)
theorem TR_le {T R : Int} (h : TR T R) : 84 ≤ R ∧ R ≤ 512 ∧ 5 ≤ T := by
  rcases h with ⟨h1, h2⟩ | ⟨h1, h2⟩ <;> omega
def ldC (h : HP) (T : Int) (c : Int → Int) (x : Int) : Int := h (T + 9) (c x) % 1024
theorem FB_lead {h : HP} {T R n L : Int} {c : Int → Int} (F : FB h T R n L c) : Led 0 n (h (T + 3)) c (ldC h T c) ∧ ∀ x, 0 ≤ x → x < n → 0 ≤ h (T + 9) (c x) := by
  obtain ⟨hT, ⟨_, n0, nR⟩, _, _, Fr, M, _, _, H8⟩ := F
  have t := TR_le hT
  have key : ∀ x, 0 ≤ x → x < n → ∃ y, 0 ≤ y ∧ y < n ∧ c y = c x ∧ h (T + 9) (c x) = kyF (h (T + 3)) y ∧ ldC h T c x = y ∧ 0 ≤ h (T + 9) (c x) := by
    intro x x0 x1
    obtain ⟨⟨y, y0, y1, y2, y3⟩, _⟩ := M x x0 x1
    have b := H8 y y0 y1
    refine ⟨y, y0, y1, y2, y3, ?_, ?_⟩
    · unfold ldC
      rw [y3]
      unfold kyF rk1
      split <;> omega
    · rw [y3]
      unfold kyF rk1
      split <;> omega
  constructor
  · intro x x0 x1
    obtain ⟨y, y0, y1, y2, y3, y4, _⟩ := key x x0 x1
    rw [y4]
    refine ⟨y0, y1, y2, fun j j0 j1 j2 => ?_⟩
    have l := (M x x0 x1).2 j j0 j1 j2
    have b1 := H8 y y0 y1
    have b2 := H8 j j0 j1
    rw [y3] at l
    unfold kyF rk1 at l
    unfold rnk
    split at l <;> split at l <;> split <;> split <;> omega
  · intro x x0 x1
    obtain ⟨y, _, _, _, _, _, q⟩ := key x x0 x1
    exact q
theorem c_root {d : Nat} {h : HP} {T R n L x : Int} {c : Int → Int} {Q : PQ} (F : FB h T R n L c) (H1 : 0 ≤ x → x < n → Q (c x) h) (H0 : (x < 0 ∨ n ≤ x) → Q (-1) h) : Go d M_Types_root 0 [(17, T), (0, x), (2, 0), (2, 0)] [] h Q := by
  obtain ⟨hT, ⟨hn, n0, nR⟩, _, _, Fr, _⟩ := F
  have t := TR_le hT
  have loop : ∀ (m : Nat) (r k : Int), (n - k).toNat = m → 0 ≤ r → r < n → 0 ≤ k → c r = c x → k < h (T + 8) r → (0 ≤ x → x < n → Go d M_Types_root 18 [(17, T), (0, x), (0, r), (0, k)] [] h Q) := by
    intro m
    induction m with
    | zero =>
      intro r k hm r0 r1 k0 e l
      have := (Fr r r0 r1).2.2.2.2.2.2.2.1
      omega
    | succ m ih =>
      intro r k hm r0 r1 k0 e l x0 x1
      obtain ⟨q1, q2, q3, q4, q5, q6, q7, q8, q9⟩ := Fr r r0 r1
      refine W_Types_root_18 hT ?_
      rw [hn]
      refine ⟨fun w => by omega, fun _ => ⟨⟨by omega, by omega⟩, fun w => ?_, fun w => ⟨⟨by omega, by omega⟩, by unfold r32; omega, ?_⟩⟩⟩
      · have := q5 w
        rw [← this, e]
        exact H1 x0 x1
      · have := q6 w
        exact ih _ _ (by omega) q1.1 q1.2 (by omega) (by rw [q3, e]) (by omega) x0 x1
  refine W_Types_root_0 hT ?_
  rw [hn]
  refine ⟨fun w => H0 (Or.inl w), fun w => ⟨fun w2 => ?_, fun w2 => H0 (Or.inr w2)⟩⟩
  have := (Fr x w w2).2.2.2.2.2.2.1
  exact loop _ x 0 rfl w w2 (by omega) rfl (by omega) w w2
theorem c_leadAt {d : Nat} {h : HP} {T R n x : Int} {Q : PQ} (hT : TR T R) (hn : h T 13 = n) (nR : n ≤ R) (x0 : 0 ≤ x) (x1 : x < n) (l : 0 ≤ h (T + 9) x) (H : Q (h (T + 9) x % 1024) h) : Go d M_Types_leadAt 0 [(17, T), (0, x)] [] h Q :=
  W_Types_leadAt_0 hT ⟨fun w => by omega, fun _ => ⟨fun w => by omega, fun _ => ⟨⟨by omega, by omega⟩, ⟨l, by decide⟩, H⟩⟩⟩
theorem c_leadOf {d : Nat} {h : HP} {T R n L x : Int} {c : Int → Int} {Q : PQ} (hd : 0 < d) (F : FB h T R n L c) (x0 : 0 ≤ x) (x1 : x < n) (H : Q (ldC h T c x) h) : Go d M_Types_leadOf 0 [(17, T), (0, x)] [] h Q := by
  have l := (FB_lead F).2 x x0 x1
  have F0 := F
  obtain ⟨hT, ⟨hn, n0, nR⟩, _, _, Fr, _⟩ := F
  have f := (Fr x x0 x1).2.1
  exact W_Types_leadOf_0 hT ⟨hd, c_root F0 (fun _ _ => ⟨hd, c_leadAt hT hn nR f.1 f.2 l H⟩) (fun w => by omega)⟩
theorem c_headOf {d : Nat} {h : HP} {T R n L x : Int} {c : Int → Int} {Q : PQ} (hd : 0 < d) (F : FB h T R n L c) (x0 : 0 ≤ x) (x1 : x < n) (H : Q (h (T + 3) (ldC h T c x)) h) : Go d M_Types_headOf 0 [(17, T), (0, x)] [] h Q := by
  have l := (FB_lead F).2 x x0 x1
  have l2 := (FB_lead F).1 x x0 x1
  have F0 := F
  obtain ⟨hT, ⟨hn, n0, nR⟩, _, _, Fr, _⟩ := F
  have f := (Fr x x0 x1).2.1
  exact W_Types_headOf_0 hT ⟨hd, c_root F0 (fun _ _ => ⟨hd, c_leadAt hT hn nR f.1 f.2 l ⟨⟨l2.1, by have := l2.2.1; unfold ldC at this; omega⟩, H⟩⟩) (fun w => by omega)⟩
theorem c_lowestOf {d : Nat} {h : HP} {T R n L x : Int} {c : Int → Int} {Q : PQ} (hd : 0 < d) (F : FB h T R n L c) (x0 : 0 ≤ x) (x1 : x < n) (H : Q (h (T + 10) (c x)) h) : Go d M_Types_lowestOf 0 [(17, T), (0, x), (2, 0)] [] h Q := by
  have F0 := F
  obtain ⟨hT, ⟨hn, n0, nR⟩, _, _, Fr, _⟩ := F
  have f := (Fr x x0 x1).2.1
  exact W_Types_lowestOf_0 hT ⟨hd, c_root F0 (fun _ _ => ⟨fun _ => ⟨⟨by omega, by omega⟩, H⟩, fun w => by omega⟩) (fun w => by omega)⟩
theorem c_sizeOf {d : Nat} {h : HP} {T R n L x : Int} {c : Int → Int} {Q : PQ} (hd : 0 < d) (F : FB h T R n L c) (x0 : 0 ≤ x) (x1 : x < n) (H : Q (h (T + 8) (c x)) h) : Go d M_Types_sizeOf 0 [(17, T), (0, x), (2, 0)] [] h Q := by
  have F0 := F
  obtain ⟨hT, ⟨hn, n0, nR⟩, _, _, Fr, _⟩ := F
  have f := (Fr x x0 x1).2.1
  exact W_Types_sizeOf_0 hT ⟨hd, c_root F0 (fun _ _ => ⟨fun _ => ⟨⟨by omega, by omega⟩, H⟩, fun w => by omega⟩) (fun w => by omega)⟩
/-! links -/
theorem up2_row {h : HP} {a k v : Int} : up2 h a k v a = upf (h a) k v := by
  funext i
  unfold up2 upf
  by_cases w : i = k
  · rw [if_pos ⟨rfl, w⟩, if_pos w]
  · rw [if_neg (fun z => w z.2), if_neg w]
theorem up2_rown {h : HP} {a a' k v : Int} (q : a' ≠ a) : up2 h a k v a' = h a' := funext fun _ => up2_nc q
def LnkR (h h' : HP) (T s b : Int) : Prop := ar4 h' T = lnA (ar4 h T) s b ∧ h' (T + 11) = upf (h (T + 11)) (h T 14) s ∧ h' (T + 12) = upf (h (T + 12)) (h T 14) (h (T + 9) b) ∧ h' (T + 13) = upf (h (T + 13)) (h T 14) (h (T + 10) b) ∧ h' T 14 = h T 14 + 1 ∧ (∀ a i, (a < T + 7 ∨ T + 13 < a) → ¬ (a = T ∧ i = 14) → h' a i = h a i)
theorem ar4_ext {h' : HP} {T : Int} {A : Qd} (h1 : h' (T + 7) = A.1) (h2 : h' (T + 8) = A.2.1) (h3 : h' (T + 9) = A.2.2.1) (h4 : h' (T + 10) = A.2.2.2) : ar4 h' T = A := by
  unfold ar4
  rw [h1, h2, h3, h4]
theorem link_rows {h : HP} {T s b : Int} : LnkR h (up2 (up2 (up2 (up2 (up2 (up2 (up2 (up2 h (T + 11) (h T 14) s) (T + 12) (h T 14) (h (T + 9) b)) (T + 13) (h T 14) (h (T + 10) b)) T 14 (h T 14 + 1)) (T + 7) s b) (T + 8) b (h (T + 8) b + h (T + 8) s)) (T + 9) b (min (h (T + 9) b) (h (T + 9) s))) (T + 10) b (min (h (T + 10) b) (h (T + 10) s))) T s b := by
  refine ⟨ar4_ext ?_ ?_ ?_ ?_, ?_, ?_, ?_, ?_, ?_⟩
  · rw [up2_rown (by omega), up2_rown (by omega), up2_rown (by omega), up2_row, up2_rown (by omega), up2_rown (by omega), up2_rown (by omega), up2_rown (by omega)]; rfl
  · rw [up2_rown (by omega), up2_rown (by omega), up2_row, up2_rown (by omega), up2_rown (by omega), up2_rown (by omega), up2_rown (by omega), up2_rown (by omega)]; rfl
  · rw [up2_rown (by omega), up2_row, up2_rown (by omega), up2_rown (by omega), up2_rown (by omega), up2_rown (by omega), up2_rown (by omega), up2_rown (by omega)]; rfl
  · rw [up2_row, up2_rown (by omega), up2_rown (by omega), up2_rown (by omega), up2_rown (by omega), up2_rown (by omega), up2_rown (by omega), up2_rown (by omega)]; rfl
  · rw [up2_rown (by omega), up2_rown (by omega), up2_rown (by omega), up2_rown (by omega), up2_rown (by omega), up2_rown (by omega), up2_rown (by omega), up2_row]
  · rw [up2_rown (by omega), up2_rown (by omega), up2_rown (by omega), up2_rown (by omega), up2_rown (by omega), up2_rown (by omega), up2_row, up2_rown (by omega)]
  · rw [up2_rown (by omega), up2_rown (by omega), up2_rown (by omega), up2_rown (by omega), up2_rown (by omega), up2_row, up2_rown (by omega), up2_rown (by omega)]
  · rw [up2_nc (by omega), up2_nc (by omega), up2_nc (by omega), up2_nc (by omega), up2_eq]
  · intro a i q q2
    rw [up2_nc (by omega), up2_nc (by omega), up2_nc (by omega), up2_nc (by omega), up2_ext q2, up2_nc (by omega), up2_nc (by omega), up2_nc (by omega)]
theorem FB_link {h h' : HP} {T R n L s b : Int} {c : Int → Int} (F : FB h T R n L c) (s0 : 0 ≤ s) (s1 : s < n) (b0 : 0 ≤ b) (b1 : b < n) (cs : c s = s) (cb : c b = b) (ne : s ≠ b) (K : LnkR h h' T s b) : FB h' T R n (L + 1) (jnC c s b) := by
  obtain ⟨hT, ⟨hn, n0, nR⟩, hL, eL, Fr, M1, M2, Hs, H8⟩ := F
  obtain ⟨k1, k2, k3, k4, k5, k6⟩ := K
  have cc : ∀ x, 0 ≤ x → x < n → 0 ≤ c x ∧ c x < n := fun x a b => (Fr x a b).2.1
  have e7 : h' (T + 7) = upf (h (T + 7)) s b := congrArg (fun A : Qd => A.1) k1
  have e8 : h' (T + 8) = upf (h (T + 8)) b (h (T + 8) b + h (T + 8) s) := congrArg (fun A : Qd => A.2.1) k1
  have e9 : h' (T + 9) = upf (h (T + 9)) b (min (h (T + 9) b) (h (T + 9) s)) := congrArg (fun A : Qd => A.2.2.1) k1
  have e10 : h' (T + 10) = upf (h (T + 10)) b (min (h (T + 10) b) (h (T + 10) s)) := congrArg (fun A : Qd => A.2.2.2) k1
  have e3 : h' (T + 3) = h (T + 3) := funext fun i => k6 _ i (by omega) (by omega)
  have Fr' : Frs n (h' (T + 7)) (h' (T + 8)) (jnC c s b) := by rw [e7, e8]; exact Frs_link Fr s0 s1 b0 b1 cs cb ne
  rw [hL] at k2 k3 k4 k5
  refine ⟨hT, ⟨by rw [k6 T 13 (by omega) (by omega)]; exact hn, n0, nR⟩, k5, ?_, Fr', ?_, ?_, ?_, ?_⟩
  · have := cnt_less (p := fun x => c x = x) (q := fun x => jnC c s b x = x) s0 s1 cs (fun w => by have w : jnC c s b s = s := w; rw [jnC_s cs] at w; omega) (fun i i0 i1 hi => by
      by_cases w : c i = s
      · show c i = i ↔ jnC c s b i = i
        rw [jnC_s w]
        constructor
        · intro z; omega
        · intro z; rw [← z] at w; omega
      · show c i = i ↔ jnC c s b i = i
        rw [jnC_o w])
    omega
  · rw [e3, e9]; exact MinC_link M1 cc s0 s1 b0 b1 cs cb ne
  · rw [e10]; exact MinC_link M2 cc s0 s1 b0 b1 cs cb ne
  · constructor
    · intro i i0 i1
      rw [k2]
      by_cases w : i = L
      · rw [w, upf_eq]; exact ⟨s0, s1⟩
      · rw [upf_ne w]; exact Hs.1 i i0 (by omega)
    · intro m hm
      cases m with
      | zero =>
        intro x x0 x1
        have := Fr' x x0 x1
        exact ⟨this.1, this.2.2.2.2.2.2.1, this.2.2.2.2.2.2.2.1⟩
      | succ m =>
        show GdA n (UN _ _ _ (L + 1 - 1) m (und1 (ar4 h' T) (h' (T + 11) (L + 1 - 1)) (h' (T + 12) (L + 1 - 1)) (h' (T + 13) (L + 1 - 1))))
        rw [show L + 1 - 1 = L by omega, k2, k3, k4, upf_eq, upf_eq, upf_eq, k1]
        have ps : (ar4 h T).1 s = s := by
          have := (Fr s s0 s1).2.2.2.1
          rw [cs] at this; exact this
        have ul : und1 (lnA (ar4 h T) s b) s (h (T + 9) b) (h (T + 10) b) = ar4 h T := und_ln ps ne
        rw [ul, UN_log (lk := h (T + 11)) (ol := h (T + 12)) (ow := h (T + 13)) m L _ (fun i q => ⟨upf_ne (by omega), upf_ne (by omega), upf_ne (by omega)⟩)]
        exact Hs.2 m (by omega)
  · rw [e3]; exact H8
theorem c_link {d : Nat} {h : HP} {T R n L a b : Int} {c : Int → Int} {Q : PQ} (hd : 7 < d) (F : FB h T R n L c) (a0 : 0 ≤ a) (a1 : a < n) (b0 : 0 ≤ b) (b1 : b < n) (ca : c a = a) (cb : c b = b) (ne : a ≠ b)
    (H : ∀ h' s g, ((s = a ∧ g = b) ∨ (s = b ∧ g = a)) → LnkR h h' T s g → FB h' T R n (L + 1) (jnC c s g) → Q 0 h') : Go d M_Types_link 0 [(17, T), (0, a), (0, b), (2, 0), (2, 0)] [] h Q := by
  have F0 := F
  obtain ⟨hT, ⟨hn, n0, nR⟩, hL, eL, Fr, M1, M2, Hs, H8⟩ := F
  have t := TR_le hT
  have pos := cnt_pos (p := fun x => c x = x) a0 a1 ca
  have bd := cnt_bd (p := fun x => c x = x) n0
  have fa := Fr a a0 a1
  have fb := Fr b b0 b1
  refine W_Types_link_0 hT ⟨fun w => absurd w ne, fun _ => ⟨fun w => by omega, fun _ => ⟨fun w => by omega, fun _ => ⟨fun _ => ⟨⟨by omega, by omega⟩, ⟨by omega, by omega⟩, fun w => ⟨fun z => absurd rfl z, fun _ => ?_⟩, fun w => ⟨fun _ => ?_, fun z => absurd z (fun e => ne e.symm)⟩⟩, fun w => by omega⟩⟩⟩⟩
  · refine ⟨⟨by omega, by omega⟩, ?_⟩
    rintro g1 rfl
    rw [up2_nc (show T ≠ T + 11 by omega), up2_nc (show T + 9 ≠ T + 11 by omega)]
    refine ⟨⟨by omega, by omega⟩, ⟨by omega, by omega⟩, ?_⟩
    rintro g2 rfl
    rw [up2_nc (show T ≠ T + 12 by omega), up2_nc (show T ≠ T + 11 by omega), up2_nc (show T + 10 ≠ T + 12 by omega), up2_nc (show T + 10 ≠ T + 11 by omega)]
    refine ⟨⟨by omega, by omega⟩, ⟨by omega, by omega⟩, ?_⟩
    rintro g3 rfl
    rw [up2_nc (show T ≠ T + 13 by omega), up2_nc (show T ≠ T + 12 by omega), up2_nc (show T ≠ T + 11 by omega)]
    refine ⟨by unfold r32; omega, ?_⟩
    rintro g4 rfl
    refine ⟨⟨by omega, by omega⟩, ?_⟩
    rintro g5 rfl
    have e8 : ∀ i, (up2 (up2 (up2 (up2 (up2 h (T + 11) (h T 14) b) (T + 12) (h T 14) (h (T + 9) a)) (T + 13) (h T 14) (h (T + 10) a)) T 14 (h T 14 + 1)) (T + 7) b a) (T + 8) i = h (T + 8) i := fun i => by rw [up2_nc (by omega), up2_nc (by omega), up2_nc (by omega), up2_nc (by omega), up2_nc (by omega)]
    have e9 : ∀ i, (up2 (up2 (up2 (up2 (up2 h (T + 11) (h T 14) b) (T + 12) (h T 14) (h (T + 9) a)) (T + 13) (h T 14) (h (T + 10) a)) T 14 (h T 14 + 1)) (T + 7) b a) (T + 9) i = h (T + 9) i := fun i => by rw [up2_nc (by omega), up2_nc (by omega), up2_nc (by omega), up2_nc (by omega), up2_nc (by omega)]
    have e10 : ∀ i, (up2 (up2 (up2 (up2 (up2 h (T + 11) (h T 14) b) (T + 12) (h T 14) (h (T + 9) a)) (T + 13) (h T 14) (h (T + 10) a)) T 14 (h T 14 + 1)) (T + 7) b a) (T + 10) i = h (T + 10) i := fun i => by rw [up2_nc (by omega), up2_nc (by omega), up2_nc (by omega), up2_nc (by omega), up2_nc (by omega)]
    rw [e8, e8]
    refine ⟨⟨by omega, by omega⟩, ⟨by omega, by omega⟩, by unfold r32; omega, ⟨by omega, by omega⟩, ?_⟩
    rintro g6 rfl
    rw [up2_nc (show T + 9 ≠ T + 8 by omega), up2_nc (show T + 9 ≠ T + 8 by omega), e9, e9]
    refine ⟨⟨by omega, by omega⟩, ⟨by omega, by omega⟩, hd, ⟨by omega, by omega⟩, ?_⟩
    rintro g7 rfl
    rw [up2_nc (show T + 10 ≠ T + 9 by omega), up2_nc (show T + 10 ≠ T + 9 by omega), up2_nc (show T + 10 ≠ T + 8 by omega), up2_nc (show T + 10 ≠ T + 8 by omega), e10, e10]
    refine ⟨⟨by omega, by omega⟩, ⟨by omega, by omega⟩, hd, ⟨by omega, by omega⟩, ?_⟩
    rintro g8 rfl
    have K := link_rows (h := h) (T := T) (s := b) (b := a)
    exact H _ b a (Or.inr ⟨rfl, rfl⟩) K (FB_link F0 b0 b1 a0 a1 cb ca (fun e => ne e.symm) K)
  · refine ⟨⟨by omega, by omega⟩, ?_⟩
    rintro g1 rfl
    rw [up2_nc (show T ≠ T + 11 by omega), up2_nc (show T + 9 ≠ T + 11 by omega)]
    refine ⟨⟨by omega, by omega⟩, ⟨by omega, by omega⟩, ?_⟩
    rintro g2 rfl
    rw [up2_nc (show T ≠ T + 12 by omega), up2_nc (show T ≠ T + 11 by omega), up2_nc (show T + 10 ≠ T + 12 by omega), up2_nc (show T + 10 ≠ T + 11 by omega)]
    refine ⟨⟨by omega, by omega⟩, ⟨by omega, by omega⟩, ?_⟩
    rintro g3 rfl
    rw [up2_nc (show T ≠ T + 13 by omega), up2_nc (show T ≠ T + 12 by omega), up2_nc (show T ≠ T + 11 by omega)]
    refine ⟨by unfold r32; omega, ?_⟩
    rintro g4 rfl
    refine ⟨⟨by omega, by omega⟩, ?_⟩
    rintro g5 rfl
    have e8 : ∀ i, (up2 (up2 (up2 (up2 (up2 h (T + 11) (h T 14) a) (T + 12) (h T 14) (h (T + 9) b)) (T + 13) (h T 14) (h (T + 10) b)) T 14 (h T 14 + 1)) (T + 7) a b) (T + 8) i = h (T + 8) i := fun i => by rw [up2_nc (by omega), up2_nc (by omega), up2_nc (by omega), up2_nc (by omega), up2_nc (by omega)]
    have e9 : ∀ i, (up2 (up2 (up2 (up2 (up2 h (T + 11) (h T 14) a) (T + 12) (h T 14) (h (T + 9) b)) (T + 13) (h T 14) (h (T + 10) b)) T 14 (h T 14 + 1)) (T + 7) a b) (T + 9) i = h (T + 9) i := fun i => by rw [up2_nc (by omega), up2_nc (by omega), up2_nc (by omega), up2_nc (by omega), up2_nc (by omega)]
    have e10 : ∀ i, (up2 (up2 (up2 (up2 (up2 h (T + 11) (h T 14) a) (T + 12) (h T 14) (h (T + 9) b)) (T + 13) (h T 14) (h (T + 10) b)) T 14 (h T 14 + 1)) (T + 7) a b) (T + 10) i = h (T + 10) i := fun i => by rw [up2_nc (by omega), up2_nc (by omega), up2_nc (by omega), up2_nc (by omega), up2_nc (by omega)]
    rw [e8, e8]
    refine ⟨⟨by omega, by omega⟩, ⟨by omega, by omega⟩, by unfold r32; omega, ⟨by omega, by omega⟩, ?_⟩
    rintro g6 rfl
    rw [up2_nc (show T + 9 ≠ T + 8 by omega), up2_nc (show T + 9 ≠ T + 8 by omega), e9, e9]
    refine ⟨⟨by omega, by omega⟩, ⟨by omega, by omega⟩, hd, ⟨by omega, by omega⟩, ?_⟩
    rintro g7 rfl
    rw [up2_nc (show T + 10 ≠ T + 9 by omega), up2_nc (show T + 10 ≠ T + 9 by omega), up2_nc (show T + 10 ≠ T + 8 by omega), up2_nc (show T + 10 ≠ T + 8 by omega), e10, e10]
    refine ⟨⟨by omega, by omega⟩, ⟨by omega, by omega⟩, hd, ⟨by omega, by omega⟩, ?_⟩
    rintro g8 rfl
    have K := link_rows (h := h) (T := T) (s := a) (b := b)
    exact H _ a b (Or.inl ⟨rfl, rfl⟩) K (FB_link F0 a0 a1 b0 b1 ca cb ne K)
end
