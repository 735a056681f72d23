section
/-! the forest of the types: parents, sizes, leads, lowest ones -/
theorem cnt_add {p q : Int → Prop} {lo hi : Int} (h : ∀ i, lo ≤ i → i < hi → ¬ (p i ∧ q i)) : cnt (fun i => p i ∨ q i) lo hi = cnt p lo hi + cnt q lo hi := by
  rcases Int.lt_or_le hi lo with w | w
  · rw [cnt_nil (by omega), cnt_nil (by omega), cnt_nil (by omega)]; rfl
  · revert h
    refine up_ind (lo := lo) (P := fun i => (∀ j, lo ≤ j → j < i → ¬ (p j ∧ q j)) → cnt (fun i => p i ∨ q i) lo i = cnt p lo i + cnt q lo i) ?_ ?_ hi w
    · intro _
      rw [cnt_nil (by omega), cnt_nil (by omega), cnt_nil (by omega)]; rfl
    · intro i hi ih h
      have e := ih (fun j a b => h j a (by omega))
      have hn := h i hi (by omega)
      rcases Classical.em (p i) with hp | hp
      · have hq : ¬ q i := fun hq => hn ⟨hp, hq⟩
        rw [cnt_st (p := fun i => p i ∨ q i) hi (Or.inl hp), cnt_st hi hp, cnt_sf hi hq]; omega
      · rcases Classical.em (q i) with hq | hq
        · rw [cnt_st (p := fun i => p i ∨ q i) hi (Or.inr hq), cnt_sf hi hp, cnt_st hi hq]; omega
        · rw [cnt_sf (p := fun i => p i ∨ q i) hi (fun z => z.elim hp hq), cnt_sf hi hp, cnt_sf hi hq]; omega
def Frs (n : Int) (par sz c : Int → Int) : Prop := ∀ x, 0 ≤ x → x < n → (0 ≤ par x ∧ par x < n) ∧ (0 ≤ c x ∧ c x < n) ∧ c (par x) = c x ∧ par (c x) = c x ∧ (par x = x → c x = x) ∧ (par x ≠ x → sz x < sz (par x)) ∧ 1 ≤ sz x ∧ sz x ≤ n ∧ (c x = x → sz x = cnt (fun y => c y = x) 0 n)
theorem Frs_cc {n : Int} {par sz c : Int → Int} (F : Frs n par sz c) {x : Int} (h0 : 0 ≤ x) (h1 : x < n) : c (c x) = c x := by
  have f := F x h0 h1
  have g := F (c x) f.2.1.1 f.2.1.2
  exact g.2.2.2.2.1 f.2.2.2.1
/-- the least value of a group's nodes -/
def MinC (n : Int) (c f v : Int → Int) : Prop := ∀ x, 0 ≤ x → x < n → (∃ y, 0 ≤ y ∧ y < n ∧ c y = c x ∧ v (c x) = f y) ∧ ∀ z, 0 ≤ z → z < n → c z = c x → v (c x) ≤ f z
def rk1 (hd : Int) : Int := if hd < 7 then 0 else hd - 7 + 1
def kyF (hd : Int → Int) (x : Int) : Int := rk1 (hd x) * 1024 + x
/-- two groups become one: the roots are s (under) and b -/
def jnC (c : Int → Int) (s b : Int) : Int → Int := fun x => if c x = s then b else c x
theorem jnC_s {c : Int → Int} {s b x : Int} (h : c x = s) : jnC c s b x = b := if_pos h
theorem jnC_o {c : Int → Int} {s b x : Int} (h : c x ≠ s) : jnC c s b x = c x := if_neg h
theorem Frs_link {n : Int} {par sz c : Int → Int} {s b : Int} (F : Frs n par sz c) (s0 : 0 ≤ s) (s1 : s < n) (b0 : 0 ≤ b) (b1 : b < n) (cs : c s = s) (cb : c b = b) (ne : s ≠ b) : Frs n (upf par s b) (upf sz b (sz b + sz s)) (jnC c s b) := by
  have fs := F s s0 s1
  have fb := F b b0 b1
  have ps : par s = s := by have := fs.2.2.2.1; rw [cs] at this; exact this
  have pb : par b = b := by have := fb.2.2.2.1; rw [cb] at this; exact this
  have sum : cnt (fun y => jnC c s b y = b) 0 n = sz b + sz s := by
    rw [fb.2.2.2.2.2.2.2.2 cb, fs.2.2.2.2.2.2.2.2 cs, ← cnt_add (fun i _ _ z => ne (z.2.symm.trans z.1))]
    refine cnt_congr (fun i i0 i1 => ?_)
    by_cases w : c i = s
    · rw [jnC_s w]; exact ⟨fun _ => Or.inr w, fun _ => rfl⟩
    · rw [jnC_o w]; exact ⟨fun z => Or.inl z, fun z => z.elim id (fun z => absurd z w)⟩
  have sle : sz b + sz s ≤ n := by
    rw [← sum]
    have := (cnt_bd (p := fun y => jnC c s b y = b) (lo := 0) (hi := n) (by omega)).2
    omega
  intro x x0 x1
  obtain ⟨q1, q2, q3, q4, q5, q6, q7, q8, q9⟩ := F x x0 x1
  refine ⟨?_, ?_, ?_, ?_, ?_, ?_, ?_, ?_, ?_⟩
  · by_cases w : x = s
    · subst w; rw [upf_eq]; exact ⟨b0, b1⟩
    · rw [upf_ne w]; exact q1
  · by_cases w : c x = s
    · rw [jnC_s w]; exact ⟨b0, b1⟩
    · rw [jnC_o w]; exact q2
  · by_cases w : x = s
    · subst w; rw [upf_eq, jnC_s cs, jnC_o (by rw [cb]; omega), cb]
    · rw [upf_ne w]
      unfold jnC
      rw [q3]
  · by_cases w : c x = s
    · rw [jnC_s w, upf_ne (by omega)]; exact pb
    · rw [jnC_o w, upf_ne w]; exact q4
  · intro e
    by_cases w : x = s
    · subst w; rw [upf_eq] at e; omega
    · rw [upf_ne w] at e
      have := q5 e
      rw [jnC_o (by omega)]; exact this
  · intro e
    by_cases w : x = s
    · subst w
      rw [upf_eq, upf_eq, upf_ne ne]
      omega
    · rw [upf_ne w] at e
      rw [upf_ne w]
      have l := q6 e
      have xb : x ≠ b := fun z => e (by rw [z, pb])
      rw [upf_ne xb]
      by_cases v : par x = b
      · rw [v] at l ⊢
        rw [upf_eq]
        have := fs.2.2.2.2.2.2.1
        omega
      · rw [upf_ne v]; exact l
  · by_cases w : x = b
    · subst w; rw [upf_eq]; have := fs.2.2.2.2.2.2.1; omega
    · rw [upf_ne w]; exact q7
  · by_cases w : x = b
    · subst w; rw [upf_eq]; exact sle
    · rw [upf_ne w]; exact q8
  · intro e
    by_cases w : x = b
    · subst w; rw [upf_eq]; exact sum.symm
    · rw [upf_ne w]
      have cx : c x ≠ s := by
        intro z
        rw [jnC_s z] at e
        omega
      rw [jnC_o cx] at e
      rw [q9 e]
      refine cnt_congr (fun i i0 i1 => ?_)
      by_cases v : c i = s
      · rw [jnC_s v]; exact ⟨fun z => by omega, fun z => by omega⟩
      · rw [jnC_o v]
theorem MinC_link {n : Int} {c f v : Int → Int} {s b : Int} (M : MinC n c f v) (cc : ∀ x, 0 ≤ x → x < n → 0 ≤ c x ∧ c x < n) (s0 : 0 ≤ s) (s1 : s < n) (b0 : 0 ≤ b) (b1 : b < n) (cs : c s = s) (cb : c b = b) (ne : s ≠ b) : MinC n (jnC c s b) f (upf v b (min (v b) (v s))) := by
  have ms := M s s0 s1
  have mb := M b b0 b1
  rw [cs] at ms
  rw [cb] at mb
  intro x x0 x1
  by_cases w : c x = s ∨ c x = b
  · have e : jnC c s b x = b := by
      rcases w with w | w
      · exact jnC_s w
      · rw [jnC_o (by omega), w]
    rw [e, upf_eq]
    constructor
    · rcases Int.le_total (v b) (v s) with z | z
      · obtain ⟨y, y0, y1, y2, y3⟩ := mb.1
        exact ⟨y, y0, y1, by rw [jnC_o (by omega), y2], by rw [show min (v b) (v s) = v b by omega, y3]⟩
      · obtain ⟨y, y0, y1, y2, y3⟩ := ms.1
        exact ⟨y, y0, y1, jnC_s y2, by rw [show min (v b) (v s) = v s by omega, y3]⟩
    · intro z z0 z1 hz
      by_cases q : c z = s
      · have := ms.2 z z0 z1 q; omega
      · rw [jnC_o q] at hz
        have := mb.2 z z0 z1 hz; omega
  · have w1 : c x ≠ s := fun z => w (Or.inl z)
    have w2 : c x ≠ b := fun z => w (Or.inr z)
    rw [jnC_o w1, upf_ne w2]
    constructor
    · obtain ⟨y, y0, y1, y2, y3⟩ := (M x x0 x1).1
      exact ⟨y, y0, y1, by rw [jnC_o (by omega), y2], y3⟩
    · intro z z0 z1 hz
      by_cases q : c z = s
      · rw [jnC_s q] at hz; omega
      · rw [jnC_o q] at hz
        exact (M x x0 x1).2 z z0 z1 hz
/-! taking links back -/
abbrev Qd : Type := (Int → Int) × (Int → Int) × (Int → Int) × (Int → Int)
def und1 (A : Qd) (s ol ow : Int) : Qd := (upf A.1 s s, upf A.2.1 (A.1 s) (A.2.1 (A.1 s) - A.2.1 s), upf A.2.2.1 (A.1 s) ol, upf A.2.2.2 (A.1 s) ow)
def UN (lk ol ow : Int → Int) (L : Int) : Nat → Qd → Qd
  | 0, A => A
  | m + 1, A => UN lk ol ow (L - 1) m (und1 A (lk (L - 1)) (ol (L - 1)) (ow (L - 1)))
def lnA (A : Qd) (s b : Int) : Qd := (upf A.1 s b, upf A.2.1 b (A.2.1 b + A.2.1 s), upf A.2.2.1 b (min (A.2.2.1 b) (A.2.2.1 s)), upf A.2.2.2 b (min (A.2.2.2 b) (A.2.2.2 s)))
theorem upf_upf {f : Int → Int} {k v w : Int} (h : w = f k) : upf (upf f k v) k w = f := by
  funext j
  by_cases q : j = k
  · rw [q, upf_eq, h]
  · rw [upf_ne q, upf_ne q]
theorem und_ln {A : Qd} {s b : Int} (ps : A.1 s = s) (ne : s ≠ b) : und1 (lnA A s b) s (A.2.2.1 b) (A.2.2.2 b) = A := by
  obtain ⟨p, z, l, w⟩ := A
  unfold und1 lnA
  dsimp only at *
  rw [upf_eq, upf_upf ps.symm, upf_upf rfl, upf_upf rfl, upf_upf]
  rw [upf_eq, upf_ne ne]
  omega
def GdA (n : Int) (A : Qd) : Prop := ∀ x, 0 ≤ x → x < n → (0 ≤ A.1 x ∧ A.1 x < n) ∧ 1 ≤ A.2.1 x ∧ A.2.1 x ≤ n
def Hst (n : Int) (lk ol ow : Int → Int) (L : Int) (A : Qd) : Prop := (∀ i, 0 ≤ i → i < L → 0 ≤ lk i ∧ lk i < n) ∧ ∀ m : Nat, (m : Int) ≤ L → GdA n (UN lk ol ow L m A)
theorem UN_log {lk ol ow lk' ol' ow' : Int → Int} : ∀ (m : Nat) (L : Int) (A : Qd), (∀ i, i < L → lk' i = lk i ∧ ol' i = ol i ∧ ow' i = ow i) → UN lk' ol' ow' L m A = UN lk ol ow L m A
  | 0, _, _, _ => rfl
  | m + 1, L, A, h => by
    unfold UN
    obtain ⟨h1, h2, h3⟩ := h (L - 1) (by omega)
    rw [h1, h2, h3]
    exact UN_log m (L - 1) _ (fun i q => h i (by omega))
theorem UN_split {lk ol ow : Int → Int} : ∀ (m k : Nat) (L : Int) (A : Qd), UN lk ol ow L (m + k) A = UN lk ol ow (L - m) k (UN lk ol ow L m A)
  | 0, k, L, A => by
    rw [Nat.zero_add, show L - ((0 : Nat) : Int) = L by omega]; rfl
  | m + 1, k, L, A => by
    rw [show m + 1 + k = (m + k) + 1 by omega]
    show UN lk ol ow (L - 1) (m + k) _ = _
    rw [UN_split m k (L - 1) _, show L - 1 - (m : Int) = L - ((m + 1 : Nat) : Int) by omega]
    rfl
/-- two rows that agree below n -/
def Ag (n : Int) (A B : Qd) : Prop := ∀ x, 0 ≤ x → x < n → A.1 x = B.1 x ∧ A.2.1 x = B.2.1 x ∧ A.2.2.1 x = B.2.2.1 x ∧ A.2.2.2 x = B.2.2.2 x
theorem Ag_refl (n : Int) (A : Qd) : Ag n A A := fun _ _ _ => ⟨rfl, rfl, rfl, rfl⟩
theorem Ag_trans {n : Int} {A B C : Qd} (h : Ag n A B) (g : Ag n B C) : Ag n A C := fun x a b => ⟨(h x a b).1.trans (g x a b).1, (h x a b).2.1.trans (g x a b).2.1, (h x a b).2.2.1.trans (g x a b).2.2.1, (h x a b).2.2.2.trans (g x a b).2.2.2⟩
theorem Ag_symm {n : Int} {A B : Qd} (h : Ag n A B) : Ag n B A := fun x a b => ⟨(h x a b).1.symm, (h x a b).2.1.symm, (h x a b).2.2.1.symm, (h x a b).2.2.2.symm⟩
theorem Ag_le {n m : Int} {A B : Qd} (q : m ≤ n) (h : Ag n A B) : Ag m A B := fun x a b => h x a (by omega)
theorem und_Ag {n : Int} {A B : Qd} {s ol ow : Int} (h : Ag n A B) (s0 : 0 ≤ s) (s1 : s < n) (p0 : 0 ≤ A.1 s) (p1 : A.1 s < n) : Ag n (und1 A s ol ow) (und1 B s ol ow) := by
  have hs := h s s0 s1
  have hp := h (A.1 s) p0 p1
  intro x x0 x1
  have hx := h x x0 x1
  unfold und1
  dsimp only
  rw [← hs.1, ← hp.2.1, ← hs.2.1]
  refine ⟨?_, ?_, ?_, ?_⟩
  · by_cases w : x = s
    · rw [w, upf_eq, upf_eq]
    · rw [upf_ne w, upf_ne w]; exact hx.1
  · by_cases w : x = A.1 s
    · rw [w, upf_eq, upf_eq]
    · rw [upf_ne w, upf_ne w]; exact hx.2.1
  · by_cases w : x = A.1 s
    · rw [w, upf_eq, upf_eq]
    · rw [upf_ne w, upf_ne w]; exact hx.2.2.1
  · by_cases w : x = A.1 s
    · rw [w, upf_eq, upf_eq]
    · rw [upf_ne w, upf_ne w]; exact hx.2.2.2
theorem und_rng {n : Int} {A : Qd} {s ol ow : Int} (h : ∀ x, 0 ≤ x → x < n → 0 ≤ A.1 x ∧ A.1 x < n) (s0 : 0 ≤ s) (s1 : s < n) : ∀ x, 0 ≤ x → x < n → 0 ≤ (und1 A s ol ow).1 x ∧ (und1 A s ol ow).1 x < n := by
  intro x x0 x1
  show 0 ≤ upf A.1 s s x ∧ upf A.1 s s x < n
  by_cases w : x = s
  · rw [w, upf_eq]; exact ⟨s0, s1⟩
  · rw [upf_ne w]; exact h x x0 x1
theorem UN_Ag {n : Int} {lk ol ow : Int → Int} : ∀ (m : Nat) (L : Int) (A B : Qd), Ag n A B → (m : Int) ≤ L → (∀ i, 0 ≤ i → i < L → 0 ≤ lk i ∧ lk i < n) → (∀ x, 0 ≤ x → x < n → 0 ≤ A.1 x ∧ A.1 x < n) → Ag n (UN lk ol ow L m A) (UN lk ol ow L m B)
  | 0, _, _, _, h, _, _, _ => h
  | m + 1, L, A, B, h, hm, hl, hr => by
    have l := hl (L - 1) (by omega) (by omega)
    have r := hr _ l.1 l.2
    exact UN_Ag m (L - 1) _ _ (und_Ag h l.1 l.2 r.1 r.2) (by omega) (fun i a b => hl i a (by omega)) (und_rng hr l.1 l.2)
/-- what stands at n or above stays -/
theorem UN_out {n : Int} {lk ol ow : Int → Int} : ∀ (m : Nat) (L : Int) (A : Qd), (m : Int) ≤ L → (∀ i, 0 ≤ i → i < L → 0 ≤ lk i ∧ lk i < n) → (∀ x, 0 ≤ x → x < n → 0 ≤ A.1 x ∧ A.1 x < n) → ∀ x, n ≤ x → (UN lk ol ow L m A).1 x = A.1 x ∧ (UN lk ol ow L m A).2.1 x = A.2.1 x ∧ (UN lk ol ow L m A).2.2.1 x = A.2.2.1 x ∧ (UN lk ol ow L m A).2.2.2 x = A.2.2.2 x
  | 0, _, _, _, _, _ => fun _ _ => ⟨rfl, rfl, rfl, rfl⟩
  | m + 1, L, A, hm, hl, hr => by
    intro x hx
    have l := hl (L - 1) (by omega) (by omega)
    have r := hr _ l.1 l.2
    obtain ⟨e1, e2, e3, e4⟩ := UN_out m (L - 1) (und1 A (lk (L - 1)) (ol (L - 1)) (ow (L - 1))) (by omega) (fun i a b => hl i a (by omega)) (und_rng hr l.1 l.2) x hx
    refine ⟨e1.trans (upf_ne (by omega)), e2.trans (upf_ne (by omega)), e3.trans (upf_ne (by omega)), e4.trans (upf_ne (by omega))⟩
end
