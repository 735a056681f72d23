section
/-! checking: one relation for both sides. go: the type it is checked against, or none; r = 0, or 10 * place + reason -/
abbrev JX : Type := Int → (Int → Tm) → Int → Option Tm → Sx → Vx → Int → Int → Sx → Vx → Tm → Prop
def thJ (X : JX) (p : Int) (Γ : Int → Tm) (sc : Int) (go : Option Tm) (S : Sx) (V : Vx) (D r : Int) (K : Sx → Vx → Tm → Prop) : Prop := ∃ r1 S1 V1 t1, X p Γ sc go S V D r1 S1 V1 t1 ∧ ((r1 ≠ 0 ∧ r = r1) ∨ (r1 = 0 ∧ K S1 V1 t1))
def unJ (p : Int) (S : Sx) (V : Vx) (D : Int) (s t : Tm) (r : Int) (K : Sx → Prop) : Prop := (¬ Sat (Snd S s t) ∧ r = 10 * p + 3) ∨ (Sat (Snd S s t) ∧ FixS S (Snd S s t) V D ∧ r = 10 * p + 4) ∨ (Sat (Snd S s t) ∧ (¬ FixS S (Snd S s t) V D ∧ Ext1 S (Snd S s t) V D) ∧ K (Snd S s t))
def kiJ (X : JX) (e : Int → Int) (Γ : Int → Tm) (sc D r : Int) : List Tm → Int → Sx → Vx → (Sx → Vx → Prop) → Prop
  | [], _, S, V, K => K S V
  | t :: l, q, S, V, K => thJ X q Γ sc (some t) S V D r (fun S1 V1 _ => kiJ X e Γ sc D r l (e q) S1 V1 K)
theorem thJ_mono {X Y : JX} (h : ∀ p Γ sc go S V D r S' V' t, X p Γ sc go S V D r S' V' t → Y p Γ sc go S V D r S' V' t) {p : Int} {Γ : Int → Tm} {sc : Int} {go : Option Tm} {S : Sx} {V : Vx} {D r : Int} {K K' : Sx → Vx → Tm → Prop} (hk : ∀ S V t, K S V t → K' S V t) (H : thJ X p Γ sc go S V D r K) : thJ Y p Γ sc go S V D r K' := by
  obtain ⟨r1, S1, V1, t1, x, H⟩ := H
  refine ⟨r1, S1, V1, t1, h _ _ _ _ _ _ _ _ _ _ _ x, ?_⟩
  rcases H with H | ⟨a, k⟩
  · exact Or.inl H
  · exact Or.inr ⟨a, hk _ _ _ k⟩
theorem unJ_mono {p : Int} {S : Sx} {V : Vx} {D : Int} {s t : Tm} {r : Int} {K K' : Sx → Prop} (hk : ∀ S, K S → K' S) (H : unJ p S V D s t r K) : unJ p S V D s t r K' := by
  rcases H with H | H | ⟨a, b, c⟩
  · exact Or.inl H
  · exact Or.inr (Or.inl H)
  · exact Or.inr (Or.inr ⟨a, b, hk _ c⟩)
theorem kiJ_mono {X Y : JX} (h : ∀ p Γ sc go S V D r S' V' t, X p Γ sc go S V D r S' V' t → Y p Γ sc go S V D r S' V' t) {e : Int → Int} {Γ : Int → Tm} {sc D r : Int} : ∀ (l : List Tm) (q : Int) (S : Sx) (V : Vx) (K K' : Sx → Vx → Prop), (∀ S V, K S V → K' S V) → kiJ X e Γ sc D r l q S V K → kiJ Y e Γ sc D r l q S V K' := by
  intro l
  induction l with
  | nil => intro q S V K K' hk H; exact hk _ _ H
  | cons t l ih => intro q S V K K' hk H; exact thJ_mono h (fun S1 V1 _ H => ih _ _ _ _ _ hk H) H
/-- what is declared: bytes, lengths, parts of a C (67) or G (71); families -/
abbrev sgF (sb' : Int → Int → Int → Int) (ll pp : Int → Int → Int) (k j : Int) (mu : Int → Nat) : List Tm := (sgL (sb' k j) (ll k j) mu).take (pp k j).toNat
abbrev sgR' (sb' : Int → Int → Int → Int) (ll pp : Int → Int → Int) (k j : Int) (mu : Int → Nat) : Tm := sgI (sb' k j) (ll k j) mu (pp k j)
def exG (Γ : Int → Tm) (sc : Int) (l : List Tm) : Int → Tm := fun i => if sc ≤ i then l.getD (i - sc).toNat tI else Γ i
/-- whether a constructor that is not seen can have made it -/
def msJ (nC : Int) (sb' : Int → Int → Int → Int) (ll pp : Int → Int → Int) (fm : Int → Int) (seen : Int → Prop) (k : Int) (a : Tm) (S : Sx) (mu : Int → Nat) (j : Int) : Prop := (0 ≤ j ∧ j < nC) ∧ fm j = k - 3 ∧ ¬ seen j ∧ Sat (Snd S (sgR' sb' ll pp 67 j mu) a)
def caJ (B e : Int → Int) (nC : Int) (sb' : Int → Int → Int → Int) (ll pp : Int → Int → Int) (fm : Int → Int) (X : JX) (p : Int) (Γ : Int → Tm) (sc : Int) (S : Sx) (V : Vx) (D : Int) (g : Tm) (k : Int) (a : Tm) (r : Int) : Nat → Int → (Int → Prop) → Prop
  | 0, _, _ => False
  | f + 1, q, seen => (B q = 125 ∧ ∃ mu, FrN V mu ∧ (((∃ j, msJ nC sb' ll pp fm seen k a S mu j) ∧ r = 10 * p + 9) ∨ ((¬ ∃ j, msJ nC sb' ll pp fm seen k a S mu j) ∧ r = 0))) ∨
    (B q ≠ 125 ∧ (((fm (B q - 48) ≠ k - 3 ∨ seen (B q - 48)) ∧ r = 10 * q + 7) ∨
      ((fm (B q - 48) = k - 3 ∧ ¬ seen (B q - 48)) ∧ ∃ mu, FrN V mu ∧ ((¬ Sat (Snd S (sgR' sb' ll pp 67 (B q - 48) mu) a) ∧ r = 10 * q + 8) ∨
        ((Sat (Snd S (sgR' sb' ll pp 67 (B q - 48) mu) a) ∧ ClA (Snd S (sgR' sb' ll pp 67 (B q - 48) mu) a) (nV V mu (Oc (sb' 67 (B q - 48)) 0 (ll 67 (B q - 48))) (7, D + 1))) ∧ thJ X (q + 1) (exG Γ sc (sgF sb' ll pp 67 (B q - 48) mu)) (sc + pp 67 (B q - 48)) (some g) (Snd S (sgR' sb' ll pp 67 (B q - 48) mu) a) (nV V mu (Oc (sb' 67 (B q - 48)) 0 (ll 67 (B q - 48))) (7, D + 1)) (D + 1) r (fun _ _ _ => caJ B e nC sb' ll pp fm X p Γ sc S V D g k a r f (e (q + 1)) (fun j => seen j ∨ j = B q - 48)))))))
theorem caJ_mono {B e : Int → Int} {nC : Int} {sb' : Int → Int → Int → Int} {ll pp : Int → Int → Int} {fm : Int → Int} {X Y : JX} (h : ∀ p Γ sc go S V D r S' V' t, X p Γ sc go S V D r S' V' t → Y p Γ sc go S V D r S' V' t) {p : Int} {Γ : Int → Tm} {sc : Int} {S : Sx} {V : Vx} {D : Int} {g : Tm} {k : Int} {a : Tm} {r : Int} : ∀ (f : Nat) (q : Int) (seen : Int → Prop), caJ B e nC sb' ll pp fm X p Γ sc S V D g k a r f q seen → caJ B e nC sb' ll pp fm Y p Γ sc S V D g k a r f q seen := by
  intro f
  induction f with
  | zero => intro q seen H; exact H
  | succ f ih =>
    intro q seen H
    rcases H with H | ⟨c, H | ⟨c2, mu, fr, H | ⟨s, H⟩⟩⟩
    · exact Or.inl H
    · exact Or.inr ⟨c, Or.inl H⟩
    · exact Or.inr ⟨c, Or.inr ⟨c2, mu, fr, Or.inl H⟩⟩
    · exact Or.inr ⟨c, Or.inr ⟨c2, mu, fr, Or.inr ⟨s, thJ_mono h (fun _ _ _ H => ih _ _ H) H⟩⟩⟩
def lfT (c : Int) (Γ : Int → Tm) : Tm := if 97 ≤ c then Γ (c - 97) else if c = 84 ∨ c = 70 then tB else tI
def cllT (fm : Int → Int) (c j : Int) (t : Tm) : Tm := if c = 67 then tF (3 + fm j) t else t
def JN (B e : Int → Int) (sb' : Int → Int → Int → Int) (ll pp : Int → Int → Int) (fm : Int → Int) (X : JX) (p : Int) (Γ : Int → Tm) (sc : Int) (S : Sx) (V : Vx) (D r : Int) (S' : Sx) (V' : Vx) (t : Tm) : Prop :=
  (lfO (B p) sc ∧ r = 0 ∧ S' = S ∧ V' = V ∧ t = lfT (B p) Γ) ∨
  ((B p = 43 ∨ B p = 45 ∨ B p = 60 ∨ B p = 61) ∧ thJ X (p + 1) Γ sc (some tI) S V D r (fun S1 V1 _ => thJ X (e (p + 1)) Γ sc (some tI) S1 V1 D r (fun S2 V2 _ => r = 0 ∧ S' = S2 ∧ V' = V2 ∧ t = (if B p = 43 ∨ B p = 45 then tI else tB)))) ∨
  (B p = 63 ∧ thJ X (p + 1) Γ sc (some tB) S V D r (fun S1 V1 _ => thJ X (e (p + 1)) Γ sc none S1 V1 D r (fun S2 V2 t2 => thJ X (e (e (p + 1))) Γ sc (some t2) S2 V2 D r (fun S3 V3 _ => r = 0 ∧ S' = S3 ∧ V' = V3 ∧ t = t2)))) ∨
  (B p = 80 ∧ thJ X (p + 1) Γ sc none S V D r (fun S1 V1 a => thJ X (e (p + 1)) Γ sc none S1 V1 D r (fun S2 V2 b => r = 0 ∧ S' = S2 ∧ V' = V2 ∧ t = tP a b))) ∨
  ((B p = 76 ∨ B p = 82) ∧ thJ X (p + 1) Γ sc none S V D r (fun S1 V1 t1 => (∃ a b, EqS S1 t1 (tP a b) ∧ r = 0 ∧ S' = S1 ∧ V' = V1 ∧ t = (if B p = 76 then a else b)) ∨ ((¬ ∃ a b, EqS S1 t1 (tP a b)) ∧ ∃ m1 m2, m1 ≠ m2 ∧ (V1 m1).1 < 7 ∧ (V1 m2).1 < 7 ∧ unJ p S1 (upV (upV V1 m1 (8, D)) m2 (8, D)) D t1 (tP (tV m1) (tV m2)) r (fun S2 => r = 0 ∧ S' = S2 ∧ V' = upV (upV V1 m1 (8, D)) m2 (8, D) ∧ ∃ a b, EqS S2 t1 (tP a b) ∧ t = (if B p = 76 then a else b))))) ∨
  ((B p = 67 ∨ B p = 71) ∧ ∃ mu, FrN V mu ∧ kiJ X e Γ sc D r (sgF sb' ll pp (B p) (B (p + 1) - 48) mu) (p + 2) S (nV V mu (Oc (sb' (B p) (B (p + 1) - 48)) 0 (ll (B p) (B (p + 1) - 48))) (8, D)) (fun S2 V2 => r = 0 ∧ S' = S2 ∧ V' = V2 ∧ t = cllT fm (B p) (B (p + 1) - 48) (sgR' sb' ll pp (B p) (B (p + 1) - 48) mu))) ∨
  (B p = 77 ∧ r = 10 * p + 5)
def JC (B e : Int → Int) (nC : Int) (sb' : Int → Int → Int → Int) (ll pp : Int → Int → Int) (fm : Int → Int) (X : JX) (p : Int) (Γ : Int → Tm) (sc : Int) (g : Tm) (S : Sx) (V : Vx) (D r : Int) (S' : Sx) (V' : Vx) (t : Tm) : Prop :=
  (B p = 63 ∧ thJ X (p + 1) Γ sc (some tB) S V D r (fun S1 V1 _ => thJ X (e (p + 1)) Γ sc (some g) S1 V1 D r (fun S2 V2 _ => thJ X (e (e (p + 1))) Γ sc (some g) S2 V2 D r (fun S3 V3 _ => r = 0 ∧ S' = S3 ∧ V' = V3 ∧ t = g)))) ∨
  (B p = 80 ∧ ∃ a b, EqS S g (tP a b) ∧ thJ X (p + 1) Γ sc (some a) S V D r (fun S1 V1 _ => thJ X (e (p + 1)) Γ sc (some b) S1 V1 D r (fun S2 V2 _ => r = 0 ∧ S' = S2 ∧ V' = V2 ∧ t = g))) ∨
  ((B p = 67 ∨ B p = 71) ∧ ∃ mu, FrN V mu ∧ unJ p S (nV V mu (Oc (sb' (B p) (B (p + 1) - 48)) 0 (ll (B p) (B (p + 1) - 48))) (8, D)) D (cllT fm (B p) (B (p + 1) - 48) (sgR' sb' ll pp (B p) (B (p + 1) - 48) mu)) g r (fun S1 => kiJ X e Γ sc D r (sgF sb' ll pp (B p) (B (p + 1) - 48) mu) (p + 2) S1 (nV V mu (Oc (sb' (B p) (B (p + 1) - 48)) 0 (ll (B p) (B (p + 1) - 48))) (8, D)) (fun S2 V2 => r = 0 ∧ S' = S2 ∧ V' = V2 ∧ t = g))) ∨
  (B p = 77 ∧ thJ X (p + 1) Γ sc none S V D r (fun S1 V1 t1 => ((¬ ∃ k a, (3 ≤ k ∧ k ≤ 6) ∧ EqS S1 t1 (tF k a) ∧ Kn S1 V1 a) ∧ r = 10 * p + 6) ∨ (∃ k a, (3 ≤ k ∧ k ≤ 6) ∧ EqS S1 t1 (tF k a) ∧ Kn S1 V1 a ∧ S' = S1 ∧ V' = V1 ∧ t = g ∧ ∃ f, caJ B e nC sb' ll pp fm X p Γ sc S1 V1 D g k a r f (e (p + 1) + 1) (fun _ => False)))) ∨
  ((B p ≠ 63 ∧ B p ≠ 67 ∧ B p ≠ 71 ∧ B p ≠ 77 ∧ (B p = 80 → ¬ ∃ a b, EqS S g (tP a b))) ∧ thJ X p Γ sc none S V D r (fun S1 V1 t1 => unJ p S1 V1 D t1 g r (fun S2 => r = 0 ∧ S' = S2 ∧ V' = V1 ∧ t = g)))
def JF (B e : Int → Int) (nC : Int) (sb' : Int → Int → Int → Int) (ll pp : Int → Int → Int) (fm : Int → Int) (X : JX) : JX := fun p Γ sc go S V D r S' V' t => match go with
  | none => JN B e sb' ll pp fm X p Γ sc S V D r S' V' t
  | some g => JC B e nC sb' ll pp fm X p Γ sc g S V D r S' V' t
theorem JF_mono {B e : Int → Int} {nC : Int} {sb' : Int → Int → Int → Int} {ll pp : Int → Int → Int} {fm : Int → Int} {X Y : JX} (h : ∀ p Γ sc go S V D r S' V' t, X p Γ sc go S V D r S' V' t → Y p Γ sc go S V D r S' V' t) {p : Int} {Γ : Int → Tm} {sc : Int} {go : Option Tm} {S : Sx} {V : Vx} {D r : Int} {S' : Sx} {V' : Vx} {t : Tm} (H : JF B e nC sb' ll pp fm X p Γ sc go S V D r S' V' t) : JF B e nC sb' ll pp fm Y p Γ sc go S V D r S' V' t := by
  match go, H with
  | none, H =>
    rcases H with H | ⟨c, H⟩ | ⟨c, H⟩ | ⟨c, H⟩ | ⟨c, H⟩ | ⟨c, mu, fr, H⟩ | H
    · exact Or.inl H
    · exact Or.inr (Or.inl ⟨c, thJ_mono h (fun _ _ _ H => thJ_mono h (fun _ _ _ H => H) H) H⟩)
    · exact Or.inr (Or.inr (Or.inl ⟨c, thJ_mono h (fun _ _ _ H => thJ_mono h (fun _ _ _ H => thJ_mono h (fun _ _ _ H => H) H) H) H⟩))
    · exact Or.inr (Or.inr (Or.inr (Or.inl ⟨c, thJ_mono h (fun _ _ _ H => thJ_mono h (fun _ _ _ H => H) H) H⟩)))
    · exact Or.inr (Or.inr (Or.inr (Or.inr (Or.inl ⟨c, thJ_mono h (fun _ _ _ H => H) H⟩))))
    · exact Or.inr (Or.inr (Or.inr (Or.inr (Or.inr (Or.inl ⟨c, mu, fr, kiJ_mono h _ _ _ _ _ _ (fun _ _ H => H) H⟩)))))
    · exact Or.inr (Or.inr (Or.inr (Or.inr (Or.inr (Or.inr H)))))
  | some g, H =>
    rcases H with ⟨c, H⟩ | ⟨c, a, b, e1, H⟩ | ⟨c, mu, fr, H⟩ | ⟨c, H⟩ | ⟨c, H⟩
    · exact Or.inl ⟨c, thJ_mono h (fun _ _ _ H => thJ_mono h (fun _ _ _ H => thJ_mono h (fun _ _ _ H => H) H) H) H⟩
    · exact Or.inr (Or.inl ⟨c, a, b, e1, thJ_mono h (fun _ _ _ H => thJ_mono h (fun _ _ _ H => H) H) H⟩)
    · exact Or.inr (Or.inr (Or.inl ⟨c, mu, fr, unJ_mono (fun _ H => kiJ_mono h _ _ _ _ _ _ (fun _ _ H => H) H) H⟩))
    · refine Or.inr (Or.inr (Or.inr (Or.inl ⟨c, thJ_mono h (fun _ _ _ H => ?_) H⟩)))
      rcases H with H | ⟨k, a, k1, k2, k3, k4, k5, k6, f, H⟩
      · exact Or.inl H
      · exact Or.inr ⟨k, a, k1, k2, k3, k4, k5, k6, f, caJ_mono h _ _ _ H⟩
    · exact Or.inr (Or.inr (Or.inr (Or.inr ⟨c, thJ_mono h (fun _ _ _ H => H) H⟩)))
def JJ (B e : Int → Int) (nC : Int) (sb' : Int → Int → Int → Int) (ll pp : Int → Int → Int) (fm : Int → Int) : JX := fun p Γ sc go S V D r S' V' t => ∃ X : JX, (∀ p Γ sc go S V D r S' V' t, X p Γ sc go S V D r S' V' t → JF B e nC sb' ll pp fm X p Γ sc go S V D r S' V' t) ∧ X p Γ sc go S V D r S' V' t
theorem JJ_out {B e : Int → Int} {nC : Int} {sb' : Int → Int → Int → Int} {ll pp : Int → Int → Int} {fm : Int → Int} {p : Int} {Γ : Int → Tm} {sc : Int} {go : Option Tm} {S : Sx} {V : Vx} {D r : Int} {S' : Sx} {V' : Vx} {t : Tm} (H : JJ B e nC sb' ll pp fm p Γ sc go S V D r S' V' t) : JF B e nC sb' ll pp fm (JJ B e nC sb' ll pp fm) p Γ sc go S V D r S' V' t := by
  obtain ⟨X, cl, x⟩ := H
  exact JF_mono (fun p Γ sc go S V D r S' V' t y => ⟨X, cl, y⟩) (cl _ _ _ _ _ _ _ _ _ _ _ x)
theorem JJ_in {B e : Int → Int} {nC : Int} {sb' : Int → Int → Int → Int} {ll pp : Int → Int → Int} {fm : Int → Int} {p : Int} {Γ : Int → Tm} {sc : Int} {go : Option Tm} {S : Sx} {V : Vx} {D r : Int} {S' : Sx} {V' : Vx} {t : Tm} (H : JF B e nC sb' ll pp fm (JJ B e nC sb' ll pp fm) p Γ sc go S V D r S' V' t) : JJ B e nC sb' ll pp fm p Γ sc go S V D r S' V' t :=
  ⟨JF B e nC sb' ll pp fm (JJ B e nC sb' ll pp fm), fun _ _ _ _ _ _ _ _ _ _ _ x => JF_mono (fun _ _ _ _ _ _ _ _ _ _ _ y => JJ_out y) x, H⟩
end
