section
/-! reading an expression: one relation for both sides. r is where it ends, or -(2 * place + reason) -/
abbrev XR : Type := Int → Int → Int → Int → Int → Int → Prop
def pO (c : Int) : Int := if c = 76 ∨ c = 82 then 1 else if c = 43 ∨ c = 45 ∨ c = 60 ∨ c = 61 ∨ c = 80 then 2 else if c = 63 then 3 else 0
def lfO (c sc : Int) : Prop := (48 ≤ c ∧ c ≤ 57) ∨ c = 84 ∨ c = 70 ∨ (97 ≤ c ∧ c ≤ 122 ∧ c - 97 < sc)
def okD (B : Int → Int) (nP : Int → Int) (k q : Int) : Prop := 48 ≤ B q ∧ B q ≤ 57 ∧ B q - 48 < nP k
def CHN (X : XR) : Nat → XR
  | 0, q, _, w, r, w', m => r = q ∧ w' = w ∧ m = 0
  | j + 1, q, sc, w, r, w', m => ∃ r1 w1 m1, X q sc w r1 w1 m1 ∧ ((r1 < 0 ∧ r = r1) ∨ (0 ≤ r1 ∧ ∃ m2, CHN X j r1 sc w1 r w' m2 ∧ m = m1 + m2))
def CAS (B : Int → Int) (nP : Int → Int) (pp ll : Int → Int → Int) (X : XR) : Nat → XR
  | 0, _, _, _, _, _, _ => False
  | f + 1, q, sc, w, r, w', m => (B q = 125 ∧ r = q + 1 ∧ w' = w ∧ m = 0) ∨ (B q ≠ 125 ∧ ((¬ okD B nP 67 q ∧ r = -1 - 2 * q) ∨ (okD B nP 67 q ∧ 240 < w + ll 67 (B q - 48) ∧ r = -2 - 2 * q) ∨ (okD B nP 67 q ∧ w + ll 67 (B q - 48) ≤ 240 ∧ ∃ r1 w1 m1, X (q + 1) (sc + pp 67 (B q - 48)) (w + ll 67 (B q - 48)) r1 w1 m1 ∧ ((r1 < 0 ∧ r = r1) ∨ (0 ≤ r1 ∧ ∃ m2, CAS B nP pp ll X f r1 sc w1 r w' m2 ∧ m = m1 + m2)))))
def RDF (B e : Int → Int) (nP : Int → Int) (pp ll : Int → Int → Int) (X : XR) : XR := fun p sc w r w' m =>
  (0 ≤ r → p < r ∧ e p = r) ∧
  ((¬ lfO (B p) sc ∧ pO (B p) = 0 ∧ B p ≠ 67 ∧ B p ≠ 71 ∧ B p ≠ 77 ∧ r = -1 - 2 * p) ∨
  (lfO (B p) sc ∧ r = p + 1 ∧ w' = w ∧ m = 1) ∨
  (0 < pO (B p) ∧ ∃ m1, CHN X (pO (B p)).toNat (p + 1) sc w r w' m1 ∧ m = 1 + m1) ∨
  ((B p = 67 ∨ B p = 71) ∧ ((¬ okD B nP (B p) (p + 1) ∧ r = -1 - 2 * (p + 1)) ∨ (okD B nP (B p) (p + 1) ∧ 240 < w + ll (B p) (B (p + 1) - 48) ∧ r = -2 - 2 * (p + 1)) ∨ (okD B nP (B p) (p + 1) ∧ w + ll (B p) (B (p + 1) - 48) ≤ 240 ∧ ∃ m1, CHN X (pp (B p) (B (p + 1) - 48)).toNat (p + 2) sc (w + ll (B p) (B (p + 1) - 48)) r w' m1 ∧ m = 1 + m1))) ∨
  (B p = 77 ∧ ∃ r1 w1 m1, X (p + 1) sc w r1 w1 m1 ∧ ((r1 < 0 ∧ r = r1) ∨ (0 ≤ r1 ∧ B r1 ≠ 123 ∧ r = -1 - 2 * r1) ∨ (0 ≤ r1 ∧ B r1 = 123 ∧ ∃ (f : Nat) (m2 : Int), CAS B nP pp ll X f (r1 + 1) sc w1 r w' m2 ∧ m = 1 + m1 + m2))))
theorem CHN_mono {X Y : XR} (h : ∀ p sc w r w' m, X p sc w r w' m → Y p sc w r w' m) : ∀ (j : Nat) (q sc w r w' m : Int), CHN X j q sc w r w' m → CHN Y j q sc w r w' m := by
  intro j
  induction j with
  | zero => intro q sc w r w' m H; exact H
  | succ j ih =>
    intro q sc w r w' m H
    obtain ⟨r1, w1, m1, x, H⟩ := H
    refine ⟨r1, w1, m1, h _ _ _ _ _ _ x, ?_⟩
    rcases H with H | ⟨a, m2, c, e⟩
    · exact Or.inl H
    · exact Or.inr ⟨a, m2, ih _ _ _ _ _ _ c, e⟩
theorem CAS_mono {B : Int → Int} {nP : Int → Int} {pp ll : Int → Int → Int} {X Y : XR} (h : ∀ p sc w r w' m, X p sc w r w' m → Y p sc w r w' m) : ∀ (f : Nat) (q sc w r w' m : Int), CAS B nP pp ll X f q sc w r w' m → CAS B nP pp ll Y f q sc w r w' m := by
  intro f
  induction f with
  | zero => intro q sc w r w' m H; exact H
  | succ f ih =>
    intro q sc w r w' m H
    rcases H with H | ⟨n, H | H | ⟨ok, hw, r1, w1, m1, x, H⟩⟩
    · exact Or.inl H
    · exact Or.inr ⟨n, Or.inl H⟩
    · exact Or.inr ⟨n, Or.inr (Or.inl H)⟩
    · refine Or.inr ⟨n, Or.inr (Or.inr ⟨ok, hw, r1, w1, m1, h _ _ _ _ _ _ x, ?_⟩)⟩
      rcases H with H | ⟨a, m2, c, e⟩
      · exact Or.inl H
      · exact Or.inr ⟨a, m2, ih _ _ _ _ _ _ c, e⟩
theorem RDF_mono {B e : Int → Int} {nP : Int → Int} {pp ll : Int → Int → Int} {X Y : XR} (h : ∀ p sc w r w' m, X p sc w r w' m → Y p sc w r w' m) {p sc w r w' m : Int} (H : RDF B e nP pp ll X p sc w r w' m) : RDF B e nP pp ll Y p sc w r w' m := by
  obtain ⟨b, H⟩ := H
  refine ⟨b, ?_⟩
  rcases H with H | H | ⟨a, m1, c, e⟩ | ⟨a, H | H | ⟨ok, hw, m1, c, e⟩⟩ | ⟨a, r1, w1, m1, x, H⟩
  · exact Or.inl H
  · exact Or.inr (Or.inl H)
  · exact Or.inr (Or.inr (Or.inl ⟨a, m1, CHN_mono h _ _ _ _ _ _ _ c, e⟩))
  · exact Or.inr (Or.inr (Or.inr (Or.inl ⟨a, Or.inl H⟩)))
  · exact Or.inr (Or.inr (Or.inr (Or.inl ⟨a, Or.inr (Or.inl H)⟩)))
  · exact Or.inr (Or.inr (Or.inr (Or.inl ⟨a, Or.inr (Or.inr ⟨ok, hw, m1, CHN_mono h _ _ _ _ _ _ _ c, e⟩)⟩)))
  · refine Or.inr (Or.inr (Or.inr (Or.inr ⟨a, r1, w1, m1, h _ _ _ _ _ _ x, ?_⟩)))
    rcases H with H | H | ⟨p1, p2, f, m2, c, e⟩
    · exact Or.inl H
    · exact Or.inr (Or.inl H)
    · exact Or.inr (Or.inr ⟨p1, p2, f, m2, CAS_mono h _ _ _ _ _ _ _ c, e⟩)
def RD (B e : Int → Int) (nP : Int → Int) (pp ll : Int → Int → Int) : XR := fun p sc w r w' m => ∃ X : XR, (∀ q s v t v' k, X q s v t v' k → RDF B e nP pp ll X q s v t v' k) ∧ X p sc w r w' m
theorem RD_out {B e : Int → Int} {nP : Int → Int} {pp ll : Int → Int → Int} {p sc w r w' m : Int} (H : RD B e nP pp ll p sc w r w' m) : RDF B e nP pp ll (RD B e nP pp ll) p sc w r w' m := by
  obtain ⟨X, cl, x⟩ := H
  exact RDF_mono (fun q s v t v' k y => ⟨X, cl, y⟩) (cl _ _ _ _ _ _ x)
theorem RD_in {B e : Int → Int} {nP : Int → Int} {pp ll : Int → Int → Int} {p sc w r w' m : Int} (H : RDF B e nP pp ll (RD B e nP pp ll) p sc w r w' m) : RD B e nP pp ll p sc w r w' m :=
  ⟨RDF B e nP pp ll (RD B e nP pp ll), fun _ _ _ _ _ _ x => RDF_mono (fun _ _ _ _ _ _ y => RD_out y) x, H⟩
/-- the byte at a place as both sides see it -/
def bA (b : Int → Int) (n p : Int) : Int := if 0 ≤ p ∧ p < n then b p else -1
theorem bA_in {b : Int → Int} {n p : Int} (h0 : 0 ≤ p) (h1 : p < n) : bA b n p = b p := if_pos ⟨h0, h1⟩
theorem bA_out {b : Int → Int} {n p : Int} (h : p < 0 ∨ n ≤ p) : bA b n p = -1 := if_neg (by omega)
theorem bA_lt {b : Int → Int} {n p : Int} (h : bA b n p ≠ -1) : 0 ≤ p ∧ p < n := by
  rcases Classical.em (0 ≤ p ∧ p < n) with z | z
  · exact z
  · exact absurd (bA_out (by omega)) h
theorem lfO_ne {c sc : Int} (h : lfO c sc) : c ≠ -1 ∧ c ≠ 67 ∧ c ≠ 71 ∧ c ≠ 77 ∧ c ≠ 123 ∧ c ≠ 125 := by unfold lfO at h; omega
theorem pO_r (c : Int) : 0 ≤ pO c ∧ pO c ≤ 3 := by
  unfold pO
  split
  · omega
  · split
    · omega
    · split <;> omega
theorem pO_ne {c : Int} (h : 0 < pO c) : c ≠ -1 ∧ c ≠ 67 ∧ c ≠ 71 ∧ c ≠ 77 := by
  unfold pO at h
  split at h
  · omega
  · split at h
    · omega
    · split at h <;> omega
/-- the declared ones, as a reader sees them -/
def nPr (h : HP) (k : Int) : Int := if k = 71 then h 36 5 else h 36 4
def ppr (h : HP) (k j : Int) : Int := if k = 71 then h (61 + 5 * j) 2 else h (41 + 2 * j) 2
def llr (h : HP) (k j : Int) : Int := if k = 71 then h (61 + 5 * j) 1 else h (41 + 2 * j) 1
end
