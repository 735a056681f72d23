section
/-! frames that look at the types' cells alone -/
def ExB (T : Int) (h h' : HP) : Prop := (h T 13 ≤ h' T 13 ∧ h T 14 ≤ h' T 14 ∧ h' T 15 = h T 15) ∧ (∀ i, 0 ≤ i → i < h T 13 → h' (T + 3) i = h (T + 3) i ∧ h' (T + 4) i = h (T + 4) i ∧ h' (T + 5) i = h (T + 5) i ∧ h' (T + 6) i = h (T + 6) i) ∧ (∀ i, 0 ≤ i → i < h T 14 → h' (T + 11) i = h (T + 11) i ∧ h' (T + 12) i = h (T + 12) i ∧ h' (T + 13) i = h (T + 13) i) ∧ (∀ i, 0 ≤ i → i < h T 15 → h' (T + 1) i = h (T + 1) i ∧ h' (T + 2) i = h (T + 2) i) ∧ Ag (h T 13) (UN (h' (T + 11)) (h' (T + 12)) (h' (T + 13)) (h' T 14) (h' T 14 - h T 14).toNat (ar4 h' T)) (ar4 h T)
theorem ExC_ExB {T : Int} {h h' : HP} (X : ExC T h h') : ExB T h h' := by
  obtain ⟨a, b, c, e, f, _⟩ := X
  exact ⟨a, b, c, e, f⟩
theorem ExB_ExC {T : Int} {h h' : HP} (X : ExB T h h') (o : ∀ a i, (a < T ∨ T + 24 < a) → h' a i = h a i) : ExC T h h' := by
  obtain ⟨a, b, c, e, f⟩ := X
  exact ⟨a, b, c, e, f, o⟩
/-- cells T .. T+13 the same -/
def LcC (T : Int) (h h' : HP) : Prop := ∀ a i, T ≤ a → a ≤ T + 13 → h' a i = h a i
theorem LcC_row {T : Int} {h h' : HP} (s : LcC T h h') (k : Int) (k0 : 0 ≤ k) (hk : k ≤ 13) : h' (T + k) = h (T + k) := funext fun i => s _ i (by omega) (by omega)
theorem LcC_symm {T : Int} {h h' : HP} (s : LcC T h h') : LcC T h' h := fun a i p q => (s a i p q).symm
theorem FB_loc {T R n L : Int} {h h' : HP} {c : Int → Int} (s : LcC T h h') (F : FB h T R n L c) : FB h' T R n L c := by
  have f : ∀ i, h' T i = h T i := fun i => s T i (by omega) (by omega)
  unfold FB ar4 at *
  rw [f 13, f 14, LcC_row s 3 (by omega) (by omega), LcC_row s 7 (by omega) (by omega), LcC_row s 8 (by omega) (by omega), LcC_row s 9 (by omega) (by omega), LcC_row s 10 (by omega) (by omega), LcC_row s 11 (by omega) (by omega), LcC_row s 12 (by omega) (by omega), LcC_row s 13 (by omega) (by omega)]
  exact F
theorem CW_loc {T R : Int} {h h' : HP} {tm : Int → Tm} {S : Sx} {c : Int → Int} (s : LcC T h h') (W : CW h T R tm S c) : CW h' T R tm S c := by
  have f : ∀ i, h' T i = h T i := fun i => s T i (by omega) (by omega)
  obtain ⟨a, b⟩ := W
  refine ⟨by rw [f, f]; exact FB_loc s a, ?_⟩
  rw [f 13, f 15, LcC_row s 3 (by omega) (by omega), LcC_row s 4 (by omega) (by omega), LcC_row s 5 (by omega) (by omega), LcC_row s 6 (by omega) (by omega)]
  exact b
theorem ExB_loc {T : Int} {h h1 h' h2 : HP} (s1 : LcC T h h1) (s2 : LcC T h' h2) (X : ExB T h h') : ExB T h1 h2 := by
  have f : ∀ i, h1 T i = h T i := fun i => s1 T i (by omega) (by omega)
  have g : ∀ i, h2 T i = h' T i := fun i => s2 T i (by omega) (by omega)
  unfold ExB ar4 at *
  rw [f 13, f 14, f 15, g 13, g 14, g 15, LcC_row s1 1 (by omega) (by omega), LcC_row s1 2 (by omega) (by omega), LcC_row s1 3 (by omega) (by omega), LcC_row s1 4 (by omega) (by omega), LcC_row s1 5 (by omega) (by omega), LcC_row s1 6 (by omega) (by omega), LcC_row s1 7 (by omega) (by omega), LcC_row s1 8 (by omega) (by omega), LcC_row s1 9 (by omega) (by omega), LcC_row s1 10 (by omega) (by omega), LcC_row s1 11 (by omega) (by omega), LcC_row s1 12 (by omega) (by omega), LcC_row s1 13 (by omega) (by omega), LcC_row s2 1 (by omega) (by omega), LcC_row s2 2 (by omega) (by omega), LcC_row s2 3 (by omega) (by omega), LcC_row s2 4 (by omega) (by omega), LcC_row s2 5 (by omega) (by omega), LcC_row s2 6 (by omega) (by omega), LcC_row s2 7 (by omega) (by omega), LcC_row s2 8 (by omega) (by omega), LcC_row s2 9 (by omega) (by omega), LcC_row s2 10 (by omega) (by omega), LcC_row s2 11 (by omega) (by omega), LcC_row s2 12 (by omega) (by omega), LcC_row s2 13 (by omega) (by omega)]
  exact X
def mxC (T : Int) (h0 h : HP) : HP := fun a i => if T ≤ a ∧ a ≤ T + 24 then h0 a i else h a i
theorem mxC_in {T : Int} {h0 h : HP} {a i : Int} (p : T ≤ a) (q : a ≤ T + 24) : mxC T h0 h a i = h0 a i := if_pos ⟨p, q⟩
theorem mxC_out {T : Int} {h0 h : HP} {a i : Int} (p : a < T ∨ T + 24 < a) : mxC T h0 h a i = h a i := if_neg (by omega)
theorem opH_loc {T : Int} {h h' : HP} (s : LcC T h h') : LcC T (opH h T) (opH h' T) := by
  have f : ∀ i, h' T i = h T i := fun i => s T i (by omega) (by omega)
  intro a i p q
  unfold opH
  rw [f 13, f 14, f 15]
  unfold up2
  split
  · rfl
  · split
    · rfl
    · split
      · rfl
      · exact s a i p q
theorem ExB_trans {T R n L : Int} {h h' h'' : HP} {c : Int → Int} (F : FB h' T R n L c) (h0 : 0 ≤ h T 14) (a : ExB T h h') (b : ExB T h' h'') : ExB T h h'' := by
  -- by heaps that agree outside
  have X1 : ExC T (mxC T h h'') (mxC T h' h'') := ExB_ExC (ExB_loc (fun x i p q => mxC_in p (by omega)) (fun x i p q => mxC_in p (by omega)) a) (fun x i p => by rw [mxC_out p, mxC_out p])
  have X2 : ExC T (mxC T h' h'') h'' := ExB_ExC (ExB_loc (fun x i p q => mxC_in p (by omega)) (fun x i p q => rfl) b) (fun x i p => by rw [mxC_out p])
  have F2 : FB (mxC T h' h'') T R n L c := FB_loc (fun x i p q => mxC_in p (by omega)) F
  have := ExC_ExB (ExC_trans F2 (by rw [mxC_in (Int.le_refl _) (by omega)]; exact h0) X1 X2)
  exact ExB_loc (fun x i p q => (mxC_in p (by omega)).symm) (fun x i p q => rfl) this
theorem c_closeB {d : Nat} {h0 h : HP} {T R : Int} {tm : Int → Tm} {S : Sx} {c c' : Int → Int} {n L : Int} {Q : PQ} (hd : 0 < d) (W : CW h0 T R tm S c) (h15 : h0 T 15 < 32) (X : ExB T (opH h0 T) h) (F : FB h T R n L c')
    (H : ∀ h', CW h' T R tm S c → ExB T h0 h' → h' T 13 = h0 T 13 → h' T 14 = h0 T 14 → (∀ a i, (a < T ∨ T + 13 < a) → h' a i = h a i) → Q 0 h') : Go d M_Types_closeBranch 0 [(17, T)] [] h Q := by
  have lc : LcC T h0 (mxC T h0 h) := fun x i p q => mxC_in p (by omega)
  have W' := CW_loc lc W
  have X' : ExC T (opH (mxC T h0 h) T) h := ExB_ExC (ExB_loc (opH_loc lc) (fun x i p q => rfl) X) (fun x i p => by rw [opH_o (by omega) (by omega) (by omega), mxC_out p])
  have e : ∀ i, mxC T h0 h T i = h0 T i := fun i => mxC_in (Int.le_refl _) (by omega)
  refine c_close hd W' (by rw [e]; exact h15) X' F (fun h' W2 X2 a b o => H h' W2 ?_ (by rw [a, e]) (by rw [b, e]) (fun x i p => ?_))
  · exact ExB_loc (LcC_symm lc) (fun x i p q => rfl) (ExC_ExB X2)
  · rcases Int.lt_or_le x (T + 14) with z | z
    · rw [X2.2.2.2.2.2 x i (by omega), mxC_out (by omega)]
    · rcases Int.lt_or_le (T + 24) x with y | y
      · rw [X2.2.2.2.2.2 x i (by omega), mxC_out (by omega)]
      · exact o x i z y
/-! the reference's -/
def ExN (h h' : HP) : Prop := (h' 135 14 = h 135 14 ∧ h' 135 16 = h 135 16 ∧ h' 135 18 = h 135 18 ∧ h' 135 19 = h 135 19) ∧ h 135 15 ≤ h' 135 15 ∧ h 135 17 ≤ h' 135 17 ∧ (∀ i, i < h 135 15 → h' 137 i = h 137 i ∧ h' 138 i = h 138 i ∧ h' 139 i = h 139 i ∧ h' 140 i = h 140 i) ∧ (∀ i, i < h 135 17 → h' 146 i = h 146 i ∧ h' 147 i = h 147 i) ∧ (∀ i, i < h 135 19 + h 135 18 → h' 148 i = h 148 i ∧ h' 149 i = h 149 i) ∧ (∀ i, i < h 135 14 → h' 141 i = h 141 i ∧ h' 142 i = h 142 i)
theorem ExM_ExN {h h' : HP} (X : ExM h h') : ExN h h' := by
  obtain ⟨a, b, c, e, f, g, _, k⟩ := X
  exact ⟨⟨a 14 (by decide) (by decide), a 16 (by decide) (by decide), a 18 (by decide) (by decide), a 19 (by decide) (by decide)⟩, b, c, e, f, g, k⟩
/-- the reference's cells of types the same -/
def LcM (h h' : HP) : Prop := (∀ i, 14 ≤ i → i ≤ 19 → h' 135 i = h 135 i) ∧ ∀ a i, 137 ≤ a → a ≤ 142 ∨ 146 ≤ a → a ≤ 149 → h' a i = h a i
theorem LcM_symm {h h' : HP} (s : LcM h h') : LcM h' h := ⟨fun i p q => (s.1 i p q).symm, fun a i p q r => (s.2 a i p q r).symm⟩
theorem LcM_row {h h' : HP} (s : LcM h h') (a : Int) (p : 137 ≤ a) (q : a ≤ 142 ∨ 146 ≤ a) (r : a ≤ 149) : h' a = h a := funext fun i => s.2 a i p q r
theorem RW_loc {h h' : HP} {tm : Int → Tm} {S : Sx} (s : LcM h h') (R : RW h tm S) : RW h' tm S := by
  unfold RW RC RB EqIn SolR at *
  rw [s.1 14 (by omega) (by omega), s.1 15 (by omega) (by omega), s.1 16 (by omega) (by omega), s.1 17 (by omega) (by omega), LcM_row s 137 (by omega) (by omega) (by omega), LcM_row s 138 (by omega) (by omega) (by omega), LcM_row s 139 (by omega) (by omega) (by omega), LcM_row s 140 (by omega) (by omega) (by omega), LcM_row s 141 (by omega) (by omega) (by omega), LcM_row s 142 (by omega) (by omega) (by omega), LcM_row s 146 (by omega) (by omega) (by omega), LcM_row s 147 (by omega) (by omega) (by omega)]
  exact R
theorem ExN_loc {h h1 h' h2 : HP} (s1 : LcM h h1) (s2 : LcM h' h2) (X : ExN h h') : ExN h1 h2 := by
  unfold ExN at *
  rw [s1.1 14 (by omega) (by omega), s1.1 15 (by omega) (by omega), s1.1 16 (by omega) (by omega), s1.1 17 (by omega) (by omega), s1.1 18 (by omega) (by omega), s1.1 19 (by omega) (by omega), s2.1 14 (by omega) (by omega), s2.1 15 (by omega) (by omega), s2.1 16 (by omega) (by omega), s2.1 17 (by omega) (by omega), s2.1 18 (by omega) (by omega), s2.1 19 (by omega) (by omega), LcM_row s1 137 (by omega) (by omega) (by omega), LcM_row s1 138 (by omega) (by omega) (by omega), LcM_row s1 139 (by omega) (by omega) (by omega), LcM_row s1 140 (by omega) (by omega) (by omega), LcM_row s1 141 (by omega) (by omega) (by omega), LcM_row s1 142 (by omega) (by omega) (by omega), LcM_row s1 146 (by omega) (by omega) (by omega), LcM_row s1 147 (by omega) (by omega) (by omega), LcM_row s1 148 (by omega) (by omega) (by omega), LcM_row s1 149 (by omega) (by omega) (by omega), LcM_row s2 137 (by omega) (by omega) (by omega), LcM_row s2 138 (by omega) (by omega) (by omega), LcM_row s2 139 (by omega) (by omega) (by omega), LcM_row s2 140 (by omega) (by omega) (by omega), LcM_row s2 141 (by omega) (by omega) (by omega), LcM_row s2 142 (by omega) (by omega) (by omega), LcM_row s2 146 (by omega) (by omega) (by omega), LcM_row s2 147 (by omega) (by omega) (by omega), LcM_row s2 148 (by omega) (by omega) (by omega), LcM_row s2 149 (by omega) (by omega) (by omega)]
  exact X
theorem ExN_trans {h h' h'' : HP} (a : ExN h h') (b : ExN h' h'') : ExN h h'' := by
  obtain ⟨⟨a1, a1b, a1c, a1d⟩, a2, a3, a4, a5, a6, a8⟩ := a
  obtain ⟨⟨b1, b1b, b1c, b1d⟩, b2, b3, b4, b5, b6, b8⟩ := b
  refine ⟨⟨by omega, by omega, by omega, by omega⟩, by omega, by omega, fun i p => ?_, fun i p => ?_, fun i p => ?_, fun i p => ?_⟩
  · obtain ⟨x1, x2, x3, x4⟩ := a4 i p
    obtain ⟨y1, y2, y3, y4⟩ := b4 i (by omega)
    exact ⟨y1.trans x1, y2.trans x2, y3.trans x3, y4.trans x4⟩
  · obtain ⟨x1, x2⟩ := a5 i p
    obtain ⟨y1, y2⟩ := b5 i (by omega)
    exact ⟨y1.trans x1, y2.trans x2⟩
  · obtain ⟨x1, x2⟩ := a6 i p
    obtain ⟨y1, y2⟩ := b6 i (by omega)
    exact ⟨y1.trans x1, y2.trans x2⟩
  · obtain ⟨x1, x2⟩ := a8 i p
    obtain ⟨y1, y2⟩ := b8 i (by omega)
    exact ⟨y1.trans x1, y2.trans x2⟩
def mxM (h0 h : HP) : HP := fun a i => if (a = 135 ∧ 14 ≤ i ∧ i ≤ 19) ∨ (137 ≤ a ∧ a ≤ 149) then h0 a i else h a i
theorem mxM_in {h0 h : HP} {a i : Int} (p : (a = 135 ∧ 14 ≤ i ∧ i ≤ 19) ∨ (137 ≤ a ∧ a ≤ 149)) : mxM h0 h a i = h0 a i := if_pos p
theorem mxM_out {h0 h : HP} {a i : Int} (p : ¬ ((a = 135 ∧ 14 ≤ i ∧ i ≤ 19) ∨ (137 ≤ a ∧ a ≤ 149))) : mxM h0 h a i = h a i := if_neg p
theorem brH_loc {h h' : HP} (s : LcM h h') : LcM (brH h) (brH h') := by
  constructor
  · intro i p q
    unfold brH
    rw [s.1 15 (by omega) (by omega), s.1 17 (by omega) (by omega), s.1 18 (by omega) (by omega), s.1 19 (by omega) (by omega)]
    unfold up2
    split
    · rfl
    · split
      · rfl
      · split
        · rfl
        · exact s.1 i p q
  · intro a i p q r
    unfold brH
    rw [s.1 15 (by omega) (by omega), s.1 17 (by omega) (by omega), s.1 18 (by omega) (by omega), s.1 19 (by omega) (by omega)]
    unfold up2
    split
    · rfl
    · split
      · rfl
      · split
        · rfl
        · exact s.2 a i p q r
theorem c_unbranchesB {d : Nat} {tm : Int → Tm} {S : Sx} {h0 h : HP} {Q : PQ} (hd : 5 < d) (R : RW h0 tm S) (m1 : 0 ≤ h0 135 19 + h0 135 18) (m2 : h0 135 19 + h0 135 18 < 80) (h18 : 0 ≤ h0 135 18 ∧ h0 135 18 ≤ 99) (X : ExN (brH h0) h) (hh : h 135 15 ≤ 1000)
    (H : ∀ h', RW h' tm S → ExN h0 h' → h' 135 15 = h0 135 15 → h' 135 17 = h0 135 17 → (∀ a i, (a < 135 ∨ a = 136 ∨ 149 < a) → h' a i = h a i) → (∀ i, i < 14 ∨ 19 < i → h' 135 i = h 135 i) → Q (h 135 15 - h0 135 15) h') : Go d M_Mo_unbranches 0 [(22, 135), (2, 0)] [] h Q := by
  have lc : LcM h0 (mxM h0 h) := ⟨fun i p q => mxM_in (Or.inl ⟨rfl, p, q⟩), fun a i p q r => mxM_in (Or.inr ⟨p, r⟩)⟩
  have R' := RW_loc lc R
  have e : ∀ i, 14 ≤ i → i ≤ 19 → mxM h0 h 135 i = h0 135 i := fun i p q => lc.1 i p q
  have b := brH_loc lc
  obtain ⟨⟨x1, x1b, x1c, x1d⟩, x2, x3, x4, x5, x6, x8⟩ := ExN_loc b (⟨fun i p q => rfl, fun a i p q r => rfl⟩ : LcM h h) X
  have X' : ExM (brH (mxM h0 h)) h := by
    refine ⟨fun i p q => ?_, x2, x3, x4, x5, x6, fun a i p => ?_, x8⟩
    · by_cases z : 14 ≤ i ∧ i ≤ 19
      · have : i = 14 ∨ i = 16 ∨ i = 18 ∨ i = 19 := by omega
        rcases this with z | z | z | z <;> subst z <;> assumption
      · rw [brH_o (by decide) (by decide) (by omega), mxM_out (by omega)]
    · rw [brH_o (by omega) (by omega) (by omega), mxM_out (by omega)]
  refine c_unbranches hd R' (by rw [e 19 (by omega) (by omega), e 18 (by omega) (by omega)]; exact m1) (by rw [e 19 (by omega) (by omega), e 18 (by omega) (by omega)]; exact m2) (by rw [e 18 (by omega) (by omega)]; exact h18) X' hh (fun h' R2 X2 a b' => ?_)
  rw [e 15 (by omega) (by omega)] at a ⊢
  rw [e 17 (by omega) (by omega)] at b'
  refine H h' R2 (ExN_loc (LcM_symm lc) (⟨fun i p q => rfl, fun a i p q r => rfl⟩ : LcM h' h') (ExM_ExN X2)) a b' (fun x i p => ?_) (fun i p => ?_)
  · rw [X2.2.2.2.2.2.2.1 x i p, mxM_out (by omega)]
  · rw [X2.1 i (by omega) (by omega), mxM_out (by omega)]
end
