theorem mo_bif {b : Bool} {A B A' B' : Prop} (hA : A → A') (hB : B → B') : (bif b then A else B) → (bif b then A' else B') := by
  cases b
  · exact hB
  · exact hA
theorem mo_and {A B B' : Prop} (hB : B → B') : A ∧ B → A ∧ B' := fun H => ⟨H.1, hB H.2⟩
theorem mo_and2 {A B A' B' : Prop} (hA : A → A') (hB : B → B') : A ∧ B → A' ∧ B' := fun H => ⟨hA H.1, hB H.2⟩
theorem mo_imp {c A A' : Prop} (hA : A → A') : (c → A) → (c → A') := fun H h => hA (H h)
theorem mo_all {α : Sort _} {A A' : α → Prop} (hA : ∀ a, A a → A' a) : (∀ a, A a) → (∀ a, A' a) := fun H a => hA a (H a)
theorem mo_nn {t c : Nat} {k : Int} {A A' : Prop} (hA : A → A') : nnR t c k A → nnR t c k A' := mo_bif hA (mo_bif (mo_and hA) id)
theorem mo_swt {X Y : Nat → Prop} (hXY : ∀ t, X t → Y t) (x : Int) (dt : Nat) : ∀ l, swt X x dt l → swt Y x dt l
  | [] => hXY _
  | (k, t) :: r => mo_bif (mo_swt hXY x dt r) (mo_and2 (mo_imp (hXY t)) (mo_imp (mo_swt hXY x dt r)))
theorem mo_call {X Y : XP} (hY : am_Q Y) (hXY : ∀ d m pc ls st h Q, X d m pc ls st h Q → Y d m pc ls st h Q) {d m : Nat} {ls : List AV} {h : HP} {d' m' nx c : Nat} {ls' rest : List AV} {Q : PQ} :
    X d m 0 ls [] h (fun r h' => X d' m' nx ls' (pshR c r rest) h' Q) → Y d m 0 ls [] h (fun r h' => Y d' m' nx ls' (pshR c r rest) h' Q) :=
  fun H => hY _ _ _ _ _ _ _ _ (fun _ _ => hXY _ _ _ _ _ _ _) (hXY _ _ _ _ _ _ _ H)
theorem mo_pI {st : List AV} {f g : Int → List AV → Prop} (hA : ∀ x r, f x r → g x r) : pI st f → pI st g := by
  unfold pI
  cases st with
  | nil => exact id
  | cons q r => exact mo_bif (hA _ _) id
theorem mo_pL {st : List AV} {f g : Int → List AV → Prop} (hA : ∀ x r, f x r → g x r) : pL st f → pL st g := by
  unfold pL
  cases st with
  | nil => exact id
  | cons q r => exact mo_bif (hA _ _) id
theorem mo_pA {st : List AV} {f g : Nat → Int → List AV → Prop} (hA : ∀ t x r, f t x r → g t x r) : pA st f → pA st g := by
  unfold pA
  cases st with
  | nil => exact id
  | cons q r => exact mo_bif (hA _ _ _) id
theorem mo_pV {st : List AV} {f g : Nat → Int → List AV → Prop} (hA : ∀ t x r, f t x r → g t x r) : pV st f → pV st g := by
  unfold pV
  cases st with
  | nil => exact id
  | cons q r => exact mo_bif id (hA _ _ _)
theorem mo_lcI {ls : List AV} {a : Nat} {f g : Int → Prop} (hA : ∀ x, f x → g x) : lcI ls a f → lcI ls a g := mo_bif (hA _) id
theorem mo_lcL {ls : List AV} {a : Nat} {f g : Int → Prop} (hA : ∀ x, f x → g x) : lcL ls a f → lcL ls a g := mo_bif (hA _) id
theorem mo_lcA {ls : List AV} {a : Nat} {f g : Nat → Int → Prop} (hA : ∀ t x, f t x → g t x) : lcA ls a f → lcA ls a g := mo_bif (hA _ _) id
theorem mo_mkV {p : List AV × List AV} {f g : Nat → Int → List AV → List AV → Prop} (hA : ∀ t k a r, f t k a r → g t k a r) : mkV p f → mkV p g := by
  unfold mkV
  cases p.1 with
  | nil => exact id
  | cons q r => exact mo_bif (hA _ _ _ _) id
theorem mo_mkS {p : List AV × List AV} {f g : List AV → List AV → Prop} (hA : ∀ a r, f a r → g a r) : mkS p f → mkS p g := mo_bif (hA _ _) id
theorem mo_r8 {st : List AV} {A A' : Prop} (hA : A → A') : r8 st A → r8 st A' := mo_bif hA id
theorem mo_cmI {c : Jvm.ClassFile.Cond} {x y : Int} {A B A' B' : Prop} (hA : A → A') (hB : B → B') : cmI c x y A B → cmI c x y A' B' := by
  cases c <;> exact mo_and2 (mo_imp hA) (mo_imp hB)
theorem mo_sf {e : Nat} {r : Int → Prop} {w : Int → Int} {v : Int} {f g : Int → Prop} (hA : ∀ v, f v → g v) : sf e r w v f → sf e r w v g := mo_bif (mo_and2 id (hA _)) (hA _)
set_option maxHeartbeats 400000 in
theorem aF_mono {X Y : XP} (hY : am_Q Y) (hXY : ∀ d m pc ls st h Q, X d m pc ls st h Q → Y d m pc ls st h Q) (d m pc : Nat) (ls st : List AV) (h : HP) (Q : PQ) : aF X d m pc ls st h Q → aF Y d m pc ls st h Q := by
  unfold aF
  cases aCODE m pc with
  | none => exact id
  | some q =>
    obtain ⟨ins, nx, tg, a, b, c, e, z⟩ := q
    cases ins
    all_goals dsimp only
    all_goals (first | with_reducible exact id | skip)
    all_goals (first | with_reducible exact hXY _ _ _ _ _ _ _ | skip)
    all_goals (first
      | with_reducible exact id
      | with_reducible exact hXY _ _ _ _ _ _ _
      | with_reducible exact mo_call hY hXY
      | with_reducible apply mo_nn
      | with_reducible apply mo_bif
      | (with_reducible apply mo_pI; intro _ _)
      | (with_reducible apply mo_pL; intro _ _)
      | (with_reducible apply mo_pA; intro _ _ _)
      | (with_reducible apply mo_pV; intro _ _ _)
      | (with_reducible apply mo_lcI; intro _)
      | (with_reducible apply mo_lcL; intro _)
      | (with_reducible apply mo_lcA; intro _ _)
      | (with_reducible apply mo_mkV; intro _ _ _ _)
      | (with_reducible apply mo_mkS; intro _ _)
      | with_reducible apply mo_r8
      | with_reducible apply mo_cmI
      | (with_reducible apply mo_sf; intro _)
      | with_reducible apply mo_and2
      | (with_reducible refine mo_swt (fun _ => ?_) _ _ _)
      | (with_reducible refine mo_all (fun _ => ?_))
      | (with_reducible refine mo_imp ?_))
    all_goals (first
      | with_reducible exact id
      | with_reducible exact hXY _ _ _ _ _ _ _
      | with_reducible exact mo_call hY hXY
      | with_reducible apply mo_nn
      | with_reducible apply mo_bif
      | (with_reducible apply mo_pI; intro _ _)
      | (with_reducible apply mo_pL; intro _ _)
      | (with_reducible apply mo_pA; intro _ _ _)
      | (with_reducible apply mo_pV; intro _ _ _)
      | (with_reducible apply mo_lcI; intro _)
      | (with_reducible apply mo_lcL; intro _)
      | (with_reducible apply mo_lcA; intro _ _)
      | (with_reducible apply mo_mkV; intro _ _ _ _)
      | (with_reducible apply mo_mkS; intro _ _)
      | with_reducible apply mo_r8
      | with_reducible apply mo_cmI
      | (with_reducible apply mo_sf; intro _)
      | with_reducible apply mo_and2
      | (with_reducible refine mo_swt (fun _ => ?_) _ _ _)
      | (with_reducible refine mo_all (fun _ => ?_))
      | (with_reducible refine mo_imp ?_))
    all_goals (first
      | with_reducible exact id
      | with_reducible exact hXY _ _ _ _ _ _ _
      | with_reducible exact mo_call hY hXY
      | with_reducible apply mo_nn
      | with_reducible apply mo_bif
      | (with_reducible apply mo_pI; intro _ _)
      | (with_reducible apply mo_pL; intro _ _)
      | (with_reducible apply mo_pA; intro _ _ _)
      | (with_reducible apply mo_pV; intro _ _ _)
      | (with_reducible apply mo_lcI; intro _)
      | (with_reducible apply mo_lcL; intro _)
      | (with_reducible apply mo_lcA; intro _ _)
      | (with_reducible apply mo_mkV; intro _ _ _ _)
      | (with_reducible apply mo_mkS; intro _ _)
      | with_reducible apply mo_r8
      | with_reducible apply mo_cmI
      | (with_reducible apply mo_sf; intro _)
      | with_reducible apply mo_and2
      | (with_reducible refine mo_swt (fun _ => ?_) _ _ _)
      | (with_reducible refine mo_all (fun _ => ?_))
      | (with_reducible refine mo_imp ?_))
    all_goals (first
      | with_reducible exact id
      | with_reducible exact hXY _ _ _ _ _ _ _
      | with_reducible exact mo_call hY hXY
      | with_reducible apply mo_nn
      | with_reducible apply mo_bif
      | (with_reducible apply mo_pI; intro _ _)
      | (with_reducible apply mo_pL; intro _ _)
      | (with_reducible apply mo_pA; intro _ _ _)
      | (with_reducible apply mo_pV; intro _ _ _)
      | (with_reducible apply mo_lcI; intro _)
      | (with_reducible apply mo_lcL; intro _)
      | (with_reducible apply mo_lcA; intro _ _)
      | (with_reducible apply mo_mkV; intro _ _ _ _)
      | (with_reducible apply mo_mkS; intro _ _)
      | with_reducible apply mo_r8
      | with_reducible apply mo_cmI
      | (with_reducible apply mo_sf; intro _)
      | with_reducible apply mo_and2
      | (with_reducible refine mo_swt (fun _ => ?_) _ _ _)
      | (with_reducible refine mo_all (fun _ => ?_))
      | (with_reducible refine mo_imp ?_))
    all_goals (first
      | with_reducible exact id
      | with_reducible exact hXY _ _ _ _ _ _ _
      | with_reducible exact mo_call hY hXY
      | with_reducible apply mo_nn
      | with_reducible apply mo_bif
      | (with_reducible apply mo_pI; intro _ _)
      | (with_reducible apply mo_pL; intro _ _)
      | (with_reducible apply mo_pA; intro _ _ _)
      | (with_reducible apply mo_pV; intro _ _ _)
      | (with_reducible apply mo_lcI; intro _)
      | (with_reducible apply mo_lcL; intro _)
      | (with_reducible apply mo_lcA; intro _ _)
      | (with_reducible apply mo_mkV; intro _ _ _ _)
      | (with_reducible apply mo_mkS; intro _ _)
      | with_reducible apply mo_r8
      | with_reducible apply mo_cmI
      | (with_reducible apply mo_sf; intro _)
      | with_reducible apply mo_and2
      | (with_reducible refine mo_swt (fun _ => ?_) _ _ _)
      | (with_reducible refine mo_all (fun _ => ?_))
      | (with_reducible refine mo_imp ?_))
    all_goals (first
      | with_reducible exact id
      | with_reducible exact hXY _ _ _ _ _ _ _
      | with_reducible exact mo_call hY hXY
      | with_reducible apply mo_nn
      | with_reducible apply mo_bif
      | (with_reducible apply mo_pI; intro _ _)
      | (with_reducible apply mo_pL; intro _ _)
      | (with_reducible apply mo_pA; intro _ _ _)
      | (with_reducible apply mo_pV; intro _ _ _)
      | (with_reducible apply mo_lcI; intro _)
      | (with_reducible apply mo_lcL; intro _)
      | (with_reducible apply mo_lcA; intro _ _)
      | (with_reducible apply mo_mkV; intro _ _ _ _)
      | (with_reducible apply mo_mkS; intro _ _)
      | with_reducible apply mo_r8
      | with_reducible apply mo_cmI
      | (with_reducible apply mo_sf; intro _)
      | with_reducible apply mo_and2
      | (with_reducible refine mo_swt (fun _ => ?_) _ _ _)
      | (with_reducible refine mo_all (fun _ => ?_))
      | (with_reducible refine mo_imp ?_))
    all_goals (first
      | with_reducible exact id
      | with_reducible exact hXY _ _ _ _ _ _ _
      | with_reducible exact mo_call hY hXY
      | with_reducible apply mo_nn
      | with_reducible apply mo_bif
      | (with_reducible apply mo_pI; intro _ _)
      | (with_reducible apply mo_pL; intro _ _)
      | (with_reducible apply mo_pA; intro _ _ _)
      | (with_reducible apply mo_pV; intro _ _ _)
      | (with_reducible apply mo_lcI; intro _)
      | (with_reducible apply mo_lcL; intro _)
      | (with_reducible apply mo_lcA; intro _ _)
      | (with_reducible apply mo_mkV; intro _ _ _ _)
      | (with_reducible apply mo_mkS; intro _ _)
      | with_reducible apply mo_r8
      | with_reducible apply mo_cmI
      | (with_reducible apply mo_sf; intro _)
      | with_reducible apply mo_and2
      | (with_reducible refine mo_swt (fun _ => ?_) _ _ _)
      | (with_reducible refine mo_all (fun _ => ?_))
      | (with_reducible refine mo_imp ?_))
    all_goals (first
      | with_reducible exact id
      | with_reducible exact hXY _ _ _ _ _ _ _
      | with_reducible exact mo_call hY hXY
      | with_reducible apply mo_nn
      | with_reducible apply mo_bif
      | (with_reducible apply mo_pI; intro _ _)
      | (with_reducible apply mo_pL; intro _ _)
      | (with_reducible apply mo_pA; intro _ _ _)
      | (with_reducible apply mo_pV; intro _ _ _)
      | (with_reducible apply mo_lcI; intro _)
      | (with_reducible apply mo_lcL; intro _)
      | (with_reducible apply mo_lcA; intro _ _)
      | (with_reducible apply mo_mkV; intro _ _ _ _)
      | (with_reducible apply mo_mkS; intro _ _)
      | with_reducible apply mo_r8
      | with_reducible apply mo_cmI
      | (with_reducible apply mo_sf; intro _)
      | with_reducible apply mo_and2
      | (with_reducible refine mo_swt (fun _ => ?_) _ _ _)
      | (with_reducible refine mo_all (fun _ => ?_))
      | (with_reducible refine mo_imp ?_))
    all_goals (first
      | with_reducible exact id
      | with_reducible exact hXY _ _ _ _ _ _ _
      | with_reducible exact mo_call hY hXY
      | with_reducible apply mo_nn
      | with_reducible apply mo_bif
      | (with_reducible apply mo_pI; intro _ _)
      | (with_reducible apply mo_pL; intro _ _)
      | (with_reducible apply mo_pA; intro _ _ _)
      | (with_reducible apply mo_pV; intro _ _ _)
      | (with_reducible apply mo_lcI; intro _)
      | (with_reducible apply mo_lcL; intro _)
      | (with_reducible apply mo_lcA; intro _ _)
      | (with_reducible apply mo_mkV; intro _ _ _ _)
      | (with_reducible apply mo_mkS; intro _ _)
      | with_reducible apply mo_r8
      | with_reducible apply mo_cmI
      | (with_reducible apply mo_sf; intro _)
      | with_reducible apply mo_and2
      | (with_reducible refine mo_swt (fun _ => ?_) _ _ _)
      | (with_reducible refine mo_all (fun _ => ?_))
      | (with_reducible refine mo_imp ?_))
    all_goals (first
      | with_reducible exact id
      | with_reducible exact hXY _ _ _ _ _ _ _
      | with_reducible exact mo_call hY hXY
      | with_reducible apply mo_nn
      | with_reducible apply mo_bif
      | (with_reducible apply mo_pI; intro _ _)
      | (with_reducible apply mo_pL; intro _ _)
      | (with_reducible apply mo_pA; intro _ _ _)
      | (with_reducible apply mo_pV; intro _ _ _)
      | (with_reducible apply mo_lcI; intro _)
      | (with_reducible apply mo_lcL; intro _)
      | (with_reducible apply mo_lcA; intro _ _)
      | (with_reducible apply mo_mkV; intro _ _ _ _)
      | (with_reducible apply mo_mkS; intro _ _)
      | with_reducible apply mo_r8
      | with_reducible apply mo_cmI
      | (with_reducible apply mo_sf; intro _)
      | with_reducible apply mo_and2
      | (with_reducible refine mo_swt (fun _ => ?_) _ _ _)
      | (with_reducible refine mo_all (fun _ => ?_))
      | (with_reducible refine mo_imp ?_))
    all_goals (first
      | with_reducible exact id
      | with_reducible exact hXY _ _ _ _ _ _ _
      | with_reducible exact mo_call hY hXY
      | with_reducible apply mo_nn
      | with_reducible apply mo_bif
      | (with_reducible apply mo_pI; intro _ _)
      | (with_reducible apply mo_pL; intro _ _)
      | (with_reducible apply mo_pA; intro _ _ _)
      | (with_reducible apply mo_pV; intro _ _ _)
      | (with_reducible apply mo_lcI; intro _)
      | (with_reducible apply mo_lcL; intro _)
      | (with_reducible apply mo_lcA; intro _ _)
      | (with_reducible apply mo_mkV; intro _ _ _ _)
      | (with_reducible apply mo_mkS; intro _ _)
      | with_reducible apply mo_r8
      | with_reducible apply mo_cmI
      | (with_reducible apply mo_sf; intro _)
      | with_reducible apply mo_and2
      | (with_reducible refine mo_swt (fun _ => ?_) _ _ _)
      | (with_reducible refine mo_all (fun _ => ?_))
      | (with_reducible refine mo_imp ?_))
theorem Go_Q : am_Q Go := fun _ _ _ _ _ _ _ _ hq H X hX hc => hX _ _ _ _ _ _ _ _ hq (H X hX hc)
theorem Go.mono {d m pc : Nat} {ls st : List AV} {h : HP} {Q Q' : PQ} (H : Go d m pc ls st h Q) (hq : ∀ r h', Q r h' → Q' r h') : Go d m pc ls st h Q' := Go_Q _ _ _ _ _ _ _ _ hq H
theorem Go.fold {d m pc : Nat} {ls st : List AV} {h : HP} {Q : PQ} (H : aF Go d m pc ls st h Q) : Go d m pc ls st h Q :=
  fun X hX hc => hc _ _ _ _ _ _ _ (aF_mono hX (fun _ _ _ _ _ _ _ G => G X hX hc) _ _ _ _ _ _ _ H)
theorem aFn_Go (cut : Nat → Nat → Bool) : ∀ (k : Nat) (d m pc : Nat) (ls st : List AV) (h : HP) (Q : PQ), aFn cut k Go d m pc ls st h Q → Go d m pc ls st h Q
  | 0, _, _, _, _, _, _, _ => id
  | k + 1, d, m, pc, ls, st, h, Q => fun H => by
    unfold aFn at H
    revert H
    cases cut m pc
    · exact fun H => Go.fold (aF_mono Go_Q (aFn_Go cut k) _ _ _ _ _ _ _ H)
    · exact id
theorem am_V {d m pc : Nat} {ls st : List AV} {h : HP} {Q : PQ} (cut : Nat → Nat → Bool) (k : Nat) (H : aF (aFn cut k Go) d m pc ls st h Q) : Go d m pc ls st h Q := Go.fold (aF_mono Go_Q (aFn_Go cut k) _ _ _ _ _ _ _ H)
