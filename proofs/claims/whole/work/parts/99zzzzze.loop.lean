section
/-! the law's loop, on the machine -/
def ScR (G : SG) (h : HP) : Prop := (h (-2) 0 = gL G ∧ gL G ≤ 2048) ∧ ∀ j : Int, 0 ≤ j → j < gL G → h (-1) j = (gX G j.toNat).toInt
theorem ScR_of {G : SG} {h : HP} {H : Heap} (R : Rel G h H) (w : wfh h) : ScR G h := by
  refine ⟨⟨R.2.2.1, R.2.2.2⟩, fun j j0 j1 => ?_⟩
  have e := R.2.1 j.toNat (by omega)
  rw [show ((j.toNat : Nat) : Int) = j by omega] at e
  rw [e, i32_r _ (w.1 (-1) j (by omega))]
theorem scR_eq {G : SG} {h h1 : HP} (a : ScR G h) (b : ScR G h1) {j : Int} (j0 : 0 ≤ j) (j1 : j < gL G) : h1 (-1) j = h (-1) j := (b.2 j j0 j1).trans (a.2 j j0 j1).symm
theorem SX_rel {G : SG} {l : Launch} {d m pc : Nat} {ls st : List AV} {h : HP} {Q : PQ} (K : ScR G h → SX G l d m pc ls st h Q) : SX G l d m pc ls st h Q := fun p e R s mm args below meth c cells slots Z H locs L h1 h2 h3 h4 h5 h6 h7 h8 h9 h10 hr => K (ScR_of h4 h8) p e R s mm args below meth c cells slots Z H locs L h1 h2 h3 h4 h5 h6 h7 h8 h9 h10 hr
theorem SX_post {G : SG} {l : Launch} {d m pc : Nat} {ls st : List AV} {h : HP} {Q : PQ} (K : SX G l d m pc ls st h Q) : SX G l d m pc ls st h (fun r h' => ScR G h' ∧ Q r h') := fun p e R s mm args below meth c cells slots Z H locs L h1 h2 h3 h4 h5 h6 h7 h8 h9 h10 hr => K p e R s mm args below meth c cells slots Z H locs L h1 h2 h3 h4 h5 h6 h7 h8 h9 h10 (fun r h' H' locs' pc' L' q R' s' w' => hr r h' H' locs' pc' L' ⟨ScR_of R' w', q⟩ R' s' w')
theorem SX_two {G : SG} {l : Launch} {d mB mM : Nat} {lsB lsM : List AV} {h : HP} (g : Go d mB 0 lsB [] h (fun r1 h1 => Go d mM 0 lsM [] h1 (fun r2 h2 => r1 = r2 ∧ INV h2))) : SX G l d mB 0 lsB [] h (fun r1 h1 => ScR G h1 ∧ SX G l d mM 0 lsM [] h1 (fun r2 h2 => r1 = r2 ∧ INV h2)) := SX_post (aX_m (SX_Q G l) (Go_sound G l g) (fun r1 h1 x => Go_sound G l x))
theorem law_loop (G : SG) (l : Launch) {d : Nat} (hd : 630 < d) {Q : PQ} (HQ : ∀ h, Q 1 h) : ∀ (n : Nat) (i : Int) (h : HP), 0 ≤ i → (gL G : Int) - i ≤ 4 * n → INV h → SX G l d M_Law_law 18 [(61, 0), (21, 1), (22, 135), (0, i)] [] h Q := by
  intro n
  induction n with
  | zero =>
    intro i h i0 hi I
    refine SX_rel (fun sc => X_Law_law_18 (SX_Q G l) (SX_closed G l) ⟨?_, fun _ => HQ h, fun z => ?_⟩)
    · have := sc.1
      unfold r32
      omega
    · have := sc.1
      omega
  | succ n ih =>
    intro i h i0 hi I
    refine SX_rel (fun sc => ?_)
    have s1 := sc.1
    by_cases lt : (h (-2) 0) - 4 < i
    · exact X_Law_law_18 (SX_Q G l) (SX_closed G l) ⟨by unfold r32; omega, fun _ => HQ h, fun z => by omega⟩
    have nxt : ∀ h2, INV h2 → SX G l d M_Law_law 852 [(61, 0), (21, 1), (22, 135), (0, i)] [] h2 Q := fun h2 I2 => X_Law_law_852 (SX_Q G l) (SX_closed G l) ⟨by unfold r32; omega, ih (i + 4) h2 (by omega) (by omega) I2⟩
    have fB : ∀ h2, BIx h2 → FrB h h2 → INV h2 := fun h2 b f => inv_B I b f
    have fA : ∀ h2, BIx h2 → TxR h2 → DcR h2 → DcO h2 → RnR h2 → BdR h2 → HsR h2 → BdW h2 → INV h2 := fun h2 a1 a2 a3 a4 a5 a6 a7 a8 => ⟨a1, a2, a3, a4, a5, a6, a7, a8⟩
    have fin : ∀ (r1 r2 : Int) (h2 : HP), r1 = r2 ∧ INV h2 → (r1 = r2 → SX G l d M_Law_law 852 [(61, 0), (21, 1), (22, 135), (0, i)] [] h2 Q) ∧ (r1 ≠ r2 → Q 0 h2) := fun r1 r2 h2 y => ⟨fun _ => nxt h2 y.2, fun ne => absurd y.1 ne⟩
    have q1 : r32 (i + 1) := by unfold r32; omega
    have q2 : r32 (i + 2) := by unfold r32; omega
    have q3 : r32 (i + 3) := by unfold r32; omega
    have a1 : ∀ k : HP, ScR G k → 0 ≤ i + 1 ∧ i + 1 < k (-2) 0 := fun k s => by have := s.1; omega
    have a2 : ∀ k : HP, ScR G k → 0 ≤ i + 2 ∧ i + 2 < k (-2) 0 := fun k s => by have := s.1; omega
    have a3 : ∀ k : HP, ScR G k → 0 ≤ i + 3 ∧ i + 3 < k (-2) 0 := fun k s => by have := s.1; omega
    have b1 : ∀ k : HP, ScR G k → k (-1) (i + 1) = h (-1) (i + 1) := fun k s => scR_eq sc s (by omega) (by omega)
    have b2 : ∀ k : HP, ScR G k → k (-1) (i + 2) = h (-1) (i + 2) := fun k s => scR_eq sc s (by omega) (by omega)
    have b3 : ∀ k : HP, ScR G k → k (-1) (i + 3) = h (-1) (i + 3) := fun k s => scR_eq sc s (by omega) (by omega)
    have d0 : 0 < d := by omega
    refine X_Law_law_18 (SX_Q G l) (SX_closed G l) ⟨by unfold r32; omega, fun _ => HQ h, fun _ => ⟨⟨i0, by omega⟩, ?_⟩⟩
    refine ⟨fun _ => ⟨q1, a1 h sc, q2, a2 h sc, q3, a3 h sc, d0, aX_m (SX_Q G l) (SX_two (b_made (by omega) I.1 fB)) (fun r1 h1 x => ⟨q1, a1 h1 x.1, q2, a2 h1 x.1, q3, a3 h1 x.1, d0, by rw [b1 h1 x.1, b2 h1 x.1, b3 h1 x.1]; exact aX_m (SX_Q G l) x.2 (fun r2 h2 y => fin r1 r2 h2 y)⟩)⟩, fun _ => ?_⟩
    refine ⟨fun _ => ⟨d0, aX_m (SX_Q G l) (SX_two (b_opens (by omega) I.1 fB)) (fun r1 h1 x => ⟨d0, aX_m (SX_Q G l) x.2 (fun r2 h2 y => fin r1 r2 h2 y)⟩)⟩, fun _ => ?_⟩
    refine ⟨fun _ => ⟨d0, aX_m (SX_Q G l) (SX_two (b_closes (by omega) I.1 fB)) (fun r1 h1 x => ⟨d0, aX_m (SX_Q G l) x.2 (fun r2 h2 y => fin r1 r2 h2 y)⟩)⟩, fun _ => ?_⟩
    refine ⟨fun _ => ⟨q1, a1 h sc, q2, a2 h sc, d0, aX_m (SX_Q G l) (SX_two (b_equates (by omega) I.1 fB)) (fun r1 h1 x => ⟨q1, a1 h1 x.1, q2, a2 h1 x.1, d0, by rw [b1 h1 x.1, b2 h1 x.1]; exact aX_m (SX_Q G l) x.2 (fun r2 h2 y => fin r1 r2 h2 y)⟩)⟩, fun _ => ?_⟩
    refine ⟨fun _ => ⟨q1, a1 h sc, q2, a2 h sc, d0, aX_m (SX_Q G l) (SX_two (b_unites (by omega) I.1 fB)) (fun r1 h1 x => ⟨q1, a1 h1 x.1, q2, a2 h1 x.1, d0, by rw [b1 h1 x.1, b2 h1 x.1]; exact aX_m (SX_Q G l) x.2 (fun r2 h2 y => fin r1 r2 h2 y)⟩)⟩, fun _ => ?_⟩
    refine ⟨fun _ => ⟨q1, a1 h sc, q2, a2 h sc, d0, aX_m (SX_Q G l) (SX_two (b_would (by omega) I.1 fB)) (fun r1 h1 x => ⟨q1, a1 h1 x.1, q2, a2 h1 x.1, d0, by rw [b1 h1 x.1, b2 h1 x.1]; exact aX_m (SX_Q G l) x.2 (fun r2 h2 y => fin r1 r2 h2 y)⟩)⟩, fun _ => ?_⟩
    refine ⟨fun _ => ⟨q1, a1 h sc, q2, a2 h sc, d0, aX_m (SX_Q G l) (SX_two (b_same (by omega) I.1 fB)) (fun r1 h1 x => ⟨q1, a1 h1 x.1, q2, a2 h1 x.1, d0, by rw [b1 h1 x.1, b2 h1 x.1]; exact aX_m (SX_Q G l) x.2 (fun r2 h2 y => fin r1 r2 h2 y)⟩)⟩, fun _ => ?_⟩
    refine ⟨fun _ => ⟨q1, a1 h sc, q2, a2 h sc, d0, aX_m (SX_Q G l) (SX_two (b_shape (by omega) I.1 fB)) (fun r1 h1 x => ⟨q1, a1 h1 x.1, q2, a2 h1 x.1, d0, by rw [b1 h1 x.1, b2 h1 x.1]; exact aX_m (SX_Q G l) x.2 (fun r2 h2 y => fin r1 r2 h2 y)⟩)⟩, fun _ => ?_⟩
    refine ⟨fun _ => ⟨d0, aX_m (SX_Q G l) (SX_two (b_classes (by omega) I.1 fB)) (fun r1 h1 x => ⟨d0, aX_m (SX_Q G l) x.2 (fun r2 h2 y => fin r1 r2 h2 y)⟩)⟩, fun _ => ?_⟩
    refine ⟨fun _ => ⟨q1, a1 h sc, d0, aX_m (SX_Q G l) (SX_two (b_measure (by omega) I.1 fB)) (fun r1 h1 x => ⟨q1, a1 h1 x.1, d0, by rw [b1 h1 x.1]; exact aX_m (SX_Q G l) x.2 (fun r2 h2 y => fin r1 r2 h2 y)⟩)⟩, fun _ => ?_⟩
    refine ⟨fun _ => ⟨q1, a1 h sc, d0, aX_m (SX_Q G l) (SX_two (b_reach (by omega) I.1 fB)) (fun r1 h1 x => ⟨q1, a1 h1 x.1, d0, by rw [b1 h1 x.1]; exact aX_m (SX_Q G l) x.2 (fun r2 h2 y => fin r1 r2 h2 y)⟩)⟩, fun _ => ?_⟩
    refine ⟨fun _ => ⟨q1, a1 h sc, d0, aX_m (SX_Q G l) (SX_two (b_known (by omega) I.1 fB)) (fun r1 h1 x => ⟨q1, a1 h1 x.1, d0, by rw [b1 h1 x.1]; exact aX_m (SX_Q G l) x.2 (fun r2 h2 y => fin r1 r2 h2 y)⟩)⟩, fun _ => ?_⟩
    refine ⟨fun _ => ⟨q1, a1 h sc, q2, a2 h sc, d0, aX_m (SX_Q G l) (SX_two (b_comes (by omega) I.1 I.2.2.1 I.2.2.2.1 (fun h2 b f => inv_C I b f))) (fun r1 h1 x => ⟨q1, a1 h1 x.1, q2, a2 h1 x.1, d0, by rw [b1 h1 x.1, b2 h1 x.1]; exact aX_m (SX_Q G l) x.2 (fun r2 h2 y => fin r1 r2 h2 y)⟩)⟩, fun _ => ?_⟩
    refine ⟨fun _ => ⟨q1, a1 h sc, d0, aX_m (SX_Q G l) (SX_two (b_bench (by omega) I.1 fB)) (fun r1 h1 x => ⟨q1, a1 h1 x.1, d0, by rw [b1 h1 x.1]; exact aX_m (SX_Q G l) x.2 (fun r2 h2 y => fin r1 r2 h2 y)⟩)⟩, fun _ => ?_⟩
    refine ⟨fun _ => ⟨q1, a1 h sc, d0, aX_m (SX_Q G l) (SX_two (b_begins2 (by omega) I.1 I.2.1 I.2.2.1 I.2.2.2.1 I.2.2.2.2.1 I.2.2.2.2.2.1 I.2.2.2.2.2.2.1 I.2.2.2.2.2.2.2 fA)) (fun r1 h1 x => ⟨q1, a1 h1 x.1, d0, by rw [b1 h1 x.1]; exact aX_m (SX_Q G l) x.2 (fun r2 h2 y => fin r1 r2 h2 y)⟩)⟩, fun _ => ?_⟩
    refine ⟨fun _ => ⟨q1, a1 h sc, d0, aX_m (SX_Q G l) (SX_two (b_type (by omega) I.1 I.2.1 (fun h2 b t f => inv_X I b t f))) (fun r1 h1 x => ⟨q1, a1 h1 x.1, d0, by rw [b1 h1 x.1]; exact aX_m (SX_Q G l) x.2 (fun r2 h2 y => fin r1 r2 h2 y)⟩)⟩, fun _ => ?_⟩
    refine ⟨fun _ => ⟨d0, aX_m (SX_Q G l) (SX_two (b_clear (by omega) I.1 I.2.1 (fun h2 b t f => inv_X I b t f))) (fun r1 h1 x => ⟨d0, aX_m (SX_Q G l) x.2 (fun r2 h2 y => fin r1 r2 h2 y)⟩)⟩, fun _ => ?_⟩
    refine ⟨fun _ => ⟨q1, a1 h sc, d0, aX_m (SX_Q G l) (SX_two (b_constructs2 (by omega) I.1 I.2.1 I.2.2.1 I.2.2.2.1 I.2.2.2.2.1 (fun h2 b t dd oo n f x => inv_con I b t dd oo n f x))) (fun r1 h1 x => ⟨q1, a1 h1 x.1, d0, by rw [b1 h1 x.1]; exact aX_m (SX_Q G l) x.2 (fun r2 h2 y => fin r1 r2 h2 y)⟩)⟩, fun _ => ?_⟩
    refine ⟨fun _ => ⟨d0, aX_m (SX_Q G l) (SX_two (b_signs2 (by omega) I.1 I.2.1 I.2.2.1 I.2.2.2.1 I.2.2.2.2.1 (fun h2 b t dd oo n f x => inv_sig I b t dd oo n f x))) (fun r1 h1 x => ⟨d0, aX_m (SX_Q G l) x.2 (fun r2 h2 y => fin r1 r2 h2 y)⟩)⟩, fun _ => ?_⟩
    refine ⟨fun _ => ⟨q1, a1 h sc, d0, aX_m (SX_Q G l) (SX_two (b_bodies (by omega) I.1 I.2.1 I.2.2.1 I.2.2.2.1 I.2.2.2.2.1 I.2.2.2.2.2.1 I.2.2.2.2.2.2.1 I.2.2.2.2.2.2.2 fA)) (fun r1 h1 x => ⟨q1, a1 h1 x.1, d0, by rw [b1 h1 x.1]; exact aX_m (SX_Q G l) x.2 (fun r2 h2 y => fin r1 r2 h2 y)⟩)⟩, fun _ => ?_⟩
    refine ⟨fun _ => ⟨d0, aX_m (SX_Q G l) (SX_two (b_runs (by omega) I.1 I.2.1 I.2.2.1 I.2.2.2.1 I.2.2.2.2.1 I.2.2.2.2.2.1 I.2.2.2.2.2.2.1 I.2.2.2.2.2.2.2 fA)) (fun r1 h1 x => ⟨d0, aX_m (SX_Q G l) x.2 (fun r2 h2 y => fin r1 r2 h2 y)⟩)⟩, fun _ => ?_⟩
    refine ⟨fun _ => ⟨d0, aX_m (SX_Q G l) (SX_two (b_why I.1 I.2.2.2.2.1 fB)) (fun r1 h1 x => ⟨d0, aX_m (SX_Q G l) x.2 (fun r2 h2 y => fin r1 r2 h2 y)⟩)⟩, fun _ => ?_⟩
    refine ⟨fun _ => ⟨q1, a1 h sc, q2, a2 h sc, d0, aX_m (SX_Q G l) (SX_two (b_constructor (by omega) I.1 I.2.2.1 fB)) (fun r1 h1 x => ⟨q1, a1 h1 x.1, q2, a2 h1 x.1, d0, by rw [b1 h1 x.1, b2 h1 x.1]; exact aX_m (SX_Q G l) x.2 (fun r2 h2 y => fin r1 r2 h2 y)⟩)⟩, fun _ => ?_⟩
    refine ⟨fun _ => ⟨q1, a1 h sc, q2, a2 h sc, d0, aX_m (SX_Q G l) (SX_two (b_function (by omega) I.1 I.2.2.1 fB)) (fun r1 h1 x => ⟨q1, a1 h1 x.1, q2, a2 h1 x.1, d0, by rw [b1 h1 x.1, b2 h1 x.1]; exact aX_m (SX_Q G l) x.2 (fun r2 h2 y => fin r1 r2 h2 y)⟩)⟩, fun _ => ?_⟩
    refine ⟨fun _ => ⟨q1, a1 h sc, d0, aX_m (SX_Q G l) (SX_two (b_ran (by omega) I.1 I.2.2.2.2.1 fB)) (fun r1 h1 x => ⟨q1, a1 h1 x.1, d0, by rw [b1 h1 x.1]; exact aX_m (SX_Q G l) x.2 (fun r2 h2 y => fin r1 r2 h2 y)⟩)⟩, fun _ => ?_⟩
    refine ⟨fun _ => ⟨q1, a1 h sc, d0, aX_m (SX_Q G l) (SX_two (b_typeAt (by omega) I.1 I.2.2.2.2.1 fB)) (fun r1 h1 x => ⟨q1, a1 h1 x.1, d0, by rw [b1 h1 x.1]; exact aX_m (SX_Q G l) x.2 (fun r2 h2 y => fin r1 r2 h2 y)⟩)⟩, fun _ => ?_⟩
    refine ⟨fun _ => ⟨q1, a1 h sc, d0, aX_m (SX_Q G l) (SX_two (b_valueAt (by omega) I.1 I.2.2.2.2.1 fB)) (fun r1 h1 x => ⟨q1, a1 h1 x.1, d0, by rw [b1 h1 x.1]; exact aX_m (SX_Q G l) x.2 (fun r2 h2 y => fin r1 r2 h2 y)⟩)⟩, fun _ => ?_⟩
    refine ⟨fun _ => ⟨q1, a1 h sc, d0, aX_m (SX_Q G l) (SX_two (b_told (by omega) I.1 I.2.1 I.2.2.1 fB)) (fun r1 h1 x => ⟨q1, a1 h1 x.1, d0, by rw [b1 h1 x.1]; exact aX_m (SX_Q G l) x.2 (fun r2 h2 y => fin r1 r2 h2 y)⟩)⟩, fun _ => ?_⟩
    refine ⟨fun _ => ⟨d0, aX_m (SX_Q G l) (SX_two (b_digest (by omega) I.1 I.2.1 I.2.2.1 I.2.2.2.2.1 fB)) (fun r1 h1 x => ⟨d0, aX_m (SX_Q G l) x.2 (fun r2 h2 y => ⟨fun _ => nxt h2 y.2, fun ne => absurd (by rw [y.1]; unfold lCm; rw [if_neg (Int.lt_irrefl _), if_pos rfl]) ne⟩)⟩)⟩, fun _ => ?_⟩
    exact nxt h I
end
