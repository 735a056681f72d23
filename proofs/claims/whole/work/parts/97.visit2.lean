section
def kA (h : HP) (T : Int) (c : Int → Int) (n r : Int) : Int := c1 c n (h (T + 4) (h (T + 9) r % 1024))
def kB (h : HP) (T : Int) (c : Int → Int) (n r : Int) : Int := c1 c n (h (T + 5) (h (T + 9) r % 1024))
theorem Kid_of {n : Int} {par sz c : Int → Int} (F : Frs n par sz c) (z : Int) : c1 c n z = -1 ∨ (0 ≤ c1 c n z ∧ c1 c n z < n ∧ c (c1 c n z) = c1 c n z) := by
  unfold c1
  split
  · rename_i q
    have f := (F z q.1 q.2).2.1
    exact Or.inr ⟨f.1, f.2, Frs_cc F q.1 q.2⟩
  · exact Or.inl rfl
def OrdOk (n : Int) (c cA cB : Int → Int) (fr to : Int) (P : Int → Prop) (w : Int) (od : Int → Int) : Prop := (∀ j, 0 ≤ j → j < w → (0 ≤ od j ∧ od j < n) ∧ c (od j) = od j ∧ P (od j) ∧ (cA (od j) = -1 ∨ ∃ j', 0 ≤ j' ∧ j' < j ∧ od j' = cA (od j)) ∧ (cB (od j) = -1 ∨ ∃ j', 0 ≤ j' ∧ j' < j ∧ od j' = cB (od j))) ∧ (∀ x, fr ≤ x → x < to → ∃ j, 0 ≤ j ∧ j < w ∧ od j = c x) ∧ 0 ≤ w ∧ w ≤ n
theorem c_v214 {d : Nat} {T R n : Int} {g : HP} {fr to start top m y : Int} {w7 : AV} {Q : PQ} (hT : TR T R) (nR : n ≤ R) (hy : y = -1 ∨ (0 ≤ y ∧ y < n ∧ (g (T + 15) y = 0 ∨ g (T + 15) y = 1 ∨ g (T + 15) y = 2))) (ht : -1 ≤ top) (htn : (0 ≤ y → g (T + 15) y = 0 → top + 1 < n)) (hm : 0 ≤ m ∧ m ≤ 4000)
    (Hs : (y = -1 ∨ (0 ≤ y ∧ g (T + 15) y = 2)) → Go d M_Walk_visit 39 [(19, T + 14), (0, fr), (0, to), (0, start), (0, top), (0, m + 1), (0, y), w7] [] g Q)
    (Hc : 0 ≤ y → y < n → g (T + 15) y = 1 → Q 0 g)
    (Hp : 0 ≤ y → y < n → g (T + 15) y = 0 → ∀ g', g' (T + 15) = upf (g (T + 15)) y 1 → g' (T + 16) = upf (g (T + 16)) (top + 1) y → g' (T + 17) = upf (g (T + 17)) (top + 1) 0 → (∀ a i, a < T + 15 ∨ T + 17 < a → g' a i = g a i) → Go d M_Walk_visit 39 [(19, T + 14), (0, fr), (0, to), (0, start), (0, top + 1), (0, m + 1), (0, y), w7] [] g' Q) :
    Go d M_Walk_visit 214 [(19, T + 14), (0, fr), (0, to), (0, start), (0, top), (0, m), (0, y), w7] [] g Q := by
  have tr := TR_le hT
  have push : 0 ≤ y → y < n → g (T + 15) y = 0 → r32 (top + 1) ∧ (0 ≤ top + 1 ∧ top + 1 < R) ∧ ∀ g1 : HP, g1 = up2 g (T + 16) (top + 1) y → (0 ≤ top + 1 ∧ top + 1 < R) ∧ ∀ g2 : HP, g2 = up2 g1 (T + 17) (top + 1) 0 → (0 ≤ y ∧ y < R) ∧ ∀ g3 : HP, g3 = up2 g2 (T + 15) y 1 → r32 (m + 1) ∧ Go d M_Walk_visit 39 [(19, T + 14), (0, fr), (0, to), (0, start), (0, top + 1), (0, m + 1), (0, y), w7] [] g3 Q := by
    intro y0 y1 s0
    have tn := htn y0 s0
    refine ⟨by unfold r32; omega, ⟨by omega, by omega⟩, ?_⟩
    rintro g1 rfl
    refine ⟨⟨by omega, by omega⟩, ?_⟩
    rintro g2 rfl
    refine ⟨⟨by omega, by omega⟩, ?_⟩
    rintro g3 rfl
    refine ⟨by unfold r32; omega, Hp y0 y1 s0 _ ?_ ?_ ?_ ?_⟩
    · rw [up2_row, up2_rown (by omega), up2_rown (by omega)]
    · rw [up2_rown (by omega), up2_rown (by omega), up2_row]
    · rw [up2_rown (by omega), up2_row, up2_rown (by omega)]
    · intro a i q
      rw [up2_nc (by omega), up2_nc (by omega), up2_nc (by omega)]
  refine W_Walk_visit_214 hT ⟨fun w => ⟨fun _ => ⟨by unfold r32; omega, Hs (Or.inl w)⟩, fun z => absurd w z⟩, fun w => ?_⟩
  rcases hy with q | ⟨y0, y1, s⟩
  · exact absurd q w
  · refine ⟨⟨by omega, by omega⟩, fun u => ⟨fun z => absurd z w, fun _ => ⟨⟨by omega, by omega⟩, fun v => ⟨by unfold r32; omega, Hs (Or.inr ⟨y0, ?_⟩)⟩, fun v => push y0 y1 v⟩⟩, fun u => Hc y0 y1 u⟩
    rcases s with s | s | s
    · exact absurd s v
    · exact absurd s u
    · exact s
theorem c_visit {d : Nat} {T R n L : Int} {h : HP} {c : Int → Int} {fr to : Int} {P : Int → Prop} {Q : PQ} (hd : 0 < d) (F : FB h T R n L c) (f0 : 0 ≤ fr) (f1 : fr ≤ to) (f2 : to ≤ n) (hP : ∀ x, fr ≤ x → x < to → P (c x))
    (hA : ∀ r, 0 ≤ r → r < n → c r = r → P r → kA h T c n r ≠ -1 → P (kA h T c n r)) (hB : ∀ r, 0 ≤ r → r < n → c r = r → P r → kB h T c n r ≠ -1 → P (kB h T c n r))
    (H1 : ∀ g, ScC T h g → OrdOk n c (kA h T c n) (kB h T c n) fr to P (g (T + 14) 6) (g (T + 18)) → (∀ a i, a < T + 14 ∨ T + 18 < a → g a i = h a i) → Q 1 g)
    (H0 : (∀ rk : Int → Nat, ¬ ((∀ r, 0 ≤ r → r < n → c r = r → kA h T c n r ≠ -1 → rk (kA h T c n r) < rk r) ∧ (∀ r, 0 ≤ r → r < n → c r = r → kB h T c n r ≠ -1 → rk (kB h T c n r) < rk r))) → ∀ g, ScC T h g → (∀ a i, a < T + 14 ∨ T + 18 < a → g a i = h a i) → Q 0 g) :
    Go d M_Walk_visit 0 [(19, T + 14), (0, fr), (0, to), (2, 0), (2, 0), (2, 0), (2, 0), (2, 0)] [] h Q := by
  have F0 := F
  have Ld := FB_lead F
  obtain ⟨hT, ⟨hn, n0, nR⟩, hL, eL, Fr, M1, M2, Hs, H8⟩ := F
  have tr := TR_le hT
  have KA : Kid n c P (kA h T c n) := by
    intro r r0 r1 r2 r3
    rcases Kid_of Fr (h (T + 4) (h (T + 9) r % 1024)) with q | q
    · exact Or.inl q
    · exact Or.inr ⟨q.1, q.2.1, q.2.2, hA r r0 r1 r2 r3 (by unfold kA; omega)⟩
  have KB : Kid n c P (kB h T c n) := by
    intro r r0 r1 r2 r3
    rcases Kid_of Fr (h (T + 5) (h (T + 9) r % 1024)) with q | q
    · exact Or.inl q
    · exact Or.inr ⟨q.1, q.2.1, q.2.2, hB r r0 r1 r2 r3 (by unfold kB; omega)⟩
  have main : ∀ (k : Nat) (g : HP) (start top m : Int) (w6 w7 : AV), (∀ a i, a < T + 14 ∨ T + 18 < a → g a i = h a i) → VI n c (kA h T c n) (kB h T c n) fr to P (g (T + 15)) (g (T + 16)) (g (T + 17)) (g (T + 18)) (g (T + 14) 6) start top m → (4 * n + 1 - m).toNat = k → Go d M_Walk_visit 39 [(19, T + 14), (0, fr), (0, to), (0, start), (0, top), (0, m), w6, w7] [] g Q := by
    intro k
    induction k with
    | zero =>
      intro g start top m w6 w7 so I hk
      have b := VI_bd n0 I
      have := I.2.1
      omega
    | succ k ih =>
      intro g start top m w6 w7 so I hk
      have b := VI_bd n0 I
      have I0 := I
      obtain ⟨h1, ⟨h2, h3, h4, h5⟩, h6, h7, h8, h9, h10, h11, h12, h13, h14, h15⟩ := I
      have gT : ∀ i, g T i = h T i := fun i => so T i (by omega)
      have Fg : FB g T R n L c := FB_scr (fun a i q => so a i (by omega)) F0
      have g4 : ∀ i, g (T + 4) i = h (T + 4) i := fun i => so _ i (by omega)
      have g5 : ∀ i, g (T + 5) i = h (T + 5) i := fun i => so _ i (by omega)
      have g9 : ∀ i, g (T + 9) i = h (T + 9) i := fun i => so _ i (by omega)
      have stv : ∀ y, (y = -1 ∨ (0 ≤ y ∧ y < n ∧ c y = y)) → (y = -1 ∨ (0 ≤ y ∧ y < n ∧ (g (T + 15) y = 0 ∨ g (T + 15) y = 1 ∨ g (T + 15) y = 2))) := by
        intro y q
        rcases q with q | ⟨q0, q1, _⟩
        · exact Or.inl q
        · refine Or.inr ⟨q0, q1, ?_⟩
          rcases h1 y q0 q1 with z | ⟨z | z, _⟩
          · exact Or.inl z
          · exact Or.inr (Or.inl z)
          · exact Or.inr (Or.inr z)
      refine W_Walk_visit_39 hT ?_
      rw [gT 13, hn]
      have body : (top ≠ -1 ∨ start < to) → Go d M_Walk_visit 64 [(19, T + 14), (0, fr), (0, to), (0, start), (0, top), (0, m), w6, w7] [] g Q := by
        intro hb
        refine W_Walk_visit_64 hT ⟨fun wt => ?_, fun wt => ⟨hd, ?_⟩⟩
        · have t0 : 0 ≤ top := by omega
          have p := h6 top t0 (Int.le_refl _)
          have cp : c (g (T + 16) top) = g (T + 16) top ∧ P (g (T + 16) top) := by
            rcases h1 _ p.1.1 p.1.2 with z | z
            · omega
            · exact z.2
          refine ⟨⟨by omega, by omega⟩, fun w2 => ?_, fun w2 => ?_⟩
          · refine ⟨⟨by omega, by omega⟩, ⟨by omega, by omega⟩, ?_⟩
            intro q1 e1
            have r6 : q1 (T + 14) 6 = g (T + 14) 6 := by rw [e1, up2_nc (by omega)]
            have r16 : q1 (T + 16) top = g (T + 16) top := by rw [e1, up2_nc (by omega)]
            rw [r6, r16]
            refine ⟨⟨by omega, by omega⟩, ⟨by omega, by omega⟩, ?_⟩
            intro q2 e2
            have s6 : q2 (T + 14) 6 = g (T + 14) 6 := by rw [e2, up2_nc (by omega), r6]
            rw [s6]
            refine ⟨by unfold r32; omega, ?_⟩
            intro q3 e3
            refine ⟨by unfold r32; omega, ?_⟩
            have f6 : q3 (T + 14) 6 = g (T + 14) 6 + 1 := by rw [e3, up2_eq]
            have f15 : q3 (T + 15) = upf (g (T + 15)) (g (T + 16) top) 2 := by rw [e3, up2_rown (by omega), e2, up2_rown (by omega), e1, up2_row]
            have f16 : q3 (T + 16) = g (T + 16) := by rw [e3, up2_rown (by omega), e2, up2_rown (by omega), e1, up2_rown (by omega)]
            have f17 : q3 (T + 17) = g (T + 17) := by rw [e3, up2_rown (by omega), e2, up2_rown (by omega), e1, up2_rown (by omega)]
            have f18 : q3 (T + 18) = upf (g (T + 18)) (g (T + 14) 6) (g (T + 16) top) := by rw [e3, up2_rown (by omega), e2, up2_row, e1, up2_rown (by omega)]
            have fo : ∀ a i, a < T + 14 ∨ T + 18 < a → q3 a i = h a i := fun a i q => by rw [e3, up2_nc (by omega), e2, up2_nc (by omega), e1, up2_nc (by omega), so a i q]
            clear e1 e2 e3
            have I2 := VI_pop I0 t0 w2 KA KB
            rw [show top + -1 = top - 1 by omega]
            refine c_v214 hT nR (Or.inl rfl) (by omega) (fun z => absurd z (by decide)) ⟨by omega, by omega⟩ (fun _ => ih q3 _ _ _ _ _ fo ?_ (by omega)) (fun z => absurd z (by decide)) (fun z => absurd z (by decide))
            rw [f15, f16, f17, f18, f6]
            exact I2
          · have lp := Ld.2 (g (T + 16) top) p.1.1 p.1.2
            rw [cp.1] at lp
            have lq := Ld.1 (g (T + 16) top) p.1.1 p.1.2
            unfold ldC at lq
            rw [cp.1] at lq
            refine ⟨⟨by omega, by omega⟩, hd, c_leadAt hT (by rw [gT 13, hn]) nR p.1.1 p.1.2 (by rw [g9]; exact lp) ?_⟩
            rw [g9]
            refine ⟨⟨by omega, by omega⟩, fun w3 => ⟨⟨by omega, by omega⟩, hd, ?_⟩, fun w3 => ⟨⟨by omega, by omega⟩, hd, ?_⟩⟩
            · rw [g5]
              refine c_root1 Fg ⟨⟨by omega, by omega⟩, by unfold r32; omega, ⟨by omega, by omega⟩, ?_⟩
              intro q e
              have y : c1 c n (h (T + 5) (h (T + 9) (g (T + 16) top) % 1024)) = kB h T c n (g (T + 16) top) := rfl
              rw [y]
              have f15 : q (T + 15) = g (T + 15) := by rw [e, up2_rown (by omega)]
              have f16 : q (T + 16) = g (T + 16) := by rw [e, up2_rown (by omega)]
              have f17 : q (T + 17) = upf (g (T + 17)) top (g (T + 17) top + 1) := by rw [e, up2_row]
              have f18 : q (T + 18) = g (T + 18) := by rw [e, up2_rown (by omega)]
              have f6 : q (T + 14) 6 = g (T + 14) 6 := by rw [e, up2_nc (by omega)]
              have fo : ∀ a i, a < T + 14 ∨ T + 18 < a → q a i = h a i := fun a i z => by rw [e, up2_nc (by omega), so a i z]
              clear e
              have kb := KB (g (T + 16) top) p.1.1 p.1.2 cp.1 cp.2
              have yy := stv (kB h T c n (g (T + 16) top)) (kb.imp id (fun z => ⟨z.1, z.2.1, z.2.2.1⟩))
              rw [← f15] at yy
              refine c_v214 hT nR yy (by omega) (fun z1 z2 => ?_) ⟨by omega, by omega⟩ (fun z => ih q _ _ _ _ _ fo ?_ (by omega)) (fun z1 z2 z3 => ?_) (fun z1 z2 z3 q' r15 r16 r17 ro => ih q' _ _ _ _ _ (fun a i z => by rw [ro a i (by omega), fo a i z]) ?_ (by omega))
              · rcases kb with z | z
                · omega
                · rw [f15] at z2
                  have := b.2.1 _ z.1 z.2.1 z2
                  omega
              · rw [f15, f16, f17, f18, f6]
                refine VI_skip I0 t0 (by omega) ⟨fun v => by omega, fun v => ?_⟩
                rw [f15] at z
                rcases z with z | z
                · exact Or.inl z
                · exact Or.inr z.2
              · refine H0 (fun rk hr => ?_) q (fun a i z => fo a i (by omega)) fo
                rw [f15] at z3
                exact VI_cyc I0 t0 (Or.inr rfl) z1 z2 z3 hr.1 hr.2
              · rw [f15] at z3 r15
                rw [f16] at r16
                rw [f17] at r17
                rw [r15, r16, r17, ro (T + 14) 6 (by omega), f6, show q' (T + 18) = g (T + 18) from funext fun i => by rw [ro _ i (by omega), f18]]
                rcases kb with z | z
                · omega
                · exact VI_push I0 t0 (by omega) ⟨fun v => by omega, fun v => rfl⟩ z1 z2 z.2.2.1 z.2.2.2 z3
            · rw [g4]
              refine c_root1 Fg ⟨⟨by omega, by omega⟩, by unfold r32; omega, ⟨by omega, by omega⟩, ?_⟩
              intro q e
              have y : c1 c n (h (T + 4) (h (T + 9) (g (T + 16) top) % 1024)) = kA h T c n (g (T + 16) top) := rfl
              rw [y]
              have f15 : q (T + 15) = g (T + 15) := by rw [e, up2_rown (by omega)]
              have f16 : q (T + 16) = g (T + 16) := by rw [e, up2_rown (by omega)]
              have f17 : q (T + 17) = upf (g (T + 17)) top (g (T + 17) top + 1) := by rw [e, up2_row]
              have f18 : q (T + 18) = g (T + 18) := by rw [e, up2_rown (by omega)]
              have f6 : q (T + 14) 6 = g (T + 14) 6 := by rw [e, up2_nc (by omega)]
              have fo : ∀ a i, a < T + 14 ∨ T + 18 < a → q a i = h a i := fun a i z => by rw [e, up2_nc (by omega), so a i z]
              clear e
              have kb := KA (g (T + 16) top) p.1.1 p.1.2 cp.1 cp.2
              have yy := stv (kA h T c n (g (T + 16) top)) (kb.imp id (fun z => ⟨z.1, z.2.1, z.2.2.1⟩))
              rw [← f15] at yy
              refine c_v214 hT nR yy (by omega) (fun z1 z2 => ?_) ⟨by omega, by omega⟩ (fun z => ih q _ _ _ _ _ fo ?_ (by omega)) (fun z1 z2 z3 => ?_) (fun z1 z2 z3 q' r15 r16 r17 ro => ih q' _ _ _ _ _ (fun a i z => by rw [ro a i (by omega), fo a i z]) ?_ (by omega))
              · rcases kb with z | z
                · omega
                · rw [f15] at z2
                  have := b.2.1 _ z.1 z.2.1 z2
                  omega
              · rw [f15, f16, f17, f18, f6]
                refine VI_skip I0 t0 (by omega) ⟨fun v => ?_, fun v => by omega⟩
                rw [f15] at z
                rcases z with z | z
                · exact Or.inl z
                · exact Or.inr z.2
              · refine H0 (fun rk hr => ?_) q (fun a i z => fo a i (by omega)) fo
                rw [f15] at z3
                exact VI_cyc I0 t0 (Or.inl rfl) z1 z2 z3 hr.1 hr.2
              · rw [f15] at z3 r15
                rw [f16] at r16
                rw [f17] at r17
                rw [r15, r16, r17, ro (T + 14) 6 (by omega), f6, show q' (T + 18) = g (T + 18) from funext fun i => by rw [ro _ i (by omega), f18]]
                rcases kb with z | z
                · omega
                · exact VI_push I0 t0 (by omega) ⟨fun v => rfl, fun v => by omega⟩ z1 z2 z.2.2.1 z.2.2.2 z3
        · subst wt
          have sl : start < to := by omega
          have cs := (Fr start (by omega) (by omega)).2.1
          have ccs := Frs_cc Fr (x := start) (by omega) (by omega)
          refine c_root Fg (fun _ _ => ⟨by unfold r32; omega, ?_⟩) (fun z => by omega)
          refine c_v214 hT nR (stv (c start) (Or.inr ⟨cs.1, cs.2, ccs⟩)) (by omega) (fun z1 z2 => ?_) ⟨by omega, by omega⟩ (fun z => ih g _ _ _ _ _ so ?_ (by omega)) (fun z1 z2 z3 => ?_) (fun z1 z2 z3 q' r15 r16 r17 ro => ih q' _ _ _ _ _ (fun a i z => by rw [ro a i (by omega), so a i z]) ?_ (by omega))
          · have := b.2.1 _ cs.1 cs.2 z2
            omega
          · refine VI_start I0 sl ?_
            rcases z with z | z
            · omega
            · omega
          · obtain ⟨i, i0, i1, _⟩ := h7 _ z1 z2 z3
            omega
          · rw [r15, r16, r17, ro (T + 14) 6 (by omega), show q' (T + 18) = g (T + 18) from funext fun i => ro _ i (by omega)]
            exact VI_first I0 sl rfl z1 z2 ccs (hP start h3 sl) z3
      refine ⟨by unfold r32; omega, fun w => by omega, fun _ => ⟨fun w => body (Or.inl w), fun w => ⟨fun v => H1 g (fun a i q => so a i (by omega)) ?_ so, fun v => body (Or.inr v)⟩⟩⟩
      refine ⟨fun j j0 j1 => ?_, fun x x0 x1 => ?_, h5, by omega⟩
      · obtain ⟨o1, o2, o3, o4⟩ := h10 j j0 j1
        rcases h1 _ o1.1 o1.2 with z | z
        · omega
        · exact ⟨o1, z.2.1, z.2.2, o3, o4⟩
      · have cx := (Fr x (by omega) (by omega)).2.1
        have := h12 x x0 (by omega)
        rcases h1 _ cx.1 cx.2 with z | ⟨z | z, _⟩
        · exact absurd z this
        · obtain ⟨i, i0, i1, _⟩ := h7 _ cx.1 cx.2 z
          omega
        · exact h11 _ cx.1 cx.2 z
  refine W_Walk_visit_0 hT ?_
  rintro g1 rfl
  have loop : ∀ g : HP, g = setR (up2 h (T + 14) 6 0) (T + 15) 0 0 (fun _ => 0) → Go d M_Walk_visit 7 [(19, T + 14), (0, fr), (0, to), (0, 0), (2, 0), (2, 0), (2, 0), (2, 0)] [] g Q := by
    refine up_loop (i := 0) (hi := n) n0 (P := fun i => ∀ g : HP, g = setR (up2 h (T + 14) 6 0) (T + 15) 0 i (fun _ => 0) → Go d M_Walk_visit 7 [(19, T + 14), (0, fr), (0, to), (0, i), (2, 0), (2, 0), (2, 0), (2, 0)] [] g Q) ?_ ?_
    · intro g hg
      have gs : ∀ i, 0 ≤ i → i < n → g (T + 15) i = 0 := fun i a b => by rw [hg, setR_in a b]
      have g6 : g (T + 14) 6 = 0 := by rw [hg, setR_ne (by omega), up2_eq]
      have go : ∀ a i, a < T + 14 ∨ T + 18 < a → g a i = h a i := fun a i q => by rw [hg, setR_ne (by omega), up2_nc (by omega)]
      clear hg
      refine W_Walk_visit_7 hT ⟨fun _ => main _ g fr (-1) 0 _ _ go ?_ rfl, fun w => ?_⟩
      · have z1 : cnt (fun r => g (T + 15) r = 1) 0 n = 0 := by
          rw [cnt_congr (q := fun _ => False) (fun i a b => by rw [gs i a b]; exact ⟨fun z => by omega, fun z => z.elim⟩)]
          exact up_ind (lo := 0) (P := fun i => cnt (fun _ => False) 0 i = 0) (cnt_nil (Int.le_refl _)) (fun i hi ih => by rw [cnt_sf (p := fun _ => False) hi (fun w => w), ih]) n n0
        have z2 : cnt (fun r => g (T + 15) r = 2) 0 n = 0 := by
          rw [cnt_congr (q := fun _ => False) (fun i a b => by rw [gs i a b]; exact ⟨fun z => by omega, fun z => z.elim⟩)]
          exact up_ind (lo := 0) (P := fun i => cnt (fun _ => False) 0 i = 0) (cnt_nil (Int.le_refl _)) (fun i hi ih => by rw [cnt_sf (p := fun _ => False) hi (fun w => w), ih]) n n0
        refine ⟨fun r a b => Or.inl (gs r a b), ⟨by omega, by omega, f1, by omega⟩, fun i a b => by omega, fun r a b q => ?_, fun i a b => by omega, fun i a b => by omega, fun j a b => by omega, fun r a b q => ?_, fun x a b => by omega, by omega, by omega, ?_⟩
        · rw [gs r a b] at q; omega
        · rw [gs r a b] at q; omega
        · rw [g6]
          show (0 : Int) = fr - fr + 0 + 3 * 0
          omega
      · rw [go T 13 (by omega), hn] at w; omega
    · intro i i0 i1 ih g hg
      refine W_Walk_visit_7 hT ?_
      rw [show g T 13 = n by rw [hg, setR_ne (by omega), up2_nc (by omega), hn]]
      refine ⟨fun w => by omega, fun _ => ⟨⟨by omega, by omega⟩, ?_⟩⟩
      intro q e
      refine ⟨by unfold r32; omega, ih q ?_⟩
      rw [e, hg, setR_snoc i0 rfl]
  exact loop _ (by rw [setR_nil (Int.le_refl _)])
end
