section
/-- a new value behind its parts -/
theorem e_new {h g g3 g2 : HP} {S hs j : Int} (F : EvL h g S hs j) (e9 : h 124 9 = hs) (o : ∀ a i, ¬ (a = 124 ∧ i = 7) → ¬ ((a = 125 ∨ a = 126) ∧ i = g 124 7) → ¬ (a = 127 ∧ 3 * g 124 7 ≤ i ∧ i < 3 * g 124 7 + 3) → g3 a i = g a i) (e7 : g3 124 7 = g 124 7 + 1) (nl : g 124 7 + 1 ≤ g 124 10) (e2 : g2 = up2 g3 124 9 hs) : EvF h g2 S hs ∧ VSm g3 g2 (g3 124 7) ∧ (g2 124 7 = g 124 7 + 1 ∧ g2 124 10 = g 124 10 ∧ g2 124 11 = g 124 11) ∧ VSm g g3 (g 124 7) := by
  have Fn := EvF_new (S := S) (hs := hs) rfl o e7 nl F.2.2.2.2.2.2.2.1
  obtain ⟨F2, vs, q7, q10, q11⟩ := EvL_fin F Fn e9 e2
  have g10 : g3 124 10 = g 124 10 := o 124 10 (by omega) (by omega) (by omega)
  have g11 : g3 124 11 = g 124 11 := o 124 11 (by omega) (by omega) (by omega)
  exact ⟨F2, vs, by omega, Fn.2.2.2.2.1⟩
theorem two_acc {acc : List Int} (h : acc.length = 2) : ∃ x y, acc = [x, y] := by
  match acc, h with
  | [x, y], _ => exact ⟨x, y, rfl⟩
theorem one_acc {acc : List Int} (h : acc.length = 1) : ∃ x, acc = [x] := by
  match acc, h with
  | [x], _ => exact ⟨x, rfl⟩
/-- + - < = -/
theorem e_arith {d tg : Nat} {h0 h : HP} {K : Nat} {c p sc base k hs N w r w' v6 v7 : Int} {Γ : Int → Tm} {τ : Tm} {env : Int → Int} {w12 : AV} {Q : PQ} (ht : tg = 11 ∨ tg = 31) (rb : RB0 h0) (ih : EvT h0 K) (hK : 60 - k ≤ K) (hd : 8 * K + 66 < d) (E : EvS h0 c p sc base k hs N w r w' Γ τ env h) (cc : bA (h0 (c + 1)) (h0 c 2) p = 43 ∨ bA (h0 (c + 1)) (h0 c 2) p = 45 ∨ bA (h0 (c + 1)) (h0 c 2) p = 60 ∨ bA (h0 (c + 1)) (h0 c 2) p = 61) (HG : EvG h0 c p sc base k hs env τ h Q) (HB : EvN h0 c p sc k env h Q) : Go d M_Machine_evaluate 173 [(13, 124), (tg, c), (0, p), (0, base), (0, k), (0, bA (h0 (c + 1)) (h0 c 2) p), (0, v6), (36, v7), (0, 2), (0, p + 1), (0, hs), (0, 0), w12] [] h Q := by
  obtain ⟨⟨kk, C, p0, N1⟩, G, W, km, ss, ⟨e8, e9, hs0, hs1⟩, nn, ev⟩ := E
  have cz := cod_nz C
  have z3 : aSZ (124 + 3) = 3000 := rfl
  have p2 : pO (bA (h0 (c + 1)) (h0 c 2) p) = ((1 : Nat) : Int) + 1 := by
    unfold pO
    rw [if_neg (by omega), if_pos (by omega)]
    rfl
  have GG : GC (gh h0 c N) 2 (p + 1) sc w r w' := GD_op G p2
  have Ww : wh h0 c (p + 1) Γ sc tI ∧ wh h0 c (h0 (c + 2) (p + 1)) Γ sc tI ∧ τ = (if bA (h0 (c + 1)) (h0 c 2) p = 43 ∨ bA (h0 (c + 1)) (h0 c 2) p = 45 then tI else tB) := by
    rcases WT_out W with ⟨x, _⟩ | ⟨_, a, b, e⟩ | ⟨x, _⟩ | ⟨x, _⟩ | ⟨x, _⟩ | ⟨x, _⟩ | ⟨x, _⟩
    · unfold lfO at x; omega
    · exact ⟨a, b, e⟩
    all_goals omega
  refine ev_parts (T := [tI, tI]) (q0 := p + 1) ht rb ih hK kk.1 kk.2 hd C N1 ss e8 ⟨hs0, hs1⟩ ev nn.1 km (by decide) (fun acc g q w12 al F av cx => ?_) (fun o h' ho km' vs nl cx => HB o h' ho km' vs nl (fun sk sv ag => ⟨0, 0, 0, Or.inr (Or.inr (Or.inr (Or.inl ⟨cc, cx sk sv ag _⟩)))⟩)) [tI, tI] 0 (p + 1) w [] h w12 (fun i => by rw [Nat.zero_add]) rfl (by omega) ⟨Ww.1, Ww.2.1, trivial⟩ GG rfl (EvL_0 e9 (by omega) nn.2.2) (fun i x e => by rw [List.getElem?_nil] at e; cases e) (fun _ _ _ _ _ H => H)
  obtain ⟨x, y, ea⟩ := two_acc al
  subst ea
  have L := F.2.2.2.2.2
  have ax := av 0 x rfl
  have ay := av 1 y rfl
  have tx := ax.2 tI rfl
  have ty := ay.2 tI rfl
  have rx := vt_r tx
  have ry := vt_r ty
  have kx := vt_I tx
  have ky := vt_I ty
  have kmg : KM h0 g := fun a i p => (F.1 a i p).trans (km a i p)
  have g9 : g 124 9 = hs + 2 := F.2.1.2
  have hx : g 129 hs = x := by
    have := ax.1
    rw [show hs + ((0 : Nat) : Int) = hs by omega] at this
    exact this
  have hy : g 129 (hs + 1) = y := ay.1
  have nl : g 124 7 + 1 ≤ g 124 10 := by omega
  refine VT_Machine_evaluate_173 ht cz ⟨fun _ => ⟨fun n71 => ⟨by omega, ?_⟩, fun z => by omega⟩, fun z => absurd z (Int.lt_irrefl _)⟩
  refine VT_Machine_compose_0 ht cz ⟨cz, by omega, m_byte C kmg ⟨by omega, m_held (hs := hs) (j := 2) (x := 0) g9 hs0 (by omega) (fun _ => ⟨by omega, ?_⟩) (fun z => by omega)⟩⟩
  rw [w32_s (z := hs + 1) (by omega) (by omega)]
  refine m_held (hs := hs) (j := 2) (x := 0) g9 (by omega) (by omega) (fun _ => ?_) (fun z => by omega)
  rw [hx, hy]
  -- a new value
  have nw : ∀ (kd num : Int) (g3 : HP), (∀ a i, ¬ (a = 124 ∧ i = 7) → ¬ ((a = 125 ∨ a = 126) ∧ i = g 124 7) → ¬ (a = 127 ∧ 3 * g 124 7 ≤ i ∧ i < 3 * g 124 7 + 3) → g3 a i = g a i) → g3 124 7 = g 124 7 + 1 → g3 125 (g 124 7) = kd → g3 126 (g 124 7) = 0 → g3 127 (3 * g 124 7) = num → ((kd = 10 ∧ τ = tI ∧ r32 num) ∨ (kd = 11 ∧ τ = tB ∧ (num = 0 ∨ num = 1))) → kd = (if bA (h0 (c + 1)) (h0 c 2) p = 43 ∨ bA (h0 (c + 1)) (h0 c 2) p = 45 then 10 else 11) → num = opV (bA (h0 (c + 1)) (h0 c 2) p) (g 127 (3 * x)) (g 127 (3 * y)) → ∀ g2 : HP, g2 = up2 g3 124 9 hs → Q (g 124 7) g2 := by
    intro kd num g3 o e7 e5 e6 e27 ty ek en g2 e2
    obtain ⟨F2, vs, ⟨q7, q10, q11⟩, vsg⟩ := e_new F e9 o e7 nl e2
    have vsn := vs (g 124 7) (by omega) (by omega)
    have c0 := vsn.2.2 0 (by omega) (by omega)
    rw [show 3 * g 124 7 + 0 = 3 * g 124 7 by omega] at c0
    refine HG _ g2 F2 (by omega) ⟨1, ⟨by omega, by omega⟩, ?_⟩ (fun sk sv ag => ?_)
    · rcases ty with ⟨a, b, c'⟩ | ⟨a, b, c'⟩
      · exact Or.inl ⟨by omega, by omega, b, by rw [c0, e27]; exact c'⟩
      · exact Or.inr (Or.inl ⟨by omega, by omega, b, by rw [c0, e27]; exact c'⟩)
    · have a := AGr_0 ag (v := g 124 7) (by omega) (by omega)
      have agg : AGr sk sv g (g 124 7) := AGr_mono ag (VSm_trans (by omega) vsg vs) (by omega)
      have axx := AGr_0 agg rx.1 rx.2
      have ayy := AGr_0 agg ry.1 ry.2
      refine Or.inr (Or.inr (Or.inr (Or.inl ⟨cc, cx sk sv agg _ _ ⟨x, y, rfl, by omega, by omega, ?_, ?_, rfl, q10, q11, q7⟩⟩)))
      · rw [a.1, vsn.1, e5]; exact ek
      · rw [a.2.1, c0, e27, axx.2.1, ayy.2.1]; exact en
  have sg : ∀ (kd num : Int), ((kd = 10 ∧ τ = tI ∧ r32 num) ∨ (kd = 11 ∧ τ = tB ∧ (num = 0 ∨ num = 1))) → kd = (if bA (h0 (c + 1)) (h0 c 2) p = 43 ∨ bA (h0 (c + 1)) (h0 c 2) p = 45 then 10 else 11) → num = opV (bA (h0 (c + 1)) (h0 c 2) p) (g 127 (3 * x)) (g 127 (3 * y)) → Go (d - 1 - 1) M_Machine_single 0 [(13, 124), (0, kd), (0, num), (2, 0)] [] g (fun y1 k1 => ∀ g2 : HP, g2 = up2 k1 124 9 hs → Q y1 g2) := fun kd num a b e => c_single (by omega) rfl (by omega) (by omega) g9 (by omega) (by omega) (fun g3 o e7 e5 e6 e27 => nw kd num g3 o e7 e5 e6 e27 a b e)
  have cX : ∀ Q : PQ, Q (g (124 + 3) (3 * x)) g → Go (d - 1 - 1) M_Machine_contentOf 0 [(13, 124), (0, x)] [] g Q := fun Q H => m_conV (by omega) rx.1 rx.2 (by omega) H
  have cY : ∀ Q : PQ, Q (g (124 + 3) (3 * y)) g → Go (d - 1 - 1) M_Machine_contentOf 0 [(13, 124), (0, y)] [] g Q := fun Q H => m_conV (by omega) ry.1 ry.2 (by omega) H
  refine ⟨fun c1 => ⟨by omega, cX _ ⟨by omega, cY _ ⟨by omega, sg _ _ (Or.inl ⟨rfl, ?_, w32_r _⟩) ?_ ?_⟩⟩⟩, fun n1 => ⟨fun c1 => ⟨by omega, cX _ ⟨by omega, cY _ ⟨by omega, sg _ _ (Or.inl ⟨rfl, ?_, w32_r _⟩) ?_ ?_⟩⟩⟩, fun n2 => ⟨fun c1 => ⟨by omega, cX _ ⟨by omega, cY _ ⟨fun cmp => VT_Machine_compose_179 ht cz ⟨by omega, sg _ _ (Or.inr ⟨rfl, ?_, Or.inl rfl⟩) ?_ ?_⟩, fun cmp => VT_Machine_compose_179 ht cz ⟨by omega, sg _ _ (Or.inr ⟨rfl, ?_, Or.inr rfl⟩) ?_ ?_⟩⟩⟩⟩, fun n3 => ⟨fun c1 => ⟨by omega, cX _ ⟨by omega, cY _ ⟨fun cmp => VT_Machine_compose_206 ht cz ⟨by omega, sg _ _ (Or.inr ⟨rfl, ?_, Or.inl rfl⟩) ?_ ?_⟩, fun cmp => VT_Machine_compose_206 ht cz ⟨by omega, sg _ _ (Or.inr ⟨rfl, ?_, Or.inr rfl⟩) ?_ ?_⟩⟩⟩⟩, fun n4 => by omega⟩⟩⟩⟩
  · rw [Ww.2.2, if_pos (by omega)]
  · rw [if_pos (by omega)]
  · unfold opV; rw [if_pos c1]; rfl
  · rw [Ww.2.2, if_pos (by omega)]
  · rw [if_pos (by omega)]
  · unfold opV; rw [if_neg n1, if_pos c1]; rfl
  · rw [Ww.2.2, if_neg (by omega)]
  · rw [if_neg (by omega)]
  · unfold opV
    rw [if_neg n1, if_neg n2, if_pos c1, if_neg (by show ¬ (g 127 (3 * x) < g 127 (3 * y)); exact Int.not_lt.mpr cmp)]
  · rw [Ww.2.2, if_neg (by omega)]
  · rw [if_neg (by omega)]
  · unfold opV
    rw [if_neg n1, if_neg n2, if_pos c1, if_pos (show g 127 (3 * x) < g 127 (3 * y) from cmp)]
  · rw [Ww.2.2, if_neg (by omega)]
  · rw [if_neg (by omega)]
  · unfold opV
    rw [if_neg n1, if_neg n2, if_neg n3, if_neg (show ¬ (g 127 (3 * x) = g 127 (3 * y)) from cmp)]
  · rw [Ww.2.2, if_neg (by omega)]
  · rw [if_neg (by omega)]
  · unfold opV
    rw [if_neg n1, if_neg n2, if_neg n3, if_pos (show g 127 (3 * x) = g 127 (3 * y) from cmp)]
end
