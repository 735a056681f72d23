section
theorem vtF_le {h0 h : HP} {n : Int} (rb : RB0 h0) {f f' : Nat} {v : Int} {τ : Tm} (l : f ≤ f') (H : vtF h0 h n f v τ) : vtF h0 h n f' v τ := vtF_mono (VSm_refl h n) (Int.le_refl _) (rb_p3 rb) f f' v τ l H
/-- a pair -/
theorem e_pair {d tg : Nat} {h0 h : HP} {K : Nat} {c p sc base k hs N w r w' v6 v7 : Int} {Γ : Int → Tm} {τ : Tm} {env : Int → Int} {w12 : AV} {Q : PQ} (ht : tg = 11 ∨ tg = 31) (rb : RB0 h0) (ih : EvT h0 K) (hK : 60 - k ≤ K) (hd : 8 * K + 66 < d) (E : EvS h0 c p sc base k hs N w r w' Γ τ env h) (cc : bA (h0 (c + 1)) (h0 c 2) p = 80) (HG : EvG h0 c p sc base k hs env τ h Q) (HB : EvN h0 c p sc k env h Q) : Go d M_Machine_evaluate 173 [(13, 124), (tg, c), (0, p), (0, base), (0, k), (0, bA (h0 (c + 1)) (h0 c 2) p), (0, v6), (36, v7), (0, 2), (0, p + 1), (0, hs), (0, 0), w12] [] h Q := by
  obtain ⟨⟨kk, C, p0, N1⟩, G, W, km, ss, ⟨e8, e9, hs0, hs1⟩, nn, ev⟩ := E
  have cz := cod_nz C
  have p2 : pO (bA (h0 (c + 1)) (h0 c 2) p) = ((1 : Nat) : Int) + 1 := by rw [cc]; rfl
  have GG : GC (gh h0 c N) 2 (p + 1) sc w r w' := GD_op G p2
  have Ww : ∃ a b, τ = tP a b ∧ wh h0 c (p + 1) Γ sc a ∧ wh h0 c (h0 (c + 2) (p + 1)) Γ sc b := by
    rcases WT_out W with ⟨x, _⟩ | ⟨x, _⟩ | ⟨x, _⟩ | ⟨_, H⟩ | ⟨x, _⟩ | ⟨x, _⟩ | ⟨x, _⟩
    · unfold lfO at x; omega
    · omega
    · omega
    · exact H
    all_goals omega
  obtain ⟨ta, tb, eτ, wa, wb⟩ := Ww
  refine ev_parts (T := [ta, tb]) (q0 := p + 1) ht rb ih hK kk.1 kk.2 hd C N1 ss e8 ⟨hs0, hs1⟩ ev nn.1 km (by show 2 ≤ 3; omega) (fun acc g q w12 al F av cx => ?_) (fun o h' ho km' vs nl cx => HB o h' ho km' vs nl (fun sk sv ag => ⟨0, 0, 0, Or.inr (Or.inr (Or.inr (Or.inr (Or.inl ⟨cc, cx sk sv ag _⟩))))⟩)) [ta, tb] 0 (p + 1) w [] h w12 (fun i => by rw [Nat.zero_add]) rfl (by omega) ⟨wa, wb, trivial⟩ GG rfl (EvL_0 e9 (by omega) nn.2.2) (fun i x e => by rw [List.getElem?_nil] at e; cases e) (fun _ _ _ _ _ H => H)
  obtain ⟨x, y, ea⟩ := two_acc al
  subst ea
  have L := F.2.2.2.2.2
  have ax := av 0 x rfl
  have ay := av 1 y rfl
  have tx := ax.2 ta rfl
  have ty := ay.2 tb rfl
  have kmg : KM h0 g := fun a i p => (F.1 a i p).trans (km a i p)
  have g9 : g 124 9 = hs + 2 := F.2.1.2
  have hx : g 129 hs = x := by
    have := ax.1
    rw [show hs + ((0 : Nat) : Int) = hs by omega] at this
    exact this
  have hy : g 129 (hs + 1) = y := ay.1
  have nl : g 124 7 + 1 ≤ g 124 10 := by omega
  refine VT_Machine_evaluate_173 ht cz ⟨fun _ => ⟨fun n71 => ⟨by omega, ?_⟩, fun z => by omega⟩, fun z => absurd z (Int.lt_irrefl _)⟩
  refine VT_Machine_compose_0 ht cz ⟨cz, by omega, m_byte C kmg ⟨by omega, m_held (hs := hs) (j := 2) (x := 0) g9 hs0 (by omega) (fun _ => ⟨by omega, ?_⟩) (fun z => by omega)⟩⟩
  rw [w32_s (z := hs + 1) (by omega) (by omega)]
  refine m_held (hs := hs) (j := 2) (x := 0) g9 (by omega) (by omega) (fun _ => ?_) (fun z => by omega)
  refine ⟨fun z => by omega, fun _ => ⟨fun z => by omega, fun _ => ⟨fun z => by omega, fun _ => ⟨fun z => by omega, fun _ => ⟨fun z => by omega, fun _ => ⟨fun z => by omega, fun _ => ⟨fun z => by omega, fun _ => ⟨fun _ => ⟨by omega, ?_⟩, fun z => absurd cc z⟩⟩⟩⟩⟩⟩⟩⟩
  refine c_composed (hs := hs + 2) (by omega) rfl (by omega) (by omega) g9 hs0 (by omega) (by omega) (by omega) (fun g3 o e7 e5 e6 e27 g2 e2 => ?_)
  obtain ⟨F2, vs, ⟨q7, q10, q11⟩, vsg⟩ := e_new F e9 o e7 nl e2
  have vsn := vs (g 124 7) (by omega) (by omega)
  have c0 := vsn.2.2 0 (by omega) (by omega)
  have c1 := vsn.2.2 1 (by omega) (by omega)
  have d0 := e27 0 (by omega) (by omega)
  have d1 := e27 1 (by omega) (by omega)
  rw [show hs + 0 = hs by omega, hx] at d0
  rw [hy] at d1
  rw [d0] at c0
  rw [d1] at c1
  rw [show 3 * g 124 7 + 0 = 3 * g 124 7 by omega] at c0
  have vsa := VSm_trans (by omega) vsg vs
  obtain ⟨fx, vx⟩ := vt_mono vsa (show g 124 7 ≤ g2 124 7 by omega) (rb_p3 rb) tx
  obtain ⟨fy, vy⟩ := vt_mono vsa (show g 124 7 ≤ g2 124 7 by omega) (rb_p3 rb) ty
  refine HG _ g2 F2 (by omega) ⟨(fx + fy) + 1, ⟨by omega, by omega⟩, Or.inr (Or.inr (Or.inl ⟨by omega, by omega, ta, tb, eτ, ?_, ?_⟩))⟩ (fun sk sv ag => ?_)
  · rw [c0]; exact vtF_le rb (by omega) vx
  · rw [c1]; exact vtF_le rb (by omega) vy
  · have a := AGr_0 ag (v := g 124 7) (by omega) (by omega)
    have agg : AGr sk sv g (g 124 7) := AGr_mono ag vsa (by omega)
    exact Or.inr (Or.inr (Or.inr (Or.inr (Or.inl ⟨cc, cx sk sv agg _ _ ⟨x, y, rfl, by omega, by omega, by omega, rfl, q10, q11, q7⟩⟩))))
/-- L and R -/
theorem e_side {d tg : Nat} {h0 h : HP} {K : Nat} {c p sc base k hs N w r w' v6 v7 : Int} {Γ : Int → Tm} {τ : Tm} {env : Int → Int} {w12 : AV} {Q : PQ} (ht : tg = 11 ∨ tg = 31) (rb : RB0 h0) (ih : EvT h0 K) (hK : 60 - k ≤ K) (hd : 8 * K + 66 < d) (E : EvS h0 c p sc base k hs N w r w' Γ τ env h) (cc : bA (h0 (c + 1)) (h0 c 2) p = 76 ∨ bA (h0 (c + 1)) (h0 c 2) p = 82) (HG : EvG h0 c p sc base k hs env τ h Q) (HB : EvN h0 c p sc k env h Q) : Go d M_Machine_evaluate 173 [(13, 124), (tg, c), (0, p), (0, base), (0, k), (0, bA (h0 (c + 1)) (h0 c 2) p), (0, v6), (36, v7), (0, 1), (0, p + 1), (0, hs), (0, 0), w12] [] h Q := by
  obtain ⟨⟨kk, C, p0, N1⟩, G, W, km, ss, ⟨e8, e9, hs0, hs1⟩, nn, ev⟩ := E
  have cz := cod_nz C
  have z2 : aSZ (124 + 2) = 1000 := rfl
  have z3 : aSZ (124 + 3) = 3000 := rfl
  have p2 : pO (bA (h0 (c + 1)) (h0 c 2) p) = ((0 : Nat) : Int) + 1 := by
    unfold pO
    rw [if_pos cc]
    rfl
  have GG : GC (gh h0 c N) 1 (p + 1) sc w r w' := GD_op G p2
  have Ww : ∃ a b, wh h0 c (p + 1) Γ sc (tP a b) ∧ τ = (if bA (h0 (c + 1)) (h0 c 2) p = 76 then a else b) := by
    rcases WT_out W with ⟨x, _⟩ | ⟨x, _⟩ | ⟨x, _⟩ | ⟨x, _⟩ | ⟨_, H⟩ | ⟨x, _⟩ | ⟨x, _⟩
    · unfold lfO at x; omega
    · omega
    · omega
    · omega
    · exact H
    all_goals omega
  obtain ⟨ta, tb, wa, eτ⟩ := Ww
  refine ev_parts (T := [tP ta tb]) (q0 := p + 1) ht rb ih hK kk.1 kk.2 hd C N1 ss e8 ⟨hs0, hs1⟩ ev nn.1 km (by show 1 ≤ 3; omega) (fun acc g q w12 al F av cx => ?_) (fun o h' ho km' vs nl cx => HB o h' ho km' vs nl (fun sk sv ag => ⟨0, 0, 0, Or.inr (Or.inr (Or.inr (Or.inr (Or.inr (Or.inl ⟨cc, cx sk sv ag _⟩)))))⟩)) [tP ta tb] 0 (p + 1) w [] h w12 (fun i => by rw [Nat.zero_add]) rfl (by omega) ⟨wa, trivial⟩ GG rfl (EvL_0 e9 (by omega) nn.2.2) (fun i x e => by rw [List.getElem?_nil] at e; cases e) (fun _ _ _ _ _ H => H)
  obtain ⟨x, ea⟩ := one_acc al
  subst ea
  have L := F.2.2.2.2.2
  have ax := av 0 x rfl
  have tx := ax.2 (tP ta tb) rfl
  have rx := vt_r tx
  obtain ⟨kx, wx, v1, v2⟩ := vt_P tx
  have kmg : KM h0 g := fun a i p => (F.1 a i p).trans (km a i p)
  have g9 : g 124 9 = hs + 1 := F.2.1.2
  have hx : g 129 hs = x := by
    have := ax.1
    rw [show hs + ((0 : Nat) : Int) = hs by omega] at this
    exact this
  refine VT_Machine_evaluate_173 ht cz ⟨fun _ => ⟨fun n71 => ⟨by omega, ?_⟩, fun z => by omega⟩, fun z => absurd z (Int.lt_irrefl _)⟩
  refine VT_Machine_compose_0 ht cz ⟨cz, by omega, m_byte C kmg ⟨by omega, m_held (hs := hs) (j := 1) (x := 0) g9 hs0 (by omega) (fun _ => ⟨by omega, ?_⟩) (fun z => by omega)⟩⟩
  rw [w32_s (z := hs + 1) (by omega) (by omega), hx]
  refine m_held (hs := hs) (j := 1) (x := 0) g9 (by omega) (by omega) (fun z => by omega) (fun _ => ?_)
  have fin : ∀ (v : Int), (v = (if bA (h0 (c + 1)) (h0 c 2) p = 76 then g 127 (3 * x) else g 127 (3 * x + 1))) → vt h0 g (g 124 7) v τ → ∀ g2 : HP, g2 = up2 g 124 9 hs → Q v g2 := by
    intro v evv tv g2 e2
    obtain ⟨F2, vs, q7, q10, q11⟩ := EvL_fin F (EvF_id (by omega) (by omega)) e9 e2
    refine HG _ g2 F2 (by omega) (by rw [q7]; exact vt_mono vs (Int.le_refl _) (rb_p3 rb) tv) (fun sk sv ag => ?_)
    have agg : AGr sk sv g (g 124 7) := AGr_mono ag vs (by omega)
    have axx := AGr_0 agg rx.1 rx.2
    refine Or.inr (Or.inr (Or.inr (Or.inr (Or.inr (Or.inl ⟨cc, cx sk sv agg _ _ ⟨x, rfl, by omega, ?_, q10, q11, q7⟩⟩)))))
    rw [axx.2.1, axx.2.2.1]
    exact evv
  refine ⟨fun z => by omega, fun _ => ⟨fun z => by omega, fun _ => ⟨fun z => by omega, fun _ => ⟨fun z => by omega, fun _ => ⟨fun z => by omega, fun _ => ⟨fun z => by omega, fun _ => ⟨fun c1 => ⟨by omega, ?_⟩, fun n1 => ⟨fun z => by omega, fun _ => ⟨fun c1 => ⟨by omega, ?_⟩, fun z => by omega⟩⟩⟩⟩⟩⟩⟩⟩⟩
  · have w1 : g (124 + 2) x = 2 := wx
    refine m_parV (by omega) rx.1 rx.2 (by omega) (by omega) (by omega) (by omega) ?_
    rw [show 3 * x + 0 = 3 * x by omega]
    exact fin _ (by rw [if_pos c1]; rfl) (by rw [eτ, if_pos c1]; exact v1)
  · have w1 : g (124 + 2) x = 2 := wx
    refine m_parV (by omega) rx.1 rx.2 (by omega) (by omega) (by omega) (by omega) ?_
    exact fin _ (by rw [if_neg n1]; rfl) (by rw [eτ, if_neg n1]; exact v2)
end
