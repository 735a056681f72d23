section
/-- the parts of a node, one after another -/
theorem r_prt {h0 g0 : HP} {sk sv : Int → Int} {N n : Nat} {c b Nn q0 k sc base F s nv out o : Int} {env : Int → Int} {h1 : HP} {d : Nat} {Q : PQ} {KK : List Int → Int → Int → Int → Prop} (rk : RvK h0 g0) (R : RvT h0 g0 sk sv N) (hd : 30 < d) (hN : 1001 - s ≤ N + 1) (nb : NB h0 c b Nn) (k01 : 0 ≤ k ∧ k < 100) (kid : KID (fun x i => g0 x (b + i)) (h0 (c + 2)) (RN h0 g0 c b Nn) n q0 (g0 164 (b + k)) sc) (eo : g0 161 (b + k) = o) (o63 : o ≠ 63) (hp : rP g0 (b + k) o n) (n3 : n ≤ 3) (F0 : 0 ≤ F) (F1 : F ≤ 59) (ss : 0 ≤ sc ∧ 0 ≤ base ∧ base + sc ≤ 3 * (F + 1)) (ev : ∀ i, 0 ≤ i → i < sc → h1 188 (base + i) = env i ∧ 0 ≤ env i ∧ env i < nv)
    (HE : ∀ (acc : List Int) (h' : HP) (s2 d2 n2 : Int), KK acc s2 d2 n2 → acc.length = n → RvS h0 g0 sk sv h' (F + 1) s2 d2 n2 → RvX h1 h' F (base + sc) → (h' 184 F = b + k ∧ h' 185 F = base ∧ h' 186 F = n + 1) → (∀ (i : Nat) x, acc[i]? = some x → h' 187 (3 * F + i) = x ∧ 0 ≤ x ∧ x < n2) → (nv ≤ n2 ∧ s ≤ s2 ∧ n2 + s ≤ s2 + nv) → Go (d - 1) M_Mo_runStep 164 [(22, 135), (0, F), (0, b + k), (0, o), (0, (n : Int)), (0, (n : Int))] [] h' (fun _ k => Lr d Q k))
    (HB : out < 0 → ∀ h', RvB g0 h' → h' 135 82 = out → Q out h') :
    ∀ (m j : Nat) (acc : List Int) (h : HP) (s2 d2 n2 : Int), j + m = n → acc.length = j → chE (er h0 sk sv) (fun c => h0 (c + 2)) c sc env (F + 1) out KK m (plc (h0 (c + 2)) j q0) acc s2 d2 n2 → RvS h0 g0 sk sv h (F + 1) s2 d2 n2 → RvX h1 h F (base + sc) → (h 184 F = b + k ∧ h 185 F = base ∧ h 186 F = j) → (∀ (i : Nat) x, acc[i]? = some x → (i + 1 < j → h 187 (3 * F + i) = x) ∧ (i + 1 = j → h 135 79 = x) ∧ 0 ≤ x ∧ x < n2) → (nv ≤ n2 ∧ s ≤ s2 ∧ n2 + s ≤ s2 + nv) → Lr d Q h := by
  have b3 := NB_b nb
  intro m
  induction m with
  | zero =>
    intro j acc h s2 d2 n2 jn al ch T X top st nn
    have jn' : j = n := by omega
    subst jn'
    have B := T.1
    have T1 := T.2.1
    have e161 : h 161 (b + k) = o := (B 161 _ (by omega) (by omega)).trans eo
    have e163 := B 163 (b + k) (by omega) (by omega)
    have hp' : rP h (b + k) o j := by
      unfold rP at *
      rw [e163, B 153 _ (by omega) (by omega), B 153 _ (by omega) (by omega)]
      exact hp
    refine r_go (by omega) T1.1 T1.2.2.2.2 F0 F1 top.1 (by omega) (by omega) top.2.2 (by omega) (by omega) e161 o63 hp' ?_
    refine HE acc (stp h F j) s2 d2 n2 ch al (RvS_pile rk T (fun a i p q => stp_lo (by omega) (by omega)) ((stp_lo (by omega) (by omega)).trans T1.1)) (fun a i p => (stp_lo (by omega) (by omega)).trans (X a i p)) ⟨(stp_lo (by omega) (by omega)).trans top.1, (stp_lo (by omega) (by omega)).trans top.2.1, up2_eq⟩ (fun i x ex => ?_) nn
    obtain ⟨s1, s2', s3⟩ := st i x ex
    refine ⟨?_, s3⟩
    have il : i < acc.length := by
      rcases Nat.lt_or_ge i acc.length with z | z
      · exact z
      · rw [List.getElem?_eq_none z] at ex; cases ex
    by_cases z : i + 1 = j
    · rw [← s2' z]
      unfold stp
      rw [up2_ext (by omega), show 3 * F + (i : Int) = 3 * F + (j : Int) - 1 by omega]
      exact sto_1 (by omega) (by omega)
    · rw [stp_o (by omega) (by omega)]
      exact s1 (by omega)
  | succ m ih =>
    intro j acc h s2 d2 n2 jn al ch T X top st nn
    have B := T.1
    have T1 := T.2.1
    have e161 : h 161 (b + k) = o := (B 161 _ (by omega) (by omega)).trans eo
    have e163 := B 163 (b + k) (by omega) (by omega)
    have hp' : rP h (b + k) o n := by
      unfold rP at *
      rw [e163, B 153 _ (by omega) (by omega), B 153 _ (by omega) (by omega)]
      exact hp
    refine r_go (by omega) T1.1 T1.2.2.2.2 F0 F1 top.1 (by omega) (by omega) top.2.2 (by omega) (by omega) e161 o63 hp' ?_
    have T' : RvS h0 g0 sk sv (stp h F j) (F + 1) s2 d2 n2 := RvS_pile rk T (fun a i p q => stp_lo (by omega) (by omega)) ((stp_lo (by omega) (by omega)).trans T1.1)
    have st' : ∀ (i : Nat) x, acc[i]? = some x → stp h F j 187 (3 * F + i) = x ∧ 0 ≤ x ∧ x < n2 := by
      intro i x ex
      obtain ⟨s1, s2', s3⟩ := st i x ex
      refine ⟨?_, s3⟩
      have il : i < acc.length := by
        rcases Nat.lt_or_ge i acc.length with z | z
        · exact z
        · rw [List.getElem?_eq_none z] at ex; cases ex
      by_cases z : i + 1 = j
      · rw [← s2' z]
        unfold stp
        rw [up2_ext (by omega), show 3 * F + (i : Int) = 3 * F + (j : Int) - 1 by omega]
        exact sto_1 (by omega) (by omega)
      · rw [stp_o (by omega) (by omega)]
        exact s1 (by omega)
    have X' : RvX h1 (stp h F j) F (base + sc) := fun a i p => (stp_lo (by omega) (by omega)).trans (X a i p)
    obtain ⟨ov, s3, d3, n3', E, ch'⟩ := ch
    have rg : ∀ i : Nat, i ≤ j → 0 ≤ nxt (fun x i => g0 x (b + i)) i (g0 164 (b + k)) ∧ nxt (fun x i => g0 x (b + i)) i (g0 164 (b + k)) < 100 := fun i ij => RN_r (KID_nth i n _ _ _ (by omega) kid)
    have nd := KID_nth j n _ _ _ (by omega) kid
    refine N_Mo_runStep_164 ⟨fun z => by omega, fun _ => ⟨by omega, ?_⟩⟩
    refine c_childB (R := fun x i => g0 x (b + i)) b3 (fun x i p q => ?_) k01.1 k01.2 (by omega) rg ?_
    · rw [stp_lo (by omega) (by omega)]; exact B x _ (by omega) (by omega)
    refine ⟨by omega, by omega, ?_⟩
    rw [show stp h F j 185 F = base from (stp_lo (by omega) (by omega)).trans top.2.1]
    refine r_ch rk R hd (by omega) nb nd (by omega) (by omega) T' ⟨ss.1, ss.2.1, by omega⟩ (fun i i0 i1 => ?_) E (fun o0 h' T2 X2 l q => ?_) (fun o0 h' b2 e2 => ?_)
    · have := ev i i0 i1
      rw [X' 188 _ (by omega)]
      exact ⟨this.1, this.2.1, by omega⟩
    · rcases ch' with ⟨z, _⟩ | ⟨_, ch'⟩
      · omega
      · have ch' : chE (er h0 sk sv) (fun c => h0 (c + 2)) c sc env (F + 1) out KK m (h0 (c + 2) (plc (h0 (c + 2)) j q0)) (acc ++ [ov]) s3 d3 n3' := ch'
        rw [← plc_succ (h0 (c + 2)) j q0] at ch'
        have sl := T2.2.2.1
        refine ih (j + 1) (acc ++ [ov]) h' s3 d3 n3' (by omega) (by rw [List.length_append, al]; rfl) ch' T2 (RvX_trans (by omega) (Int.le_refl _) X' X2) ⟨?_, ?_, ?_⟩ (fun i x ex => ?_) ?_
        · rw [X2 184 F (by omega)]; exact (stp_lo (by omega) (by omega)).trans top.1
        · rw [X2 185 F (by omega)]; exact (stp_lo (by omega) (by omega)).trans top.2.1
        · rw [X2 186 F (by omega)]
          show up2 _ 186 F ((j : Int) + 1) 186 F = _
          rw [up2_eq]; omega
        · rcases Nat.lt_or_ge i acc.length with il | il
          · rw [List.getElem?_append_left il] at ex
            obtain ⟨a1, a2, a3⟩ := st' i x ex
            refine ⟨fun _ => ?_, fun z => by omega, a2, by omega⟩
            rw [X2 187 _ (by omega)]; exact a1
          · have ie : i = acc.length := by
              rcases Nat.lt_or_ge i (acc.length + 1) with z | z
              · omega
              · rw [List.getElem?_eq_none (by rw [List.length_append]; exact z)] at ex
                cases ex
            subst ie
            rw [List.getElem?_append_right (Nat.le_refl _), Nat.sub_self] at ex
            have ev' : ov = x := Option.some.inj ex
            subst ev'
            exact ⟨fun z => by omega, fun _ => l, o0, q.1⟩
        · omega
    · rcases ch' with ⟨_, z⟩ | ⟨z, _⟩
      · subst z
        exact HB o0 h' b2 e2
      · omega
end
