section
theorem KS_hs {h : HP} {tm : Int → Tm} {S : Sx} {V : Vx} {D sc hs hs2 A : Int} {Γ : Int → Tm} (K : KS h tm S V D sc hs A Γ) (h0 : 0 ≤ hs2) (h1 : hs2 ≤ 192) : KS (up2 h 92 6 hs2) tm S V D sc hs2 A Γ := by
  obtain ⟨C, kD, ⟨k5, k6, k7, kA⟩, k8, k9, kr, ks⟩ := K
  have o : ∀ a i, ¬ (a = 92 ∧ i = 6) → up2 h 92 6 hs2 a i = h a i := fun a i q => up2_ext q
  refine ⟨CV_loc (fun a i p q => o a i (by omega)) C, ?_, ⟨?_, up2_eq, ?_, kA⟩, ?_, ?_, by omega, fun i i0 i1 => ?_⟩
  · rw [o 96 15 (by omega)]; exact kD
  · rw [o 92 5 (by omega)]; exact k5
  · rw [o 92 7 (by omega)]; exact k7
  · rw [o 92 8 (by omega), o 96 13 (by omega)]; exact k8
  · rw [o 92 9 (by omega), o 96 13 (by omega)]; exact k9
  · rw [o 121 i (by omega), o 96 13 (by omega)]; exact ks i i0 i1
/-- the types of the parts are held -/
theorem k_hold {d : Nat} {h : HP} {p v2 sg v4 hs n : Int} {tm : Int → Tm} {S : Sx} {V : Vx} {L : List Tm} {Q : PQ} (hd : 0 < d) (hn : 0 ≤ n) (ln : (L.length : Int) = n + 1) (n3 : n ≤ 3) (hs0 : 0 ≤ hs) (hs1 : hs + n ≤ 192) (C : CV h 96 512 tm S V) (sg0 : sg ≠ 0) (sg1 : sg < 92) (en : h sg 2 = n) (tp : h 93 5 = L.length) (St : StkL (h 95) 0 (h 96 13) tm L)
    (H : ∀ h', (∀ a i, ¬ (a = 122 ∧ hs ≤ i) → h' a i = h a i) → (∀ i : Nat, (i : Int) < n → 0 ≤ h' 122 (hs + i) ∧ h' 122 (hs + i) < h 96 13 ∧ L[i]? = some (tm (h' 122 (hs + i)))) → Go d M_Checker_call 74 [(10, 92), (0, p), (0, v2), (36, sg), (0, v4), (0, hs), (0, n), (2, 0)] [] h' Q) : Go d M_Checker_call 74 [(10, 92), (0, p), (0, v2), (36, sg), (0, v4), (0, hs), (0, 0), (2, 0)] [] h Q := by
  have hT := (CV_L0 C).2.2.2.2
  have go : ∀ (j : Nat) (g : HP), (j : Int) ≤ n → (∀ a i, ¬ (a = 122 ∧ hs ≤ i) → g a i = h a i) → (∀ i : Nat, (i : Int) < n - j → 0 ≤ g 122 (hs + i) ∧ g 122 (hs + i) < h 96 13 ∧ L[i]? = some (tm (g 122 (hs + i)))) → Go d M_Checker_call 74 [(10, 92), (0, p), (0, v2), (36, sg), (0, v4), (0, hs), (0, n - j), (2, 0)] [] g Q := by
    intro j
    induction j with
    | zero =>
      intro g _ go gr
      have := H g go (fun i z => gr i (by omega))
      rw [show n - ((0 : Nat) : Int) = n by omega]
      exact this
    | succ j ih =>
      intro g jn go gr
      have eg : g sg 2 = n := by rw [go sg 2 (by omega)]; exact en
      refine V_Checker_call_74 ⟨sg0, fun z => by omega, fun _ => ⟨by unfold r32; omega, hd, ?_⟩⟩
      have e95 : g 95 = h 95 := funext fun i => go 95 i (by omega)
      have e13 : g 96 13 = h 96 13 := go 96 13 (by omega)
      have lt : (n - (j + 1 : Nat)).toNat < L.length := by omega
      have gt : L[(n - (j + 1 : Nat)).toNat]? = some L[(n - (j + 1 : Nat)).toNat] := List.getElem?_eq_getElem lt
      have en : n - ((j + 1 : Nat) : Int) = ((n - (j + 1 : Nat)).toNat : Int) := by omega
      rw [en]
      refine c_partAt (T := 96) (R := 512) (tm := tm) (L := L) hT (by show g 93 5 = _; rw [go 93 5 (by omega)]; exact tp) (by omega) (by show StkL (g 95) 0 (g 96 13) tm L; rw [e95, e13]; exact St) gt (fun x x0 x1 ex => ⟨⟨by omega, by show _ < 192; omega⟩, fun g7 e7 => ⟨by unfold r32; omega, ?_⟩⟩)
      rw [← en, show n - ((j + 1 : Nat) : Int) + 1 = n - (j : Int) by omega]
      rw [← en] at e7
      have e7' : g7 = up2 g 122 (hs + (n - ((j + 1 : Nat) : Int))) x := e7
      refine ih g7 (by omega) (fun a i q => ?_) (fun i il => ?_)
      · rw [e7', up2_ext (by omega)]; exact go a i q
      · by_cases z : (i : Int) = n - ((j + 1 : Nat) : Int)
        · have iz : i = (n - (j + 1 : Nat)).toNat := by omega
          rw [e7', z, up2_eq]
          refine ⟨x0, by omega, ?_⟩
          rw [ex, iz]
          exact gt
        · rw [e7', up2_ext (by omega)]
          exact gr i (by omega)
  have := go n.toNat h (by omega) (fun _ _ _ => rfl) (fun i il => by omega)
  rw [show n - (n.toNat : Int) = 0 by omega] at this
  exact this
/-- the cell of a declared signature -/
theorem cel_ok {h0 : HP} {A k j : Int} (bc : BC h0 A) (hk : k = 67 ∨ k = 71) (j0 : 0 ≤ j) (j1 : j < nPr h0 k) : (41 ≤ cel k j ∧ cel k j < 91) ∧ aSZ (cel k j + 1) = 24 ∧ h0 (cel k j) 1 = llr h0 k j ∧ h0 (cel k j) 2 = ppr h0 k j ∧ h0 (cel k j + 1) = sbr h0 k j ∧ (0 ≤ llr h0 k j ∧ llr h0 k j ≤ 24) ∧ (0 ≤ ppr h0 k j ∧ ppr h0 k j ≤ 3) ∧ rdS (sbr h0 k j) (llr h0 k j) (llr h0 k j) 3 0 = ppr h0 k j := by
  have D := DcR_C bc.2.2.1
  have O := bc.2.2.2
  have d1 := D.1
  rcases hk with e | e
  · subst e
    have j1' : j < h0 36 4 := j1
    have q := D.2.1 j j0 j1'
    have o := O.1 j j0 j1'
    have es : cel 67 j + 1 = 42 + 2 * j := by show 41 + 2 * j + 1 = _; omega
    refine ⟨⟨by show 41 ≤ 41 + 2 * j; omega, by show 41 + 2 * j < 91; omega⟩, ?_, rfl, rfl, by rw [es]; rfl, q.1, q.2, ?_⟩
    · have : j = 0 ∨ j = 1 ∨ j = 2 ∨ j = 3 ∨ j = 4 ∨ j = 5 ∨ j = 6 ∨ j = 7 ∨ j = 8 ∨ j = 9 := by omega
      rcases this with z | z | z | z | z | z | z | z | z | z <;> subst z <;> rfl
    · have o' : rdS (h0 (41 + 2 * j + 1)) (h0 (41 + 2 * j) 1) (h0 (41 + 2 * j) 1) 3 0 = h0 (41 + 2 * j) 2 := o
      rw [show 41 + 2 * j + 1 = 42 + 2 * j by omega] at o'
      exact o'
  · subst e
    have j1' : j < h0 36 5 := j1
    have q := D.2.2 j j0 j1'
    have o := O.2 j j0 j1'
    have es : cel 71 j + 1 = 62 + 5 * j := by show 61 + 5 * j + 1 = _; omega
    refine ⟨⟨by show 41 ≤ 61 + 5 * j; omega, by show 61 + 5 * j < 91; omega⟩, ?_, rfl, rfl, by rw [es]; rfl, q.1, q.2, ?_⟩
    · have : j = 0 ∨ j = 1 ∨ j = 2 ∨ j = 3 ∨ j = 4 ∨ j = 5 := by omega
      rcases this with z | z | z | z | z | z <;> subst z <;> rfl
    · have o' : rdS (h0 (61 + 5 * j + 1)) (h0 (61 + 5 * j) 1) (h0 (61 + 5 * j) 1) 3 0 = h0 (61 + 5 * j) 2 := o
      rw [show 61 + 5 * j + 1 = 62 + 5 * j by omega] at o'
      exact o'
end
