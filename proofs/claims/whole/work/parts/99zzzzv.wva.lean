section
/-! what is written of a value -/
def vLs (f : Int → Int) (j : Int) : Nat → List Int
  | 0 => []
  | n + 1 => f j :: vLs f (j + 1) n
theorem vLs_len (f : Int → Int) : ∀ (n : Nat) (j : Int), (vLs f j n).length = n
  | 0, _ => rfl
  | n + 1, j => by show (vLs f (j + 1) n).length + 1 = n + 1; rw [vLs_len f n (j + 1)]
def vBy (h : HP) (v : Int) : List Int := if h 125 v = 10 then bNm (h 127 (3 * v)) else if h 125 v = 11 then (if h 127 (3 * v) = 0 then [70] else [84]) else if h 125 v = 12 then [80] else [67, 48 + h 125 v]
def vCh (h : HP) (v : Int) : List Int := vLs (fun i => h 127 (3 * v + i)) 0 (h 126 v).toNat
def vWr (h : HP) : Nat → List Int → List Int := wLs (vBy h) (vCh h)
theorem vWr_c (h : HP) (k : Nat) (t : Int) (s : List Int) : vWr h (k + 1) (t :: s) = vBy h t ++ vWr h k (vCh h t ++ s) := rfl
theorem vWr_n (h : HP) (k : Nat) : vWr h k [] = [] := by cases k <;> rfl
def VaP (h0 h : HP) (n x a : Int) : Prop := x = a ∧ ∃ τ, vt h0 h n a τ
theorem vt_un {h0 h : HP} {n a : Int} (rb : RB0 h0) (H : ∃ τ, vt h0 h n a τ) : (0 ≤ a ∧ a < n) ∧ (0 ≤ h 126 a ∧ h 126 a ≤ 3) ∧ (∀ i : Nat, (i : Int) < h 126 a → ∃ τ, vt h0 h n (h 127 (3 * a + i)) τ) ∧ ((h 125 a = 10 ∧ h 126 a = 0 ∧ r32 (h 127 (3 * a))) ∨ (h 125 a = 11 ∧ h 126 a = 0 ∧ (h 127 (3 * a) = 0 ∨ h 127 (3 * a) = 1)) ∨ (h 125 a = 12 ∧ h 126 a = 2) ∨ ((0 ≤ h 125 a ∧ h 125 a < h0 36 4) ∧ h 126 a = ppr h0 67 (h 125 a))) := by
  obtain ⟨τ, f, H⟩ := H
  cases f with
  | zero => exact absurd H (fun z => z)
  | succ f =>
    obtain ⟨r, H⟩ := H
    refine ⟨r, ?_⟩
    rcases H with ⟨a1, a2, _, a3⟩ | ⟨a1, a2, _, a3⟩ | ⟨a1, a2, s, t, _, p, q⟩ | ⟨a1, a2, α, _, H⟩
    · exact ⟨by omega, fun i hi => by omega, Or.inl ⟨a1, a2, a3⟩⟩
    · exact ⟨by omega, fun i hi => by omega, Or.inr (Or.inl ⟨a1, a2, a3⟩)⟩
    · refine ⟨by omega, fun i hi => ?_, Or.inr (Or.inr (Or.inl ⟨a1, a2⟩))⟩
      by_cases z : i = 0
      · subst z
        exact ⟨s, f, by simpa using p⟩
      · have : i = 1 := by omega
        subst this
        exact ⟨t, f, q⟩
    · obtain ⟨p3, sl, _⟩ := sig_len rb (k := 67) (N := h0 36 5) (Or.inl rfl) (Int.le_refl _) a1.1 (show h 125 a < nPn (h0 36 4) (h0 36 5) 67 from a1.2) α
      refine ⟨by omega, fun i hi => ?_, Or.inr (Or.inr (Or.inr ⟨a1, a2⟩))⟩
      have il : i < (sgT (sbr h0 67 (h 125 a)) (llr h0 67 (h 125 a)) α).length := by omega
      exact ⟨_, f, H i _ (by omega) (List.getElem?_eq_getElem il)⟩
theorem vBy_4 {h : HP} {v : Int} (a : h 125 v < 10) : vBy h v = [67, 48 + h 125 v] := by unfold vBy; rw [if_neg (by omega), if_neg (by omega), if_neg (by omega)]
theorem nDn_p (k : Nat) (r w : Int) (x : List Int) : 1 ≤ (nDn k r w ++ (x ++ [46])).length := by simp; omega
theorem vBy_ne (h : HP) (v : Int) : 1 ≤ (vBy h v).length := by
  unfold vBy bNm
  repeat' split
  all_goals simp
/-- the class writes the head of a value -/
theorem k_vhd {d : Nat} {h0 h1 h : HP} {n v : Int} {p : List Int} {Q : PQ} (hd : 9 < d) (rb : RB0 h0) (n1 : n ≤ 1000) (tv : ∃ τ, vt h0 h1 n v τ) (nh : n ≤ h 124 7) (ag : ∀ a i, 125 ≤ a → a ≤ 127 → h a i = h1 a i) (ho : OuR h 133 1 134 p) (HQ : ∀ g : HP, OuR g 133 1 134 (p ++ vBy h1 v) → (∀ a i, a ≠ 133 → a ≠ 134 → g a i = h a i) → Q 0 g) : Go d M_Machine_writeHead 0 [(13, 124), (0, v), (12, 133), (2, 0)] [] h Q := by
  obtain ⟨r, _, _, C⟩ := vt_un rb tv
  have c10 : h0 36 4 ≤ 10 := rb.1.1.2.1
  have e5 : h 125 v = h1 125 v := ag 125 v (by omega) (by omega)
  have e7 : h 127 (3 * v) = h1 127 (3 * v) := ag 127 _ (by omega) (by omega)
  have e7' : h (124 + 3) (3 * v) = h1 127 (3 * v) := e7
  refine N_Ma_writeHead_0 ⟨by omega, m_kinV (by omega) r.1 (by omega) (by omega) ⟨fun a => ⟨fun b => ⟨fun c => ⟨by omega, k_put (c := 133) (Or.inr rfl) ho (fun g og fr => ⟨?_, by omega, ?_⟩)⟩, fun c => ⟨by omega, k_put (c := 133) (Or.inr rfl) ho (fun g og fr => HQ g ?_ fr)⟩⟩, fun b => ⟨by omega, m_conV (by omega) r.1 (by omega) (by omega) ⟨fun c => V_Machine_writeHead_46 ⟨by omega, k_put (c := 133) (Or.inr rfl) ho (fun g og fr => HQ g ?_ fr)⟩, fun c => V_Machine_writeHead_46 ⟨by omega, k_put (c := 133) (Or.inr rfl) ho (fun g og fr => HQ g ?_ fr)⟩⟩⟩⟩, fun a => ⟨by omega, m_conV (by omega) r.1 (by omega) (by omega) ⟨by omega, ?_⟩⟩⟩⟩
  · unfold r32
    omega
  · rw [e5]
    refine k_put (c := 133) (Or.inr rfl) og (fun g2 o2 f2 => HQ g2 ?_ (fun x i p q => (f2 x i p q).trans (fr x i p q)))
    rw [vBy_4 (by omega)]
    rw [List.append_assoc] at o2
    exact o2
  · unfold vBy
    rw [if_neg (by omega), if_neg (by omega), if_pos (by omega)]
    exact og
  · unfold vBy
    rw [if_neg (by omega), if_pos (by omega), if_neg (by omega)]
    exact og
  · unfold vBy
    rw [if_neg (by omega), if_pos (by omega), if_pos (by omega)]
    exact og
  · have r3 : r32 (h1 127 (3 * v)) := by
      rcases C with C | C | C | C
      · exact C.2.2
      · omega
      · omega
      · omega
    rw [e7']
    unfold r32 at r3
    refine k_num (c := 133) (by omega) (by omega) (Or.inr rfl) ho (fun g og fr => HQ g ?_ fr)
    unfold vBy
    rw [if_pos (by omega)]
    exact og
/-- the parts of a value are put on the stack -/
theorem k_vpu {d : Nat} {h0 h1 : HP} {n v v1 top0 v4 : Int} {s : List Int} {Q : PQ} (hd : 3 < d) (n1 : n ≤ 1000) (nh : n ≤ h1 124 7) (r : 0 ≤ v ∧ v < n) (w3 : h1 126 v ≤ 3) (ch : ∀ i : Nat, (i : Int) < h1 126 v → ∃ τ, vt h0 h1 n (h1 127 (3 * v + i)) τ) (et : top0 = s.length) (tl : top0 ≤ 500) (v40 : 0 ≤ v4) (v4l : v4 ≤ 200) : ∀ (j m : Nat) (g : HP), (j : Int) + m = h1 126 v → StP (VaP h0 h1 n) (g 130) (vLs (fun i => h1 127 (3 * v + i)) j m ++ s) → (∀ a i, 124 ≤ a → a ≤ 127 → g a i = h1 a i) → (∀ g' : HP, StP (VaP h0 h1 n) (g' 130) (vLs (fun i => h1 127 (3 * v + i)) 0 (j + m) ++ s) → (∀ a i, a ≠ 130 → g' a i = g a i) → Go d M_Machine_write 16 [(13, 124), (0, v1), (12, 133), (0, top0 + h1 126 v), (0, v4 + 1), (0, v), (0, -1)] [] g' Q) → Go d M_Machine_write 56 [(13, 124), (0, v1), (12, 133), (0, top0 + m), (0, v4), (0, v), (0, (j : Int) - 1)] [] g Q := by
  intro j
  induction j with
  | zero =>
    intro m g jm st ag K
    refine N_Ma_write_56 ⟨fun _ => ⟨by unfold r32; omega, ?_⟩, fun z => by omega⟩
    have := K g (by rw [Nat.zero_add]; exact st) (fun _ _ _ => rfl)
    rw [← jm] at this
    rw [show ((0 : Nat) : Int) + (m : Int) = m by omega] at this
    exact this
  | succ j ih =>
    intro m g jm st ag K
    have e6 : g 126 v = h1 126 v := ag 126 v (by omega) (by omega)
    have z2 : aSZ (124 + 2) = 1000 := rfl
    have z3 : aSZ (124 + 3) = 3000 := rfl
    have e4 : g 124 7 = h1 124 7 := ag 124 7 (by omega) (by omega)
    refine N_Ma_write_56 ⟨fun z => by omega, fun _ => ⟨by omega, m_parV (by omega) r.1 (by omega) (by omega) (by omega) (by omega) (by omega) ⟨⟨by omega, by omega⟩, fun g2 e2 => ⟨by unfold r32; omega, by unfold r32; omega, ?_⟩⟩⟩⟩
    · have ej : ((j + 1 : Nat) : Int) - 1 = (j : Int) := by omega
      rw [ej] at e2 ⊢
      have e7 : g (124 + 3) (3 * v + (j : Int)) = h1 127 (3 * v + j) := ag 127 _ (by omega) (by omega)
      rw [e7] at e2
      have o2 : ∀ a i, a ≠ 130 → g2 a i = g a i := fun a i p => by rw [e2, up2_nc (by omega)]
      have ll : ((vLs (fun i => h1 127 (3 * v + i)) ((j + 1 : Nat) : Int) m ++ s).length : Int) = top0 + m := by rw [List.length_append, vLs_len]; omega
      have := ih (m + 1) g2 (by omega) ?_ (fun a i p q => (o2 a i (by omega)).trans (ag a i p q)) (fun g' sg o' => K g' (by rw [show j + 1 + m = j + (m + 1) by omega]; exact sg) (fun a i p => (o' a i p).trans (o2 a i p)))
      · rw [show top0 + ((m + 1 : Nat) : Int) = top0 + (m : Int) + 1 by omega] at this
        exact this
      · refine ⟨?_, ?_⟩
        · rw [show (j : Int) + 1 = ((j + 1 : Nat) : Int) by omega]
          show VaP h0 h1 n (g2 130 ((vLs (fun i => h1 127 (3 * v + i)) ((j + 1 : Nat) : Int) m ++ s).length : Int)) (h1 127 (3 * v + j))
          rw [ll, e2, up2_eq]
          exact ⟨rfl, ch j (by omega)⟩
        · rw [show (j : Int) + 1 = ((j + 1 : Nat) : Int) by omega]
          exact StP_ag (fun i i0 i1 => by
            have i1' : (i : Int) < top0 + m := by rw [← ll]; exact Int.ofNat_lt.mpr i1
            rw [e2, up2_ext (by omega)]) st
theorem k_vwr {d : Nat} {h0 h1 : HP} {n v1 : Int} {Q : PQ} (hd : 10 < d) (rb : RB0 h0) (n1 : n ≤ 1000) (nh : n ≤ h1 124 7) : ∀ (k : Nat) (g : HP) (s : List Int) (p : List Int) (m top : Int) (w5 w6 : AV), m = 200 - k → k ≤ 200 → top = s.length → top ≤ 2 * m + 1 → StP (VaP h0 h1 n) (g 130) s → OuR g 133 1 134 p → (∀ a i, a ≠ 130 → a ≠ 133 → a ≠ 134 → g a i = h1 a i) → (∀ g' : HP, OuR g' 133 1 134 (p ++ vWr h1 k s) → (∀ a i, a ≠ 130 → a ≠ 133 → a ≠ 134 → g' a i = h1 a i) → Q 0 g') → Go d M_Machine_write 16 [(13, 124), (0, v1), (12, 133), (0, top), (0, m), w5, w6] [] g Q := by
  intro k
  induction k with
  | zero =>
    intro g s p m top w5 w6 em _ et tl st ho fr HQ
    refine N_Ma_write_16 ⟨fun _ => HQ g ?_ fr, fun z => by omega⟩
    show OuR g 133 1 134 (p ++ [])
    rw [List.append_nil]
    exact ho
  | succ k ih =>
    intro g s p m top w5 w6 em kl et tl st ho fr HQ
    cases s with
    | nil =>
      have et : top = 0 := et
      refine N_Ma_write_16 ⟨fun z => by omega, fun _ => ⟨fun _ => HQ g ?_ fr, fun z => by omega⟩⟩
      rw [vWr_n, List.append_nil]
      exact ho
    | cons t s =>
      have et : top = s.length + 1 := by rw [et]; simp
      obtain ⟨⟨xe, tv⟩, st⟩ := st
      have et1 : top + (-1) = s.length := by omega
      rw [vWr_c] at HQ
      obtain ⟨r, w03, ch, _⟩ := vt_un rb tv
      refine N_Ma_write_16 ⟨fun z => by omega, fun _ => ⟨fun z => by omega, fun _ => ⟨by unfold r32; omega, ⟨by omega, by omega⟩, by omega, ?_⟩⟩⟩
      rw [et1, xe]
      have g7 : g 124 7 = h1 124 7 := fr 124 7 (by omega) (by omega) (by omega)
      refine k_vhd (by omega) rb n1 tv (by omega) (fun a i p q => fr a i (by omega) (by omega) (by omega)) ho (fun g2 o2 f2 => ⟨by omega, m_widV (by omega) r.1 (by have := f2 124 7 (by omega) (by omega); omega) (by omega) ?_⟩)
      have e6 : g2 126 t = h1 126 t := (f2 126 t (by omega) (by omega)).trans (fr 126 t (by omega) (by omega) (by omega))
      rw [e6]
      refine ⟨by unfold r32; omega, ?_⟩
      have := k_vpu (d := d) (v1 := v1) (top0 := s.length) (v4 := m) (s := s) (Q := Q) (by omega) n1 nh r w03.2 ch rfl (by omega) (by omega) (by omega) (h1 126 t).toNat 0 g2 (by omega) (StP_ag (fun i _ _ => f2 130 i (by omega) (by omega)) st) (fun a i p q => (f2 a i (by omega) (by omega)).trans (fr a i (by omega) (by omega) (by omega))) (fun g' sg o' => ?_)
      · rw [show ((s.length : Int) + ((0 : Nat) : Int)) = s.length by omega, show (((h1 126 t).toNat : Nat) : Int) = h1 126 t by omega] at this
        exact this
      · refine ih g' (vCh h1 t ++ s) (p ++ vBy h1 t) (m + 1) _ _ _ (by omega) (by omega) ?_ (by omega) (by rw [Nat.add_zero] at sg; exact sg) (OuR_ag o2 (o' _ _ (by omega)) (fun i => o' _ _ (by omega))) (fun a i p q r => (o' a i p).trans ((f2 a i q r).trans (fr a i p q r))) (fun g3 o3 f3 => HQ g3 (by rw [List.append_assoc] at o3; exact o3) f3)
        unfold vCh
        rw [List.length_append, vLs_len]
        omega
/-- the class writes a value -/
theorem k_vwrite {d : Nat} {h0 h1 : HP} {n v : Int} {Q : PQ} (hd : 10 < d) (rb : RB0 h0) (n1 : n ≤ 1000) {h : HP} (nh : n ≤ h 124 7) (ag : ∀ a i, 125 ≤ a → a ≤ 127 → h a i = h1 a i) (tv : ∃ τ, vt h0 h1 n v τ) (HQ : ∀ g : HP, OuR g 133 1 134 (vWr h1 200 [v]) → (∀ a i, a ≠ 130 → a ≠ 133 → a ≠ 134 → g a i = h a i) → Q 0 g) : Go d M_Machine_write 0 [(13, 124), (0, v), (12, 133), (2, 0), (2, 0), (2, 0), (2, 0)] [] h Q := by
  refine N_Ma_write_0 ⟨by omega, fun g1 e1 => ⟨⟨by omega, by omega⟩, fun g2 e2 => ?_⟩⟩
  have o2 : ∀ a i, a ≠ 130 → a ≠ 133 → a ≠ 134 → g2 a i = h a i := fun a i p q r => by rw [e2, up2_nc (by omega), e1, up2_nc (by omega)]
  have vtg : ∀ (f : Nat) v τ, vtF h0 h1 n f v τ → vtF h0 h n f v τ := by
    intro f v τ H
    refine vtF_mono (h := h1) (n := n) (fun v _ _ => ⟨ag _ _ (by omega) (by omega), ag _ _ (by omega) (by omega), fun i _ _ => ag _ _ (by omega) (by omega)⟩) (Int.le_refl _) (rb_p3 rb) f f v τ (Nat.le_refl _) H
  have tv' : ∃ τ, vt h0 h n v τ := by
    obtain ⟨τ, f, H⟩ := tv
    exact ⟨τ, f, vtg f v τ H⟩
  have ew : ∀ (k : Nat) s, vWr h k s = vWr h1 k s := by
    have b : vBy h = vBy h1 := funext fun x => by unfold vBy; rw [ag 125 x (by omega) (by omega), ag 127 _ (by omega) (by omega)]
    have c : vCh h = vCh h1 := funext fun x => by unfold vCh; rw [ag 126 x (by omega) (by omega)]; congr 1; exact funext fun i => ag 127 _ (by omega) (by omega)
    intro k s
    unfold vWr
    rw [b, c]
  refine k_vwr (h1 := h) hd rb n1 nh 200 g2 [v] [] 0 1 _ _ (by omega) (by omega) rfl (by omega) ⟨?_, trivial⟩ (OuR_nil ?_) o2 (fun g' o' f' => HQ g' (by rw [ew] at o'; exact o') f')
  · show VaP h0 h n (g2 130 0) v
    rw [e2, up2_eq]
    exact ⟨rfl, tv'⟩
  · rw [e2, up2_nc (by omega), e1, up2_eq]
end
