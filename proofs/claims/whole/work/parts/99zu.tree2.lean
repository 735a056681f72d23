section
theorem tree_zero {d : Nat} {k0 : HP} {B e : Int → Int} {nP : Int → Int} {pp ll : Int → Int → Int} {n s0 : Int} {Q : PQ} (hd : 8 < d) (C : TrC k0 B nP pp ll n) : TreeS d k0 B e nP pp ll n s0 Q 0 := by
  intro p sc w r w' m f g w3 p0 p101 pM H S wa wb w0 w1 sc0 sc1 K1 K0
  have bm : B p = -1 := by rw [(C.1 p p0).1]; exact bA_out (by omega)
  have rb := RD_bad (RD_out H) (by rw [bm]; unfold lfO; omega) (by rw [bm]; rfl) (by omega) (by omega) (by omega)
  obtain ⟨I, ⟨e56, e36, e50, e170⟩, ⟨f0, fp⟩, ⟨N0, Np⟩, ⟨l0, l1⟩, ⟨u0, u1⟩, m0, m1⟩ := S
  refine t_enter g f w3 hd e56 f0 (by omega) (by omega) (c_one (by omega) C I e56 e36 p0 f0 fp (fun z => absurd bm z) N0 Np l0 l1 u0 u1 m0 m1 (by omega) (by omega) wa wb (by omega) (by omega) p101 (fun _ _ _ _ _ g' e' => t_stop (K0 (by omega) g' (fun x i q1 q2 q3 => by rw [e', up2_ext (by omega)]; exact I x i q1 q2 q3) (by rw [e', up2_eq, up2_ni (by decide), e36]; omega))) (fun z => ?_) (fun z => ?_) (fun z => by omega) (fun z => by omega) (fun z => by omega))
  · rw [bm] at z; unfold lfO at z; omega
  · rw [bm] at z; exact absurd z (by decide)
set_option maxHeartbeats 8000000 in
theorem tree_succ {d : Nat} {k0 : HP} {B e : Int → Int} {nP : Int → Int} {pp ll : Int → Int → Int} {n s0 : Int} {Q : PQ} {M : Nat} (hd : 8 < d) (C : TrC k0 B nP pp ll n) (ih : TreeS d k0 B e nP pp ll n s0 Q M) : TreeS d k0 B e nP pp ll n s0 Q (M + 1) := by
  have n1 := C.2.1.2.2
  intro p sc w r w' m f g w3 p0 p101 pM H S wa wb w0 w1 sc0 sc1 K1 K0
  have S' := S
  obtain ⟨I, ⟨e56, e36, e50, e170⟩, ⟨f0, fp⟩, ⟨N0, Np⟩, ⟨l0, l1⟩, ⟨u0, u1⟩, m0, m1⟩ := S'
  have HF := RD_out H
  have re := HF.1
  refine t_enter g f w3 hd e56 f0 (by omega) (by omega) (c_one (by omega) C I e56 e36 p0 f0 fp (fun z => by have := t_inT C p0 z; omega) N0 Np l0 l1 u0 u1 m0 m1 (by omega) (by omega) wa wb (by omega) (by omega) p101 ?_ ?_ ?_ ?_ ?_ ?_)
  · rw [e170]
    intro nl np c1 c2 c3 g' e'
    have rb := RD_bad HF nl np c1 c2 c3
    exact t_stop (K0 (by omega) g' (fun x i q1 q2 q3 => by rw [e', up2_ext (by omega)]; exact I x i q1 q2 q3) (by rw [e', up2_eq, up2_ni (by decide), e36]; omega))
  · rw [e170]
    intro lf g1 O a36 a50
    obtain ⟨er, ew, em⟩ := RD_leaf HF lf
    have pT := t_inT C p0 (lfO_ne lf).1
    have i8 : g1 135 48 = g 135 48 + 1 := O.2.2.1
    refine K1 (by omega) g1 (PTr_of S O (t_one S O) ?_ (by omega) (by omega) (by have := O.2.2.2.2.2.2.1; omega) (by omega) (by omega) (fun _ _ _ _ _ => rfl) (fun _ _ _ _ _ _ _ => rfl)) (fun R A => NX_in ⟨t_node n1 S O (fun _ _ _ _ _ _ _ => rfl) pT (by omega) A, Or.inl lf⟩) ⟨by omega, by omega, by omega, by omega, by omega, by omega⟩ _
    exact O.2.2.2.2.2.2.2 _ _ (by omega) (by omega) (by omega) (by omega) (by omega) (by omega)
  · rw [e170]
    intro hh g1 g2 O a36 a50 P
    by_cases c77 : B p = 77
    · rw [if_pos c77] at P
      exact t_match hd C ih (tree_cas hd C ih) p0 p101 pM HF S w0 w1 sc0 sc1 (fun z => (re z).1) c77 O a36 a50 P K1 K0
    · rw [if_neg c77] at P
      have po : 0 < pO (B p) := by
        rcases hh with hh | hh
        · exact hh
        · exact absurd hh c77
      obtain ⟨m2, HC, em⟩ := RD_op HF po
      have pr := pO_r (B p)
      have pT := t_inT C p0 (pO_ne po).1
      exact t_parts C (tree_chain hd C ih) p0 p101 pM S w0 w1 sc0 sc1 (fun z => (re z).1) K1 K0 g1 g2 _ (p + 1) w m2 O a36 (by omega) P (by omega) (by omega) c77 (pO_ne po).1 (by omega) (by omega) (by omega) (by omega) w1 HC em (fun R c164 c163 nd kd => NX_in ⟨nd, Or.inr (Or.inl ⟨po, by rw [c164]; exact kd⟩)⟩)
  · rw [e50]
    intro cs ok hw p00 g1 O a163 a36 a50
    have o1 := ok.1
    have pT := t_inT C p0 (by omega)
    have pT2 := t_inT C (q := p + 1) (by omega) (by omega)
    obtain ⟨_, ck⟩ := TrC_k (kd := B p) (fi := if B p = 71 then 10 else 0) C (by
      rcases cs with z | z
      · exact Or.inl ⟨z, by rw [if_neg (by omega)]⟩
      · exact Or.inr ⟨z, by rw [if_pos z]⟩)
    have l24 := (ck (B (p + 1) - 48) (by omega) ok.2.2).2.2.2
    rcases RD_sign HF cs with ⟨no, _⟩ | ⟨_, z, _⟩ | ⟨_, _, m2, HC, em⟩
    · exact absurd ok no
    · omega
    · rw [p00] at HC
      obtain ⟨er, ew, em2⟩ := HC
      have i8 : g1 135 48 = g 135 48 + 1 := O.2.2.1
      refine K1 (by omega) g1 (PTr_of S O (t_one S O) ?_ (by omega) (by omega) (by have := O.2.2.2.2.2.2.1; omega) (by omega) (by omega) (fun _ _ _ _ _ => rfl) (fun _ _ _ _ _ _ _ => rfl)) (fun R A => NX_in ⟨t_node n1 S O (fun _ _ _ _ _ _ _ => rfl) pT (by omega) A, Or.inr (Or.inr (Or.inl ⟨cs, ok, ?_, by rw [p00]; exact trivial⟩))⟩) ⟨by omega, by omega, by omega, by omega, by omega, by omega⟩ _
      · exact O.2.2.2.2.2.2.2 _ _ (by omega) (by omega) (by omega) (by omega) (by omega) (by omega)
      · rw [A 163 _ (by omega) (by omega) (by omega) (by omega) (by omega)]; exact a163
  · rw [e50, e170]
    intro cs ok hw p00 g1 g2 O a163 a36 a50 P
    have o1 := ok.1
    have pT := t_inT C p0 (by omega)
    have pT2 := t_inT C (q := p + 1) (by omega) (by omega)
    obtain ⟨_, ck⟩ := TrC_k (kd := B p) (fi := if B p = 71 then 10 else 0) C (by
      rcases cs with z | z
      · exact Or.inl ⟨z, by rw [if_neg (by omega)]⟩
      · exact Or.inr ⟨z, by rw [if_pos z]⟩)
    have ckk := ck (B (p + 1) - 48) (by omega) ok.2.2
    rcases RD_sign HF cs with ⟨no, _⟩ | ⟨_, z, _⟩ | ⟨_, _, m2, HC, em⟩
    · exact absurd ok no
    · omega
    · exact t_parts C (tree_chain hd C ih) p0 p101 pM S w0 w1 sc0 sc1 (fun z => (re z).1) K1 K0 g1 g2 _ (p + 2) _ m2 O a36 a50 P (by omega) (by omega) (by omega) (by omega) (by omega) (by omega) (by omega) (by omega) hw HC em (fun R c164 c163 nd kd => NX_in ⟨nd, Or.inr (Or.inr (Or.inl ⟨cs, ok, by rw [c163]; exact a163, by rw [c164]; exact kd⟩))⟩)
  · intro cs g1 I1 a36 hh
    rw [e50] at hh
    rcases hh with ⟨no, a37⟩ | ⟨ok, hv, a37⟩
    · rcases RD_sign HF cs with ⟨_, er⟩ | ⟨ok, _⟩ | ⟨ok, _⟩
      · exact t_stop (K0 (by omega) g1 I1 (by omega))
      · exact absurd ok no
      · exact absurd ok no
    · rcases RD_sign HF cs with ⟨no, er⟩ | ⟨_, _, er⟩ | ⟨_, z, _⟩
      · exact absurd ok no
      · exact t_stop (K0 (by omega) g1 I1 (by omega))
      · omega
theorem c_tree {d : Nat} {k0 : HP} {B e : Int → Int} {nP : Int → Int} {pp ll : Int → Int → Int} {n s0 : Int} {Q : PQ} (hd : 8 < d) (C : TrC k0 B nP pp ll n) : ∀ M : Nat, TreeS d k0 B e nP pp ll n s0 Q M := by
  intro M
  induction M with
  | zero => exact tree_zero hd C
  | succ M ih => exact tree_succ hd C ih
end
