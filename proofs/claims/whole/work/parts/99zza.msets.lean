section
/-! begins: prepared sets, the reference -/
def RfB (g0 h : HP) (nc i : Int) (kk : Int × Int) : Prop := (g0 40 i = 1 → h 167 i = g0 (63 + 5 * i) 3 ∧ NX (fun x j => h x (100 * i + j)) (bA (aSCH kk.2) (aSLEN kk.2)) (g0 (63 + 5 * i + 2)) (nPn nc (i + 1)) (ppr g0) 0 0 (pS kk.1)) ∧ (g0 40 i = 0 → h 167 i = 0)
def MsFr (g0 h : HP) : Prop := (∀ x i, x < 135 ∨ (135 < x ∧ x < 151) ∨ x = 156 ∨ (157 < x ∧ x < 161) ∨ 172 < x → h x i = g0 x i) ∧ (∀ i, ¬ (i = 30 ∨ i = 31 ∨ i = 35 ∨ i = 36 ∨ i = 37 ∨ i = 48 ∨ i = 49 ∨ i = 50 ∨ i = 56) → h 135 i = g0 135 i)
def MsS (g0 h : HP) (nc : Int) (cs : List Int) (fs : List (Int × Int)) : Prop := MsFr g0 h ∧ (h 135 30 = cs.length ∧ cs.length ≤ 10) ∧ (h 135 31 = fs.length ∧ fs.length ≤ 6) ∧ (∀ (i : Nat) (k : Int), cs[i]? = some k → gdS k ∧ RfS h i k ∧ h 155 i = 0) ∧ (∀ (i : Nat) (kk : Int × Int), fs[i]? = some kk → RfS h (10 + i) kk.1 ∧ RfB g0 h nc i kk)
theorem RfS_ag {h h' : HP} {j k : Int} (l24 : aSLEN k ≤ 24) (o : ∀ x, 152 ≤ x → x ≤ 154 → h' x j = h x j) (o1 : ∀ i, 24 * j ≤ i → i < 24 * j + 24 → h' 151 i = h 151 i) (S : RfS h j k) : RfS h' j k := ⟨by rw [o 152 (by omega) (by omega)]; exact S.1, by rw [o 153 (by omega) (by omega)]; exact S.2.1, by rw [o 154 (by omega) (by omega)]; exact S.2.2.1, fun i i0 i1 => by rw [o1 _ (by omega) (by omega)]; exact S.2.2.2 i i0 i1⟩
theorem MsFr_hs {g0 h : HP} (F : MsFr g0 h) (hs : HsR g0) : HsR h := fun j j0 j1 => by rw [F.1 136 j (by omega)]; exact hs j j0 j1
theorem m_loopC {d : Nat} {g0 h : HP} {cs : List Int} {fr : Nat} {k nc v1 v2 : Int} {Q : PQ} (hd : 30 < d) (hs : HsR g0) (M : MsS g0 h nc cs []) (l9 : cs.length < 10) (gd : gdS k) (sg : Seg fr k 67) (frb : fr + 40 < 261 + 18 ∧ fr + 1 + (aSTR k).length < 261) (H : ∀ h', MsS g0 h' nc (cs ++ [k]) [] → Go d M_Mo_begins 59 [(22, 135), (0, v1), (0, v2), (0, (fr : Int) + 1 + aSLEN k + 1)] [] h' Q) : Go d M_Mo_begins 59 [(22, 135), (0, v1), (0, v2), (0, fr)] [] h Q := by
  obtain ⟨F, ⟨a1, a2⟩, ⟨b1, b2⟩, pc, pf⟩ := M
  refine N_Mo_begins_59 ⟨by omega, c_house (MsFr_hs F hs) (by omega) (by omega) ?_⟩
  rw [show ((fr : Int)).toNat = fr by omega, sg.1]
  refine ⟨by omega, c_in (fun _ _ => ⟨fun z => absurd z (by decide), fun _ => ⟨by omega, ?_⟩⟩) (fun z => by omega)⟩
  refine c_decC (by omega) (MsFr_hs F hs) sg gd.1.1 gd.1.2 frb gd.2.1 gd.2.2.1 gd.2.2.2 (by omega) (by omega) (fun g' o oj o1 rf e155 e30 => H g' ⟨⟨fun x i p => by rw [o x i (by omega) (by omega) (by omega)]; exact F.1 x i p, fun i p => by rw [o 135 i (by omega) (by omega) (by omega)]; exact F.2 i p⟩, ⟨by rw [e30, a1, List.length_append]; show _ = ((cs.length + 1 : Nat) : Int); omega, by rw [List.length_append]; show cs.length + 1 ≤ 10; omega⟩, ⟨by rw [o 135 31 (by omega) (by omega) (by omega)]; exact b1, b2⟩, fun i k' e => ?_, fun i kk e => by rw [List.getElem?_nil] at e; cases e⟩)
  rcases app_get cs i e with ⟨il, ei⟩ | ⟨il, ei⟩
  · obtain ⟨g, s1, s2⟩ := pc i k' ei
    exact ⟨g, RfS_ag g.2.2.1 (fun x x0 x1 => oj x i x0 (by omega) (by omega)) (fun j j0 j1 => o1 j (by omega)) s1, by rw [oj 155 i (by omega) (by omega) (by omega)]; exact s2⟩
  · subst ei
    rw [show ((i : Nat) : Int) = h 135 30 by omega]
    exact ⟨gd, rf, e155⟩
theorem m_loopF {d : Nat} {h0 g0 h : HP} {cs : List Int} {fs FS : List (Int × Int)} {fr fr2 : Nat} {ks kb v1 v2 : Int} {Q : PQ} (hd : 30 < d) (hs : HsR g0) (P : PcSt h0 g0 cs FS) (M : MsS g0 h cs.length cs fs) (l5 : fs.length < 6) (eF : FS[fs.length]? = some (ks, kb)) (pre : ∀ (j : Nat) (kk : Int × Int), fs[j]? = some kk → FS[j]? = some kk) (sg : Seg fr ks 70) (sg2 : Seg fr2 kb 66) (frb : fr + 40 < 261 + 18 ∧ fr + 1 + (aSTR ks).length < 261) (frb2 : fr2 + 40 < 261 + 18 ∧ fr2 + 1 + (aSTR kb).length < 261) (ef : (fr2 : Int) = (fr : Int) + 1 + aSLEN ks + 1) (H : ∀ h', MsS g0 h' cs.length cs (fs ++ [(ks, kb)]) → Go d M_Mo_begins 59 [(22, 135), (0, v1), (0, v2), (0, (fr2 : Int) + 1 + aSLEN kb + 1)] [] h' Q) : Go d M_Mo_begins 59 [(22, 135), (0, v1), (0, v2), (0, fr)] [] h Q := by
  obtain ⟨_, ⟨pa1, pa2⟩, ⟨pb1, pb2⟩, ppc, ppf⟩ := P
  obtain ⟨F, ⟨a1, a2⟩, ⟨b1, b2⟩, pc, pf⟩ := M
  obtain ⟨gs, gb, SF, e, r, m, ⟨w', R⟩, BC⟩ := ppf fs.length (ks, kb) eF
  dsimp only at gs gb SF R BC
  refine N_Mo_begins_59 ⟨by omega, c_house (MsFr_hs F hs) (by omega) (by omega) ?_⟩
  rw [show ((fr : Int)).toNat = fr by omega, sg.1]
  refine ⟨by omega, c_in (fun _ _ => ⟨fun z => absurd z (by decide), fun _ => ⟨by omega, ?_⟩⟩) (fun z => by omega)⟩
  refine c_decF (by omega) (MsFr_hs F hs) sg gs.1.1 gs.1.2 frb gs.2.1 gs.2.2.1 gs.2.2.2 (by omega) (by omega) (fun g' o oj o1 rf e167 e31 => ?_)
  have F' : MsFr g0 g' := ⟨fun x i p => by rw [o x i (by omega) (by omega) (by omega) (by omega)]; exact F.1 x i p, fun i p => by rw [o 135 i (by omega) (by omega) (by omega) (by omega)]; exact F.2 i p⟩
  have eFi : h 135 31 = (fs.length : Int) := b1
  rw [eFi] at rf e167 e31 oj o1 o
  rw [← ef]
  refine N_Mo_begins_59 ⟨by omega, c_house (MsFr_hs F' hs) (by omega) (by omega) ?_⟩
  rw [show ((fr2 : Int)).toNat = fr2 by omega, sg2.1]
  refine ⟨by omega, c_in (fun _ _ => ⟨fun z => absurd z (by decide), fun _ => ⟨by omega, ?_⟩⟩) (fun z => by omega)⟩
  have q30 : g' 135 30 = h 135 30 := o 135 30 (by omega) (by omega) (by omega) (by omega)
  -- rows of what is declared
  have rc : ∀ (i : Nat) (k : Int), cs[i]? = some k → RfS g' i k ∧ g' 155 i = 0 := by
    intro i k ei
    have il := get_lt ei
    obtain ⟨_, s1, s2⟩ := pc i k ei
    have gk := (ppc i k ei).1
    exact ⟨RfS_ag gk.2.2.1 (fun x x0 x1 => oj x i x0 x1 (by omega)) (fun j j0 j1 => o1 j (by omega)) s1, by rw [o 155 i (by omega) (by omega) (by omega) (by omega)]; exact s2⟩
  have rfn : ∀ (i : Nat) (kk : Int × Int), fs[i]? = some kk → RfS g' (10 + i) kk.1 := by
    intro i kk ei
    have il := get_lt ei
    have gk := (ppf i kk (pre i kk ei)).1
    exact RfS_ag gk.2.2.1 (fun x x0 x1 => oj x _ x0 x1 (by omega)) (fun j j0 j1 => o1 j (by omega)) (pf i kk ei).1
  have sc : g' 153 (10 + (fs.length : Int)) = pS ks := rf.2.1
  refine c_decB (F := (fs.length : Int)) (r := r) (w' := w') (m := m) (e := e) (nP := nPn cs.length ((fs.length : Int) + 1)) (pp := ppr g0) (ll := llr g0) (by omega) (MsFr_hs F' hs) sg2 gb.1.1 gb.1.2 frb2 (by have := gb.2.1; omega) gb.2.2.1 gb.2.2.2 (by omega) (by omega) e31 ⟨by unfold nPn; rw [if_neg (by decide), q30, a1], by unfold nPn; rw [if_neg (by decide)]; omega, by unfold nPn; rw [if_neg (by decide)]; omega⟩ (by unfold nPn; rw [if_pos rfl, e31]) (fun j j0 j1 => ?_) (fun j j0 j1 => ?_) (by rw [sc]; exact R) (fun g2 o2 res => H g2 ⟨⟨fun x i p => by rw [o2 x i (by omega) (by omega) (by omega) (by omega) (by omega)]; exact F'.1 x i p, fun i p => by rw [o2 135 i (by omega) (by omega) (by omega) (by omega) (by omega)]; exact F'.2 i p⟩, ⟨by rw [o2 135 30 (by omega) (by omega) (by omega) (by omega) (by omega), q30]; exact a1, a2⟩, ⟨by rw [o2 135 31 (by omega) (by omega) (by omega) (by omega) (by omega), e31, List.length_append]; show _ = ((fs.length + 1 : Nat) : Int); omega, by rw [List.length_append]; show fs.length + 1 ≤ 6; omega⟩, fun i k ei => ?_, fun i kk ei => ?_⟩)
  · have j1 : j < (cs.length : Int) := by unfold nPn at j1; rw [if_neg (by decide)] at j1; exact j1
    have ei : cs[j.toNat]? = some (cs[j.toNat]'(by omega)) := List.getElem?_eq_getElem (by omega)
    obtain ⟨gk, S, _⟩ := ppc _ _ ei
    obtain ⟨rr, _⟩ := rc _ _ ei
    rw [show ((j.toNat : Nat) : Int) = j by omega] at S rr
    unfold ppr llr
    rw [if_neg (by decide), if_neg (by decide), S.1, S.2.1, rr.1, rr.2.1]
    exact ⟨rfl, rfl, ⟨gk.2.2.2, pS_3 _⟩, gk.2.1, gk.2.2.1⟩
  · have j1 : j < (fs.length : Int) + 1 := by unfold nPn at j1; rw [if_pos rfl] at j1; exact j1
    unfold ppr llr
    rw [if_pos rfl, if_pos rfl]
    by_cases z : j = (fs.length : Int)
    · subst z
      rw [SF.1, SF.2.1, rf.1, rf.2.1]
      exact ⟨rfl, rfl, ⟨gs.2.2.2, pS_3 _⟩, gs.2.1, gs.2.2.1⟩
    · have ei : fs[j.toNat]? = some (fs[j.toNat]'(by omega)) := List.getElem?_eq_getElem (by omega)
      obtain ⟨gk, _, S, _⟩ := ppf _ _ (pre _ _ ei)
      have rr := rfn _ _ ei
      rw [show ((j.toNat : Nat) : Int) = j by omega] at S rr
      rw [S.1, S.2.1, rr.1, rr.2.1]
      exact ⟨rfl, rfl, ⟨gk.2.2.2, pS_3 _⟩, gk.2.1, gk.2.2.1⟩
  · have il := get_lt ei
    obtain ⟨s1, s2⟩ := rc i k ei
    have gk := (ppc i k ei).1
    exact ⟨gk, RfS_ag gk.2.2.1 (fun x x0 x1 => o2 x _ (by omega) (by omega) (by omega) (by omega) (by omega)) (fun j j0 j1 => o2 151 _ (by omega) (by omega) (by omega) (by omega) (by omega)) s1, by rw [o2 155 i (by omega) (by omega) (by omega) (by omega) (by omega)]; exact s2⟩
  · rcases app_get fs i ei with ⟨il, ei⟩ | ⟨il, ei⟩
    · have gk := (ppf i kk (pre i kk ei)).1
      refine ⟨RfS_ag gk.2.2.1 (fun x x0 x1 => o2 x _ (by omega) (by omega) (by omega) (by omega) (by omega)) (fun j j0 j1 => o2 151 _ (by omega) (by omega) (by omega) (by omega) (by omega)) (rfn i kk ei), ?_⟩
      obtain ⟨t1, t2⟩ := (pf i kk ei).2
      have e7 : g2 167 i = h 167 i := by rw [o2 167 i (by omega) (by omega) (by omega) (by omega) (by omega), o 167 i (by omega) (by omega) (by omega) (by omega)]
      refine ⟨fun z => ⟨by rw [e7]; exact (t1 z).1, NX_cg (fun x j x0 x1 j0 j1 => ?_) (fun _ _ _ _ _ => rfl) (t1 z).2⟩, fun z => by rw [e7]; exact t2 z⟩
      show g2 x (100 * (i : Int) + j) = h x (100 * (i : Int) + j)
      rw [o2 x _ (by omega) (by omega) (by omega) (by omega) (by omega), o x _ (by omega) (by omega) (by omega) (by omega)]
    · subst ei
      subst il
      refine ⟨RfS_ag gs.2.2.1 (fun x x0 x1 => o2 x _ (by omega) (by omega) (by omega) (by omega) (by omega)) (fun j j0 j1 => o2 151 _ (by omega) (by omega) (by omega) (by omega) (by omega)) rf, ?_⟩
      rw [sc] at res
      rcases res with ⟨r1, r2, r3⟩ | ⟨r1, r2⟩
      · rcases BC with ⟨t1, t2, t3, t4, t5, t6, t7, t8⟩ | ⟨t1, t2⟩
        · rw [t8] at r3
          exact ⟨fun _ => ⟨by rw [r2, t4], r3⟩, fun z => by omega⟩
        · exact absurd r1 t1
      · rcases BC with ⟨t1, t2, t3, t4, t5, t6, t7, t8⟩ | ⟨t1, t2⟩
        · exact absurd t1 r1
        · exact ⟨fun z => by omega, fun _ => by rw [r2, e167]⟩
theorem m_end {d : Nat} {g0 h : HP} {nc : Int} {cs : List Int} {fs : List (Int × Int)} {fr : Nat} {v1 v2 : Int} {Q : PQ} (hd : 30 < d) (hs : HsR g0) (M : MsS g0 h nc cs fs) (fr1 : fr < 261) (nb : hbT.getD fr 0 < 65 ∨ 90 < hbT.getD fr 0) (H : Q cs.length h) : Go d M_Mo_begins 59 [(22, 135), (0, v1), (0, v2), (0, fr)] [] h Q := by
  refine N_Mo_begins_59 ⟨by omega, c_house (MsFr_hs M.1 hs) (by omega) (by omega) ?_⟩
  rw [show ((fr : Int)).toNat = fr by omega]
  refine ⟨by omega, c_in (fun a b => by omega) (fun _ => ⟨fun _ => ?_, fun z => absurd rfl z⟩)⟩
  rw [M.2.1.1]
  exact H
/-- how many sets begin among the first bytes -/
def bcN : Nat → Int
  | 0 => 0
  | n + 1 => bcN n + if hbT.getD n 0 = 33 then 1 else 0
theorem m_scan {d : Nat} {h : HP} {v1 : Int} {st : Nat} {Q : PQ} (hd : 3 < d) (hs : HsR h) (st1 : st < 261) (lo : ∀ i : Fin st, bcN i.val - 1 < v1) (hi : v1 ≤ bcN st - 1) (H : Go d M_Mo_begins 59 [(22, 135), (0, v1), (0, bcN st - 1), (0, st)] [] h Q) : ∀ (r i : Nat), i + r = st → 0 ≤ bcN i → bcN i ≤ i → Go d M_Mo_begins 30 [(22, 135), (0, v1), (0, bcN i - 1), (0, i)] [] h Q := by
  intro r
  induction r with
  | zero =>
    intro i e b0 b1
    have : i = st := by omega
    subst this
    exact N_Mo_begins_30 ⟨fun _ => H, fun z => by omega⟩
  | succ r ih =>
    intro i e b0 b1
    have l := lo ⟨i, by omega⟩
    dsimp only at l
    have nx := ih (i + 1) (by omega)
    rw [bcN] at nx
    refine N_Mo_begins_30 ⟨fun z => by omega, fun _ => ⟨by omega, c_house hs (by omega) (by omega) ?_⟩⟩
    rw [show ((i : Int)).toNat = i by omega]
    refine ⟨fun z => ⟨by unfold r32; omega, by unfold r32; omega, ?_⟩, fun z => ⟨by unfold r32; omega, by unfold r32; omega, ?_⟩⟩
    · rw [if_neg z] at nx
      rw [show bcN i - 1 + 0 = bcN i + 0 - 1 by omega]
      exact nx (by omega) (by omega)
    · rw [if_pos z] at nx
      rw [show bcN i - 1 + 1 = bcN i + 1 - 1 by omega]
      exact nx (by omega) (by omega)
end
