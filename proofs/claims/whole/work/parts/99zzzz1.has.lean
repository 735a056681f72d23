section
/-! values that stand: what the machine's look-ups answer -/
theorem m_hasV {d : Nat} {h : HP} {v : Int} {Q : PQ} (v0 : 0 ≤ v) (v1 : v < h 124 7) (H : Q 1 h) : Go d M_Machine_has 0 [(13, 124), (0, v)] [] h Q :=
  V_Machine_has_0 ⟨fun w => by omega, fun _ => ⟨fun w => by omega, fun _ => H⟩⟩
theorem m_conV {d : Nat} {h : HP} {v : Int} {Q : PQ} (hd : 0 < d) (v0 : 0 ≤ v) (v1 : v < h 124 7) (b : v < 1000) (H : Q (h (124 + 3) (3 * v)) h) : Go d M_Machine_contentOf 0 [(13, 124), (0, v)] [] h Q := by
  have z3 : aSZ (124 + 3) = 3000 := rfl
  exact V_Machine_contentOf_0 ⟨hd, m_hasV v0 v1 ⟨fun w => absurd w (by decide), fun _ => ⟨by unfold r32; omega, ⟨by omega, by omega⟩, H⟩⟩⟩
theorem m_kinV {d : Nat} {h : HP} {v : Int} {Q : PQ} (hd : 0 < d) (v0 : 0 ≤ v) (v1 : v < h 124 7) (b : v < 1000) (H : Q (h 125 v) h) : Go d M_Machine_kindOf 0 [(13, 124), (0, v)] [] h Q := by
  have z1 : aSZ (124 + 1) = 1000 := rfl
  exact V_Machine_kindOf_0 ⟨hd, m_hasV v0 v1 ⟨fun w => absurd w (by decide), fun _ => ⟨⟨by omega, by omega⟩, H⟩⟩⟩
theorem m_widV {d : Nat} {h : HP} {v : Int} {Q : PQ} (hd : 0 < d) (v0 : 0 ≤ v) (v1 : v < h 124 7) (b : v < 1000) (H : Q (h 126 v) h) : Go d M_Machine_widthOf 0 [(13, 124), (0, v)] [] h Q := by
  have z2 : aSZ (124 + 2) = 1000 := rfl
  exact V_Machine_widthOf_0 ⟨hd, m_hasV v0 v1 ⟨fun w => absurd w (by decide), fun _ => ⟨⟨by omega, by omega⟩, H⟩⟩⟩
theorem m_parV {d : Nat} {h : HP} {v n : Int} {Q : PQ} (hd : 1 < d) (v0 : 0 ≤ v) (v1 : v < h 124 7) (b : v < 1000) (n0 : 0 ≤ n) (n3 : n < 3) (w : n < h 126 v) (H : Q (h (124 + 3) (3 * v + n)) h) : Go d M_Machine_partOf 0 [(13, 124), (0, v), (0, n)] [] h Q := by
  have z3 : aSZ (124 + 3) = 3000 := rfl
  exact V_Machine_partOf_0 ⟨fun z => by omega, fun _ => ⟨by omega, m_widV (by omega) v0 v1 b ⟨fun z => by omega, fun _ => ⟨by unfold r32; omega, by unfold r32; omega, ⟨by omega, by omega⟩, H⟩⟩⟩⟩
end
