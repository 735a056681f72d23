section
/-- a branch is closed, also behind a fault -/
theorem k_close {d : Nat} {h k5 h6 : HP} {tm tm5 : Int → Tm} {S S5 : Sx} {V V5 : Vx} {Q : PQ} (hd : 0 < d) (C0 : CV h 96 512 tm S V) (h15 : h 96 15 < 32) (C5 : CV k5 96 512 tm5 S5 V5) (X5 : ExB 96 (opH h 96) k5) (F : FO k5 h6) (H : ∀ h7, FO h h7 → (∀ a i, a < 96 ∨ 109 < a → h7 a i = h6 a i) → Q 0 h7) : Go d M_Types_closeBranch 0 [(17, 96)] [] h6 Q := by
  have Co := CV_opH C0
  have l := (CV_L0 Co).1
  obtain ⟨c5, W5, _⟩ := C5
  rcases F with ⟨t6, S6, V6, C6, X6⟩ | ⟨hb, tb, Sb, Vb, t6, S6, V6, Cb, Xb, qb, C6, X6⟩
  · exact c_closeV (T := 96) (R := 512) hd C0 h15 (ExB_trans W5.1 l X5 X6) C6 (fun h7 C7 X7 _ o => H h7 (Or.inl ⟨tm, S, V, C7, X7⟩) (fun a i p => o a i (by omega)))
  · refine c_closeV (T := 96) (R := 512) hd Cb qb X6 C6 (fun h7 C7 X7 _ o => H h7 (Or.inr ⟨h, tm, S, V, tb, Sb, Vb, C0, ExB_refl 96 h, h15, C7, ?_⟩) (fun a i p => o a i (by omega)))
    obtain ⟨cb, Wb, _⟩ := Cb
    exact ExB_trans Wb.1 l (ExB_trans W5.1 l X5 Xb) X7
end
