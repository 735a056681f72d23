set_option maxHeartbeats 4000000 in
theorem SX_closed (G : SG) (l : Launch) (d m pc : Nat) (ls st : List AV) (h : HP) (Q : PQ) (H : aF (SX G l) d m pc ls st h Q) : SX G l d m pc ls st h Q := by
  unfold aF at H
  cases hc : aCODE m pc with
  | none => rw [hc] at H; exact H.elim
  | some q =>
    obtain ⟨ins, nx, tg, a, b, c, e, z⟩ := q
    rw [hc] at H
    obtain ⟨hm, ok⟩ := chk_all hc
    dsimp only at H
    cases ins
    case iconst n =>
      obtain ⟨k1, k2, k3, k4⟩ := b4 ok
      have e2 := beq_tt k2
      subst e2
      exact sx_iconst (dk k1) (of_decide_eq_true k3) (of_decide_eq_true k4) H
    case bipush n =>
      obtain ⟨k1, k2, k3, k4⟩ := b4 ok
      have e2 := beq_tt k2
      subst e2
      exact sx_bipush (dk k1) (of_decide_eq_true k3) (of_decide_eq_true k4) H
    case sipush n =>
      obtain ⟨k1, k2, k3, k4⟩ := b4 ok
      have e2 := beq_tt k2
      subst e2
      exact sx_sipush (dk k1) (of_decide_eq_true k3) (of_decide_eq_true k4) H
    case lconst n =>
      obtain ⟨k1, k2, k3, k4⟩ := b4 ok
      have e2 := beq_tt k2
      subst e2
      exact sx_lconst (dk k1) (of_decide_eq_true k3) (of_decide_eq_true k4) H
    case ldc2_w ix =>
      obtain ⟨k1, k2, k3, k4⟩ := b4 ok
      have e2 := beq_tt k2
      subst e2
      exact sx_ldc2 (dk k1) (ck_mem k3) (of_decide_eq_true k4) H
    case ldc ix =>
      obtain ⟨k1, k2, k3, k4, k5⟩ := b5 ok
      have e2 := beq_tt k2
      subst e2
      exact sx_ldcs (dk k1) (beq_tt k3) (of_decide_eq_true k4) (beq_tt k5) H
    case aconst_null =>
      obtain ⟨k1, k2, k3⟩ := b3 ok
      have e2 := beq_tt k2
      subst e2
      exact sx_null (dk k1) ⟨le_tt (b2 k3).1, lt_tt (b2 k3).2⟩ H
    case iload k =>
      obtain ⟨k1, k2, k3⟩ := b3 ok
      have e2 := beq_tt k2
      subst e2
      exact sx_iload (dk k1) (beq_tt k3) H
    case iload_n k =>
      obtain ⟨k1, k2, k3⟩ := b3 ok
      have e2 := beq_tt k2
      subst e2
      exact sx_iload_n (dk k1) (beq_tt k3) H
    case istore k =>
      obtain ⟨k1, k2, k3⟩ := b3 ok
      have e2 := beq_tt k2
      subst e2
      exact sx_istore (dk k1) (beq_tt k3) H
    case istore_n k =>
      obtain ⟨k1, k2, k3⟩ := b3 ok
      have e2 := beq_tt k2
      subst e2
      exact sx_istore_n (dk k1) (beq_tt k3) H
    case lload k =>
      obtain ⟨k1, k2, k3⟩ := b3 ok
      have e2 := beq_tt k2
      subst e2
      exact sx_lload (dk k1) (beq_tt k3) H
    case lload_n k =>
      obtain ⟨k1, k2, k3⟩ := b3 ok
      have e2 := beq_tt k2
      subst e2
      exact sx_lload_n (dk k1) (beq_tt k3) H
    case lstore k =>
      obtain ⟨k1, k2, k3⟩ := b3 ok
      have e2 := beq_tt k2
      subst e2
      exact sx_lstore (dk k1) (beq_tt k3) H
    case lstore_n k =>
      obtain ⟨k1, k2, k3⟩ := b3 ok
      have e2 := beq_tt k2
      subst e2
      exact sx_lstore_n (dk k1) (beq_tt k3) H
    case aload k =>
      obtain ⟨k1, k2, k3⟩ := b3 ok
      have e2 := beq_tt k2
      subst e2
      exact sx_aload (dk k1) (beq_tt k3) H
    case aload_n k =>
      obtain ⟨k1, k2, k3⟩ := b3 ok
      have e2 := beq_tt k2
      subst e2
      exact sx_aload_n (dk k1) (beq_tt k3) H
    case astore k =>
      obtain ⟨k1, k2, k3⟩ := b3 ok
      have e2 := beq_tt k2
      subst e2
      exact sx_astore (dk k1) (beq_tt k3) H
    case astore_n k =>
      obtain ⟨k1, k2, k3⟩ := b3 ok
      have e2 := beq_tt k2
      subst e2
      exact sx_astore_n (dk k1) (beq_tt k3) H
    case iinc k n =>
      obtain ⟨k1, k2, k3, k4⟩ := b4 ok
      have e2 := beq_tt k2
      subst e2
      exact sx_iinc (dk k1) (beq_tt k3) (of_decide_eq_true k4) H
    case iadd =>
      obtain ⟨k1, k2⟩ := b2 ok
      have e2 := beq_tt k2
      subst e2
      exact sx_iadd (dk k1) H
    case isub =>
      obtain ⟨k1, k2⟩ := b2 ok
      have e2 := beq_tt k2
      subst e2
      exact sx_isub (dk k1) H
    case imul =>
      obtain ⟨k1, k2⟩ := b2 ok
      have e2 := beq_tt k2
      subst e2
      exact sx_imul (dk k1) H
    case idiv =>
      obtain ⟨k1, k2⟩ := b2 ok
      have e2 := beq_tt k2
      subst e2
      exact sx_idiv (dk k1) H
    case irem =>
      obtain ⟨k1, k2⟩ := b2 ok
      have e2 := beq_tt k2
      subst e2
      exact sx_irem (dk k1) H
    case iand =>
      obtain ⟨k1, k2⟩ := b2 ok
      have e2 := beq_tt k2
      subst e2
      exact sx_iand (dk k1) H
    case ior =>
      obtain ⟨k1, k2⟩ := b2 ok
      have e2 := beq_tt k2
      subst e2
      exact sx_ior (dk k1) H
    case ixor =>
      obtain ⟨k1, k2⟩ := b2 ok
      have e2 := beq_tt k2
      subst e2
      exact sx_ixor (dk k1) H
    case ishl =>
      obtain ⟨k1, k2⟩ := b2 ok
      have e2 := beq_tt k2
      subst e2
      exact sx_ishl (dk k1) H
    case ishr =>
      obtain ⟨k1, k2⟩ := b2 ok
      have e2 := beq_tt k2
      subst e2
      exact sx_ishr (dk k1) H
    case ladd =>
      obtain ⟨k1, k2⟩ := b2 ok
      have e2 := beq_tt k2
      subst e2
      exact sx_ladd (dk k1) H
    case lmul =>
      obtain ⟨k1, k2⟩ := b2 ok
      have e2 := beq_tt k2
      subst e2
      exact sx_lmul (dk k1) H
    case ldiv =>
      obtain ⟨k1, k2⟩ := b2 ok
      have e2 := beq_tt k2
      subst e2
      exact sx_ldiv (dk k1) H
    case lrem =>
      obtain ⟨k1, k2⟩ := b2 ok
      have e2 := beq_tt k2
      subst e2
      exact sx_lrem (dk k1) H
    case land =>
      obtain ⟨k1, k2⟩ := b2 ok
      have e2 := beq_tt k2
      subst e2
      exact sx_land (dk k1) H
    case lshr =>
      obtain ⟨k1, k2⟩ := b2 ok
      have e2 := beq_tt k2
      subst e2
      exact sx_lshr (dk k1) H
    case lneg =>
      obtain ⟨k1, k2⟩ := b2 ok
      have e2 := beq_tt k2
      subst e2
      exact sx_lneg (dk k1) H
    case lcmp =>
      obtain ⟨k1, k2⟩ := b2 ok
      have e2 := beq_tt k2
      subst e2
      exact sx_lcmp (dk k1) H
    case i2l =>
      obtain ⟨k1, k2⟩ := b2 ok
      have e2 := beq_tt k2
      subst e2
      exact sx_i2l (dk k1) H
    case l2i =>
      obtain ⟨k1, k2⟩ := b2 ok
      have e2 := beq_tt k2
      subst e2
      exact sx_l2i (dk k1) H
    case dup =>
      obtain ⟨k1, k2⟩ := b2 ok
      have e2 := beq_tt k2
      subst e2
      exact sx_dup (dk k1) H
    case dup2 =>
      obtain ⟨k1, k2⟩ := b2 ok
      have e2 := beq_tt k2
      subst e2
      exact sx_dup2 (dk k1) H
    case pop =>
      obtain ⟨k1, k2⟩ := b2 ok
      have e2 := beq_tt k2
      subst e2
      exact sx_pop (dk k1) H
    case iaload =>
      obtain ⟨k1, k2⟩ := b2 ok
      have e2 := beq_tt k2
      subst e2
      exact sx_iald (dk k1) H
    case baload =>
      obtain ⟨k1, k2⟩ := b2 ok
      have e2 := beq_tt k2
      subst e2
      exact sx_bald (dk k1) H
    case laload =>
      obtain ⟨k1, k2⟩ := b2 ok
      have e2 := beq_tt k2
      subst e2
      exact sx_lald (dk k1) H
    case aaload =>
      obtain ⟨k1, k2⟩ := b2 ok
      have e2 := beq_tt k2
      subst e2
      exact sx_aald (dk k1) H
    case iastore =>
      obtain ⟨k1, k2⟩ := b2 ok
      have e2 := beq_tt k2
      subst e2
      exact sx_iast (dk k1) H
    case bastore =>
      obtain ⟨k1, k2⟩ := b2 ok
      have e2 := beq_tt k2
      subst e2
      exact sx_bast (dk k1) H
    case arraylength =>
      obtain ⟨k1, k2⟩ := b2 ok
      have e2 := beq_tt k2
      subst e2
      exact sx_alen (dk k1) H
    case goto off =>
      obtain ⟨k1, k2⟩ := b2 ok
      exact sx_goto (dk k1) (of_decide_eq_true k2) H
    case if_icmp cn off =>
      obtain ⟨k1, k2, k3⟩ := b3 ok
      have e2 := beq_tt k2
      subst e2
      exact sx_icmp (dk k1) (of_decide_eq_true k3) H
    case ifCond cn off =>
      obtain ⟨k1, k2, k3⟩ := b3 ok
      have e2 := beq_tt k2
      subst e2
      exact sx_ifc (dk k1) (of_decide_eq_true k3) H
    case ifnull off =>
      obtain ⟨k1, k2, k3⟩ := b3 ok
      have e2 := beq_tt k2
      subst e2
      exact sx_ifnull (dk k1) (of_decide_eq_true k3) H
    case ifnonnull off =>
      obtain ⟨k1, k2, k3⟩ := b3 ok
      have e2 := beq_tt k2
      subst e2
      exact sx_ifnonnull (dk k1) (of_decide_eq_true k3) H
    case lookupswitch df ps =>
      obtain ⟨k1, k2, k3, k4, k5⟩ := b5 ok
      exact sx_lookup (dk k1) k2 k3 k4 (of_decide_eq_true k5) H
    case tableswitch df lo hi os =>
      obtain ⟨k1, k2, k3, k4⟩ := b4 ok
      exact sx_table (dk k1) (of_decide_eq_true k2) k3 (of_decide_eq_true k4) H
    case getfield ix =>
      obtain ⟨k1, k2, k3, k4, k5, k6, k7, k8⟩ := b8 ok
      have e2 := beq_tt k2
      subst e2
      have q7 := eq_of_beq k7
      refine sx_getf (dk k1) (lt_tt k3) (lt_tt k4) (fl_mem hm k5) (own_at (lt_tt k3) (lt_tt k4)) (beq_tt k6) q7 (fun e1 => ?_) H
      rcases bo k8 with q | q
      · rw [e1] at q; exact absurd q (by decide)
      · exact of_decide_eq_true q
    case putfield ix =>
      obtain ⟨k1, k2, k3, k4, k5, k6, k7⟩ := b7 ok
      have e2 := beq_tt k2
      subst e2
      refine sx_putf (dk k1) (lt_tt k3) (lt_tt k4) (fl_mem hm k5) (own_at (lt_tt k3) (lt_tt k4)) (bn k6) ?_ H
      rcases bo k7 with q | q
      · obtain ⟨q1, q2, q3⟩ := b3 q
        exact Or.inl ⟨beq_tt q1, beq_tt q2, of_decide_eq_true q3⟩
      · rcases bo q with q | q
        · obtain ⟨q1, q2, q3⟩ := b3 q
          exact Or.inr (Or.inl ⟨beq_tt q1, beq_tt q2, of_decide_eq_true q3⟩)
        · obtain ⟨q1, q2, q3⟩ := b3 q
          exact Or.inr (Or.inr ⟨beq_tt q1, beq_tt q2, of_decide_eq_true q3⟩)
    case invokevirtual ix =>
      obtain ⟨k1, k2, k3⟩ := b3 ok
      have e2 := beq_tt k2
      subst e2
      rcases bo k3 with q | q
      · obtain ⟨q1, q2, q3, q4, q5, q6, q7⟩ := b7 q
        obtain ⟨c1, c2, c3, c4⟩ := b4 q2
        have F := fm_of (le_tt c1) (lt_tt c2)
        have F4 := F.2.2.2 (bn q4)
        have e6 : aOW tg = b := beq_tt q6
        have e7 : (aY tg).cls = vR b := by show vO (aOW tg) = vR b; rw [e6]; exact vO_R (lt_tt q7)
        rw [q1] at H
        cases hl : Nat.ble a st.length with
        | false =>
          rw [hl] at H
          have q0 := beq_tt q1
          subst q0
          exact H.elim
        | true =>
          rw [hl] at H
          exact sx_callV (dk k1) F.1 (mk_mem hm q3) F4.1 (by rw [← e7]; exact F4.2) e7 (lt_tt q7) (beq_tt q5) (le_tt c3) (beq_tt c4) (le_tt hl) H
      · obtain ⟨q1, q2⟩ := b2 q
        rcases bo q1 with w | w
        · have w0 := beq_tt w
          subst w0
          exact sx_slen (dk k1) (jk_mem q2) H
        · have w0 := beq_tt w
          subst w0
          exact sx_char (dk k1) (jk_mem q2) H
    case invokestatic ix =>
      obtain ⟨k1, k2, k3⟩ := b3 ok
      have e2 := beq_tt k2
      subst e2
      rcases bo k3 with q | q
      · obtain ⟨q1, q2, q3, q4, q5⟩ := b5 q
        obtain ⟨c1, c2, c3, c4⟩ := b4 q2
        have F := fm_of (le_tt c1) (lt_tt c2)
        rw [q1] at H
        cases hl : Nat.ble a st.length with
        | false =>
          rw [hl] at H
          have q0 := le_tt q1
          rw [beq_ff (show e ≠ 10 by omega), beq_ff (show e ≠ 11 by omega), beq_ff (show e ≠ 12 by omega), beq_ff (show e ≠ 13 by omega)] at H
          exact H.elim
        | true =>
          rw [hl] at H
          refine sx_callS (dk k1) F.1 (F.2.2.1 q3) ?_ (beq_tt q4) (le_tt c3) (beq_tt c4) (le_tt hl) H
          rcases bo q5 with w | w
          · obtain ⟨w1, w2⟩ := b2 w
            exact Or.inl ⟨mk_mem hm w1, by show vO (aOW tg) = _; rw [beq_tt w2]⟩
          · exact Or.inr (nk_mem w)
      · obtain ⟨q1, q2⟩ := b2 q
        rcases bo q1 with w | w
        · rcases bo w with w | w
          · rcases bo w with w | w
            · have w0 := beq_tt w
              subst w0
              exact sx_mmin (dk k1) (jk_mem q2) H
            · have w0 := beq_tt w
              subst w0
              exact sx_mmax (dk k1) (jk_mem q2) H
          · have w0 := beq_tt w
            subst w0
            exact sx_mabs (dk k1) (jk_mem q2) H
        · have w0 := beq_tt w
          subst w0
          exact sx_bcnt (dk k1) (jk_mem q2) H
    case ireturn =>
      obtain ⟨k1, k2⟩ := b2 ok
      refine sx_iret (dk k1) ?_ H
      rcases bo k2 with q | q
      · exact Or.inl ⟨beq_tt (b2 q).1, bn (b2 q).2⟩
      · exact Or.inr ⟨beq_tt (b2 q).1, (b2 q).2⟩
    case lreturn =>
      obtain ⟨k1, k2⟩ := b2 ok
      exact sx_lret (dk k1) (beq_tt k2) H
    case areturn =>
      obtain ⟨k1, k2, k3, k4⟩ := b4 ok
      exact sx_aret (dk k1) ⟨beq_tt k2, le_tt k3, lt_tt k4⟩ H
    case return_ =>
      obtain ⟨k1, k2⟩ := b2 ok
      exact sx_vret (dk k1) (beq_tt k2) H
    all_goals exact H.elim
/-- what the abstract machine does, the machine does -/
theorem Go_sound (G : SG) (l : Launch) {d m pc : Nat} {ls st : List AV} {h : HP} {Q : PQ} (H : Go d m pc ls st h Q) : SX G l d m pc ls st h Q := H (SX G l) (SX_Q G l) (SX_closed G l)
