section QRU
variable {d R a i j n b cl bl rw c L s D N t m r q p lo hi : Nat} {M : qM} {v u : qV} {g al mo dm tt dp lt : Nat → Nat} {o : qOut} {x y : Int32} {bb : Bool}
theorem IT_n (h : isRef M R) (hd : RDI u v g lt L (p + 1) bb) (hp : p ≤ 200) (hc : lt p = 110) : ITP M R lt L p u v g bb := by
  obtain ⟨rw, cl, bl, dm, n, hT, hW, hn, hr, hcl, hbl, hdm, hg, hu, hb0, h55⟩ := hd
  have hm1 : 1 ≤ rw * cl := Nat.mul_pos (by omega) (by omega)
  have hm2 : rw * cl ≤ 36 := Nat.mul_le_mul hr.2 hcl.2
  have hinv : ∀ r, i_one lt p u bb = some r → n < 9 ∧ ∃ k p1 z p2 e p3 y p4, r_num3 lt (p + 1) 0 4 = some (k, p1) ∧ r_more lt p1 0 (rw * cl - 1) = some (z, p2) ∧ r_more lt p2 1 (cap k) = some (e, p3) ∧ r_more lt p3 0 63 = some (y, p4) ∧ insG g 616 z n 0 = none ∧ lt p4 = 59 := fun r hi => by
    obtain ⟨xs, u', h1, h2⟩ := i_one_inv hW hn hr.2 hcl.2 hi
    rw [hc] at h2
    obtain ⟨⟨hm, hn9, hx0, hx1, hfr, hx2, hx3⟩, _⟩ := i_take_n h2
    obtain ⟨k, p1, z, p2, e, p3, y, p4, a1, a2, a3, a4, a5, a6, a7, a8, a9, a10⟩ := lst4 h1 hm
    rw [a9] at hx0 hx1 hfr hx2 hx3
    have hx0' : k < 5 := hx0
    have hx1' : z < rw * cl := hx1
    have hx3' : y ≤ 63 := hx3
    have hfr' : nin u (nI (z / cl)) (nI (z % cl)) n 0 = -4 := hfr
    rw [tie_free hW hn hg (by omega)] at hfr'
    exact ⟨hn9, k, p1, z, p2, e, p3, y, p4, r_num3_of a1 (fig44 a2) (by omega), r_more_of a2 a3 (fig44 a4) (by omega), r_more_of a4 a5 (fig44 a6) hx2, r_more_of a6 a7 (fig59 a8) (by omega), hfr', a8⟩
  have hg616 := hW.2.1
  by_cases hn9 : n = 9
  · refine ITP_bad (r := True) (none_of fun r hi => by have := (hinv r hi).1; omega) ?_
    rw [hc]
    exact S_item_n9 h hT (by omega)
  · have hn8 : n < 9 := by omega
    cases h1 : r_num3 lt (p + 1) 0 4 with
    | none =>
      refine ITP_bad (r := True) (none_of fun r hi => ?_) ?_
      · obtain ⟨_, k, p1, z, p2, e, p3, y, p4, e1, e2, e3, e4, e5, e6⟩ := hinv r hi
        rw [h1] at e1; cases e1
      · rw [hc]; exact S_item_n_n h hT (by omega) hg616 hn8 ⟨hm1, hm2⟩ (Or.inl h1)
    | some kp =>
      obtain ⟨k, p1⟩ := kp
      have h1b := r_num3_b h1
      have hp1 := r_num_lt h1b.1
      cases h2 : r_more lt p1 0 (rw * cl - 1) with
      | none =>
        refine ITP_bad (r := True) (none_of fun r hi => ?_) ?_
        · obtain ⟨_, k', p1', z, p2, e, p3, y, p4, e1, e2, e3, e4, e5, e6⟩ := hinv r hi
          rw [h1] at e1; cases e1
          rw [h2] at e2; cases e2
        · rw [hc]; exact S_item_n_n h hT (by omega) hg616 hn8 ⟨hm1, hm2⟩ (Or.inr ⟨k, p1, h1, by omega, Or.inl h2⟩)
      | some zp =>
        obtain ⟨z, p2⟩ := zp
        have h2b := r_more_b h2
        have hp2 := r_num_lt h2b.2.1
        cases h3 : r_more lt p2 1 (cap k) with
        | none =>
          refine ITP_bad (r := True) (none_of fun r hi => ?_) ?_
          · obtain ⟨_, k', p1', z', p2', e, p3, y, p4, e1, e2, e3, e4, e5, e6⟩ := hinv r hi
            rw [h1] at e1; cases e1
            rw [h2] at e2; cases e2
            rw [h3] at e3; cases e3
          · rw [hc]; exact S_item_n_n h hT (by omega) hg616 hn8 ⟨hm1, hm2⟩ (Or.inr ⟨k, p1, h1, by omega, Or.inr ⟨z, p2, h2, by omega, Or.inl h3⟩⟩)
        | some ep =>
          obtain ⟨e, p3⟩ := ep
          have h3b := r_more_b h3
          have hp3 := r_num_lt h3b.2.1
          cases h4 : r_more lt p3 0 63 with
          | none =>
            refine ITP_bad (r := True) (none_of fun r hi => ?_) ?_
            · obtain ⟨_, k', p1', z', p2', e', p3', y, p4, e1, e2, e3, e4, e5, e6⟩ := hinv r hi
              rw [h1] at e1; cases e1
              rw [h2] at e2; cases e2
              rw [h3] at e3; cases e3
              rw [h4] at e4; cases e4
            · rw [hc]; exact S_item_n_n h hT (by omega) hg616 hn8 ⟨hm1, hm2⟩ (Or.inr ⟨k, p1, h1, by omega, Or.inr ⟨z, p2, h2, by omega, Or.inr ⟨e, p3, h3, by omega, h4⟩⟩⟩)
          | some yp =>
            obtain ⟨y, p4⟩ := yp
            have h4b := r_more_b h4
            by_cases h5 : insG g 616 z n 0 = none
            · obtain ⟨v', ev, T', hl⟩ := S_item_n_y (g := g) h hT ⟨by omega, by omega, by omega, by omega⟩ hg616 hn8 hg ⟨hm1, hm2⟩ h1 h2 h3 h4 h5
              have hlo : ∀ q, q < 616 ∨ 672 ≤ q → addsG g 616 k z e y q = g q := fun q hq => addsG_ne hg616 (by omega)
              by_cases h6 : lt p4 = 59
              · have hlst := lsts_f (m := 3) h1b.1 h2b.1 (lsts_f (m := 2) h2b.2.1 h3b.1 (lsts_f (m := 1) h3b.2.1 h4b.1 (lst1_f (m := 0) h4b.2.1 h6)))
                have hfr : nin u (nI (z / cl)) (nI (z % cl)) n 0 = -4 := by rw [tie_free hW hn hg (by omega)]; exact h5
                have hio : i_one lt p u bb = some (w_add u n (n_new (fun q => [k, z, e, y].getD q 0) cl), bb && decide (lt p = 119), p4 + 1) := by
                  rw [i_one_f hW hn hr.2 hcl.2 hlst, hc]
                  have : i_take 110 u (fun q => [k, z, e, y].getD q 0) [k, z, e, y].length n rw cl bb = some (w_add u n (n_new (fun q => [k, z, e, y].getD q 0) cl)) := by
                    unfold i_take
                    rw [if_neg (by decide), if_pos rfl]
                    exact if_pos ⟨rfl, hn8, show k < 5 by omega, show z < rw * cl by omega, hfr, h3b.2.2.2, h4b.2.2.2.2⟩
                  rw [this]
                have hbf : (bb && decide (lt p = 119)) = false := by rw [hc]; cases bb <;> rfl
                rw [hbf] at hio
                refine Or.inl ⟨v', addsG g 616 k z e y, _, false, p4, hio, ⟨h6, by have := r_num_lt h4b.2.1; omega⟩, ⟨rw, cl, bl, dm, n + 1, T', tie_add hW hn8, by omega, hr, hcl, hbl, hdm, GB_add hg hg616 hn8 (by omega) (by omega) (by have := @cap_le k; omega) (by omega), UN_add hu hg616 hn8 h5, fun hh => (by cases hh), ?_⟩, ev, hlo, by rw [hc]; exact hl⟩
                exact ⟨by rw [addsG_ne hg616 (by omega)]; exact h55.1, CP_add h55.2 hg616 hn8 h3b.2.2.2.2⟩
              · refine Or.inr ⟨none_of fun r hi => ?_, v', _, ev, hlo, Or.inr ⟨rw, cl, bl, dm, true, p4, T', h6⟩, by rw [hc]; exact hl⟩
                obtain ⟨_, k', p1', z', p2', e', p3', y', p4', e1, e2, e3, e4, e5, e6⟩ := hinv r hi
                rw [h1] at e1; cases e1
                rw [h2] at e2; cases e2
                rw [h3] at e3; cases e3
                rw [h4] at e4; cases e4
                exact h6 e6
            · refine ITP_bad (r := True) (none_of fun r hi => ?_) ?_
              · obtain ⟨_, k', p1', z', p2', e', p3', y', p4', e1, e2, e3, e4, e5, e6⟩ := hinv r hi
                rw [h1] at e1; cases e1
                rw [h2] at e2; cases e2
                exact h5 e5
              · rw [hc]; exact S_item_n_i h hT ⟨by omega, by omega, by omega, by omega⟩ hg616 hn8 hg ⟨hm1, hm2⟩ h1 h2 h3 h4 h5
theorem IT (h : isRef M R) (hd : RDI u v g lt L (p + 1) bb) (hp : p ≤ 200) : ITP M R lt L p u v g bb := by
  by_cases c1 : lt p = 119
  · exact IT_w h hd hp c1
  · by_cases c2 : lt p = 110
    · exact IT_n h hd hp c2
    · by_cases c3 : lt p = 100
      · exact IT_d h hd hp c3
      · by_cases c4 : lt p = 98
        · exact IT_b h hd hp c4
        · exact IT_x h hd ⟨c1, c2, c3, c4⟩
/-- as eqt, but for the beginning's place too -/
def eqs (v v' : qV) : Prop := ∀ j k, j ≠ 2 → ¬ (j = 0 ∧ (k = 4 ∨ k = 5 ∨ k = 6 ∨ k = 8 ∨ k = 14 ∨ k = 15 ∨ k = 16)) → v' j k = v j k
theorem eqs_of {v' : qV} (h : eqt v v') : eqs v v' := fun j k h1 h2 => h j k h1 (by omega)
theorem eqs_trans {v' v'' : qV} (h : eqs v v') (h' : eqs v' v'') : eqs v v'' := fun j k h1 h2 => (h' j k h1 h2).trans (h j k h1 h2)
theorem eqs_vs {k : Nat} (hk : k = 4 ∨ k = 5 ∨ k = 6 ∨ k = 8 ∨ k = 14 ∨ k = 15 ∨ k = 16) : eqs v (vs v 0 k x) := fun j k' h1 h2 => vs_ne (by omega)
theorem RDI_begin {p' : Nat} (h : RDI u v g lt L p bb) (hp : p' ≤ 600) : RDI u (vs (vs v 0 15 x) 0 14 (nI p')) g lt L p' bb := by
  obtain ⟨rw, cl, bl, dm, n, hT, h⟩ := h
  refine ⟨rw, cl, bl, dm, n, RT_at (p := p) ?_ hp, h⟩
  obtain ⟨⟨a1, a2, a3, a4, a5⟩, h2, h3, h4, h5, h6, h7, h8, h9⟩ := hT
  exact ⟨⟨(vs_ne (by omega)).trans a1, a2, fun k hk => (vs_ne (by omega)).trans (a3 k hk), a4, a5⟩, (vs_ne (by omega)).trans h2, (vs_ne (by omega)).trans h3, (vs_ne (by omega)).trans h4, fun c hc => (vs_ne (by omega)).trans (h5 c hc), (vs_ne (by omega)).trans h6, (vs_ne (by omega)).trans h7, (vs_ne (by omega)).trans h8, h9⟩
theorem S_rd_x (h : isRef M R) (hX : RX v) {l1 : Value} : Rn (d + 4) 60 (77, [.ref R, l1], [], 0, 0, sB M R (vg v g)) o = (o = (some (.int (nI 0)), sB M R (vg v g))) := by
  have hX1 : v 0 16 = nI 1 := hX
  by_cases c : v 0 14 < v 0 12
  · simp (disch := first | assumption | omega | (simp (disch := omega) only [rf_some, qS_sB, qR_sB, qZ_sB, qI_sB0, qI_sBj, pI_sB0, pI_sB_at, isRef_sB, vg_3, vg_ne, vs_vg_3, vs_vg, exists_eq_left, Option.toList_some, Option.toList_none, List.cons_append, List.nil_append, if_true, if_false, qb_0, qb_q01, q01_1, q01_0, if_qb, if_qbn, if_qba, if_qbo, eq_self, true_or, or_true, and_self, true_and, and_true, not_true_eq_false, not_false_eq_true, vpi, ltI, eqI, eqI0, eqI4, nI_clamp, ite_not, vs_same, vs_ne, gs_same, gs_ne, Nat.not_lt_zero, ltm, nI_add, pk_mul, pk_sub, pk_div, rem_n, h, R_s h, R_s1 h, R_s2 h, R_s3 h, R_s4 h, R_s5 h, R_s6 h, R_s7 h, R_s8 h, R_s9 h, R_s10 h, R_s11 h, R_s12 h, R_r3 h, R_r7 h, R_r9 h, R_r13 h, R_r18 h, R_r19 h, R_r20 h, R_r21 h, R_r22 h, R_r24 h, R_r25 h, R_r26 h]; done) | (simp (disch := omega) only [rf_some, qS_sB, qR_sB, qZ_sB, qI_sB0, qI_sBj, pI_sB0, pI_sB_at, isRef_sB, vg_3, vg_ne, vs_vg_3, vs_vg, exists_eq_left, Option.toList_some, Option.toList_none, List.cons_append, List.nil_append, if_true, if_false, qb_0, qb_q01, q01_1, q01_0, if_qb, if_qbn, if_qba, if_qbo, eq_self, true_or, or_true, and_self, true_and, and_true, not_true_eq_false, not_false_eq_true, vpi, ltI, eqI, eqI0, eqI4, nI_clamp, ite_not, vs_same, vs_ne, gs_same, gs_ne, Nat.not_lt_zero, ltm, nI_add, pk_mul, pk_sub, pk_div, rem_n, h, R_s h, R_s1 h, R_s2 h, R_s3 h, R_s4 h, R_s5 h, R_s6 h, R_s7 h, R_s8 h, R_s9 h, R_s10 h, R_s11 h, R_s12 h, R_r3 h, R_r7 h, R_r9 h, R_r13 h, R_r18 h, R_r19 h, R_r20 h, R_r21 h, R_r22 h, R_r24 h, R_r25 h, R_r26 h]; omega)) only [x60_77, x60_78, x60_81, x60_82, x60_85, x60_88, x60_89, x60_92, x60_161, x60_162, x60_165, x60_168, x60_169, x60_172, x60_173, rf_some, qS_sB, qR_sB, qZ_sB, qI_sB0, qI_sBj, pI_sB0, pI_sB_at, isRef_sB, vg_3, vg_ne, vs_vg_3, vs_vg, exists_eq_left, Option.toList_some, Option.toList_none, List.cons_append, List.nil_append, if_true, if_false, qb_0, qb_q01, q01_1, q01_0, if_qb, if_qbn, if_qba, if_qbo, eq_self, true_or, or_true, and_self, true_and, and_true, not_true_eq_false, not_false_eq_true, vpi, ltI, eqI, eqI0, eqI4, nI_clamp, ite_not, vs_same, vs_ne, gs_same, gs_ne, Nat.not_lt_zero, ltm, nI_add, pk_mul, pk_sub, pk_div, rem_n, h, R_s h, R_s1 h, R_s2 h, R_s3 h, R_s4 h, R_s5 h, R_s6 h, R_s7 h, R_s8 h, R_s9 h, R_s10 h, R_s11 h, R_s12 h, R_r3 h, R_r7 h, R_r9 h, R_r13 h, R_r18 h, R_r19 h, R_r20 h, R_r21 h, R_r22 h, R_r24 h, R_r25 h, R_r26 h, c, hX1, Nat.one_ne_zero]
  · simp (disch := first | assumption | omega | (simp (disch := omega) only [rf_some, qS_sB, qR_sB, qZ_sB, qI_sB0, qI_sBj, pI_sB0, pI_sB_at, isRef_sB, vg_3, vg_ne, vs_vg_3, vs_vg, exists_eq_left, Option.toList_some, Option.toList_none, List.cons_append, List.nil_append, if_true, if_false, qb_0, qb_q01, q01_1, q01_0, if_qb, if_qbn, if_qba, if_qbo, eq_self, true_or, or_true, and_self, true_and, and_true, not_true_eq_false, not_false_eq_true, vpi, ltI, eqI, eqI0, eqI4, nI_clamp, ite_not, vs_same, vs_ne, gs_same, gs_ne, Nat.not_lt_zero, ltm, nI_add, pk_mul, pk_sub, pk_div, rem_n, h, R_s h, R_s1 h, R_s2 h, R_s3 h, R_s4 h, R_s5 h, R_s6 h, R_s7 h, R_s8 h, R_s9 h, R_s10 h, R_s11 h, R_s12 h, R_r3 h, R_r7 h, R_r9 h, R_r13 h, R_r18 h, R_r19 h, R_r20 h, R_r21 h, R_r22 h, R_r24 h, R_r25 h, R_r26 h]; done) | (simp (disch := omega) only [rf_some, qS_sB, qR_sB, qZ_sB, qI_sB0, qI_sBj, pI_sB0, pI_sB_at, isRef_sB, vg_3, vg_ne, vs_vg_3, vs_vg, exists_eq_left, Option.toList_some, Option.toList_none, List.cons_append, List.nil_append, if_true, if_false, qb_0, qb_q01, q01_1, q01_0, if_qb, if_qbn, if_qba, if_qbo, eq_self, true_or, or_true, and_self, true_and, and_true, not_true_eq_false, not_false_eq_true, vpi, ltI, eqI, eqI0, eqI4, nI_clamp, ite_not, vs_same, vs_ne, gs_same, gs_ne, Nat.not_lt_zero, ltm, nI_add, pk_mul, pk_sub, pk_div, rem_n, h, R_s h, R_s1 h, R_s2 h, R_s3 h, R_s4 h, R_s5 h, R_s6 h, R_s7 h, R_s8 h, R_s9 h, R_s10 h, R_s11 h, R_s12 h, R_r3 h, R_r7 h, R_r9 h, R_r13 h, R_r18 h, R_r19 h, R_r20 h, R_r21 h, R_r22 h, R_r24 h, R_r25 h, R_r26 h]; omega)) only [x60_77, x60_78, x60_81, x60_82, x60_85, x60_88, x60_89, x60_92, x60_161, x60_162, x60_165, x60_168, x60_169, x60_172, x60_173, rf_some, qS_sB, qR_sB, qZ_sB, qI_sB0, qI_sBj, pI_sB0, pI_sB_at, isRef_sB, vg_3, vg_ne, vs_vg_3, vs_vg, exists_eq_left, Option.toList_some, Option.toList_none, List.cons_append, List.nil_append, if_true, if_false, qb_0, qb_q01, q01_1, q01_0, if_qb, if_qbn, if_qba, if_qbo, eq_self, true_or, or_true, and_self, true_and, and_true, not_true_eq_false, not_false_eq_true, vpi, ltI, eqI, eqI0, eqI4, nI_clamp, ite_not, vs_same, vs_ne, gs_same, gs_ne, Nat.not_lt_zero, ltm, nI_add, pk_mul, pk_sub, pk_div, rem_n, h, R_s h, R_s1 h, R_s2 h, R_s3 h, R_s4 h, R_s5 h, R_s6 h, R_s7 h, R_s8 h, R_s9 h, R_s10 h, R_s11 h, R_s12 h, R_r3 h, R_r7 h, R_r9 h, R_r13 h, R_r18 h, R_r19 h, R_r20 h, R_r21 h, R_r22 h, R_r24 h, R_r25 h, R_r26 h, c, hX1, Nat.one_ne_zero]
def rdO (z : Option Nat) : Int32 := match z with
  | none => nI 1
  | some _ => nI 0
theorem S_rd_loop (h : isRef M R) : ∀ (k p : Nat) (u v : qV) (g : Nat → Nat) (bb : Bool) (l1 : Value), L ≤ p + k → p ≤ L → RDI u v g lt L p bb → ∃ v' g', eqs v v' ∧ (∀ k, k < 616 ∨ 672 ≤ k → g' k = g k) ∧ (match (i_read lt L k p u bb).1 with
    | none => ∃ b', RDI (i_read lt L k p u bb).2 v' g' lt L L b'
    | some p0 => v' 0 15 = nI p0 ∧ p0 ≤ 200) ∧ ∀ (d : Nat) o, Rn (d + 4) 60 (77, [.ref R, l1], [], 0, 0, sB M R (vg v g)) o = (o = (some (.int (rdO (i_read lt L k p u bb).1)), sB M R (vg v' g'))) := by
  intro k
  induction k with
  | zero =>
    intro p u v g bb l1 hL hpL hd
    have e : p = L := by omega
    subst e
    refine ⟨v, g, fun _ _ _ _ => rfl, fun _ _ => rfl, ⟨bb, hd⟩, fun d o => ?_⟩
    obtain ⟨rw, cl, bl, dm, n, hT, hd⟩ := hd
    obtain ⟨⟨a1, a2, a3, a4, a5⟩, h2, h3, h4, h5, h6, h7, h8, h9⟩ := hT
    simp (disch := first | assumption | omega | (simp (disch := omega) only [rf_some, qS_sB, qR_sB, qZ_sB, qI_sB0, qI_sBj, pI_sB0, pI_sB_at, isRef_sB, vg_3, vg_ne, vs_vg_3, vs_vg, exists_eq_left, Option.toList_some, Option.toList_none, List.cons_append, List.nil_append, if_true, if_false, qb_0, qb_q01, q01_1, q01_0, if_qb, if_qbn, if_qba, if_qbo, eq_self, true_or, or_true, and_self, true_and, and_true, not_true_eq_false, not_false_eq_true, vpi, ltI, eqI, eqI0, eqI4, nI_clamp, ite_not, vs_same, vs_ne, gs_same, gs_ne, Nat.not_lt_zero, ltm, nI_add, pk_mul, pk_sub, pk_div, rem_n, h, R_s h, R_s1 h, R_s2 h, R_s3 h, R_s4 h, R_s5 h, R_s6 h, R_s7 h, R_s8 h, R_s9 h, R_s10 h, R_s11 h, R_s12 h, R_r3 h, R_r7 h, R_r9 h, R_r13 h, R_r18 h, R_r19 h, R_r20 h, R_r21 h, R_r22 h, R_r24 h, R_r25 h, R_r26 h]; done) | (simp (disch := omega) only [rf_some, qS_sB, qR_sB, qZ_sB, qI_sB0, qI_sBj, pI_sB0, pI_sB_at, isRef_sB, vg_3, vg_ne, vs_vg_3, vs_vg, exists_eq_left, Option.toList_some, Option.toList_none, List.cons_append, List.nil_append, if_true, if_false, qb_0, qb_q01, q01_1, q01_0, if_qb, if_qbn, if_qba, if_qbo, eq_self, true_or, or_true, and_self, true_and, and_true, not_true_eq_false, not_false_eq_true, vpi, ltI, eqI, eqI0, eqI4, nI_clamp, ite_not, vs_same, vs_ne, gs_same, gs_ne, Nat.not_lt_zero, ltm, nI_add, pk_mul, pk_sub, pk_div, rem_n, h, R_s h, R_s1 h, R_s2 h, R_s3 h, R_s4 h, R_s5 h, R_s6 h, R_s7 h, R_s8 h, R_s9 h, R_s10 h, R_s11 h, R_s12 h, R_r3 h, R_r7 h, R_r9 h, R_r13 h, R_r18 h, R_r19 h, R_r20 h, R_r21 h, R_r22 h, R_r24 h, R_r25 h, R_r26 h]; omega)) only [x60_77, x60_78, x60_81, x60_82, x60_85, x60_88, x60_89, x60_92, x60_161, x60_162, x60_165, x60_168, x60_169, x60_172, x60_173, rf_some, qS_sB, qR_sB, qZ_sB, qI_sB0, qI_sBj, pI_sB0, pI_sB_at, isRef_sB, vg_3, vg_ne, vs_vg_3, vs_vg, exists_eq_left, Option.toList_some, Option.toList_none, List.cons_append, List.nil_append, if_true, if_false, qb_0, qb_q01, q01_1, q01_0, if_qb, if_qbn, if_qba, if_qbo, eq_self, true_or, or_true, and_self, true_and, and_true, not_true_eq_false, not_false_eq_true, vpi, ltI, eqI, eqI0, eqI4, nI_clamp, ite_not, vs_same, vs_ne, gs_same, gs_ne, Nat.not_lt_zero, ltm, nI_add, pk_mul, pk_sub, pk_div, rem_n, h, R_s h, R_s1 h, R_s2 h, R_s3 h, R_s4 h, R_s5 h, R_s6 h, R_s7 h, R_s8 h, R_s9 h, R_s10 h, R_s11 h, R_s12 h, R_r3 h, R_r7 h, R_r9 h, R_r13 h, R_r18 h, R_r19 h, R_r20 h, R_r21 h, R_r22 h, R_r24 h, R_r25 h, R_r26 h, a1, h7, h8, Nat.lt_irrefl]
    rfl
  | succ k ih =>
    intro p u v g bb l1 hL hpL hd
    have hL2 : L ≤ 200 := by obtain ⟨rw, cl, bl, dm, n, hT, hd⟩ := hd; exact hT.1.2.1
    by_cases hp : p < L
    · have hd1 := RDI_begin (x := nI p) hd (show p + 1 ≤ 600 by omega)
      have hit := IT h hd1 (by omega)
      have hir : i_read lt L (k + 1) p u bb = (match i_one lt p u bb with
        | none => (some p, u)
        | some (u', b', q) => i_read lt L k q u' b') := if_pos hp
      have hx := hd
      obtain ⟨rw, cl, bl, dm, n, hT, _⟩ := hx
      have hnx0 : ∀ {d : Nat} {o : qOut}, Ev (d + 1) 56 [.ref R] (sB M R (vg (vs v 0 15 (nI p)) g)) o = (o = (some (.int (nI (lt p))), sB M R (vg (vs v 0 15 (nI p)) g))) := fun {d o} => by
        have hT2 : RT (vs v 0 15 (nI p)) lt L rw cl bl dm (!bb) p := by
          obtain ⟨⟨a1, a2, a3, a4, a5⟩, h2, h3, h4, h5, h6, h7, h8, h9⟩ := hT
          exact ⟨⟨(vs_ne (by omega)).trans a1, a2, fun k hk => (vs_ne (by omega)).trans (a3 k hk), a4, a5⟩, (vs_ne (by omega)).trans h2, (vs_ne (by omega)).trans h3, (vs_ne (by omega)).trans h4, fun c hc => (vs_ne (by omega)).trans (h5 c hc), (vs_ne (by omega)).trans h6, (vs_ne (by omega)).trans h7, (vs_ne (by omega)).trans h8, h9⟩
        rw [S_next h hT2, show nxI lt L p = nI (lt p) from if_pos hp]
      obtain ⟨⟨a1, a2, a3, a4, a5⟩, h2, h3, h4, h5, h6, h7, h8, h9⟩ := id hT
      rw [hir]
      rcases hit with ⟨v1, g1, u', b', q', hio, ⟨h59, hpq⟩, hrd, ev, eg, hl⟩ | ⟨hio, v1, g1, ev, eg, hX, hl⟩
      · rw [hio]
        have hq : q' < L := by
          refine Classical.byContradiction fun hh => ?_
          have := a4 q' (by omega)
          omega
        have hrd' := hrd
        obtain ⟨rw', cl', bl', dm', n', hT', hrest⟩ := hrd'
        have hn' := fun {d : Nat} {o : qOut} => S_next (d := d) (o := o) (g := g1) h hT'
        have he := nxI_eq (p := q') (c := 59) a4 a5 (by omega)
        have h8' : v1 0 16 = nI 0 := hT'.2.2.2.2.2.2.2.1
        have h7' : v1 0 14 = nI q' := hT'.2.2.2.2.2.2.1
        obtain ⟨v', g', ev2, eg2, hres, hl2⟩ := ih (q' + 1) u' (vs (vs v1 0 16 (nI 0)) 0 14 (nI (q' + 1))) g1 b' (.int (nI (lt p))) (by omega) (by omega) ⟨rw', cl', bl', dm', n', RT_at (RT_ok hT') (by omega), hrest⟩
        refine ⟨v', g', eqs_trans (eqs_vs (k := 15) (x := nI p) (by omega)) (eqs_trans (eqs_vs (k := 14) (x := nI (p + 1)) (by omega)) (eqs_trans (eqs_of ev) (eqs_trans (eqs_vs (k := 16) (x := nI 0) (by omega)) (eqs_trans (eqs_vs (k := 14) (x := nI (q' + 1)) (by omega)) ev2)))), fun k hk => (eg2 k hk).trans (eg k hk), hres, fun d o => ?_⟩
        rw [← hl2 d o, x60_77]
        simp (disch := first | assumption | omega | (simp (disch := omega) only [rf_some, qS_sB, qR_sB, qZ_sB, qI_sB0, qI_sBj, pI_sB0, pI_sB_at, isRef_sB, vg_3, vg_ne, vs_vg_3, vs_vg, exists_eq_left, Option.toList_some, Option.toList_none, List.cons_append, List.nil_append, if_true, if_false, qb_0, qb_q01, q01_1, q01_0, if_qb, if_qbn, if_qba, if_qbo, eq_self, true_or, or_true, and_self, true_and, and_true, not_true_eq_false, not_false_eq_true, vpi, ltI, eqI, eqI0, eqI4, nI_clamp, ite_not, vs_same, vs_ne, gs_same, gs_ne, Nat.not_lt_zero, ltm, nI_add, pk_mul, pk_sub, pk_div, rem_n, h, R_s h, R_s1 h, R_s2 h, R_s3 h, R_s4 h, R_s5 h, R_s6 h, R_s7 h, R_s8 h, R_s9 h, R_s10 h, R_s11 h, R_s12 h, R_r3 h, R_r7 h, R_r9 h, R_r13 h, R_r18 h, R_r19 h, R_r20 h, R_r21 h, R_r22 h, R_r24 h, R_r25 h, R_r26 h]; done) | (simp (disch := omega) only [rf_some, qS_sB, qR_sB, qZ_sB, qI_sB0, qI_sBj, pI_sB0, pI_sB_at, isRef_sB, vg_3, vg_ne, vs_vg_3, vs_vg, exists_eq_left, Option.toList_some, Option.toList_none, List.cons_append, List.nil_append, if_true, if_false, qb_0, qb_q01, q01_1, q01_0, if_qb, if_qbn, if_qba, if_qbo, eq_self, true_or, or_true, and_self, true_and, and_true, not_true_eq_false, not_false_eq_true, vpi, ltI, eqI, eqI0, eqI4, nI_clamp, ite_not, vs_same, vs_ne, gs_same, gs_ne, Nat.not_lt_zero, ltm, nI_add, pk_mul, pk_sub, pk_div, rem_n, h, R_s h, R_s1 h, R_s2 h, R_s3 h, R_s4 h, R_s5 h, R_s6 h, R_s7 h, R_s8 h, R_s9 h, R_s10 h, R_s11 h, R_s12 h, R_r3 h, R_r7 h, R_r9 h, R_r13 h, R_r18 h, R_r19 h, R_r20 h, R_r21 h, R_r22 h, R_r24 h, R_r25 h, R_r26 h]; omega)) only [x60_78, x60_81, x60_82, x60_85, x60_88, x60_89, x60_92, x60_95, x60_96, x60_97, x60_100, x60_103, x60_104, x60_107, x60_108, x60_109, x60_109i, x60_110, x60_113, x60_114, x60_115, x60_118, x60_119, x60_120, x60_123, x60_124, x60_125, x60_128, x60_131, x60_132, x60_135, x60_137, x60_140, x60_141, x60_144, x60_145, x60_148, x60_149, x60_149i, x60_150, x60_153, x60_154, x60_155, x60_158, rf_some, qS_sB, qR_sB, qZ_sB, qI_sB0, qI_sBj, pI_sB0, pI_sB_at, isRef_sB, vg_3, vg_ne, vs_vg_3, vs_vg, exists_eq_left, Option.toList_some, Option.toList_none, List.cons_append, List.nil_append, if_true, if_false, qb_0, qb_q01, q01_1, q01_0, if_qb, if_qbn, if_qba, if_qbo, eq_self, true_or, or_true, and_self, true_and, and_true, not_true_eq_false, not_false_eq_true, vpi, ltI, eqI, eqI0, eqI4, nI_clamp, ite_not, vs_same, vs_ne, gs_same, gs_ne, Nat.not_lt_zero, ltm, nI_add, pk_mul, pk_sub, pk_div, rem_n, h, R_s h, R_s1 h, R_s2 h, R_s3 h, R_s4 h, R_s5 h, R_s6 h, R_s7 h, R_s8 h, R_s9 h, R_s10 h, R_s11 h, R_s12 h, R_r3 h, R_r7 h, R_r9 h, R_r13 h, R_r18 h, R_r19 h, R_r20 h, R_r21 h, R_r22 h, R_r24 h, R_r25 h, R_r26 h, a1, h7, h8, hp, hnx0, hl, h8', h7', hn', he, eq_true h59]
      · rw [hio]
        have hb15 : v1 0 15 = nI p := (ev 0 15 (by omega) (by omega)).trans ((vs_ne (by omega)).trans vs_same)
        rcases hX with hX | ⟨rw', cl', bl', dm', bg', q', hT', hne⟩
        · have hX1 : v1 0 16 = nI 1 := hX
          have hxx := fun {d : Nat} {o : qOut} {l1 : Value} => S_rd_x (d := d) (o := o) (g := g1) (l1 := l1) (v := vs (vs v1 0 16 (nI 1)) 0 14 (v1 0 14 + nI 1)) h ((vs_ne (by omega)).trans vs_same)
          refine ⟨vs (vs v1 0 16 (nI 1)) 0 14 (v1 0 14 + nI 1), g1, eqs_trans (eqs_vs (k := 15) (x := nI p) (by omega)) (eqs_trans (eqs_vs (k := 14) (x := nI (p + 1)) (by omega)) (eqs_trans (eqs_of ev) (eqs_trans (eqs_vs (by omega)) (eqs_vs (by omega))))), eg, ⟨(vs_ne (by omega)).trans ((vs_ne (by omega)).trans hb15), by omega⟩, fun d o => ?_⟩
          rw [x60_77]
          simp (disch := first | assumption | omega | (simp (disch := omega) only [rf_some, qS_sB, qR_sB, qZ_sB, qI_sB0, qI_sBj, pI_sB0, pI_sB_at, isRef_sB, vg_3, vg_ne, vs_vg_3, vs_vg, exists_eq_left, Option.toList_some, Option.toList_none, List.cons_append, List.nil_append, if_true, if_false, qb_0, qb_q01, q01_1, q01_0, if_qb, if_qbn, if_qba, if_qbo, eq_self, true_or, or_true, and_self, true_and, and_true, not_true_eq_false, not_false_eq_true, vpi, ltI, eqI, eqI0, eqI4, nI_clamp, ite_not, vs_same, vs_ne, gs_same, gs_ne, Nat.not_lt_zero, ltm, nI_add, pk_mul, pk_sub, pk_div, rem_n, h, R_s h, R_s1 h, R_s2 h, R_s3 h, R_s4 h, R_s5 h, R_s6 h, R_s7 h, R_s8 h, R_s9 h, R_s10 h, R_s11 h, R_s12 h, R_r3 h, R_r7 h, R_r9 h, R_r13 h, R_r18 h, R_r19 h, R_r20 h, R_r21 h, R_r22 h, R_r24 h, R_r25 h, R_r26 h]; done) | (simp (disch := omega) only [rf_some, qS_sB, qR_sB, qZ_sB, qI_sB0, qI_sBj, pI_sB0, pI_sB_at, isRef_sB, vg_3, vg_ne, vs_vg_3, vs_vg, exists_eq_left, Option.toList_some, Option.toList_none, List.cons_append, List.nil_append, if_true, if_false, qb_0, qb_q01, q01_1, q01_0, if_qb, if_qbn, if_qba, if_qbo, eq_self, true_or, or_true, and_self, true_and, and_true, not_true_eq_false, not_false_eq_true, vpi, ltI, eqI, eqI0, eqI4, nI_clamp, ite_not, vs_same, vs_ne, gs_same, gs_ne, Nat.not_lt_zero, ltm, nI_add, pk_mul, pk_sub, pk_div, rem_n, h, R_s h, R_s1 h, R_s2 h, R_s3 h, R_s4 h, R_s5 h, R_s6 h, R_s7 h, R_s8 h, R_s9 h, R_s10 h, R_s11 h, R_s12 h, R_r3 h, R_r7 h, R_r9 h, R_r13 h, R_r18 h, R_r19 h, R_r20 h, R_r21 h, R_r22 h, R_r24 h, R_r25 h, R_r26 h]; omega)) only [x60_78, x60_81, x60_82, x60_85, x60_88, x60_89, x60_92, x60_95, x60_96, x60_97, x60_100, x60_103, x60_104, x60_107, x60_108, x60_109, x60_109i, x60_110, x60_113, x60_114, x60_115, x60_118, x60_119, x60_120, x60_123, x60_124, x60_125, x60_128, x60_131, x60_132, x60_135, x60_137, x60_140, x60_141, x60_144, x60_145, x60_148, x60_149, x60_149i, x60_150, x60_153, x60_154, x60_155, x60_158, rf_some, qS_sB, qR_sB, qZ_sB, qI_sB0, qI_sBj, pI_sB0, pI_sB_at, isRef_sB, vg_3, vg_ne, vs_vg_3, vs_vg, exists_eq_left, Option.toList_some, Option.toList_none, List.cons_append, List.nil_append, if_true, if_false, qb_0, qb_q01, q01_1, q01_0, if_qb, if_qbn, if_qba, if_qbo, eq_self, true_or, or_true, and_self, true_and, and_true, not_true_eq_false, not_false_eq_true, vpi, ltI, eqI, eqI0, eqI4, nI_clamp, ite_not, vs_same, vs_ne, gs_same, gs_ne, Nat.not_lt_zero, ltm, nI_add, pk_mul, pk_sub, pk_div, rem_n, h, R_s h, R_s1 h, R_s2 h, R_s3 h, R_s4 h, R_s5 h, R_s6 h, R_s7 h, R_s8 h, R_s9 h, R_s10 h, R_s11 h, R_s12 h, R_r3 h, R_r7 h, R_r9 h, R_r13 h, R_r18 h, R_r19 h, R_r20 h, R_r21 h, R_r22 h, R_r24 h, R_r25 h, R_r26 h, a1, h7, h8, hp, hnx0, hl, hX1, Nat.one_ne_zero, hxx]
          rfl
        · have hn' := fun {d : Nat} {o : qOut} => S_next (d := d) (o := o) (g := g1) h hT'
          have he := nxI_eq (p := q') (c := 59) a4 a5 (by omega)
          have h8' : v1 0 16 = nI 0 := hT'.2.2.2.2.2.2.2.1
          have h7' : v1 0 14 = nI q' := hT'.2.2.2.2.2.2.1
          have hxx := fun {d : Nat} {o : qOut} {l1 : Value} => S_rd_x (d := d) (o := o) (g := g1) (l1 := l1) (v := vs (vs v1 0 16 (nI 1)) 0 14 (nI (q' + 1))) h ((vs_ne (by omega)).trans vs_same)
          refine ⟨vs (vs v1 0 16 (nI 1)) 0 14 (nI (q' + 1)), g1, eqs_trans (eqs_vs (k := 15) (x := nI p) (by omega)) (eqs_trans (eqs_vs (k := 14) (x := nI (p + 1)) (by omega)) (eqs_trans (eqs_of ev) (eqs_trans (eqs_vs (by omega)) (eqs_vs (by omega))))), eg, ⟨(vs_ne (by omega)).trans ((vs_ne (by omega)).trans hb15), by omega⟩, fun d o => ?_⟩
          rw [x60_77]
          simp (disch := first | assumption | omega | (simp (disch := omega) only [rf_some, qS_sB, qR_sB, qZ_sB, qI_sB0, qI_sBj, pI_sB0, pI_sB_at, isRef_sB, vg_3, vg_ne, vs_vg_3, vs_vg, exists_eq_left, Option.toList_some, Option.toList_none, List.cons_append, List.nil_append, if_true, if_false, qb_0, qb_q01, q01_1, q01_0, if_qb, if_qbn, if_qba, if_qbo, eq_self, true_or, or_true, and_self, true_and, and_true, not_true_eq_false, not_false_eq_true, vpi, ltI, eqI, eqI0, eqI4, nI_clamp, ite_not, vs_same, vs_ne, gs_same, gs_ne, Nat.not_lt_zero, ltm, nI_add, pk_mul, pk_sub, pk_div, rem_n, h, R_s h, R_s1 h, R_s2 h, R_s3 h, R_s4 h, R_s5 h, R_s6 h, R_s7 h, R_s8 h, R_s9 h, R_s10 h, R_s11 h, R_s12 h, R_r3 h, R_r7 h, R_r9 h, R_r13 h, R_r18 h, R_r19 h, R_r20 h, R_r21 h, R_r22 h, R_r24 h, R_r25 h, R_r26 h]; done) | (simp (disch := omega) only [rf_some, qS_sB, qR_sB, qZ_sB, qI_sB0, qI_sBj, pI_sB0, pI_sB_at, isRef_sB, vg_3, vg_ne, vs_vg_3, vs_vg, exists_eq_left, Option.toList_some, Option.toList_none, List.cons_append, List.nil_append, if_true, if_false, qb_0, qb_q01, q01_1, q01_0, if_qb, if_qbn, if_qba, if_qbo, eq_self, true_or, or_true, and_self, true_and, and_true, not_true_eq_false, not_false_eq_true, vpi, ltI, eqI, eqI0, eqI4, nI_clamp, ite_not, vs_same, vs_ne, gs_same, gs_ne, Nat.not_lt_zero, ltm, nI_add, pk_mul, pk_sub, pk_div, rem_n, h, R_s h, R_s1 h, R_s2 h, R_s3 h, R_s4 h, R_s5 h, R_s6 h, R_s7 h, R_s8 h, R_s9 h, R_s10 h, R_s11 h, R_s12 h, R_r3 h, R_r7 h, R_r9 h, R_r13 h, R_r18 h, R_r19 h, R_r20 h, R_r21 h, R_r22 h, R_r24 h, R_r25 h, R_r26 h]; omega)) only [x60_78, x60_81, x60_82, x60_85, x60_88, x60_89, x60_92, x60_95, x60_96, x60_97, x60_100, x60_103, x60_104, x60_107, x60_108, x60_109, x60_109i, x60_110, x60_113, x60_114, x60_115, x60_118, x60_119, x60_120, x60_123, x60_124, x60_125, x60_128, x60_131, x60_132, x60_135, x60_137, x60_140, x60_141, x60_144, x60_145, x60_148, x60_149, x60_149i, x60_150, x60_153, x60_154, x60_155, x60_158, rf_some, qS_sB, qR_sB, qZ_sB, qI_sB0, qI_sBj, pI_sB0, pI_sB_at, isRef_sB, vg_3, vg_ne, vs_vg_3, vs_vg, exists_eq_left, Option.toList_some, Option.toList_none, List.cons_append, List.nil_append, if_true, if_false, qb_0, qb_q01, q01_1, q01_0, if_qb, if_qbn, if_qba, if_qbo, eq_self, true_or, or_true, and_self, true_and, and_true, not_true_eq_false, not_false_eq_true, vpi, ltI, eqI, eqI0, eqI4, nI_clamp, ite_not, vs_same, vs_ne, gs_same, gs_ne, Nat.not_lt_zero, ltm, nI_add, pk_mul, pk_sub, pk_div, rem_n, h, R_s h, R_s1 h, R_s2 h, R_s3 h, R_s4 h, R_s5 h, R_s6 h, R_s7 h, R_s8 h, R_s9 h, R_s10 h, R_s11 h, R_s12 h, R_r3 h, R_r7 h, R_r9 h, R_r13 h, R_r18 h, R_r19 h, R_r20 h, R_r21 h, R_r22 h, R_r24 h, R_r25 h, R_r26 h, a1, h7, h8, hp, hnx0, hl, h8', h7', hn', he, eq_false hne, hxx]
          rfl
    · have e : p = L := by omega
      subst e
      have hir : i_read lt p (k + 1) p u bb = (none, u) := if_neg hp
      rw [hir]
      refine ⟨v, g, fun _ _ _ _ => rfl, fun _ _ => rfl, ⟨bb, hd⟩, fun d o => ?_⟩
      obtain ⟨rw, cl, bl, dm, n, hT, hd⟩ := hd
      obtain ⟨⟨a1, a2, a3, a4, a5⟩, h2, h3, h4, h5, h6, h7, h8, h9⟩ := hT
      simp (disch := first | assumption | omega | (simp (disch := omega) only [rf_some, qS_sB, qR_sB, qZ_sB, qI_sB0, qI_sBj, pI_sB0, pI_sB_at, isRef_sB, vg_3, vg_ne, vs_vg_3, vs_vg, exists_eq_left, Option.toList_some, Option.toList_none, List.cons_append, List.nil_append, if_true, if_false, qb_0, qb_q01, q01_1, q01_0, if_qb, if_qbn, if_qba, if_qbo, eq_self, true_or, or_true, and_self, true_and, and_true, not_true_eq_false, not_false_eq_true, vpi, ltI, eqI, eqI0, eqI4, nI_clamp, ite_not, vs_same, vs_ne, gs_same, gs_ne, Nat.not_lt_zero, ltm, nI_add, pk_mul, pk_sub, pk_div, rem_n, h, R_s h, R_s1 h, R_s2 h, R_s3 h, R_s4 h, R_s5 h, R_s6 h, R_s7 h, R_s8 h, R_s9 h, R_s10 h, R_s11 h, R_s12 h, R_r3 h, R_r7 h, R_r9 h, R_r13 h, R_r18 h, R_r19 h, R_r20 h, R_r21 h, R_r22 h, R_r24 h, R_r25 h, R_r26 h]; done) | (simp (disch := omega) only [rf_some, qS_sB, qR_sB, qZ_sB, qI_sB0, qI_sBj, pI_sB0, pI_sB_at, isRef_sB, vg_3, vg_ne, vs_vg_3, vs_vg, exists_eq_left, Option.toList_some, Option.toList_none, List.cons_append, List.nil_append, if_true, if_false, qb_0, qb_q01, q01_1, q01_0, if_qb, if_qbn, if_qba, if_qbo, eq_self, true_or, or_true, and_self, true_and, and_true, not_true_eq_false, not_false_eq_true, vpi, ltI, eqI, eqI0, eqI4, nI_clamp, ite_not, vs_same, vs_ne, gs_same, gs_ne, Nat.not_lt_zero, ltm, nI_add, pk_mul, pk_sub, pk_div, rem_n, h, R_s h, R_s1 h, R_s2 h, R_s3 h, R_s4 h, R_s5 h, R_s6 h, R_s7 h, R_s8 h, R_s9 h, R_s10 h, R_s11 h, R_s12 h, R_r3 h, R_r7 h, R_r9 h, R_r13 h, R_r18 h, R_r19 h, R_r20 h, R_r21 h, R_r22 h, R_r24 h, R_r25 h, R_r26 h]; omega)) only [x60_77, x60_78, x60_81, x60_82, x60_85, x60_88, x60_89, x60_92, x60_161, x60_162, x60_165, x60_168, x60_169, x60_172, x60_173, rf_some, qS_sB, qR_sB, qZ_sB, qI_sB0, qI_sBj, pI_sB0, pI_sB_at, isRef_sB, vg_3, vg_ne, vs_vg_3, vs_vg, exists_eq_left, Option.toList_some, Option.toList_none, List.cons_append, List.nil_append, if_true, if_false, qb_0, qb_q01, q01_1, q01_0, if_qb, if_qbn, if_qba, if_qbo, eq_self, true_or, or_true, and_self, true_and, and_true, not_true_eq_false, not_false_eq_true, vpi, ltI, eqI, eqI0, eqI4, nI_clamp, ite_not, vs_same, vs_ne, gs_same, gs_ne, Nat.not_lt_zero, ltm, nI_add, pk_mul, pk_sub, pk_div, rem_n, h, R_s h, R_s1 h, R_s2 h, R_s3 h, R_s4 h, R_s5 h, R_s6 h, R_s7 h, R_s8 h, R_s9 h, R_s10 h, R_s11 h, R_s12 h, R_r3 h, R_r7 h, R_r9 h, R_r13 h, R_r18 h, R_r19 h, R_r20 h, R_r21 h, R_r22 h, R_r24 h, R_r25 h, R_r26 h, a1, h7, h8, Nat.lt_irrefl]
      rfl
end QRU
