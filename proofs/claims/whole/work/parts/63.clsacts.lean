/-! ===== THE CLASS'S CALLS: acts ===== -/
section QCB
variable {d B R a b b' i n c k rw cl bl L s kp D : Nat} {M M' : qM} {u v : qV} {o : qOut} {x y z : Int32} {p g dm lt w tt dp : Nat → Nat}
theorem BK_n (h : BK u g b rw cl bl dm D) : RW u g b (g b) rw cl bl dm ∧ g b ≤ 9 ∧ GB g b ∧ UN g b (g b) ∧ g (b + 55) ≤ D ∧ CP g b (g b) := by
  obtain ⟨n, h1, h2, h3, h4, h5⟩ := h
  have := h1.2.1
  rw [this]
  exact ⟨h1, h2, h3, h4, h5⟩
/-- the now wall as it was, after past.put(now) -/
theorem kn_g (h : BK u g 0 rw cl bl dm D) : BK u (knG g a) 0 rw cl bl dm D := by
  refine BK_mv h (fun j hj => ?_)
  rw [Nat.zero_add]
  exact knG_lo hj
theorem nblk {j k : Nat} {y : Int32} (h : blk M a (4 + j) k = y) : qI M (a + 4 + j) k = y := by
  rw [Nat.add_assoc]; exact h
theorem N_hammer_bad (h : CS M B p) (hd : CD M B p g rw cl bl dm a kp lt L s w tt dp D) (hx : ¬ (¬ x < nI 0 ∧ x < nI (g 0))) : Ev (d + 4) 9 [.ref B, .int x] M o = (o = (some (.int (-1)), M)) := by
  obtain ⟨⟨n0, n1, n2, n3, n4, n5, n6, n7, n8, n9⟩, _, hI, hW, hA, hP, hK, hC, hM, hG, hpk, hpi⟩ := h
  obtain ⟨b1, b2, b3, b4, b5⟩ := BK_n hd.1
  simp (disch := first | omega | (simp (disch := omega) only [rf_some, qS_sB, qR_sB, qZ_sB, qI_sB0, qI_sB3, qI_sBn, pI_sB0, pI_sB3, pI_sBn, isWall_sB, exists_eq_left, Option.toList_some, Option.toList_none, List.cons_append, List.nil_append, if_true, if_false, qb_0, qb_q01, q01_1, q01_0, if_qb, if_qbn, if_qba, if_qbo, eq_self, true_or, or_true, and_self, true_and, and_true, not_true_eq_false, not_false_eq_true, vpi, ltI, eqI, eqI0, eqI4, nI_clamp, ite_not, vs_same, vs_ne, qrem_f, qabs_f, Nat.not_lt_zero, qS_bB, qR_bB, qZ_bB, qI_bB0, qI_bB, pI_bB0, pI_bB, isWall_bB, isItm_bB, isItm_sB, ltm, m1_lt, pk_mul, n0, n1, n2, n3, n4, n5, n6, n7, n8, n9, hW, W_s hW, W_s1 hW, W_s2 hW, W_s3 hW, W_sn hW, W_r0 hW, W_r1 hW, W_r2 hW, W_rn hW]; done) | (simp (disch := omega) only [rf_some, qS_sB, qR_sB, qZ_sB, qI_sB0, qI_sB3, qI_sBn, pI_sB0, pI_sB3, pI_sBn, isWall_sB, exists_eq_left, Option.toList_some, Option.toList_none, List.cons_append, List.nil_append, if_true, if_false, qb_0, qb_q01, q01_1, q01_0, if_qb, if_qbn, if_qba, if_qbo, eq_self, true_or, or_true, and_self, true_and, and_true, not_true_eq_false, not_false_eq_true, vpi, ltI, eqI, eqI0, eqI4, nI_clamp, ite_not, vs_same, vs_ne, qrem_f, qabs_f, Nat.not_lt_zero, qS_bB, qR_bB, qZ_bB, qI_bB0, qI_bB, pI_bB0, pI_bB, isWall_bB, isItm_bB, isItm_sB, ltm, m1_lt, pk_mul, n0, n1, n2, n3, n4, n5, n6, n7, n8, n9, hW, W_s hW, W_s1 hW, W_s2 hW, W_s3 hW, W_sn hW, W_r0 hW, W_r1 hW, W_r2 hW, W_rn hW]; omega)) only [e9, x9_0, x9_1, x9_4, x9_5, x9_8, x9_11, x9_12, rf_some, qS_sB, qR_sB, qZ_sB, qI_sB0, qI_sB3, qI_sBn, pI_sB0, pI_sB3, pI_sBn, isWall_sB, exists_eq_left, Option.toList_some, Option.toList_none, List.cons_append, List.nil_append, if_true, if_false, qb_0, qb_q01, q01_1, q01_0, if_qb, if_qbn, if_qba, if_qbo, eq_self, true_or, or_true, and_self, true_and, and_true, not_true_eq_false, not_false_eq_true, vpi, ltI, eqI, eqI0, eqI4, nI_clamp, ite_not, vs_same, vs_ne, qrem_f, qabs_f, Nat.not_lt_zero, n0, n1, n2, n3, n4, n5, n6, n7, n8, n9, T_hasNail hW b1, hx]
theorem N_hammer_no (h : CS M B p) (hd : CD M B p g rw cl bl dm a kp lt L s w tt dp D) (hi : i < g 0) (hx : g (19 + i) = 0 ∨ g (1 + i) = 3) : Ev (d + 4) 9 [.ref B, .int (nI i)] M o = (o = (some (.int (-2)), M)) := by
  obtain ⟨⟨n0, n1, n2, n3, n4, n5, n6, n7, n8, n9⟩, _, hI, hW, hA, hP, hK, hC, hM, hG, hpk, hpi⟩ := h
  obtain ⟨b1, b2, b3, b4, b5⟩ := BK_n hd.1
  have hsn := W_sn hW (show i < 9 by omega)
  have hgi := b3 i (by omega)
  simp only [Nat.zero_add] at hgi
  obtain ⟨f0, f1, f2, f3, f4, f5, f6⟩ := b1.2.2.2 i hi
  simp only [Nat.zero_add] at f0
  have f0' := nblk f0
  have hio := fun {d : Nat} {o : qOut} => T_isOut (d := d) (o := o) hW b1 b2 b3 hi
  simp only [Nat.zero_add] at hio
  by_cases c3 : g (1 + i) = 3
  · simp (disch := first | omega | (simp (disch := omega) only [rf_some, qS_sB, qR_sB, qZ_sB, qI_sB0, qI_sB3, qI_sBn, pI_sB0, pI_sB3, pI_sBn, isWall_sB, exists_eq_left, Option.toList_some, Option.toList_none, List.cons_append, List.nil_append, if_true, if_false, qb_0, qb_q01, q01_1, q01_0, if_qb, if_qbn, if_qba, if_qbo, eq_self, true_or, or_true, and_self, true_and, and_true, not_true_eq_false, not_false_eq_true, vpi, ltI, eqI, eqI0, eqI4, nI_clamp, ite_not, vs_same, vs_ne, qrem_f, qabs_f, Nat.not_lt_zero, qS_bB, qR_bB, qZ_bB, qI_bB0, qI_bB, pI_bB0, pI_bB, isWall_bB, isItm_bB, isItm_sB, ltm, m1_lt, pk_mul, n0, n1, n2, n3, n4, n5, n6, n7, n8, n9, hW, W_s hW, W_s1 hW, W_s2 hW, W_s3 hW, W_sn hW, W_r0 hW, W_r1 hW, W_r2 hW, W_rn hW, hsn]; done) | (simp (disch := omega) only [rf_some, qS_sB, qR_sB, qZ_sB, qI_sB0, qI_sB3, qI_sBn, pI_sB0, pI_sB3, pI_sBn, isWall_sB, exists_eq_left, Option.toList_some, Option.toList_none, List.cons_append, List.nil_append, if_true, if_false, qb_0, qb_q01, q01_1, q01_0, if_qb, if_qbn, if_qba, if_qbo, eq_self, true_or, or_true, and_self, true_and, and_true, not_true_eq_false, not_false_eq_true, vpi, ltI, eqI, eqI0, eqI4, nI_clamp, ite_not, vs_same, vs_ne, qrem_f, qabs_f, Nat.not_lt_zero, qS_bB, qR_bB, qZ_bB, qI_bB0, qI_bB, pI_bB0, pI_bB, isWall_bB, isItm_bB, isItm_sB, ltm, m1_lt, pk_mul, n0, n1, n2, n3, n4, n5, n6, n7, n8, n9, hW, W_s hW, W_s1 hW, W_s2 hW, W_s3 hW, W_sn hW, W_r0 hW, W_r1 hW, W_r2 hW, W_rn hW, hsn]; omega)) only [e9, x9_0, x9_1, x9_4, x9_5, x9_8, x9_11, x9_12, x9_13, x9_14, x9_17, x9_18, x9_21, x9_22, x9_23, x9_26, x9_27, x9_30, x9_31, x9_34, x9_37, x9_39, rf_some, qS_sB, qR_sB, qZ_sB, qI_sB0, qI_sB3, qI_sBn, pI_sB0, pI_sB3, pI_sBn, isWall_sB, exists_eq_left, Option.toList_some, Option.toList_none, List.cons_append, List.nil_append, if_true, if_false, qb_0, qb_q01, q01_1, q01_0, if_qb, if_qbn, if_qba, if_qbo, eq_self, true_or, or_true, and_self, true_and, and_true, not_true_eq_false, not_false_eq_true, vpi, ltI, eqI, eqI0, eqI4, nI_clamp, ite_not, vs_same, vs_ne, qrem_f, qabs_f, Nat.not_lt_zero, n0, n1, n2, n3, n4, n5, n6, n7, n8, n9, T_hasNail hW b1, hi, T_at hW, hsn, f0', eq_true c3]
  · have c0 : g (19 + i) = 0 := hx.resolve_right c3
    simp (disch := first | omega | (simp (disch := omega) only [rf_some, qS_sB, qR_sB, qZ_sB, qI_sB0, qI_sB3, qI_sBn, pI_sB0, pI_sB3, pI_sBn, isWall_sB, exists_eq_left, Option.toList_some, Option.toList_none, List.cons_append, List.nil_append, if_true, if_false, qb_0, qb_q01, q01_1, q01_0, if_qb, if_qbn, if_qba, if_qbo, eq_self, true_or, or_true, and_self, true_and, and_true, not_true_eq_false, not_false_eq_true, vpi, ltI, eqI, eqI0, eqI4, nI_clamp, ite_not, vs_same, vs_ne, qrem_f, qabs_f, Nat.not_lt_zero, qS_bB, qR_bB, qZ_bB, qI_bB0, qI_bB, pI_bB0, pI_bB, isWall_bB, isItm_bB, isItm_sB, ltm, m1_lt, pk_mul, n0, n1, n2, n3, n4, n5, n6, n7, n8, n9, hW, W_s hW, W_s1 hW, W_s2 hW, W_s3 hW, W_sn hW, W_r0 hW, W_r1 hW, W_r2 hW, W_rn hW, hsn]; done) | (simp (disch := omega) only [rf_some, qS_sB, qR_sB, qZ_sB, qI_sB0, qI_sB3, qI_sBn, pI_sB0, pI_sB3, pI_sBn, isWall_sB, exists_eq_left, Option.toList_some, Option.toList_none, List.cons_append, List.nil_append, if_true, if_false, qb_0, qb_q01, q01_1, q01_0, if_qb, if_qbn, if_qba, if_qbo, eq_self, true_or, or_true, and_self, true_and, and_true, not_true_eq_false, not_false_eq_true, vpi, ltI, eqI, eqI0, eqI4, nI_clamp, ite_not, vs_same, vs_ne, qrem_f, qabs_f, Nat.not_lt_zero, qS_bB, qR_bB, qZ_bB, qI_bB0, qI_bB, pI_bB0, pI_bB, isWall_bB, isItm_bB, isItm_sB, ltm, m1_lt, pk_mul, n0, n1, n2, n3, n4, n5, n6, n7, n8, n9, hW, W_s hW, W_s1 hW, W_s2 hW, W_s3 hW, W_sn hW, W_r0 hW, W_r1 hW, W_r2 hW, W_rn hW, hsn]; omega)) only [e9, x9_0, x9_1, x9_4, x9_5, x9_8, x9_11, x9_12, x9_13, x9_14, x9_17, x9_18, x9_21, x9_22, x9_23, x9_26, x9_27, x9_30, x9_31, x9_34, x9_37, x9_39, rf_some, qS_sB, qR_sB, qZ_sB, qI_sB0, qI_sB3, qI_sBn, pI_sB0, pI_sB3, pI_sBn, isWall_sB, exists_eq_left, Option.toList_some, Option.toList_none, List.cons_append, List.nil_append, if_true, if_false, qb_0, qb_q01, q01_1, q01_0, if_qb, if_qbn, if_qba, if_qbo, eq_self, true_or, or_true, and_self, true_and, and_true, not_true_eq_false, not_false_eq_true, vpi, ltI, eqI, eqI0, eqI4, nI_clamp, ite_not, vs_same, vs_ne, qrem_f, qabs_f, Nat.not_lt_zero, n0, n1, n2, n3, n4, n5, n6, n7, n8, n9, T_hasNail hW b1, hi, T_at hW, hsn, f0', eq_false c3, hio, eq_true c0]
theorem hm_min {k q : Nat} (hk : k ≠ 3) (hq : q ≤ cap k) : hmN k q = if cap k < q + 2 then cap k else q + 2 := by
  unfold hmN mx
  rw [if_neg hk]
  split <;> split <;> omega
theorem gs_ge {g : Nat → Nat} {k y q : Nat} (h : q ≠ k) : gs g k y q = g q := gs_ne h
/-- one nail of the now wall changed: its depth, its rust, its year -/
theorem BK_upd {q r e : Nat} (h : BK u g 0 rw cl bl dm D) (hi : i < g 0) (hq : q ≤ cap (g (1 + i))) (hr : r ≤ 9) (he : e ≤ 63) (hfree : 0 < q → 0 < g (19 + i)) : BK (vs (vs (vs u (4 + i) 3 (nI q)) (4 + i) 4 (nI r)) (4 + i) 5 (nI e)) (gs (gs (gs g (19 + i) q) (28 + i) r) (37 + i) e) 0 rw cl bl dm D := by
  obtain ⟨b1, b2, b3, b4, b5, b6⟩ := BK_n h
  obtain ⟨⟨h1, h2, h3, h4, h5⟩, h6, h7, h8⟩ := b1
  have hcap := @cap_le (g (1 + i))
  refine ⟨g 0, ⟨⟨(vs_ne (by omega)).trans ((vs_ne (by omega)).trans ((vs_ne (by omega)).trans h1)), (vs_ne (by omega)).trans ((vs_ne (by omega)).trans ((vs_ne (by omega)).trans h2)), (vs_ne (by omega)).trans ((vs_ne (by omega)).trans ((vs_ne (by omega)).trans h3)), ?_, (vs_ne (by omega)).trans ((vs_ne (by omega)).trans ((vs_ne (by omega)).trans h5))⟩, ?_, fun c hc => (vs_ne (by omega)).trans ((vs_ne (by omega)).trans ((vs_ne (by omega)).trans (h7 c hc))), fun j hj => ?_⟩, b2, fun j hj => ?_, fun j l hj hl => ?_, ?_, fun j hj => ?_⟩
  · rw [vs_ne (by omega), vs_ne (by omega), vs_ne (by omega), gs_ne (by omega), gs_ne (by omega), gs_ne (by omega)]; exact h4
  · rw [gs_ne (by omega), gs_ne (by omega), gs_ne (by omega)]
  · have := h8 j hj
    simp only [Nat.zero_add] at this ⊢
    by_cases c : j = i
    · subst c
      obtain ⟨f0, f1, f2, f3, f4, f5, f6⟩ := this
      simp (disch := omega) only [vs_ne, vs_same, gs_ne, gs_same]
      exact ⟨f0, f1, f2, trivial, trivial, trivial, f6⟩
    · simp (disch := omega) only [vs_ne, gs_ne]
      exact this
  · have := b3 j hj
    simp only [Nat.zero_add] at this ⊢
    by_cases c : j = i
    · subst c
      simp (disch := omega) only [gs_ne, gs_same]
      omega
    · simp (disch := omega) only [gs_ne]
      exact this
  · have := b4 j l hj hl
    simp only [Nat.zero_add] at this ⊢
    intro e1 e2 e3
    simp (disch := omega) only [gs_ne] at e3
    refine this ?_ ?_ e3
    · by_cases c : j = i
      · rw [c] at e1 ⊢
        simp (disch := omega) only [gs_ne, gs_same] at e1
        exact hfree e1
      · simp (disch := omega) only [gs_ne] at e1
        exact e1
    · by_cases c : l = i
      · rw [c] at e2 ⊢
        simp (disch := omega) only [gs_ne, gs_same] at e2
        exact hfree e2
      · simp (disch := omega) only [gs_ne] at e2
        exact e2
  · rw [gs_ne (by omega), gs_ne (by omega), gs_ne (by omega)]; exact b5
  · have := b6 j hj
    simp only [Nat.zero_add] at this ⊢
    by_cases c : j = i
    · subst c
      simp (disch := omega) only [gs_ne, gs_same]
      exact hq
    · simp (disch := omega) only [gs_ne]
      exact this
theorem vs_id {j k : Nat} (h : v j k = x) : vs v j k x = v := by
  funext j' k'
  unfold vs
  split
  · next hh => rw [hh.1, hh.2, h]
  · rfl
theorem gs_id {k y : Nat} (h : g k = y) : gs g k y = g := by
  funext j
  unfold gs
  split
  · next hh => rw [hh, h]
  · rfl
theorem N_hammer_ok (h : CS M B p) (hd : CD M B p g rw cl bl dm a kp lt L s w tt dp D) (hi : i < g 0) (hx : ¬ g (19 + i) = 0) (hx2 : ¬ g (1 + i) = 3) : ∃ M' p', CS M' B p' ∧ CD M' B p' (gs (knG g a) (19 + i) (hmN (g (1 + i)) (g (19 + i)))) rw cl bl dm (knA a) kp lt L s w tt dp D ∧ smo B M M' ∧ ∀ (d : Nat) o, Ev (d + 4) 9 [.ref B, .int (nI i)] M o = (o = (some (.int (nI (hmN (g (1 + i)) (g (19 + i))))), M')) := by
  obtain ⟨M1, p', h1, hd1, hs1, hq1, hput⟩ := C_put h hd
  obtain ⟨⟨n0, n1, n2, n3, n4, n5, n6, n7, n8, n9⟩, _, hI, hW, hA, hP, hK, hC, hM, hG, hpk, hpi⟩ := id h
  obtain ⟨b1, b2, b3, b4, b5, b6⟩ := BK_n hd.1
  have hsn := W_sn hW (show i < 9 by omega)
  have hgi := b3 i (by omega)
  have hcp := b6 i hi
  simp only [Nat.zero_add] at hgi hcp
  obtain ⟨f0, f1, f2, f3, f4, f5, f6⟩ := b1.2.2.2 i hi
  simp only [Nat.zero_add] at f0 f3 f4 f5
  have f0' := nblk f0
  have hio := fun {d : Nat} {o : qOut} => T_isOut (d := d) (o := o) hW b1 b2 b3 hi
  simp only [Nat.zero_add] at hio
  have hPs := hP.1
  have hW1 := h1.2.2.2.1
  have hsn1 : qS M1 (B + 7 + 4 + i) = (1, 3) := W_sn hW1 (show i < 9 by omega)
  have e19 : knG g a (19 + i) = g (19 + i) := knG_lo (by omega)
  have e1i : knG g a (1 + i) = g (1 + i) := knG_lo (by omega)
  have e28 : knG g a (28 + i) = g (28 + i) := knG_lo (by omega)
  have e37 : knG g a (37 + i) = g (37 + i) := knG_lo (by omega)
  have e0 : knG g a 0 = g 0 := knG_lo (by omega)
  obtain ⟨c1, c2, c3, c4, c5, c6⟩ := BK_n hd1.1
  have hi1 : i < knG g a 0 := by rw [e0]; exact hi
  obtain ⟨g0, g1, g2, g3, g4, g5, g6⟩ := c1.2.2.2 i hi1
  simp only [Nat.zero_add] at g0 g3 g4 g5
  rw [e19] at g3
  rw [e28] at g4
  rw [e37] at g5
  have g3' := nblk g3
  have hde := fun {d : Nat} {o : qOut} => T_deepest (d := d) (o := o) hW1 c1 c2 c3 hi1
  simp only [Nat.zero_add, e1i] at hde
  have hcapl := @cap_le (g (1 + i))
  have hhm := hm_min hx2 hcp
  have hbk := BK_upd (q := hmN (g (1 + i)) (g (19 + i))) (r := g (28 + i)) (e := g (37 + i)) hd1.1 hi1 (by rw [e1i, hhm]; split <;> omega) (by omega) (by omega) (by intro _; rw [e19]; omega)
  rw [vs_id (x := nI (g (28 + i))) ((vs_ne (by omega)).trans g4), vs_id (x := nI (g (37 + i))) ((vs_ne (by omega)).trans g5), gs_id (y := g (28 + i)) ((gs_ne (by omega)).trans e28), gs_id (y := g (37 + i)) ((gs_ne (by omega)).trans e37)] at hbk
  refine ⟨sB M1 (B + 7) (vs (blk M1 (B + 7)) (4 + i) 3 (nI (hmN (g (1 + i)) (g (19 + i))))), p', CS_of h1 rfl rfl, C_now h1 hd1 hbk (Nat.le_refl D) (fun k hk => gs_ne (by omega)), smo_trans hs1 (smo_sB (by omega)), fun d o => ?_⟩
  have hpi := pI_blk (M := M1) (a := B + 7) (j := 4 + i) (k := 3) (x := nI (hmN (g (1 + i)) (g (19 + i)))) (by omega)
  rw [← Nat.add_assoc] at hpi
  have hmin : ∀ {di : Decidable (cap (g (1 + i)) < g (19 + i) + 2)}, @ite _ (cap (g (1 + i)) < g (19 + i) + 2) di (nI (cap (g (1 + i)))) (nI (g (19 + i) + 2)) = nI (hmN (g (1 + i)) (g (19 + i))) := fun {di} => by
    rw [hhm]
    by_cases c : cap (g (1 + i)) < g (19 + i) + 2
    · rw [if_pos c, if_pos c]
    · rw [if_neg c, if_neg c]
  have hrd : qI (sB M1 (B + 7) (vs (blk M1 (B + 7)) (4 + i) 3 (nI (hmN (g (1 + i)) (g (19 + i)))))) (B + 7 + 4 + i) 3 = nI (hmN (g (1 + i)) (g (19 + i))) := by
    rw [qI_sBn (by omega), vs_same]
  simp (disch := first | omega | (simp (disch := omega) only [rf_some, qS_sB, qR_sB, qZ_sB, qI_sB0, qI_sB3, qI_sBn, pI_sB0, pI_sB3, pI_sBn, isWall_sB, exists_eq_left, Option.toList_some, Option.toList_none, List.cons_append, List.nil_append, if_true, if_false, qb_0, qb_q01, q01_1, q01_0, if_qb, if_qbn, if_qba, if_qbo, eq_self, true_or, or_true, and_self, true_and, and_true, not_true_eq_false, not_false_eq_true, vpi, ltI, eqI, eqI0, eqI4, nI_clamp, ite_not, vs_same, vs_ne, qrem_f, qabs_f, Nat.not_lt_zero, qS_bB, qR_bB, qZ_bB, qI_bB0, qI_bB, pI_bB0, pI_bB, isWall_bB, isItm_bB, isItm_sB, ltm, m1_lt, pk_mul, n0, n1, n2, n3, n4, n5, n6, n7, n8, n9, hW, W_s hW, W_s1 hW, W_s2 hW, W_s3 hW, W_sn hW, W_r0 hW, W_r1 hW, W_r2 hW, W_rn hW, hsn, hsn1, hPs]; done)) only [e9, x9_0, x9_1, x9_4, x9_5, x9_8, x9_11, x9_12, x9_13, x9_14, x9_17, x9_18, x9_21, x9_22, x9_23, x9_26, x9_27, x9_30, x9_31, x9_34, x9_37, x9_39, x9_40, x9_41, x9_44, x9_45, x9_48, x9_51, x9_52, x9_53, x9_56, x9_57, x9_58, x9_59, x9_62, x9_65, x9_68, x9_69, x9_72, rf_some, exists_eq_left, Option.toList_some, Option.toList_none, List.cons_append, List.nil_append, qb_0, ltI, eqI, not_true_eq_false, not_false_eq_true, if_true, if_false, n0, n1, n2, n3, n4, n5, n6, n7, n8, n9, T_hasNail hW b1, hi, and_self, true_and, T_at hW, hsn, f0', eq_false hx2, hio, eq_false hx, hput, g3', nI_add, hde, hmin, hpi, qS_sB, hrd, Nat.not_lt_zero]
end QCB
