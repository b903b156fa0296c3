/-! ===== EACH CALL, SIDE BY SIDE, continued ===== -/
section QSU
variable {B D L k p a kp rw cl bl s R : Nat} {M : qM} {x y z t : Int32} {lt g w tt dp dm : Nat → Nat} {u v : qV} {b : Bool} {d : Nat} {o : qOut}
theorem i_read_lt : ∀ (k p : Nat) (u : qV) (b : Bool) (p0 : Nat), (i_read lt L k p u b).1 = some p0 → p0 < L := by
  intro k
  induction k with
  | zero => intro p u b p0 h; cases h
  | succ k ih =>
    intro p u b p0 h
    by_cases c : p < L
    · have e : i_read lt L (k + 1) p u b = (match i_one lt p u b with
        | none => (some p, u)
        | some (u', b', q) => i_read lt L k q u' b') := if_pos c
      rw [e] at h
      cases hi : i_one lt p u b with
      | none =>
        rw [hi] at h
        have : p = p0 := Option.some.inj h
        omega
      | some r =>
        obtain ⟨u', b', q⟩ := r
        rw [hi] at h
        exact ih q u' b' p0 h
    · have e : i_read lt L (k + 1) p u b = (none, u) := if_neg c
      rw [e] at h
      cases h
theorem T_lay (hs : SIM M B D) : GO (fun d => Ev (d + 7) 4) (fun d => Ev (d + 6) 62) [] M B D := by
  (obtain ⟨p, v, g, rw, cl, bl, dm, a, kp, lt, L, s, w, tt, dp, h, hd, hr, eM, hv⟩ := id hs; obtain ⟨g9, gb, gu, gc, g55⟩ := CD_gb hd; have hb := hd.2.2.2.2.2.2; have rok := SIM_r hd hv; obtain ⟨v0, v1, v2, v3, v10, v11, vT, vS⟩ := id hv) 
  cases hi : (i_read lt L 200 0 (w_clear (blk M (B + 22))) true).1 with
  | some p0 =>
    have hp0 := i_read_lt 200 0 _ _ p0 hi
    obtain ⟨M1, k1, k2, k3, k4⟩ := N_lay_no1 h hd hi (by have := vT.2.1; omega)
    refine GO_look hr _ eM hd hv ⟨M1, k1, k2, k3, fun d o _ => k4 d o⟩ (fun M1 hr1 => ?_)
    obtain ⟨v', g', q1, q2, q3⟩ := R_lay_no1 (g := g) hr1 vT (blk M (B + 22)) hi
    exact ⟨v', g', VF_s hv q1, q2, fun d o => q3 d o⟩
  | none =>
    obtain ⟨v', g', rw', cl', bl', dm', n', b', q1, q2, ⟨r1, r2, r3, r4, r5, r6, r7, r8, r9, r10, r11, r12⟩, q3⟩ := R_lay_or (g := g) hr vT (blk M (B + 22)) hi
    by_cases c : n' = 0
    · subst c
      obtain ⟨M1, k1, k2, k3, k4⟩ := N_lay_no2 h hd hi r2
      refine GO_look hr (-2) eM hd hv ⟨M1, k1, k2, k3, fun d o _ => k4 d o⟩ (fun M1 hr1 => ?_)
      obtain ⟨v', g', rw', cl', bl', dm', n', b', q1, q2, ⟨r1', r2', r3', r4', r5', r6', r7', r8', r9', r10', r11', r12'⟩, q3⟩ := R_lay_or (g := g) hr1 vT (blk M (B + 22)) hi
      have en : n' = 0 := by
        have h1 := r2.1.2.2.2.2
        have h2 := r2'.1.2.2.2.2
        rw [h1] at h2
        exact ((nI_eq (by omega) (by omega)).mp h2).symm
      exact ⟨v', g', VF_s hv q1, q2, fun d o => by rw [q3 d o, if_pos en]⟩
    · obtain ⟨M1, k1, k2, k3, k4⟩ := N_lay_ok h hd hi r2 r3 c r8 r9 r11 r12 r4 r5 r6 r7
      have hr1 : isRef M1 (B + 289) := isRef_of hr k3.1 (fun k => k3.2.2.2.2 _ k (by omega))
      obtain ⟨v1', g1', rw1, cl1, bl1, dm1, n1, b1, p1, p2, ⟨s1, s2, s3, s4, s5, s6, s7, s8, s9, s10, s11, s12⟩, p3⟩ := R_lay_or (g := g) hr1 vT (blk M (B + 22)) hi
      obtain ⟨⟨a1, a2, a3, a4, a5⟩, a6, a7, a8⟩ := r2
      obtain ⟨⟨b1, b2, b3, b4, b5⟩, b6, b7, b8⟩ := s2
      have en : n1 = n' := (nI_eq (by omega) (by omega)).mp (b5.symm.trans a5)
      have erw : rw1 = rw' := (nI_eq (by omega) (by omega)).mp (b1.symm.trans a1)
      have ecl : cl1 = cl' := (nI_eq (by omega) (by omega)).mp (b2.symm.trans a2)
      have ebl : bl1 = bl' := (nI_eq (by omega) (by omega)).mp (b3.symm.trans a3)
      subst en erw ecl ebl
      have hS0 : sameB g1' 616 (cpG g1' 616 0 56) 0 := sameB_cp (by omega)
      obtain ⟨c1, c2, c3, c4⟩ := k2
      have hbk : BK (blk M1 (B + 7)) (cpG g1' 616 0 56) 0 rw1 cl1 bl1 dm' D := by
        obtain ⟨n2, ⟨⟨d1, d2, d3, d4, d5⟩, d6, d7, d8⟩, d9, d10, d11, d12, d13⟩ := c1
        have e0 : n2 = n1 := by rw [← d6, ← a6]; exact sameB_cp (by omega) 0 (by omega)
        subst e0
        refine BK_mv (b := 616) ⟨n2, ⟨⟨d1, d2, d3, ?_, d5⟩, b6, d7, fun i hi => ?_⟩, s3, s8, s9, by omega, s12⟩ hS0
        · have hc : cpG g' 616 0 56 (0 + 55) = g' (616 + 55) := sameB_cp (by omega) 55 (by omega)
          rw [d4, hc, r11, s11]
        · have hmv : ∀ j, j < 56 → cpG g' 616 0 56 (0 + j) = g' (616 + j) := sameB_cp (by omega)
          obtain ⟨x0, x1, x2, x3, x4, x5, x6⟩ := d8 i hi
          obtain ⟨y0, y1, y2, y3, y4, y5, y6⟩ := a8 i hi
          obtain ⟨z0, z1, z2, z3, z4, z5, z6⟩ := b8 i hi
          rw [show 0 + 1 + i = 0 + (1 + i) by omega, hmv _ (by omega), show 616 + (1 + i) = 616 + 1 + i by omega, ← y0] at x0
          rw [show 0 + 10 + i = 0 + (10 + i) by omega, hmv _ (by omega), show 616 + (10 + i) = 616 + 10 + i by omega, ← y1] at x1
          rw [show 0 + 10 + i = 0 + (10 + i) by omega, hmv _ (by omega), show 616 + (10 + i) = 616 + 10 + i by omega, ← y2] at x2
          rw [show 0 + 19 + i = 0 + (19 + i) by omega, hmv _ (by omega), show 616 + (19 + i) = 616 + 19 + i by omega, ← y3] at x3
          rw [show 0 + 28 + i = 0 + (28 + i) by omega, hmv _ (by omega), show 616 + (28 + i) = 616 + 28 + i by omega, ← y4] at x4
          rw [show 0 + 37 + i = 0 + (37 + i) by omega, hmv _ (by omega), show 616 + (37 + i) = 616 + 37 + i by omega, ← y5] at x5
          rw [show 0 + 46 + i = 0 + (46 + i) by omega, hmv _ (by omega), show 616 + (46 + i) = 616 + 46 + i by omega, ← y6] at x6
          exact ⟨x0.trans z0, x1.trans z1, x2.trans z2, x3.trans z3, x4.trans z4, x5.trans z5, x6.trans z6⟩
      have hcd : CD M1 B p (cpG g1' 616 0 56) rw1 cl1 bl1 dm' 0 0 lt L 0 w tt dp D := ⟨hbk, ⟨c2.1, c2.2.1, fun k hk => by omega⟩, ⟨c3.1, c3.2.1, fun k hk => by omega⟩, c4⟩
      refine GO_mk hr _ eM k1 (CD_up hcd (by omega)) k3 (fun d o _ => k4 d o) (fun _ => ⟨layV v1' dm1 rw1 cl1 bl1, cpG g1' 616 0 56, ?_, fun _ _ => rfl, fun d o => by rw [p3 d o, if_neg c]⟩)
      obtain ⟨f0, f1, f2, f3, f10, f11, ⟨f4, f5, f6, f7⟩, f8⟩ := VF_s hv p1
      unfold layV
      refine ⟨?_, ?_, ?_, fun c hc => ?_, ?_, ?_, ⟨?_, f5, fun k hk => ?_, f7⟩, ?_, by omega, fun q hq => by omega⟩
      · rw [vs_ne (by omega), vs_ne (by omega), vs_ne (by omega), vf_ne (by omega), vs_ne (by omega), vs_ne (by omega), vs_same]
      · rw [vs_ne (by omega), vs_ne (by omega), vs_ne (by omega), vf_ne (by omega), vs_ne (by omega), vs_same]
      · rw [vs_ne (by omega), vs_ne (by omega), vs_ne (by omega), vf_ne (by omega), vs_same]
      · rw [vs_ne (by omega), vs_ne (by omega), vs_ne (by omega), vf_at hc, ← b7 c hc, a7 c hc]
      · rw [vs_ne (by omega), vs_ne (by omega), vs_same]
      · rw [vs_ne (by omega), vs_same]
      · rw [vs_ne (by omega), vs_ne (by omega), vs_ne (by omega), vf_ne (by omega), vs_ne (by omega), vs_ne (by omega), vs_ne (by omega)]; exact f4
      · rw [vs_ne (by omega), vs_ne (by omega), vs_ne (by omega), vf_ne (by omega), vs_ne (by omega), vs_ne (by omega), vs_ne (by omega)]; exact f6 k hk
      · rw [vs_same]
theorem R_first_bad {R : Nat} (h : isRef M R) (hx : ¬ ((0 : Int) ≤ x.toInt ∧ x.toInt ≤ 1)) : Ev (d + 5) 86 [.ref R, .int x] (sB M R (vg v g)) o = (o = (some (.int (-1)), sB M R (vg v g))) := by
  simp (disch := first | assumption | omega | (simp (disch := omega) only [rf_some, qS_sB, qR_sB, qZ_sB, qI_sB0, qI_sBj, pI_sB0, pI_sB_at, isRef_sB, vg_3, vg_ne, vs_vg_3, vs_vg, exists_eq_left, Option.toList_some, Option.toList_none, List.cons_append, List.nil_append, if_true, if_false, qb_0, qb_q01, q01_1, q01_0, if_qb, if_qbn, if_qba, if_qbo, eq_self, true_or, or_true, and_self, true_and, and_true, not_true_eq_false, not_false_eq_true, vpi, ltI, eqI, eqI0, eqI4, nI_clamp, ite_not, vs_same, vs_ne, gs_same, gs_ne, Nat.not_lt_zero, ltm, nI_add, pk_mul, pk_sub, pk_div, rem_n, h, R_s h, R_s1 h, R_s2 h, R_s3 h, R_s4 h, R_s5 h, R_s6 h, R_s7 h, R_s8 h, R_s9 h, R_s10 h, R_s11 h, R_s12 h, R_r3 h, R_r7 h, R_r9 h, R_r13 h, R_r18 h, R_r19 h, R_r20 h, R_r21 h, R_r22 h, R_r24 h, R_r25 h, R_r26 h]; done) | (simp (disch := omega) only [rf_some, qS_sB, qR_sB, qZ_sB, qI_sB0, qI_sBj, pI_sB0, pI_sB_at, isRef_sB, vg_3, vg_ne, vs_vg_3, vs_vg, exists_eq_left, Option.toList_some, Option.toList_none, List.cons_append, List.nil_append, if_true, if_false, qb_0, qb_q01, q01_1, q01_0, if_qb, if_qbn, if_qba, if_qbo, eq_self, true_or, or_true, and_self, true_and, and_true, not_true_eq_false, not_false_eq_true, vpi, ltI, eqI, eqI0, eqI4, nI_clamp, ite_not, vs_same, vs_ne, gs_same, gs_ne, Nat.not_lt_zero, ltm, nI_add, pk_mul, pk_sub, pk_div, rem_n, h, R_s h, R_s1 h, R_s2 h, R_s3 h, R_s4 h, R_s5 h, R_s6 h, R_s7 h, R_s8 h, R_s9 h, R_s10 h, R_s11 h, R_s12 h, R_r3 h, R_r7 h, R_r9 h, R_r13 h, R_r18 h, R_r19 h, R_r20 h, R_r21 h, R_r22 h, R_r24 h, R_r25 h, R_r26 h]; omega)) only [e86, x86_0, x86_1, x86_2, x86_3, x86_4, x86_7, x86_10, x86_11, rf_some, qS_sB, qR_sB, qZ_sB, qI_sB0, qI_sBj, pI_sB0, pI_sB_at, isRef_sB, vg_3, vg_ne, vs_vg_3, vs_vg, exists_eq_left, Option.toList_some, Option.toList_none, List.cons_append, List.nil_append, if_true, if_false, qb_0, qb_q01, q01_1, q01_0, if_qb, if_qbn, if_qba, if_qbo, eq_self, true_or, or_true, and_self, true_and, and_true, not_true_eq_false, not_false_eq_true, vpi, ltI, eqI, eqI0, eqI4, nI_clamp, ite_not, vs_same, vs_ne, gs_same, gs_ne, Nat.not_lt_zero, ltm, nI_add, pk_mul, pk_sub, pk_div, rem_n, h, R_s h, R_s1 h, R_s2 h, R_s3 h, R_s4 h, R_s5 h, R_s6 h, R_s7 h, R_s8 h, R_s9 h, R_s10 h, R_s11 h, R_s12 h, R_r3 h, R_r7 h, R_r9 h, R_r13 h, R_r18 h, R_r19 h, R_r20 h, R_r21 h, R_r22 h, R_r24 h, R_r25 h, R_r26 h, S_in, l64a, l64b, l64c, nI_toInt, hx]
theorem T_behind (hs : SIM M B D) (hD : D ≤ 80000) : GO (fun d => Ev (d + 7) 14) (fun d => Ev (d + 5) 85) [.int x, .int y, .int z] M B D := by
  (obtain ⟨p, v, g, rw, cl, bl, dm, a, kp, lt, L, s, w, tt, dp, h, hd, hr, eM, hv⟩ := id hs; obtain ⟨g9, gb, gu, gc, g55⟩ := CD_gb hd; have hb := hd.2.2.2.2.2.2; have rok := SIM_r hd hv; obtain ⟨v0, v1, v2, v3, v10, v11, vT, vS⟩ := id hv) 
  rcases rg_cases x 0 60 (by omega) with ⟨N, _, hN, rfl⟩ | hx
  · rcases ix_cases y (g 0) (by omega) with ⟨i, hi, rfl⟩ | hy
    · rcases rg_cases z 0 2 (by omega) with ⟨k, _, hk, rfl⟩ | hz
      · obtain ⟨M1, k1, k2, k3, k4⟩ := N_behind_ok h hd hD hN hi hk
        refine GO_look hr _ eM hd hv ⟨M1, k1, k2, k3, fun d o _ => k4 d o⟩ (fun M1 hr1 => ?_)
        obtain ⟨v', q1, q2⟩ := R_behind_ok (d := 0) hr1 rok hD hN hi hk
        exact ⟨v', _, VF_y hv q1, fun k hk => by rw [daysG_ne _ _ g9 (by omega) (by omega), cpG_lo hk], fun d o => Ev_all q2 d o⟩
      · exact GO_id hs (-1) eM (fun d o => N_behind_bad3 h hd hN hi hz) (fun d o => R_behind_bad3 hr hN rfl g9 hi hz)
    · exact GO_id hs (-1) eM (fun d o => N_behind_bad2 h hd hN hy) (fun d o => R_behind_bad2 hr hN rfl g9 hy)
  · exact GO_id hs (-1) eM (fun d o => N_behind_bad1 h hx) (fun d o => R_behind_bad1 hr hx)
theorem T_first (hs : SIM M B D) (hD : D ≤ 80000) : GO (fun d => Ev (d + 6) 15) (fun d => Ev (d + 5) 86) [.int x] M B D := by
  (obtain ⟨p, v, g, rw, cl, bl, dm, a, kp, lt, L, s, w, tt, dp, h, hd, hr, eM, hv⟩ := id hs; obtain ⟨g9, gb, gu, gc, g55⟩ := CD_gb hd; have hb := hd.2.2.2.2.2.2; have rok := SIM_r hd hv; obtain ⟨v0, v1, v2, v3, v10, v11, vT, vS⟩ := id hv) 
  rcases rg_cases x 0 1 (by omega) with ⟨k, _, hk, rfl⟩ | hx
  · obtain ⟨M1, k1, k2, k3, k4⟩ := N_first_ok h hd hD hk
    refine GO_look hr _ eM hd hv ⟨M1, k1, k2, k3, fun d o _ => k4 d o⟩ (fun M1 hr1 => ?_)
    obtain ⟨v', g', q1, q2, q3⟩ := R_first_ok (d := 0) hr1 rok hD hk
    exact ⟨v', g', VF_y hv q1, q2, fun d o => Ev_all q3 d o⟩
  · exact GO_id hs (-1) eM (fun d o => N_first_bad h hx) (fun d o => R_first_bad hr hx)
theorem T_clash (hs : SIM M B D) (hD : D ≤ 80000) : GO (fun d => Ev (d + 6) 16) (fun d => Ev (d + 5) 87) [.int x] M B D := by
  (obtain ⟨p, v, g, rw, cl, bl, dm, a, kp, lt, L, s, w, tt, dp, h, hd, hr, eM, hv⟩ := id hs; obtain ⟨g9, gb, gu, gc, g55⟩ := CD_gb hd; have hb := hd.2.2.2.2.2.2; have rok := SIM_r hd hv; obtain ⟨v0, v1, v2, v3, v10, v11, vT, vS⟩ := id hv) 
  rcases rg_cases x 0 1 (by omega) with ⟨k, _, hk, rfl⟩ | hx
  · obtain ⟨M1, k1, k2, k3, k4⟩ := N_clash_ok h hd hD hk
    refine GO_look hr _ eM hd hv ⟨M1, k1, k2, k3, fun d o _ => k4 d o⟩ (fun M1 hr1 => ?_)
    obtain ⟨v', g', q1, q2, q3⟩ := R_clash_ok (d := 0) hr1 rok hD hk
    exact ⟨v', g', VF_y hv q1, q2, fun d o => Ev_all q3 d o⟩
  · exact GO_id hs (-1) eM (fun d o => N_clash_bad h hx) (fun d o => R_clash_bad hr hx)
theorem T_room (hs : SIM M B D) : GO (fun d => Ev (d + 5) 17) (fun d => Ev (d + 3) 89) [.int x] M B D := by
  (obtain ⟨p, v, g, rw, cl, bl, dm, a, kp, lt, L, s, w, tt, dp, h, hd, hr, eM, hv⟩ := id hs; obtain ⟨g9, gb, gu, gc, g55⟩ := CD_gb hd; have hb := hd.2.2.2.2.2.2; have rok := SIM_r hd hv; obtain ⟨v0, v1, v2, v3, v10, v11, vT, vS⟩ := id hv) 
  rcases rg_cases x 0 1 (by omega) with ⟨k, _, hk, rfl⟩ | hx
  · obtain ⟨M1, op, k1, k2, k3, k4, k5, k6⟩ := N_room_ok h hd
    have hq := k4 (v 10)
    have hall := room_all hq
    have hle := @allN_le op
    have hk6 : k = 0 ∨ k = 1 := by omega
    rcases hk6 with rfl | rfl
    · refine GO_look hr _ eM hd hv ⟨M1, k1, k2, k3, fun d o _ => k5 d o⟩ (fun M1 hr1 => ?_)
      obtain ⟨v', q1, q2⟩ := R_room_all (d := 0) hr1 rok hall (by omega)
      exact ⟨v', g, VF_z hv q1, fun _ _ => rfl, fun d o => Ev_all q2 d o⟩
    · by_cases c : allN op = 0
      · rw [c] at hall
        refine GO_look hr (-4) eM hd hv ⟨M1, k1, k2, k3, fun d o _ => by rw [k6 d o, if_pos c]⟩ (fun M1 hr1 => ?_)
        obtain ⟨v', q1, q2⟩ := R_room_none (d := 0) hr1 rok hall
        exact ⟨v', g, VF_z hv q1, fun _ _ => rfl, fun d o => Ev_all q2 d o⟩
      · obtain ⟨N, l1, l2, l3, l4⟩ := room_low hq (by omega)
        have hm : rw * cl ≤ 6 * 6 := Nat.mul_le_mul hb.1.2 hb.2.1.2
        refine GO_look hr (nI N) eM hd hv ⟨M1, k1, k2, k3, fun d o _ => by rw [k6 d o, if_neg c, l1]; rfl⟩ (fun M1 hr1 => ?_)
        obtain ⟨v', q1, q2⟩ := R_room_at (d := 0) hr1 rok hall (by omega) (by omega) (by omega) l3 l4
        exact ⟨v', g, VF_z hv q1, fun _ _ => rfl, fun d o => Ev_all q2 d o⟩
  · exact GO_id hs (-1) eM (fun d o => N_room_bad h hx) (fun d o => R_room_bad hr hx)
theorem T_blows (hs : SIM M B D) (hD : D ≤ 80000) : GO (fun d => Ev (d + 7) 18) (fun d => Ev (d + 6) 91) [.int x] M B D := by
  (obtain ⟨p, v, g, rw, cl, bl, dm, a, kp, lt, L, s, w, tt, dp, h, hd, hr, eM, hv⟩ := id hs; obtain ⟨g9, gb, gu, gc, g55⟩ := CD_gb hd; have hb := hd.2.2.2.2.2.2; have rok := SIM_r hd hv; obtain ⟨v0, v1, v2, v3, v10, v11, vT, vS⟩ := id hv) 
  rcases rg_cases x 1 30 (by omega) with ⟨N, n1, n2, rfl⟩ | hx
  · obtain ⟨M1, k1, k2, k3, k4⟩ := N_blows_ok h hd hD ⟨n1, n2⟩
    refine GO_look hr _ eM hd hv ⟨M1, k1, k2, k3, fun d o _ => k4 d o⟩ (fun M1 hr1 => ?_)
    obtain ⟨v', g', q1, q2, q3⟩ := R_blows_ok (d := 0) hr1 ⟨n1, n2⟩ hD rok
    exact ⟨v', g', VF_y hv q1, q2, fun d o => Ev_all q3 d o⟩
  · exact GO_id hs (-1) eM (fun d o => N_blows_bad h hx) (fun d o => R_blows_bad hr hx)
theorem T_let (hs : SIM M B D) : GO (fun d => Ev (d + 2) 19) (fun d => Ev (d + 2) 92) [.int x, .int y] M B D := by
  (obtain ⟨p, v, g, rw, cl, bl, dm, a, kp, lt, L, s, w, tt, dp, h, hd, hr, eM, hv⟩ := id hs; obtain ⟨g9, gb, gu, gc, g55⟩ := CD_gb hd; have hb := hd.2.2.2.2.2.2; have rok := SIM_r hd hv; obtain ⟨v0, v1, v2, v3, v10, v11, vT, vS⟩ := id hv) 
  rcases rg_cases x 0 5 (by omega) with ⟨de, _, hde, rfl⟩ | hx
  · rcases rg_cases y 0 1 (by omega) with ⟨k, _, hk, rfl⟩ | hy
    · exact GO_id hs _ eM (fun d o => N_let_ok h hd hde hk d o) (fun d o => R_let_ok hr rfl g9 gb hde hk)
    · exact GO_id hs (-1) eM (fun d o => N_let_bad2 h hde hy) (fun d o => R_let_bad2 hr hde hy)
  · exact GO_id hs (-1) eM (fun d o => N_let_bad1 h hx) (fun d o => R_let_bad1 hr hx)
theorem T_from (hs : SIM M B D) : GO (fun d => Ev (d + 4) 20) (fun d => Ev (d + 3) 93) [.int x, .int y] M B D := by
  (obtain ⟨p, v, g, rw, cl, bl, dm, a, kp, lt, L, s, w, tt, dp, h, hd, hr, eM, hv⟩ := id hs; obtain ⟨g9, gb, gu, gc, g55⟩ := CD_gb hd; have hb := hd.2.2.2.2.2.2; have rok := SIM_r hd hv; obtain ⟨v0, v1, v2, v3, v10, v11, vT, vS⟩ := id hv) 
  rcases ix_cases x (g 0) (by omega) with ⟨i, hi, rfl⟩ | hx
  · rcases rg_cases y 0 5 (by omega) with ⟨de, _, hde, rfl⟩ | hy
    · by_cases c : hasI (nI (g (37 + i))) (nI de) = nI 1
      · exact GO_id hs _ eM (fun d o => N_from_ok h hd hi hde c) (fun d o => R_from_ok hr rfl g9 gb v1 (by omega) hi hde c)
      · exact GO_id hs (-2) eM (fun d o => N_from_no h hd hi hde c) (fun d o => R_from_no hr rfl g9 hi hde c)
    · exact GO_id hs (-1) eM (fun d o => N_from_bad2 h hd hi hy) (fun d o => R_from_bad2 hr rfl g9 hi hy)
  · exact GO_id hs (-1) eM (fun d o => N_from_bad1 h hd hx) (fun d o => R_from_bad1 hr rfl g9 hx)
theorem T_kinds (hs : SIM M B D) (hD : D ≤ 80000) : GO (fun d => Ev (d + 7) 23) (fun d => Ev (d + 6) 97) [.int x] M B D := by
  (obtain ⟨p, v, g, rw, cl, bl, dm, a, kp, lt, L, s, w, tt, dp, h, hd, hr, eM, hv⟩ := id hs; obtain ⟨g9, gb, gu, gc, g55⟩ := CD_gb hd; have hb := hd.2.2.2.2.2.2; have rok := SIM_r hd hv; obtain ⟨v0, v1, v2, v3, v10, v11, vT, vS⟩ := id hv) 
  rcases ix_cases x (g 0) (by omega) with ⟨i, hi, rfl⟩ | hx
  · by_cases c : g (19 + i) = 0
    · exact GO_id hs (-2) eM (fun d o => N_kinds_no h hd hi c) (fun d o => R_kinds_no hr rfl g9 hi c)
    · obtain ⟨M1, k1, k2, k3, k4⟩ := N_kinds_ok h hd hD hi c
      refine GO_look hr _ eM hd hv ⟨M1, k1, k2, k3, fun d o _ => k4 d o⟩ (fun M1 hr1 => ?_)
      obtain ⟨v', g', q1, q2, q3⟩ := R_kinds_ok (d := 0) hr1 hi hD rok vS c
      exact ⟨v', g', VF_y hv q1, q2, fun d o => Ev_all q3 d o⟩
  · exact GO_id hs (-1) eM (fun d o => N_kinds_bad h hd hx) (fun d o => R_kinds_bad hr rfl g9 hx)
theorem T_damps (hs : SIM M B D) (hD : D ≤ 80000) : GO (fun d => Ev (d + 7) 24) (fun d => Ev (d + 6) 98) [.int x] M B D := by
  (obtain ⟨p, v, g, rw, cl, bl, dm, a, kp, lt, L, s, w, tt, dp, h, hd, hr, eM, hv⟩ := id hs; obtain ⟨g9, gb, gu, gc, g55⟩ := CD_gb hd; have hb := hd.2.2.2.2.2.2; have rok := SIM_r hd hv; obtain ⟨v0, v1, v2, v3, v10, v11, vT, vS⟩ := id hv) 
  rcases ix_cases x cl (by omega) with ⟨c, hc, rfl⟩ | hx
  · obtain ⟨M1, k1, k2, k3, k4⟩ := N_damps_ok h hd hD hc
    refine GO_look hr _ eM hd hv ⟨M1, k1, k2, k3, fun d o _ => k4 d o⟩ (fun M1 hr1 => ?_)
    obtain ⟨v', g', q1, q2, q3⟩ := R_damps_ok (d := 0) hr1 hc hD rok vS
    exact ⟨v', g', VF_y hv q1, q2, fun d o => Ev_all q3 d o⟩
  · exact GO_id hs (-1) eM (fun d o => N_damps_bad h hd hx) (fun d o => R_damps_bad hr v1 hb.2.1.2 hx)
theorem T_century (hs : SIM M B D) (hD : D ≤ 80000) : GO (fun d => Ev (d + 6) 26) (fun d => Ev (d + 4) 103) [.int x, .int y, .int z] M B D := by
  (obtain ⟨p, v, g, rw, cl, bl, dm, a, kp, lt, L, s, w, tt, dp, h, hd, hr, eM, hv⟩ := id hs; obtain ⟨g9, gb, gu, gc, g55⟩ := CD_gb hd; have hb := hd.2.2.2.2.2.2; have rok := SIM_r hd hv; obtain ⟨v0, v1, v2, v3, v10, v11, vT, vS⟩ := id hv) 
  rcases rg_cases x 0 9999 (by omega) with ⟨q, _, hq, rfl⟩ | hx
  · rcases rg_cases y 1 60 (by omega) with ⟨N, n1, n2, rfl⟩ | hy
    · rcases rg_cases z 0 1 (by omega) with ⟨k, _, hk, rfl⟩ | hz
      · obtain ⟨M1, k1, k2, k3, k4⟩ := N_ce_ok h hd hq ⟨n1, n2⟩ hk
        refine GO_look hr _ eM hd hv ⟨M1, k1, k2, k3, fun d o _ => k4 d o⟩ (fun M1 hr1 => ?_)
        obtain ⟨v', g', q1, q2, q3⟩ := R_ce_ok (d := 0) hr1 hq ⟨n1, n2⟩ hk hD rok
        exact ⟨v', g', VF_y hv q1, q2, fun d o => Ev_all q3 d o⟩
      · exact GO_id hs (-1) eM (fun d o => N_ce_bad3 hq ⟨n1, n2⟩ hz) (fun d o => R_ce_bad3 hr hq ⟨n1, n2⟩ hz)
    · exact GO_id hs (-1) eM (fun d o => N_ce_bad2 hq hy) (fun d o => R_ce_bad2 hr hq hy)
  · exact GO_id hs (-1) eM (fun d o => N_ce_bad1 hx) (fun d o => R_ce_bad1 hr hx)
theorem T_shaken (hs : SIM M B D) (hD : D ≤ 80000) : GO (fun d => Ev (d + 7) 25) (fun d => Ev (d + 4) 99) [.int x, .int y, .int z, .int t] M B D := by
  (obtain ⟨p, v, g, rw, cl, bl, dm, a, kp, lt, L, s, w, tt, dp, h, hd, hr, eM, hv⟩ := id hs; obtain ⟨g9, gb, gu, gc, g55⟩ := CD_gb hd; have hb := hd.2.2.2.2.2.2; have rok := SIM_r hd hv; obtain ⟨v0, v1, v2, v3, v10, v11, vT, vS⟩ := id hv) 
  rcases ix_cases x (g 0) (by omega) with ⟨i, hi, rfl⟩ | hx
  · rcases rg_cases y 0 8 (by omega) with ⟨N, _, hN, rfl⟩ | hy
    · rcases rg_cases z 0 10 (by omega) with ⟨q, _, hq, rfl⟩ | hz
      · rcases rg_cases t 0 1 (by omega) with ⟨k, _, hk, rfl⟩ | ht
        · by_cases c : g (19 + i) = 0
          · exact GO_id hs (-2) eM (fun d o => N_sh_no h hd hi hN hq hk c) (fun d o => R_sh_no hr rfl g9 hi hN hq hk c)
          · obtain ⟨M1, k1, k2, k3, k4⟩ := N_sh_ok h hd hi hN hq hk c
            refine GO_look hr _ eM hd hv ⟨M1, k1, k2, k3, fun d o h8 => k4 d o h8⟩ (fun M1 hr1 => ?_)
            have e := shU_e (dm := dm) (cl := cl) (g := g) g9 hi hq hN
            have hpow : 10 ^ N ≤ 10 ^ 8 := Nat.pow_le_pow_right (by omega) hN
            have hle := fcN_le (dm := dm) (cl := cl) (n := g 0) (i := i) hq N (cpG g 0 616 56)
            have hpos : 0 < 10 ^ N := Nat.pow_pos (by omega)
            have h8 : (10:Nat) ^ 8 = 100000000 := rfl
            obtain ⟨v', g', q1, q2, q3⟩ := R_sh_ok (d := 0) hr1 hi hN hq hk hD rok c (by rw [e]; show fcN dm cl (g 0) i q N (cpG g 0 616 56) < 2 ^ 31; omega) (by rw [e]; show 0 < 10 ^ N ∧ 10 ^ N < 2 ^ 31; omega)
            exact ⟨v', g', VF_y hv q1, q2, fun d o => Ev_all q3 d o⟩
        · exact GO_id hs (-1) eM (fun d o => N_sh_bad4 h hd hi hN hq ht) (fun d o => R_sh_bad4 hr rfl g9 hi hN hq ht)
      · exact GO_id hs (-1) eM (fun d o => N_sh_bad3 h hd hi hN hz) (fun d o => R_sh_bad3 hr rfl g9 hi hN hz)
    · exact GO_id hs (-1) eM (fun d o => N_sh_bad2 h hd hi hy) (fun d o => R_sh_bad2 hr rfl g9 hi hy)
  · exact GO_id hs (-1) eM (fun d o => N_sh_bad1 h hd hx) (fun d o => R_sh_bad1 hr rfl g9 hx)
theorem T_measure (hs : SIM M B D) : GO (fun d => Ev (d + 2) 21) (fun d => Ev (d + 3) 94) [.int x, .int y, .int z] M B D := by
  (obtain ⟨p, v, g, rw, cl, bl, dm, a, kp, lt, L, s, w, tt, dp, h, hd, hr, eM, hv⟩ := id hs; obtain ⟨g9, gb, gu, gc, g55⟩ := CD_gb hd; have hb := hd.2.2.2.2.2.2; have rok := SIM_r hd hv; obtain ⟨v0, v1, v2, v3, v10, v11, vT, vS⟩ := id hv) 
  rcases ix_cases x (g 0) (by omega) with ⟨i, hi, rfl⟩ | hx
  · rcases rg_cases y 1 30 (by omega) with ⟨q, q1, q2, rfl⟩ | hy
    · rcases rg_cases z 0 9 (by omega) with ⟨k, _, hk, rfl⟩ | hz
      · by_cases c : s = 6
        · exact GO_id hs (-3) eM (fun d o => N_meas_full h hd hi ⟨q1, q2⟩ hk c) (fun d o => R_meas_full hr rfl g9 hi ⟨q1, q2⟩ hk (by rw [vS.1, c]))
        · have hs6 : s < 6 := by have := vS.2.1; omega
          obtain ⟨M1, k1, k2, k3, k4⟩ := N_meas_ok h hd hi ⟨q1, q2⟩ hk hs6
          refine GO_mk hr _ eM k1 (CD_up k2 (by omega)) k3 (fun d o _ => k4 d o) (fun hr1 => ⟨_, g, ?_, fun _ _ => rfl, fun d o => R_meas_ok hr1 rfl g9 hi ⟨q1, q2⟩ hk vS.1 hs6⟩)
          refine ⟨?_, ?_, ?_, fun c hc => ?_, ?_, ?_, ⟨?_, vT.2.1, fun j hj => ?_, vT.2.2.2⟩, ?_, by omega, fun j hj => ?_⟩
          · simp (disch := omega) only [vs_ne]; exact v0
          · simp (disch := omega) only [vs_ne]; exact v1
          · simp (disch := omega) only [vs_ne]; exact v2
          · simp (disch := omega) only [vs_ne]; exact v3 c hc
          · simp (disch := omega) only [vs_ne]; exact v10
          · simp (disch := omega) only [vs_ne]; exact v11
          · simp (disch := omega) only [vs_ne]; exact vT.1
          · simp (disch := omega) only [vs_ne]; exact vT.2.2.1 j hj
          · rw [vs_same]
          · show _ = nI (if j = s then i else w j) ∧ _ = nI (if j = s then q else tt j) ∧ _ = nI (if j = s then k else dp j) ∧ (if j = s then i else w j) < 9 ∧ (if j = s then q else tt j) ≤ 30 ∧ (if j = s then k else dp j) ≤ 9
            by_cases e : j = s
            · subst e
              simp (disch := omega) only [vs_ne, vs_same, if_true]
              exact ⟨trivial, trivial, trivial, by omega, by omega, by omega⟩
            · simp (disch := omega) only [vs_ne, if_neg e]
              exact vS.2.2 j (by omega)
      · exact GO_id hs (-1) eM (fun d o => N_meas_bad3 h hd hi ⟨q1, q2⟩ hz) (fun d o => R_meas_bad3 hr rfl g9 hi ⟨q1, q2⟩ hz)
    · exact GO_id hs (-1) eM (fun d o => N_meas_bad2 h hd hi hy) (fun d o => R_meas_bad2 hr rfl g9 hi hy)
  · exact GO_id hs (-1) eM (fun d o => N_meas_bad1 h hd hx) (fun d o => R_meas_bad1 hr rfl g9 hx)
theorem T_forget (hs : SIM M B D) : GO (fun d => Ev (d + 2) 22) (fun d => Ev (d + 1) 95) [] M B D := by
  (obtain ⟨p, v, g, rw, cl, bl, dm, a, kp, lt, L, s, w, tt, dp, h, hd, hr, eM, hv⟩ := id hs; obtain ⟨g9, gb, gu, gc, g55⟩ := CD_gb hd; have hb := hd.2.2.2.2.2.2; have rok := SIM_r hd hv; obtain ⟨v0, v1, v2, v3, v10, v11, vT, vS⟩ := id hv) 
  obtain ⟨M1, k1, k2, k3, k4⟩ := N_forget h hd
  refine GO_mk hr (nI s) eM k1 (CD_up k2 (by omega)) k3 (fun d o _ => k4 d o) (fun hr1 => ⟨_, g, ?_, fun _ _ => rfl, fun d o => by rw [← vS.1]; exact R_forget hr1⟩)
  refine ⟨(vs_ne (by omega)).trans v0, (vs_ne (by omega)).trans v1, (vs_ne (by omega)).trans v2, fun c hc => (vs_ne (by omega)).trans (v3 c hc), (vs_ne (by omega)).trans v10, (vs_ne (by omega)).trans v11, ⟨(vs_ne (by omega)).trans vT.1, vT.2.1, fun j hj => (vs_ne (by omega)).trans (vT.2.2.1 j hj), vT.2.2.2⟩, vs_same, by omega, fun q hq => by omega⟩
theorem T_keep (hs : SIM M B D) : GO (fun d => Ev (d + 4) 27) (fun d => Ev (d + 2) 104) [] M B D := by
  (obtain ⟨p, v, g, rw, cl, bl, dm, a, kp, lt, L, s, w, tt, dp, h, hd, hr, eM, hv⟩ := id hs; obtain ⟨g9, gb, gu, gc, g55⟩ := CD_gb hd; have hb := hd.2.2.2.2.2.2; have rok := SIM_r hd hv; obtain ⟨v0, v1, v2, v3, v10, v11, vT, vS⟩ := id hv) 
  have hk2 := hd.2.2.1.2.1
  by_cases c : kp = 2
  · exact GO_id hs (-3) eM (fun d o => N_keep_no h hd c) (fun d o => R_keep_no hr (by rw [v11, c]))
  · obtain ⟨M1, k1, k2, k3, k4⟩ := N_keep_ok h hd (by omega)
    exact GO_mk hr _ eM k1 (CD_up k2 (by omega)) k3 (fun d o _ => k4 d o) (fun hr1 => ⟨_, _, VF_k hv, fun _ _ => rfl, fun d o => R_keep_ok hr1 v11 (by omega)⟩)
theorem T_back (hs : SIM M B D) : GO (fun d => Ev (d + 4) 28) (fun d => Ev (d + 2) 105) [] M B D := by
  (obtain ⟨p, v, g, rw, cl, bl, dm, a, kp, lt, L, s, w, tt, dp, h, hd, hr, eM, hv⟩ := id hs; obtain ⟨g9, gb, gu, gc, g55⟩ := CD_gb hd; have hb := hd.2.2.2.2.2.2; have rok := SIM_r hd hv; obtain ⟨v0, v1, v2, v3, v10, v11, vT, vS⟩ := id hv) 
  have hk2 := hd.2.2.1.2.1
  by_cases c : kp = 0
  · exact GO_id hs (-2) eM (fun d o => N_back_no h hd c) (fun d o => R_back_no hr (by rw [v11, c]))
  · obtain ⟨M1, k1, k2, k3, k4⟩ := N_back_ok h hd (by omega)
    exact GO_mk hr _ eM k1 (CD_up k2 (by omega)) k3 (fun d o _ => k4 d o) (fun hr1 => ⟨_, _, VF_a (VF_k hv), fun _ _ => rfl, fun d o => R_back_ok hr1 v11 (by omega) hk2⟩)
theorem T_count (hs : SIM M B D) : GO (fun d => Ev (d + 3) 29) (fun d => Ev (d + 4) 106) [.int x] M B D := by
  (obtain ⟨p, v, g, rw, cl, bl, dm, a, kp, lt, L, s, w, tt, dp, h, hd, hr, eM, hv⟩ := id hs; obtain ⟨g9, gb, gu, gc, g55⟩ := CD_gb hd; have hb := hd.2.2.2.2.2.2; have rok := SIM_r hd hv; obtain ⟨v0, v1, v2, v3, v10, v11, vT, vS⟩ := id hv) 
  rcases rg_cases x 0 9 (by omega) with ⟨k, _, hk, rfl⟩ | hx
  · have e : countG v g (g 0) rw cl k = nI (cntN g rw cl bl a kp L s k) := by
      unfold countG cntN
      rw [v2, vS.1, v10, v11, vT.1]
      repeat' split
      all_goals first | rfl | omega
    exact GO_id hs _ eM (fun d o => N_count_ok h hd hk) (fun d o => by rw [← e]; exact R_count_ok hr v0 v1 rfl g9 gb hk)
  · exact GO_id hs (-1) eM (fun d o => N_count_bad h hx) (fun d o => R_count_bad hr hx)
end QSU
