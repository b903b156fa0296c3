/-! ===== READING A TEXT ONTO A WALL ===== -/
def nO (u : qV) : Nat := (u 0 7).toNatClampNeg
def rO (u : qV) : Nat := (u 0 3).toNatClampNeg
def cO (u : qV) : Nat := (u 0 4).toNatClampNeg
theorem wOK_O {u : qV} {n rw cl : Nat} (h : wOK u n rw cl) : nO u = n ∧ rO u = rw ∧ cO u = cl := by
  obtain ⟨h1, h2, h3, h4, h5, h6⟩ := h
  unfold nO rO cO
  rw [h1, h3, h4, nI_clamp (by omega), nI_clamp (by omega), nI_clamp (by omega)]
  exact ⟨rfl, rfl, rfl⟩
theorem w_add_hd {u : qV} {n k : Nat} {w : Nat → Int32} (hk : k ≠ 7) : w_add u n w 0 k = u 0 k := by
  unfold w_add
  rw [vs_ne (by omega), n_set_hd]
theorem i_take_ok {c n rw cl m : Nat} {u u' : qV} {x : Nat → Nat} {b : Bool} (h : wOK u n rw cl) (ht : i_take c u x m n rw cl b = some u') : ∃ n' rw' cl', wOK u' n' rw' cl' := by
  obtain ⟨h1, h2, h3, h4, h5, h6⟩ := h
  unfold i_take at ht
  by_cases e1 : c = 119
  · rw [if_pos e1] at ht
    split at ht
    · next hh =>
      cases ht
      exact ⟨n, x 0, x 1, by rw [vs_ne (by omega), vs_ne (by omega)]; exact h1, h2, by rw [vs_ne (by omega), vs_same], vs_same, hh.2.2.1, hh.2.2.2⟩
    · cases ht
  · rw [if_neg e1] at ht
    by_cases e2 : c = 110
    · rw [if_pos e2] at ht
      split at ht
      · next hh =>
        cases ht
        exact ⟨n + 1, rw, cl, vs_same, hh.2.1, (w_add_hd (by decide)).trans h3, (w_add_hd (by decide)).trans h4, h5, h6⟩
      · cases ht
    · rw [if_neg e2] at ht
      by_cases e3 : c = 100
      · rw [if_pos e3] at ht
        split at ht
        · cases ht
          exact ⟨n, rw, cl, by rw [vs_ne (by omega)]; exact h1, h2, by rw [vs_ne (by omega)]; exact h3, by rw [vs_ne (by omega)]; exact h4, h5, h6⟩
        · cases ht
      · rw [if_neg e3] at ht
        by_cases e4 : c = 98
        · rw [if_pos e4] at ht
          split at ht
          · cases ht
            exact ⟨n, rw, cl, by rw [vs_ne (by omega)]; exact h1, h2, by rw [vs_ne (by omega)]; exact h3, by rw [vs_ne (by omega)]; exact h4, h5, h6⟩
          · cases ht
        · rw [if_neg e4] at ht; cases ht
def i_one (lt : Nat → Nat) (p : Nat) (u : qV) (b : Bool) : Option (qV × Bool × Nat) := match r_lst lt 4 (p + 1) with
  | none => none
  | some (xs, q) => match i_take (lt p) u (fun k => xs.getD k 0) xs.length (nO u) (rO u) (cO u) b with
    | none => none
    | some u' => some (u', b && decide (lt p = 119), q)
def i_read (lt : Nat → Nat) (L : Nat) : Nat → Nat → qV → Bool → Option Nat × qV
  | 0, _, u, _ => (none, u)
  | k + 1, p, u, b => if p < L then (match i_one lt p u b with
    | none => (some p, u)
    | some (u', b', q) => i_read lt L k q u' b') else (none, u)
section QRD
variable {d T I L a p n c : Nat} {M : qM} {v u : qV} {o : qOut} {lt : Nat → Nat}
theorem S_rdn2 (h : isItm M I) (ht : isTx M T lt L) (hx : T + 2 ≤ I ∨ I + 2 ≤ T) (hy : I + 2 ≤ a ∨ a + 13 ≤ I) (hz : T + 2 ≤ a ∨ a + 13 ≤ T) (hp : p < 500) : Ev (d + 2) 118 [.ref I, .ref T, .int (nI p)] (sB (bB M I 2 v) a u) o = (o = (some (.int (opI (r_nums lt 4 0 p (vs v 0 1 (nI 0))).2)), sB (bB M I 2 (r_nums lt 4 0 p (vs v 0 1 (nI 0))).1) a u)) := by
  rw [sB_bB_comm hy, S_rdn (M := sB M a u) h (isTx_of ht rfl rfl fun j k hj => qI_sBx (by omega)) hx hp, sB_bB_comm hy]
theorem S_read_loop (h : isWall M a) (hI : isItm M I) (ht : isTx M T lt L) (hx : T + 2 ≤ I ∨ I + 2 ≤ T) (hy : I + 2 ≤ a ∨ a + 13 ≤ I) (hz : T + 2 ≤ a ∨ a + 13 ≤ T) : ∀ (k t p : Nat) (u v : qV) (b : Bool) (l5 : Value), t + k = 200 → p ≤ 300 → (∃ n rw cl, wOK u n rw cl) → v 0 2 = qb (b = true) → ∃ v', ∀ o, Rn (d + 5) 117 (14, [.ref I, .ref T, .ref a, .int (nI p), .int (nI t), l5], [], 0, 0, sB (bB M I 2 v) a u) o = (o = (some (.int (opI (i_read lt L k p u b).1)), sB (bB M I 2 v') a (i_read lt L k p u b).2)) := by
  have t1 := ht.1
  have hL : L ≤ 200 := ht.2.2.2.2.1
  have h8 := ht.2.2.2.2.2.2.2
  have ht' : ∀ v u, isTx (sB (bB M I 2 v) a u) T lt L := fun v u => isTx_of ht rfl rfl (fun j k hj => by rw [qI_sBx (by omega), qI_bBx (by omega)])
  have t4 : ∀ v u, qI (sB (bB M I 2 v) a u) T 1 = nI L := fun v u => (ht' v u).2.2.2.1
  have hl : ∀ {d p : Nat} {v u : qV} {o : qOut}, p < 1000 → Ev (d + 1) 146 [.ref T, .int (nI p)] (sB (bB M I 2 v) a u) o = (o = (some (.int (nI (lt p))), sB (bB M I 2 v) a u)) := fun hp => S_letterAt (ht' _ _) hp
  obtain ⟨g1, g2, g3⟩ := id hI
  intro k
  induction k with
  | zero =>
    intro t p u v b l5 hk hp hu hv
    refine ⟨v, fun o => ?_⟩
    simp (disch := first | omega | (simp (disch := omega) only [rf_some, qS_sB, qR_sB, qZ_sB, qI_sB0, qI_sB3, qI_sBn, pI_sB0, pI_sB3, pI_sBn, isWall_sB, exists_eq_left, Option.toList_some, Option.toList_none, List.cons_append, List.nil_append, if_true, if_false, qb_0, qb_q01, q01_1, q01_0, if_qb, if_qbn, if_qba, if_qbo, eq_self, true_or, or_true, and_self, true_and, and_true, not_true_eq_false, not_false_eq_true, vpi, ltI, eqI, eqI0, eqI4, nI_clamp, ite_not, vs_same, vs_ne, qrem_f, qabs_f, Nat.not_lt_zero, qS_bB, qR_bB, qZ_bB, qI_bB0, qI_bB, pI_bB0, pI_bB, isWall_bB, isItm_bB, isItm_sB, ltm, m1_lt, pk_mul, h, W_s h, W_s1 h, W_s2 h, W_s3 h, W_sn h, W_r0 h, W_r1 h, W_r2 h, W_rn h, g1, g2, g3, t1]; done) | (simp (disch := omega) only [rf_some, qS_sB, qR_sB, qZ_sB, qI_sB0, qI_sB3, qI_sBn, pI_sB0, pI_sB3, pI_sBn, isWall_sB, exists_eq_left, Option.toList_some, Option.toList_none, List.cons_append, List.nil_append, if_true, if_false, qb_0, qb_q01, q01_1, q01_0, if_qb, if_qbn, if_qba, if_qbo, eq_self, true_or, or_true, and_self, true_and, and_true, not_true_eq_false, not_false_eq_true, vpi, ltI, eqI, eqI0, eqI4, nI_clamp, ite_not, vs_same, vs_ne, qrem_f, qabs_f, Nat.not_lt_zero, qS_bB, qR_bB, qZ_bB, qI_bB0, qI_bB, pI_bB0, pI_bB, isWall_bB, isItm_bB, isItm_sB, ltm, m1_lt, pk_mul, h, W_s h, W_s1 h, W_s2 h, W_s3 h, W_sn h, W_r0 h, W_r1 h, W_r2 h, W_rn h, g1, g2, g3, t1]; omega)) only [x117_0, x117_1, x117_4, x117_5, x117_6, x117_9, x117_10, x117_11, x117_12, x117_14, x117_16, x117_19, x117_22, x117_23, x117_24, x117_27, x117_30, x117_31, x117_32, x117_33, x117_34, x117_35, x117_38, x117_40, x117_42, x117_44, x117_47, x117_48, x117_49, x117_50, x117_53, x117_54, x117_57, x117_60, x117_61, x117_62, x117_64, x117_65, x117_68, x117_71, x117_73, rf_some, qS_sB, qR_sB, qZ_sB, qI_sB0, qI_sB3, qI_sBn, pI_sB0, pI_sB3, pI_sBn, isWall_sB, exists_eq_left, Option.toList_some, Option.toList_none, List.cons_append, List.nil_append, if_true, if_false, qb_0, qb_q01, q01_1, q01_0, if_qb, if_qbn, if_qba, if_qbo, eq_self, true_or, or_true, and_self, true_and, and_true, not_true_eq_false, not_false_eq_true, vpi, ltI, eqI, eqI0, eqI4, nI_clamp, ite_not, vs_same, vs_ne, qrem_f, qabs_f, Nat.not_lt_zero, qS_bB, qR_bB, qZ_bB, qI_bB0, qI_bB, pI_bB0, pI_bB, isWall_bB, isItm_bB, isItm_sB, ltm, m1_lt, pk_mul, show ¬ t < 200 by omega, i_read, opI]
  | succ k ih =>
    intro t p u v b l5 hk hp hu hv
    obtain ⟨n, rw, cl, hw⟩ := hu
    obtain ⟨e1, e2, e3⟩ := wOK_O hw
    by_cases hpL : p < L
    · have hn := r_lst_nums (lt := lt) 4 0 (p + 1) (vs v 0 1 (nI 0)) (by omega)
      have hir : i_read lt L (k + 1) p u b = (match i_one lt p u b with
        | none => (some p, u)
        | some (u', b', q) => i_read lt L k q u' b') := if_pos hpL
      rw [hir]
      unfold i_one
      rw [e1, e2, e3]
      cases hl4 : r_lst lt 4 (p + 1) with
      | none =>
        rw [hl4] at hn
        have hn2 : (r_nums lt 4 0 (p + 1) (vs v 0 1 (nI 0))).2 = none := hn.2
        refine ⟨(r_nums lt 4 0 (p + 1) (vs v 0 1 (nI 0))).1, fun o => ?_⟩
        rw [x117_14]
        simp (disch := first | omega | (simp (disch := omega) only [rf_some, qS_sB, qR_sB, qZ_sB, qI_sB0, qI_sB3, qI_sBn, pI_sB0, pI_sB3, pI_sBn, isWall_sB, exists_eq_left, Option.toList_some, Option.toList_none, List.cons_append, List.nil_append, if_true, if_false, qb_0, qb_q01, q01_1, q01_0, if_qb, if_qbn, if_qba, if_qbo, eq_self, true_or, or_true, and_self, true_and, and_true, not_true_eq_false, not_false_eq_true, vpi, ltI, eqI, eqI0, eqI4, nI_clamp, ite_not, vs_same, vs_ne, qrem_f, qabs_f, Nat.not_lt_zero, qS_bB, qR_bB, qZ_bB, qI_bB0, qI_bB, pI_bB0, pI_bB, isWall_bB, isItm_bB, isItm_sB, ltm, m1_lt, pk_mul, h, W_s h, W_s1 h, W_s2 h, W_s3 h, W_sn h, W_r0 h, W_r1 h, W_r2 h, W_rn h, g1, g2, g3, t1, t4]; done) | (simp (disch := omega) only [rf_some, qS_sB, qR_sB, qZ_sB, qI_sB0, qI_sB3, qI_sBn, pI_sB0, pI_sB3, pI_sBn, isWall_sB, exists_eq_left, Option.toList_some, Option.toList_none, List.cons_append, List.nil_append, if_true, if_false, qb_0, qb_q01, q01_1, q01_0, if_qb, if_qbn, if_qba, if_qbo, eq_self, true_or, or_true, and_self, true_and, and_true, not_true_eq_false, not_false_eq_true, vpi, ltI, eqI, eqI0, eqI4, nI_clamp, ite_not, vs_same, vs_ne, qrem_f, qabs_f, Nat.not_lt_zero, qS_bB, qR_bB, qZ_bB, qI_bB0, qI_bB, pI_bB0, pI_bB, isWall_bB, isItm_bB, isItm_sB, ltm, m1_lt, pk_mul, h, W_s h, W_s1 h, W_s2 h, W_s3 h, W_sn h, W_r0 h, W_r1 h, W_r2 h, W_rn h, g1, g2, g3, t1, t4]; omega)) only [x117_0, x117_1, x117_4, x117_5, x117_6, x117_9, x117_10, x117_11, x117_12, x117_16, x117_19, x117_22, x117_23, x117_24, x117_27, x117_30, x117_31, x117_32, x117_33, x117_34, x117_35, x117_38, x117_40, x117_42, x117_44, x117_47, x117_48, x117_49, x117_50, x117_53, x117_54, x117_57, x117_60, x117_61, x117_62, x117_64, x117_65, x117_68, x117_71, x117_73, rf_some, qS_sB, qR_sB, qZ_sB, qI_sB0, qI_sB3, qI_sBn, pI_sB0, pI_sB3, pI_sBn, isWall_sB, exists_eq_left, Option.toList_some, Option.toList_none, List.cons_append, List.nil_append, if_true, if_false, qb_0, qb_q01, q01_1, q01_0, if_qb, if_qbn, if_qba, if_qbo, eq_self, true_or, or_true, and_self, true_and, and_true, not_true_eq_false, not_false_eq_true, vpi, ltI, eqI, eqI0, eqI4, nI_clamp, ite_not, vs_same, vs_ne, qrem_f, qabs_f, Nat.not_lt_zero, qS_bB, qR_bB, qZ_bB, qI_bB0, qI_bB, pI_bB0, pI_bB, isWall_bB, isItm_bB, isItm_sB, ltm, m1_lt, pk_mul, show t < 200 by omega, t1, t4, hpL, nI_add, S_rdn2 hI ht hx hy hz, hn2, opI]
      | some xq =>
        obtain ⟨xs, q⟩ := xq
        rw [hl4] at hn
        obtain ⟨n0, n1, n2, n3, n4, n5, n6, n7⟩ := hn
        rw [Nat.zero_add] at n2 n3
        have hN : hasN (r_nums lt 4 0 (p + 1) (vs v 0 1 (nI 0))).1 xs.length (fun k => xs.getD k 0) := ⟨n2, n3, fun i hi => by have := n7 i hi; rw [Nat.zero_add] at this; exact this⟩
        have hb : (r_nums lt 4 0 (p + 1) (vs v 0 1 (nI 0))).1 0 2 = qb (b = true) := n0.trans ((vs_ne (by omega)).trans hv)
        have h8p := h8 p
        cases hi : i_take (lt p) u (fun k => xs.getD k 0) xs.length n rw cl b with
        | none =>
          refine ⟨(if lt p = 119 then (r_nums lt 4 0 (p + 1) (vs v 0 1 (nI 0))).1 else vs (r_nums lt 4 0 (p + 1) (vs v 0 1 (nI 0))).1 0 2 (nI 0)), fun o => ?_⟩
          rw [x117_14]
          simp (disch := first | omega | (simp (disch := omega) only [rf_some, qS_sB, qR_sB, qZ_sB, qI_sB0, qI_sB3, qI_sBn, pI_sB0, pI_sB3, pI_sBn, isWall_sB, exists_eq_left, Option.toList_some, Option.toList_none, List.cons_append, List.nil_append, if_true, if_false, qb_0, qb_q01, q01_1, q01_0, if_qb, if_qbn, if_qba, if_qbo, eq_self, true_or, or_true, and_self, true_and, and_true, not_true_eq_false, not_false_eq_true, vpi, ltI, eqI, eqI0, eqI4, nI_clamp, ite_not, vs_same, vs_ne, qrem_f, qabs_f, Nat.not_lt_zero, qS_bB, qR_bB, qZ_bB, qI_bB0, qI_bB, pI_bB0, pI_bB, isWall_bB, isItm_bB, isItm_sB, ltm, m1_lt, pk_mul, h, W_s h, W_s1 h, W_s2 h, W_s3 h, W_sn h, W_r0 h, W_r1 h, W_r2 h, W_rn h, g1, g2, g3, t1, t4]; done) | (simp (disch := omega) only [rf_some, qS_sB, qR_sB, qZ_sB, qI_sB0, qI_sB3, qI_sBn, pI_sB0, pI_sB3, pI_sBn, isWall_sB, exists_eq_left, Option.toList_some, Option.toList_none, List.cons_append, List.nil_append, if_true, if_false, qb_0, qb_q01, q01_1, q01_0, if_qb, if_qbn, if_qba, if_qbo, eq_self, true_or, or_true, and_self, true_and, and_true, not_true_eq_false, not_false_eq_true, vpi, ltI, eqI, eqI0, eqI4, nI_clamp, ite_not, vs_same, vs_ne, qrem_f, qabs_f, Nat.not_lt_zero, qS_bB, qR_bB, qZ_bB, qI_bB0, qI_bB, pI_bB0, pI_bB, isWall_bB, isItm_bB, isItm_sB, ltm, m1_lt, pk_mul, h, W_s h, W_s1 h, W_s2 h, W_s3 h, W_sn h, W_r0 h, W_r1 h, W_r2 h, W_rn h, g1, g2, g3, t1, t4]; omega)) only [x117_0, x117_1, x117_4, x117_5, x117_6, x117_9, x117_10, x117_11, x117_12, x117_16, x117_19, x117_22, x117_23, x117_24, x117_27, x117_30, x117_31, x117_32, x117_33, x117_34, x117_35, x117_38, x117_40, x117_42, x117_44, x117_47, x117_48, x117_49, x117_50, x117_53, x117_54, x117_57, x117_60, x117_61, x117_62, x117_64, x117_65, x117_68, x117_71, x117_73, rf_some, qS_sB, qR_sB, qZ_sB, qI_sB0, qI_sB3, qI_sBn, pI_sB0, pI_sB3, pI_sBn, isWall_sB, exists_eq_left, Option.toList_some, Option.toList_none, List.cons_append, List.nil_append, if_true, if_false, qb_0, qb_q01, q01_1, q01_0, if_qb, if_qbn, if_qba, if_qbo, eq_self, true_or, or_true, and_self, true_and, and_true, not_true_eq_false, not_false_eq_true, vpi, ltI, eqI, eqI0, eqI4, nI_clamp, ite_not, vs_same, vs_ne, qrem_f, qabs_f, Nat.not_lt_zero, qS_bB, qR_bB, qZ_bB, qI_bB0, qI_bB, pI_bB0, pI_bB, isWall_bB, isItm_bB, isItm_sB, ltm, m1_lt, pk_mul, show t < 200 by omega, t1, t4, hpL, nI_add, S_rdn2 hI ht hx hy hz, n1, opI, hl, S_takeItem h hI hy hN hb hw h8p, hi, i_out]
        | some u' =>
          obtain ⟨n', rw', cl', hw'⟩ := i_take_ok hw hi
          have hb' : (if lt p = 119 then (r_nums lt 4 0 (p + 1) (vs v 0 1 (nI 0))).1 else vs (r_nums lt 4 0 (p + 1) (vs v 0 1 (nI 0))).1 0 2 (nI 0)) 0 2 = qb ((b && decide (lt p = 119)) = true) := by
            by_cases e : lt p = 119
            · simp only [e, if_true, decide_true, Bool.and_true]; exact hb
            · simp only [e, if_false, decide_false, Bool.and_false, vs_same]; rfl
          obtain ⟨v', hv'⟩ := ih (t + 1) q u' _ (b && decide (lt p = 119)) (.int (nI q)) (by omega) (by omega) ⟨n', rw', cl', hw'⟩ hb'
          refine ⟨v', fun o => ?_⟩
          rw [x117_14]
          simp (disch := first | omega | (simp (disch := omega) only [rf_some, qS_sB, qR_sB, qZ_sB, qI_sB0, qI_sB3, qI_sBn, pI_sB0, pI_sB3, pI_sBn, isWall_sB, exists_eq_left, Option.toList_some, Option.toList_none, List.cons_append, List.nil_append, if_true, if_false, qb_0, qb_q01, q01_1, q01_0, if_qb, if_qbn, if_qba, if_qbo, eq_self, true_or, or_true, and_self, true_and, and_true, not_true_eq_false, not_false_eq_true, vpi, ltI, eqI, eqI0, eqI4, nI_clamp, ite_not, vs_same, vs_ne, qrem_f, qabs_f, Nat.not_lt_zero, qS_bB, qR_bB, qZ_bB, qI_bB0, qI_bB, pI_bB0, pI_bB, isWall_bB, isItm_bB, isItm_sB, ltm, m1_lt, pk_mul, h, W_s h, W_s1 h, W_s2 h, W_s3 h, W_sn h, W_r0 h, W_r1 h, W_r2 h, W_rn h, g1, g2, g3, t1, t4]; done) | (simp (disch := omega) only [rf_some, qS_sB, qR_sB, qZ_sB, qI_sB0, qI_sB3, qI_sBn, pI_sB0, pI_sB3, pI_sBn, isWall_sB, exists_eq_left, Option.toList_some, Option.toList_none, List.cons_append, List.nil_append, if_true, if_false, qb_0, qb_q01, q01_1, q01_0, if_qb, if_qbn, if_qba, if_qbo, eq_self, true_or, or_true, and_self, true_and, and_true, not_true_eq_false, not_false_eq_true, vpi, ltI, eqI, eqI0, eqI4, nI_clamp, ite_not, vs_same, vs_ne, qrem_f, qabs_f, Nat.not_lt_zero, qS_bB, qR_bB, qZ_bB, qI_bB0, qI_bB, pI_bB0, pI_bB, isWall_bB, isItm_bB, isItm_sB, ltm, m1_lt, pk_mul, h, W_s h, W_s1 h, W_s2 h, W_s3 h, W_sn h, W_r0 h, W_r1 h, W_r2 h, W_rn h, g1, g2, g3, t1, t4]; omega)) only [x117_0, x117_1, x117_4, x117_5, x117_6, x117_9, x117_10, x117_11, x117_12, x117_16, x117_19, x117_22, x117_23, x117_24, x117_27, x117_30, x117_31, x117_32, x117_33, x117_34, x117_35, x117_38, x117_40, x117_42, x117_44, x117_47, x117_48, x117_49, x117_50, x117_53, x117_54, x117_57, x117_60, x117_61, x117_62, x117_64, x117_65, x117_68, x117_71, x117_73, rf_some, qS_sB, qR_sB, qZ_sB, qI_sB0, qI_sB3, qI_sBn, pI_sB0, pI_sB3, pI_sBn, isWall_sB, exists_eq_left, Option.toList_some, Option.toList_none, List.cons_append, List.nil_append, if_true, if_false, qb_0, qb_q01, q01_1, q01_0, if_qb, if_qbn, if_qba, if_qbo, eq_self, true_or, or_true, and_self, true_and, and_true, not_true_eq_false, not_false_eq_true, vpi, ltI, eqI, eqI0, eqI4, nI_clamp, ite_not, vs_same, vs_ne, qrem_f, qabs_f, Nat.not_lt_zero, qS_bB, qR_bB, qZ_bB, qI_bB0, qI_bB, pI_bB0, pI_bB, isWall_bB, isItm_bB, isItm_sB, ltm, m1_lt, pk_mul, show t < 200 by omega, t1, t4, hpL, nI_add, S_rdn2 hI ht hx hy hz, n1, opI, hl, S_takeItem h hI hy hN hb hw h8p, hi, i_out, hv', Nat.one_ne_zero]
    · refine ⟨v, fun o => ?_⟩
      rw [show i_read lt L (k + 1) p u b = (none, u) from if_neg hpL]
      simp (disch := first | omega | (simp (disch := omega) only [rf_some, qS_sB, qR_sB, qZ_sB, qI_sB0, qI_sB3, qI_sBn, pI_sB0, pI_sB3, pI_sBn, isWall_sB, exists_eq_left, Option.toList_some, Option.toList_none, List.cons_append, List.nil_append, if_true, if_false, qb_0, qb_q01, q01_1, q01_0, if_qb, if_qbn, if_qba, if_qbo, eq_self, true_or, or_true, and_self, true_and, and_true, not_true_eq_false, not_false_eq_true, vpi, ltI, eqI, eqI0, eqI4, nI_clamp, ite_not, vs_same, vs_ne, qrem_f, qabs_f, Nat.not_lt_zero, qS_bB, qR_bB, qZ_bB, qI_bB0, qI_bB, pI_bB0, pI_bB, isWall_bB, isItm_bB, isItm_sB, ltm, m1_lt, pk_mul, h, W_s h, W_s1 h, W_s2 h, W_s3 h, W_sn h, W_r0 h, W_r1 h, W_r2 h, W_rn h, g1, g2, g3, t1, t4]; done) | (simp (disch := omega) only [rf_some, qS_sB, qR_sB, qZ_sB, qI_sB0, qI_sB3, qI_sBn, pI_sB0, pI_sB3, pI_sBn, isWall_sB, exists_eq_left, Option.toList_some, Option.toList_none, List.cons_append, List.nil_append, if_true, if_false, qb_0, qb_q01, q01_1, q01_0, if_qb, if_qbn, if_qba, if_qbo, eq_self, true_or, or_true, and_self, true_and, and_true, not_true_eq_false, not_false_eq_true, vpi, ltI, eqI, eqI0, eqI4, nI_clamp, ite_not, vs_same, vs_ne, qrem_f, qabs_f, Nat.not_lt_zero, qS_bB, qR_bB, qZ_bB, qI_bB0, qI_bB, pI_bB0, pI_bB, isWall_bB, isItm_bB, isItm_sB, ltm, m1_lt, pk_mul, h, W_s h, W_s1 h, W_s2 h, W_s3 h, W_sn h, W_r0 h, W_r1 h, W_r2 h, W_rn h, g1, g2, g3, t1, t4]; omega)) only [x117_0, x117_1, x117_4, x117_5, x117_6, x117_9, x117_10, x117_11, x117_12, x117_14, x117_16, x117_19, x117_22, x117_23, x117_24, x117_27, x117_30, x117_31, x117_32, x117_33, x117_34, x117_35, x117_38, x117_40, x117_42, x117_44, x117_47, x117_48, x117_49, x117_50, x117_53, x117_54, x117_57, x117_60, x117_61, x117_62, x117_64, x117_65, x117_68, x117_71, x117_73, rf_some, qS_sB, qR_sB, qZ_sB, qI_sB0, qI_sB3, qI_sBn, pI_sB0, pI_sB3, pI_sBn, isWall_sB, exists_eq_left, Option.toList_some, Option.toList_none, List.cons_append, List.nil_append, if_true, if_false, qb_0, qb_q01, q01_1, q01_0, if_qb, if_qbn, if_qba, if_qbo, eq_self, true_or, or_true, and_self, true_and, and_true, not_true_eq_false, not_false_eq_true, vpi, ltI, eqI, eqI0, eqI4, nI_clamp, ite_not, vs_same, vs_ne, qrem_f, qabs_f, Nat.not_lt_zero, qS_bB, qR_bB, qZ_bB, qI_bB0, qI_bB, pI_bB0, pI_bB, isWall_bB, isItm_bB, isItm_sB, ltm, m1_lt, pk_mul, show t < 200 by omega, t1, t4, hpL, opI]
theorem w_clear_ok : wOK (w_clear u) 0 4 5 := by
  have e : ∀ k, w_clear u 0 k = w_cl0 u 0 k := fun k => lp_hd (P := fun w : qV => w 0 k = w_cl0 u 0 k) (fun i s h => by rw [vs_ne (by omega)]; exact h) _ _ _ rfl
  refine ⟨?_, by omega, ?_, ?_, by omega, by omega⟩ <;> rw [e] <;> rfl
theorem S_readInto (h : isWall M a) (hI : isItm M I) (ht : isTx M T lt L) (hx : T + 2 ≤ I ∨ I + 2 ≤ T) (hy : I + 2 ≤ a ∨ a + 13 ≤ I) (hz : T + 2 ≤ a ∨ a + 13 ≤ T) : ∃ v', ∀ o, Ev (d + 6) 117 [.ref I, .ref T, .ref a] (sB (bB M I 2 v) a u) o = (o = (some (.int (opI (i_read lt L 200 0 (w_clear u) true).1)), sB (bB M I 2 v') a (i_read lt L 200 0 (w_clear u) true).2)) := by
  obtain ⟨v', hv'⟩ := S_read_loop (d := d) h hI ht hx hy hz 200 0 0 (w_clear u) (vs v 0 2 (nI 1)) true .null rfl (by omega) ⟨_, _, _, w_clear_ok⟩ vs_same
  refine ⟨v', fun o => ?_⟩
  obtain ⟨g1, g2, g3⟩ := id hI
  simp (disch := first | omega | (simp (disch := omega) only [rf_some, qS_sB, qR_sB, qZ_sB, qI_sB0, qI_sB3, qI_sBn, pI_sB0, pI_sB3, pI_sBn, isWall_sB, exists_eq_left, Option.toList_some, Option.toList_none, List.cons_append, List.nil_append, if_true, if_false, qb_0, qb_q01, q01_1, q01_0, if_qb, if_qbn, if_qba, if_qbo, eq_self, true_or, or_true, and_self, true_and, and_true, not_true_eq_false, not_false_eq_true, vpi, ltI, eqI, eqI0, eqI4, nI_clamp, ite_not, vs_same, vs_ne, qrem_f, qabs_f, Nat.not_lt_zero, qS_bB, qR_bB, qZ_bB, qI_bB0, qI_bB, pI_bB0, pI_bB, isWall_bB, isItm_bB, isItm_sB, ltm, m1_lt, pk_mul, h, W_s h, W_s1 h, W_s2 h, W_s3 h, W_sn h, W_r0 h, W_r1 h, W_r2 h, W_rn h, g1, g2, g3]; done) | (simp (disch := omega) only [rf_some, qS_sB, qR_sB, qZ_sB, qI_sB0, qI_sB3, qI_sBn, pI_sB0, pI_sB3, pI_sBn, isWall_sB, exists_eq_left, Option.toList_some, Option.toList_none, List.cons_append, List.nil_append, if_true, if_false, qb_0, qb_q01, q01_1, q01_0, if_qb, if_qbn, if_qba, if_qbo, eq_self, true_or, or_true, and_self, true_and, and_true, not_true_eq_false, not_false_eq_true, vpi, ltI, eqI, eqI0, eqI4, nI_clamp, ite_not, vs_same, vs_ne, qrem_f, qabs_f, Nat.not_lt_zero, qS_bB, qR_bB, qZ_bB, qI_bB0, qI_bB, pI_bB0, pI_bB, isWall_bB, isItm_bB, isItm_sB, ltm, m1_lt, pk_mul, h, W_s h, W_s1 h, W_s2 h, W_s3 h, W_sn h, W_r0 h, W_r1 h, W_r2 h, W_rn h, g1, g2, g3]; omega)) only [e117, x117_0, x117_1, x117_4, x117_5, x117_6, x117_9, x117_10, x117_11, x117_12, rf_some, qS_sB, qR_sB, qZ_sB, qI_sB0, qI_sB3, qI_sBn, pI_sB0, pI_sB3, pI_sBn, isWall_sB, exists_eq_left, Option.toList_some, Option.toList_none, List.cons_append, List.nil_append, if_true, if_false, qb_0, qb_q01, q01_1, q01_0, if_qb, if_qbn, if_qba, if_qbo, eq_self, true_or, or_true, and_self, true_and, and_true, not_true_eq_false, not_false_eq_true, vpi, ltI, eqI, eqI0, eqI4, nI_clamp, ite_not, vs_same, vs_ne, qrem_f, qabs_f, Nat.not_lt_zero, qS_bB, qR_bB, qZ_bB, qI_bB0, qI_bB, pI_bB0, pI_bB, isWall_bB, isItm_bB, isItm_sB, ltm, m1_lt, pk_mul, h, W_s h, W_s1 h, W_s2 h, W_s3 h, W_sn h, W_r0 h, W_r1 h, W_r2 h, W_rn h, g1, S_clear, pI_sBx, hv']
end QRD
