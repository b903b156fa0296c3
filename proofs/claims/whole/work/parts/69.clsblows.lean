/-! ===== THE CLASS'S BLOWS ===== -/
section QCG
variable {d B R a b b' i n c k rw cl bl L s kp D N e q m f nd : Nat} {M M' : qM} {u v : qV} {o : qOut} {x y z : Int32} {p g g1 g2 dm lt w tt dp mo : Nat → Nat} {rg : Bool}
theorem days_dle (hn9 : n ≤ 9) (hi : i < n) : ∀ k (g : Nat → Nat), daysG mo cl bl b n k g (b + 19 + i) ≤ g (b + 19 + i) := by
  intro k
  induction k with
  | zero => intro g; exact Nat.le_refl _
  | succ k ih => intro g; exact Nat.le_trans (ih _) (goesG_dle hn9 hi)
/-- kept over k days: just when the loss of the deeper one leaves it firm -/
theorem ik_days (hn9 : n ≤ 9) (hi : i < n) : ∀ k (g1 g2 : Nat → Nat), SE 616 i e 3 g1 g2 → (ikL mo cl bl n i k g2 = true ↔ e + 3 ≤ daysG mo cl bl 616 n k g1 (616 + 19 + i)) := by
  intro k
  induction k with
  | zero =>
    intro g1 g2 h
    obtain ⟨q1, q2, q3⟩ := h
    show true = true ↔ e + 3 ≤ g1 (616 + 19 + i)
    exact ⟨fun _ => by omega, fun _ => rfl⟩
  | succ k ih =>
    intro g1 g2 h
    have hd := SE_day (mo := mo) (cl := cl) (bl := bl) hn9 hi h
    have e0 : ikL mo cl bl n i (k + 1) g2 = if 2 < (dayG mo cl bl 616 n g2).1 (635 + i) then ikL mo cl bl n i k (dayG mo cl bl 616 n g2).1 else false := rfl
    rw [e0]
    have e1 : daysG mo cl bl 616 n (k + 1) g1 (616 + 19 + i) = daysG mo cl bl 616 n k (dayG mo cl bl 616 n g1).1 (616 + 19 + i) := rfl
    rw [e1, show 635 + i = 616 + 19 + i by omega]
    by_cases c : 2 < (dayG mo cl bl 616 n g2).1 (616 + 19 + i)
    · rw [if_pos c]
      exact ih _ _ (hd.1 c)
    · rw [if_neg c]
      have h2 := hd.2 (by omega)
      have h3 := days_dle (mo := mo) (cl := cl) (bl := bl) (b := 616) hn9 hi k (dayG mo cl bl 616 n g1).1
      exact ⟨fun hh => (by cases hh), fun hh => by omega⟩
/-- what a nail loses -/
def losN (dm : Nat → Nat) (cl bl n N : Nat) (g : Nat → Nat) (i : Nat) : Nat := 1000 - daysG dm cl bl 616 n N (gs (cpG g 0 616 56) (635 + i) 1000) (635 + i)
theorem ik_los (hn9 : n ≤ 9) (hi : i < n) (hq : 3 ≤ q ∧ q ≤ 1000) : (ikG dm cl bl n N g i q = true) = (3 + losN dm cl bl n N g i ≤ q) := by
  have hs : SE 616 i (1000 - q) 3 (gs (cpG g 0 616 56) (635 + i) 1000) (gs (cpG g 0 616 56) (635 + i) q) := by
    refine ⟨fun k hk => ?_, ?_, ?_⟩
    · rw [gs_ne (by omega), gs_ne (by omega)]
    · rw [show 616 + 19 + i = 635 + i by omega, gs_same, gs_same]; omega
    · rw [show 616 + 19 + i = 635 + i by omega, gs_same]; exact hq.1
  have h1 := ik_days (mo := dm) (cl := cl) (bl := bl) hn9 hi N _ _ hs
  have h2 := days_dle (mo := dm) (cl := cl) (bl := bl) (b := 616) hn9 hi N (gs (cpG g 0 616 56) (635 + i) 1000)
  rw [show 616 + 19 + i = 635 + i by omega] at h1 h2
  rw [gs_same] at h2
  unfold ikG losN
  exact propext (h1.trans ⟨fun hh => by omega, fun hh => by omega⟩)
theorem bwG_congr {P Q : Nat → Bool} (hk : k ≤ 4) (hPQ : ∀ q, 2 < q → q ≤ 9 → P q = Q q) : ∀ f q m, q ≤ 9 → bwG P k f q m = bwG Q k f q m := by
  intro f
  induction f with
  | zero => intro q m _; rfl
  | succ f ih =>
    intro q m hq
    have hh : hmN k q ≤ 9 := by
      have := @cap_le k
      unfold hmN mx
      repeat' split
      all_goals omega
    unfold bwG
    by_cases c : 2 < q
    · rw [if_pos c, if_pos c, hPQ q c hq, ih _ _ hh]
    · rw [if_neg c, if_neg c]
theorem bw_all : ∀ k, k < 5 → ∀ q, q < 10 → 3 ≤ q → q ≤ cap k → ∀ nd, nd < 11 → bwG (fun q => decide (nd ≤ q)) k 6 q 0 = if nd ≤ q then 0 else if k = 3 ∨ cap k < nd then 6 else (nd - q + 1) / 2 := by decide +kernel
theorem bw_nd (hk : k ≤ 4) (hq : 3 ≤ q) (hc : q ≤ cap k) : bwG (fun q => decide (nd ≤ q)) k 6 q 0 = if nd ≤ q then 0 else if k = 3 ∨ cap k < nd then 6 else (nd - q + 1) / 2 := by
  have h9 := @cap_le k
  by_cases c : nd < 11
  · exact bw_all k (by omega) q (by omega) hq hc nd c
  · have h1 := bw_all k (by omega) q (by omega) hq hc 10 (by omega)
    rw [bwG_congr (Q := fun q => decide (10 ≤ q)) hk (fun q h2 h3 => decide_eq_decide.mpr (by omega)) 6 q 0 (by omega), h1, if_neg (by omega), if_pos (Or.inr (by omega)), if_neg (by omega), if_pos (Or.inr (by omega))]
/-- the blows that a nail needs -/
def blwN (dm : Nat → Nat) (cl bl n N : Nat) (g : Nat → Nat) (i : Nat) : Nat := if 3 + losN dm cl bl n N g i ≤ g (19 + i) then 0 else if g (1 + i) = 3 ∨ cap (g (1 + i)) < 3 + losN dm cl bl n N g i then 6 else (3 + losN dm cl bl n N g i - g (19 + i) + 1) / 2
theorem bw1_los (hn9 : n ≤ 9) (hi : i < n) (hk : g (1 + i) ≤ 4) (hc : g (19 + i) ≤ cap (g (1 + i))) : bw1 dm cl bl n N g i = if 3 ≤ g (19 + i) then blwN dm cl bl n N g i else 0 := by
  have h9 := @cap_le (g (1 + i))
  unfold bw1
  by_cases c : 3 ≤ g (19 + i)
  · rw [if_pos c, bwG_congr (Q := fun q => decide (3 + losN dm cl bl n N g i ≤ q)) hk (fun q h2 h3 => by
      have := ik_los (dm := dm) (cl := cl) (bl := bl) (N := N) (g := g) hn9 hi (q := q) ⟨h2, by omega⟩
      by_cases c2 : 3 + losN dm cl bl n N g i ≤ q
      · rw [decide_eq_true c2]; rw [this]; exact c2
      · rw [decide_eq_false c2]; exact Bool.eq_false_iff.mpr (fun hh => c2 (by rw [← this]; exact hh))) 6 _ 0 (by omega), bw_nd hk c hc]
    rfl
  · rw [if_neg c]
    unfold bwG
    rw [if_neg (by omega)]
theorem loop_loss (h : CS M B p) (hbl : 0 < bl ∧ bl ≤ 30) (hN : N ≤ 30) (l1 : Value) : ∀ (k i : Nat) (u : qV) (g : Nat → Nat), i + k = N → AQ u g 616 n rw cl bl dm → g (616 + 55) ≤ 80000 + i → ∃ u', AQ u' (daysG dm cl bl 616 n k g) 616 n rw cl bl dm ∧ ∀ (d : Nat) o, Rn (d + 5) 39 (27, [.ref B, l1, .int (nI N), .int (nI i)], [], 0, 0, sB M (B + 22) u) o = Rn (d + 5) 39 (53, [.ref B, l1, .int (nI N), .int (nI N)], [], 0, 0, sB M (B + 22) u') o := by
  obtain ⟨⟨n0, n1, n2, n3, n4, n5, n6, n7, n8, n9⟩, _, hI, hW, hA, hP, hK, hC, hM, hG, hpk, hpi⟩ := id h
  intro k
  induction k with
  | zero =>
    intro i u g hi q hd
    refine ⟨u, q, fun d o => ?_⟩
    rw [show i = N by omega]
    simp (disch := first | omega | (simp (disch := omega) only [rf_some, qS_sB, qR_sB, qZ_sB, qI_sB0, qI_sB3, qI_sBn, pI_sB0, pI_sB3, pI_sBn, isWall_sB, exists_eq_left, Option.toList_some, Option.toList_none, List.cons_append, List.nil_append, if_true, if_false, qb_0, qb_q01, q01_1, q01_0, if_qb, if_qbn, if_qba, if_qbo, eq_self, true_or, or_true, and_self, true_and, and_true, not_true_eq_false, not_false_eq_true, vpi, ltI, eqI, eqI0, eqI4, nI_clamp, ite_not, vs_same, vs_ne, qrem_f, qabs_f, Nat.not_lt_zero, qS_bB, qR_bB, qZ_bB, qI_bB0, qI_bB, pI_bB0, pI_bB, isWall_bB, isItm_bB, isItm_sB, ltm, m1_lt, pk_mul, n0, n1, n2, n3, n4, n5, n6, n7, n8, n9, hA, W_s hA, W_s1 hA, W_s2 hA, W_s3 hA, W_sn hA, W_r0 hA, W_r1 hA, W_r2 hA, W_rn hA]; done) | (simp (disch := omega) only [rf_some, qS_sB, qR_sB, qZ_sB, qI_sB0, qI_sB3, qI_sBn, pI_sB0, pI_sB3, pI_sBn, isWall_sB, exists_eq_left, Option.toList_some, Option.toList_none, List.cons_append, List.nil_append, if_true, if_false, qb_0, qb_q01, q01_1, q01_0, if_qb, if_qbn, if_qba, if_qbo, eq_self, true_or, or_true, and_self, true_and, and_true, not_true_eq_false, not_false_eq_true, vpi, ltI, eqI, eqI0, eqI4, nI_clamp, ite_not, vs_same, vs_ne, qrem_f, qabs_f, Nat.not_lt_zero, qS_bB, qR_bB, qZ_bB, qI_bB0, qI_bB, pI_bB0, pI_bB, isWall_bB, isItm_bB, isItm_sB, ltm, m1_lt, pk_mul, n0, n1, n2, n3, n4, n5, n6, n7, n8, n9, hA, W_s hA, W_s1 hA, W_s2 hA, W_s3 hA, W_sn hA, W_r0 hA, W_r1 hA, W_r2 hA, W_rn hA]; omega)) only [x39_27, x39_28, x39_29, rf_some, qS_sB, qR_sB, qZ_sB, qI_sB0, qI_sB3, qI_sBn, pI_sB0, pI_sB3, pI_sBn, isWall_sB, exists_eq_left, Option.toList_some, Option.toList_none, List.cons_append, List.nil_append, if_true, if_false, qb_0, qb_q01, q01_1, q01_0, if_qb, if_qbn, if_qba, if_qbo, eq_self, true_or, or_true, and_self, true_and, and_true, not_true_eq_false, not_false_eq_true, vpi, ltI, eqI, eqI0, eqI4, nI_clamp, ite_not, vs_same, vs_ne, qrem_f, qabs_f, Nat.not_lt_zero, n0, n1, n2, n3, n4, n5, n6, n7, n8, n9, Nat.lt_irrefl]
  | succ k ih =>
    intro i u g hi q hd
    have hr := fun {d : Nat} {o : qOut} => D_rings (d := d) (o := o) hA q hbl (by omega)
    have hp := fun {d : Nat} {o : qOut} => D_day (d := d) (o := o) hA q
    have h55 : (dayG dm cl bl 616 n g).1 (616 + 55) = g (616 + 55) + 1 := goesG_55 q.2.1
    obtain ⟨u', hq, hl⟩ := ih (i + 1) _ _ (by omega) (AQ_day q) (by rw [h55]; omega)
    refine ⟨u', hq, fun d o => ?_⟩
    rw [← hl, x39_27]
    simp (disch := first | omega | (simp (disch := omega) only [rf_some, qS_sB, qR_sB, qZ_sB, qI_sB0, qI_sB3, qI_sBn, pI_sB0, pI_sB3, pI_sBn, isWall_sB, exists_eq_left, Option.toList_some, Option.toList_none, List.cons_append, List.nil_append, if_true, if_false, qb_0, qb_q01, q01_1, q01_0, if_qb, if_qbn, if_qba, if_qbo, eq_self, true_or, or_true, and_self, true_and, and_true, not_true_eq_false, not_false_eq_true, vpi, ltI, eqI, eqI0, eqI4, nI_clamp, ite_not, vs_same, vs_ne, qrem_f, qabs_f, Nat.not_lt_zero, qS_bB, qR_bB, qZ_bB, qI_bB0, qI_bB, pI_bB0, pI_bB, isWall_bB, isItm_bB, isItm_sB, ltm, m1_lt, pk_mul, n0, n1, n2, n3, n4, n5, n6, n7, n8, n9, hA, W_s hA, W_s1 hA, W_s2 hA, W_s3 hA, W_sn hA, W_r0 hA, W_r1 hA, W_r2 hA, W_rn hA]; done) | (simp (disch := omega) only [rf_some, qS_sB, qR_sB, qZ_sB, qI_sB0, qI_sB3, qI_sBn, pI_sB0, pI_sB3, pI_sBn, isWall_sB, exists_eq_left, Option.toList_some, Option.toList_none, List.cons_append, List.nil_append, if_true, if_false, qb_0, qb_q01, q01_1, q01_0, if_qb, if_qbn, if_qba, if_qbo, eq_self, true_or, or_true, and_self, true_and, and_true, not_true_eq_false, not_false_eq_true, vpi, ltI, eqI, eqI0, eqI4, nI_clamp, ite_not, vs_same, vs_ne, qrem_f, qabs_f, Nat.not_lt_zero, qS_bB, qR_bB, qZ_bB, qI_bB0, qI_bB, pI_bB0, pI_bB, isWall_bB, isItm_bB, isItm_sB, ltm, m1_lt, pk_mul, n0, n1, n2, n3, n4, n5, n6, n7, n8, n9, hA, W_s hA, W_s1 hA, W_s2 hA, W_s3 hA, W_sn hA, W_r0 hA, W_r1 hA, W_r2 hA, W_rn hA]; omega)) only [x39_28, x39_29, x39_32, x39_33, x39_36, x39_37, x39_40, x39_43, x39_46, x39_46i, x39_47, x39_50, rf_some, qS_sB, qR_sB, qZ_sB, qI_sB0, qI_sB3, qI_sBn, pI_sB0, pI_sB3, pI_sBn, isWall_sB, exists_eq_left, Option.toList_some, Option.toList_none, List.cons_append, List.nil_append, if_true, if_false, qb_0, qb_q01, q01_1, q01_0, if_qb, if_qbn, if_qba, if_qbo, eq_self, true_or, or_true, and_self, true_and, and_true, not_true_eq_false, not_false_eq_true, vpi, ltI, eqI, eqI0, eqI4, nI_clamp, ite_not, vs_same, vs_ne, qrem_f, qabs_f, Nat.not_lt_zero, qS_bB, qR_bB, qZ_bB, qI_bB0, qI_bB, pI_bB0, pI_bB, isWall_bB, isItm_bB, isItm_sB, ltm, m1_lt, pk_mul, n0, n1, n2, n3, n4, n5, n6, n7, n8, n9, show i < N by omega, hr, hp, nI_add]
/-- the wall ahead with one nail that is firm made ever so deep -/
theorem AQ_deep (q0 : AQ u g 616 n rw cl bl dm) (hi : i < n) (hd : 0 < g (635 + i)) : AQ (vs u (4 + i) 3 (nI 1000)) (gs g (635 + i) 1000) 616 n rw cl bl dm := by
  obtain ⟨⟨⟨h1, h2, h3, h4, h5⟩, h6, h7, h8⟩, q2, q3, q4, q5⟩ := q0
  refine ⟨⟨⟨(vs_ne (by omega)).trans h1, (vs_ne (by omega)).trans h2, (vs_ne (by omega)).trans h3, ?_, (vs_ne (by omega)).trans h5⟩, (gs_ne (by omega)).trans h6, fun c hc => (vs_ne (by omega)).trans (h7 c hc), fun j hj => ?_⟩, q2, gs_GB q3 (fun j hj => by omega), fun j l hj hl => ?_, q5⟩
  · rw [vs_ne (by omega), gs_ne (by omega)]; exact h4
  · have := h8 j hj
    by_cases c : j = i
    · subst c
      rw [show 635 + j = 616 + 19 + j by omega]
      simp (disch := omega) only [vs_ne, vs_same, gs_ne, gs_same]
      exact ⟨this.1, this.2.1, this.2.2.1, trivial, this.2.2.2.2⟩
    · simp (disch := omega) only [vs_ne, gs_ne]
      exact this
  · have := q4 j l hj hl
    intro e1 e2 e3
    rw [gs_ne (by omega), gs_ne (by omega)] at e3
    refine this ?_ ?_ e3
    · by_cases c : j = i
      · rw [c, show 616 + 19 + i = 635 + i by omega]; exact hd
      · rw [gs_ne (by omega)] at e1; exact e1
    · by_cases c : l = i
      · rw [c, show 616 + 19 + i = 635 + i by omega]; exact hd
      · rw [gs_ne (by omega)] at e2; exact e2
theorem N_loss (h : CS M B p) (hd : CD M B p g rw cl bl dm a kp lt L s w tt dp D) (hD : D ≤ 80000) (hN : N ≤ 30) (hi : i < g 0) (h0 : 0 < g (19 + i)) : ∃ u', ∀ (d : Nat) o, Ev (d + 6) 39 [.ref B, .int (nI i), .int (nI N)] M o = (o = (some (.int (nI (losN dm cl bl (g 0) N g i))), sB M (B + 22) u')) := by
  have hb := hd.2.2.2.2.2.2
  obtain ⟨q, hq5⟩ := C_ah0 hd (blk M (B + 22))
  have hn9 := q.2.1
  have q1 := AQ_deep q hi (by rw [show 635 + i = 616 + (19 + i) by omega, cpG_hi (by omega)]; exact h0)
  obtain ⟨u', hq, hl⟩ := loop_loss h hb.2.2.1 hN (.int (nI i)) N 0 _ _ (Nat.zero_add N) q1 (by rw [gs_ne (by omega)]; omega)
  obtain ⟨⟨n0, n1, n2, n3, n4, n5, n6, n7, n8, n9⟩, _, hI, hW, hA, hP, hK, hC, hM, hG, hpk, hpi⟩ := id h
  have hsn := W_sn hA (show i < 9 by omega)
  have f3 := (hq.1.2.2.2 i hi).2.2.2.1
  rw [show 616 + 19 + i = 635 + i by omega] at f3
  have hle := days_dle (mo := dm) (cl := cl) (bl := bl) (b := 616) hn9 hi N (gs (cpG g 0 616 56) (635 + i) 1000)
  rw [show 616 + 19 + i = 635 + i by omega, gs_same] at hle
  refine ⟨u', fun d o => ?_⟩
  simp (disch := first | omega | (simp (disch := omega) only [rf_some, qS_sB, qR_sB, qZ_sB, qI_sB0, qI_sB3, qI_sBn, pI_sB0, pI_sB3, pI_sBn, isWall_sB, exists_eq_left, Option.toList_some, Option.toList_none, List.cons_append, List.nil_append, if_true, if_false, qb_0, qb_q01, q01_1, q01_0, if_qb, if_qbn, if_qba, if_qbo, eq_self, true_or, or_true, and_self, true_and, and_true, not_true_eq_false, not_false_eq_true, vpi, ltI, eqI, eqI0, eqI4, nI_clamp, ite_not, vs_same, vs_ne, qrem_f, qabs_f, Nat.not_lt_zero, qS_bB, qR_bB, qZ_bB, qI_bB0, qI_bB, pI_bB0, pI_bB, isWall_bB, isItm_bB, isItm_sB, ltm, m1_lt, pk_mul, n0, n1, n2, n3, n4, n5, n6, n7, n8, n9, hA, W_s hA, W_s1 hA, W_s2 hA, W_s3 hA, W_sn hA, W_r0 hA, W_r1 hA, W_r2 hA, W_rn hA]; done) | (simp (disch := omega) only [rf_some, qS_sB, qR_sB, qZ_sB, qI_sB0, qI_sB3, qI_sBn, pI_sB0, pI_sB3, pI_sBn, isWall_sB, exists_eq_left, Option.toList_some, Option.toList_none, List.cons_append, List.nil_append, if_true, if_false, qb_0, qb_q01, q01_1, q01_0, if_qb, if_qbn, if_qba, if_qbo, eq_self, true_or, or_true, and_self, true_and, and_true, not_true_eq_false, not_false_eq_true, vpi, ltI, eqI, eqI0, eqI4, nI_clamp, ite_not, vs_same, vs_ne, qrem_f, qabs_f, Nat.not_lt_zero, qS_bB, qR_bB, qZ_bB, qI_bB0, qI_bB, pI_bB0, pI_bB, isWall_bB, isItm_bB, isItm_sB, ltm, m1_lt, pk_mul, n0, n1, n2, n3, n4, n5, n6, n7, n8, n9, hA, W_s hA, W_s1 hA, W_s2 hA, W_s3 hA, W_sn hA, W_r0 hA, W_r1 hA, W_r2 hA, W_rn hA]; omega)) only [e39, x39_0, x39_1, x39_4, x39_5, x39_8, x39_11, x39_12, x39_15, x39_16, x39_19, x39_22, x39_25, x39_26, rf_some, qS_sB, qR_sB, qZ_sB, qI_sB0, qI_sB3, qI_sBn, pI_sB0, pI_sB3, pI_sBn, isWall_sB, exists_eq_left, Option.toList_some, Option.toList_none, List.cons_append, List.nil_append, if_true, if_false, qb_0, qb_q01, q01_1, q01_0, if_qb, if_qbn, if_qba, if_qbo, eq_self, true_or, or_true, and_self, true_and, and_true, not_true_eq_false, not_false_eq_true, vpi, ltI, eqI, eqI0, eqI4, nI_clamp, ite_not, vs_same, vs_ne, qrem_f, qabs_f, Nat.not_lt_zero, n0, n1, n2, n3, n4, n5, n6, n7, n8, n9, C_cp h hd, S_at, hsn, pI_sBn, show i < 9 by omega, hl]
  simp (disch := first | omega | (simp (disch := omega) only [rf_some, qS_sB, qR_sB, qZ_sB, qI_sB0, qI_sB3, qI_sBn, pI_sB0, pI_sB3, pI_sBn, isWall_sB, exists_eq_left, Option.toList_some, Option.toList_none, List.cons_append, List.nil_append, if_true, if_false, qb_0, qb_q01, q01_1, q01_0, if_qb, if_qbn, if_qba, if_qbo, eq_self, true_or, or_true, and_self, true_and, and_true, not_true_eq_false, not_false_eq_true, vpi, ltI, eqI, eqI0, eqI4, nI_clamp, ite_not, vs_same, vs_ne, qrem_f, qabs_f, Nat.not_lt_zero, qS_bB, qR_bB, qZ_bB, qI_bB0, qI_bB, pI_bB0, pI_bB, isWall_bB, isItm_bB, isItm_sB, ltm, m1_lt, pk_mul, n0, n1, n2, n3, n4, n5, n6, n7, n8, n9, hA, W_s hA, W_s1 hA, W_s2 hA, W_s3 hA, W_sn hA, W_r0 hA, W_r1 hA, W_r2 hA, W_rn hA]; done) | (simp (disch := omega) only [rf_some, qS_sB, qR_sB, qZ_sB, qI_sB0, qI_sB3, qI_sBn, pI_sB0, pI_sB3, pI_sBn, isWall_sB, exists_eq_left, Option.toList_some, Option.toList_none, List.cons_append, List.nil_append, if_true, if_false, qb_0, qb_q01, q01_1, q01_0, if_qb, if_qbn, if_qba, if_qbo, eq_self, true_or, or_true, and_self, true_and, and_true, not_true_eq_false, not_false_eq_true, vpi, ltI, eqI, eqI0, eqI4, nI_clamp, ite_not, vs_same, vs_ne, qrem_f, qabs_f, Nat.not_lt_zero, qS_bB, qR_bB, qZ_bB, qI_bB0, qI_bB, pI_bB0, pI_bB, isWall_bB, isItm_bB, isItm_sB, ltm, m1_lt, pk_mul, n0, n1, n2, n3, n4, n5, n6, n7, n8, n9, hA, W_s hA, W_s1 hA, W_s2 hA, W_s3 hA, W_sn hA, W_r0 hA, W_r1 hA, W_r2 hA, W_rn hA]; omega)) only [x39_53, x39_56, x39_57, x39_60, x39_61, x39_64, x39_67, x39_68, rf_some, qS_sB, qR_sB, qZ_sB, qI_sB0, qI_sB3, qI_sBn, pI_sB0, pI_sB3, pI_sBn, isWall_sB, exists_eq_left, Option.toList_some, Option.toList_none, List.cons_append, List.nil_append, if_true, if_false, qb_0, qb_q01, q01_1, q01_0, if_qb, if_qbn, if_qba, if_qbo, eq_self, true_or, or_true, and_self, true_and, and_true, not_true_eq_false, not_false_eq_true, vpi, ltI, eqI, eqI0, eqI4, nI_clamp, ite_not, vs_same, vs_ne, qrem_f, qabs_f, Nat.not_lt_zero, n0, n1, n2, n3, n4, n5, n6, n7, n8, n9, S_at, hsn, f3, pk_sub, losN]
theorem N_against (hW : isWall M a) (hr : RW (blk M a) g b n rw cl bl dm) (hn9 : n ≤ 9) (hg : GB g b) (hi : i < n) (hq : q ≤ 1000) : Ev (d + 3) 40 [.int (nI q), .ref (a + 4 + i)] M o = (o = (some (.int (opI (if 3 + q ≤ g (b + 19 + i) then some 0 else if g (b + 1 + i) = 3 ∨ cap (g (b + 1 + i)) < 3 + q then none else some ((3 + q - g (b + 19 + i) + 1) / 2)))), M)) := by
  have hsn := W_sn hW (show i < 9 by omega)
  obtain ⟨f0, f1, f2, f3, f4, f5, f6⟩ := hr.2.2.2 i hi
  have f0' := nblk f0
  have f3' := nblk f3
  have hgi := hg i (by omega)
  have hcp := @cap_le (g (b + 1 + i))
  have hde := fun {d : Nat} {o : qOut} => T_deepest (d := d) (o := o) hW hr hn9 hg hi
  by_cases c1 : 3 + q ≤ g (b + 19 + i)
  · rw [if_pos c1]
    simp (disch := first | omega | (simp (disch := omega) only [rf_some, qS_sB, qR_sB, qZ_sB, qI_sB0, qI_sB3, qI_sBn, pI_sB0, pI_sB3, pI_sBn, isWall_sB, exists_eq_left, Option.toList_some, Option.toList_none, List.cons_append, List.nil_append, if_true, if_false, qb_0, qb_q01, q01_1, q01_0, if_qb, if_qbn, if_qba, if_qbo, eq_self, true_or, or_true, and_self, true_and, and_true, not_true_eq_false, not_false_eq_true, vpi, ltI, eqI, eqI0, eqI4, nI_clamp, ite_not, vs_same, vs_ne, qrem_f, qabs_f, Nat.not_lt_zero, qS_bB, qR_bB, qZ_bB, qI_bB0, qI_bB, pI_bB0, pI_bB, isWall_bB, isItm_bB, isItm_sB, ltm, m1_lt, pk_mul, hsn]; done) | (simp (disch := omega) only [rf_some, qS_sB, qR_sB, qZ_sB, qI_sB0, qI_sB3, qI_sBn, pI_sB0, pI_sB3, pI_sBn, isWall_sB, exists_eq_left, Option.toList_some, Option.toList_none, List.cons_append, List.nil_append, if_true, if_false, qb_0, qb_q01, q01_1, q01_0, if_qb, if_qbn, if_qba, if_qbo, eq_self, true_or, or_true, and_self, true_and, and_true, not_true_eq_false, not_false_eq_true, vpi, ltI, eqI, eqI0, eqI4, nI_clamp, ite_not, vs_same, vs_ne, qrem_f, qabs_f, Nat.not_lt_zero, qS_bB, qR_bB, qZ_bB, qI_bB0, qI_bB, pI_bB0, pI_bB, isWall_bB, isItm_bB, isItm_sB, ltm, m1_lt, pk_mul, hsn]; omega)) only [e40, x40_0, x40_1, x40_2, x40_3, x40_4, x40_5, x40_8, x40_9, x40_12, x40_13, rf_some, qS_sB, qR_sB, qZ_sB, qI_sB0, qI_sB3, qI_sBn, pI_sB0, pI_sB3, pI_sBn, isWall_sB, exists_eq_left, Option.toList_some, Option.toList_none, List.cons_append, List.nil_append, if_true, if_false, qb_0, qb_q01, q01_1, q01_0, if_qb, if_qbn, if_qba, if_qbo, eq_self, true_or, or_true, and_self, true_and, and_true, not_true_eq_false, not_false_eq_true, vpi, ltI, eqI, eqI0, eqI4, nI_clamp, ite_not, vs_same, vs_ne, qrem_f, qabs_f, Nat.not_lt_zero, qS_bB, qR_bB, qZ_bB, qI_bB0, qI_bB, pI_bB0, pI_bB, isWall_bB, isItm_bB, isItm_sB, ltm, m1_lt, pk_mul, hsn, f3', nI_add, show ¬ g (b + 19 + i) < 3 + q by omega, opI]
  · rw [if_neg c1]
    by_cases c2 : g (b + 1 + i) = 3
    · rw [if_pos (Or.inl c2)]
      simp (disch := first | omega | (simp (disch := omega) only [rf_some, qS_sB, qR_sB, qZ_sB, qI_sB0, qI_sB3, qI_sBn, pI_sB0, pI_sB3, pI_sBn, isWall_sB, exists_eq_left, Option.toList_some, Option.toList_none, List.cons_append, List.nil_append, if_true, if_false, qb_0, qb_q01, q01_1, q01_0, if_qb, if_qbn, if_qba, if_qbo, eq_self, true_or, or_true, and_self, true_and, and_true, not_true_eq_false, not_false_eq_true, vpi, ltI, eqI, eqI0, eqI4, nI_clamp, ite_not, vs_same, vs_ne, qrem_f, qabs_f, Nat.not_lt_zero, qS_bB, qR_bB, qZ_bB, qI_bB0, qI_bB, pI_bB0, pI_bB, isWall_bB, isItm_bB, isItm_sB, ltm, m1_lt, pk_mul, hsn]; done) | (simp (disch := omega) only [rf_some, qS_sB, qR_sB, qZ_sB, qI_sB0, qI_sB3, qI_sBn, pI_sB0, pI_sB3, pI_sBn, isWall_sB, exists_eq_left, Option.toList_some, Option.toList_none, List.cons_append, List.nil_append, if_true, if_false, qb_0, qb_q01, q01_1, q01_0, if_qb, if_qbn, if_qba, if_qbo, eq_self, true_or, or_true, and_self, true_and, and_true, not_true_eq_false, not_false_eq_true, vpi, ltI, eqI, eqI0, eqI4, nI_clamp, ite_not, vs_same, vs_ne, qrem_f, qabs_f, Nat.not_lt_zero, qS_bB, qR_bB, qZ_bB, qI_bB0, qI_bB, pI_bB0, pI_bB, isWall_bB, isItm_bB, isItm_sB, ltm, m1_lt, pk_mul, hsn]; omega)) only [e40, x40_0, x40_1, x40_2, x40_3, x40_4, x40_5, x40_8, x40_9, x40_12, x40_13, x40_14, x40_15, x40_18, x40_19, x40_22, x40_23, x40_26, x40_27, x40_30, x40_32, rf_some, qS_sB, qR_sB, qZ_sB, qI_sB0, qI_sB3, qI_sBn, pI_sB0, pI_sB3, pI_sBn, isWall_sB, exists_eq_left, Option.toList_some, Option.toList_none, List.cons_append, List.nil_append, if_true, if_false, qb_0, qb_q01, q01_1, q01_0, if_qb, if_qbn, if_qba, if_qbo, eq_self, true_or, or_true, and_self, true_and, and_true, not_true_eq_false, not_false_eq_true, vpi, ltI, eqI, eqI0, eqI4, nI_clamp, ite_not, vs_same, vs_ne, qrem_f, qabs_f, Nat.not_lt_zero, qS_bB, qR_bB, qZ_bB, qI_bB0, qI_bB, pI_bB0, pI_bB, isWall_bB, isItm_bB, isItm_sB, ltm, m1_lt, pk_mul, hsn, f0', f3', nI_add, show g (b + 19 + i) < 3 + q by omega, eq_true c2, opI]
    · by_cases c3 : cap (g (b + 1 + i)) < 3 + q
      · rw [if_pos (Or.inr c3)]
        simp (disch := first | omega | (simp (disch := omega) only [rf_some, qS_sB, qR_sB, qZ_sB, qI_sB0, qI_sB3, qI_sBn, pI_sB0, pI_sB3, pI_sBn, isWall_sB, exists_eq_left, Option.toList_some, Option.toList_none, List.cons_append, List.nil_append, if_true, if_false, qb_0, qb_q01, q01_1, q01_0, if_qb, if_qbn, if_qba, if_qbo, eq_self, true_or, or_true, and_self, true_and, and_true, not_true_eq_false, not_false_eq_true, vpi, ltI, eqI, eqI0, eqI4, nI_clamp, ite_not, vs_same, vs_ne, qrem_f, qabs_f, Nat.not_lt_zero, qS_bB, qR_bB, qZ_bB, qI_bB0, qI_bB, pI_bB0, pI_bB, isWall_bB, isItm_bB, isItm_sB, ltm, m1_lt, pk_mul, hsn]; done) | (simp (disch := omega) only [rf_some, qS_sB, qR_sB, qZ_sB, qI_sB0, qI_sB3, qI_sBn, pI_sB0, pI_sB3, pI_sBn, isWall_sB, exists_eq_left, Option.toList_some, Option.toList_none, List.cons_append, List.nil_append, if_true, if_false, qb_0, qb_q01, q01_1, q01_0, if_qb, if_qbn, if_qba, if_qbo, eq_self, true_or, or_true, and_self, true_and, and_true, not_true_eq_false, not_false_eq_true, vpi, ltI, eqI, eqI0, eqI4, nI_clamp, ite_not, vs_same, vs_ne, qrem_f, qabs_f, Nat.not_lt_zero, qS_bB, qR_bB, qZ_bB, qI_bB0, qI_bB, pI_bB0, pI_bB, isWall_bB, isItm_bB, isItm_sB, ltm, m1_lt, pk_mul, hsn]; omega)) only [e40, x40_0, x40_1, x40_2, x40_3, x40_4, x40_5, x40_8, x40_9, x40_12, x40_13, x40_14, x40_15, x40_18, x40_19, x40_22, x40_23, x40_26, x40_27, x40_30, x40_32, rf_some, qS_sB, qR_sB, qZ_sB, qI_sB0, qI_sB3, qI_sBn, pI_sB0, pI_sB3, pI_sBn, isWall_sB, exists_eq_left, Option.toList_some, Option.toList_none, List.cons_append, List.nil_append, if_true, if_false, qb_0, qb_q01, q01_1, q01_0, if_qb, if_qbn, if_qba, if_qbo, eq_self, true_or, or_true, and_self, true_and, and_true, not_true_eq_false, not_false_eq_true, vpi, ltI, eqI, eqI0, eqI4, nI_clamp, ite_not, vs_same, vs_ne, qrem_f, qabs_f, Nat.not_lt_zero, qS_bB, qR_bB, qZ_bB, qI_bB0, qI_bB, pI_bB0, pI_bB, isWall_bB, isItm_bB, isItm_sB, ltm, m1_lt, pk_mul, hsn, f0', f3', nI_add, show g (b + 19 + i) < 3 + q by omega, eq_false c2, hde, c3, opI]
      · rw [if_neg (fun hh => hh.elim c2 c3)]
        have e1 : (3 + q - g (b + 19 + i) + 2 - 1) / 2 = (3 + q - g (b + 19 + i) + 1) / 2 := by omega
        simp (disch := first | omega | (simp (disch := omega) only [rf_some, qS_sB, qR_sB, qZ_sB, qI_sB0, qI_sB3, qI_sBn, pI_sB0, pI_sB3, pI_sBn, isWall_sB, exists_eq_left, Option.toList_some, Option.toList_none, List.cons_append, List.nil_append, if_true, if_false, qb_0, qb_q01, q01_1, q01_0, if_qb, if_qbn, if_qba, if_qbo, eq_self, true_or, or_true, and_self, true_and, and_true, not_true_eq_false, not_false_eq_true, vpi, ltI, eqI, eqI0, eqI4, nI_clamp, ite_not, vs_same, vs_ne, qrem_f, qabs_f, Nat.not_lt_zero, qS_bB, qR_bB, qZ_bB, qI_bB0, qI_bB, pI_bB0, pI_bB, isWall_bB, isItm_bB, isItm_sB, ltm, m1_lt, pk_mul, hsn]; done) | (simp (disch := omega) only [rf_some, qS_sB, qR_sB, qZ_sB, qI_sB0, qI_sB3, qI_sBn, pI_sB0, pI_sB3, pI_sBn, isWall_sB, exists_eq_left, Option.toList_some, Option.toList_none, List.cons_append, List.nil_append, if_true, if_false, qb_0, qb_q01, q01_1, q01_0, if_qb, if_qbn, if_qba, if_qbo, eq_self, true_or, or_true, and_self, true_and, and_true, not_true_eq_false, not_false_eq_true, vpi, ltI, eqI, eqI0, eqI4, nI_clamp, ite_not, vs_same, vs_ne, qrem_f, qabs_f, Nat.not_lt_zero, qS_bB, qR_bB, qZ_bB, qI_bB0, qI_bB, pI_bB0, pI_bB, isWall_bB, isItm_bB, isItm_sB, ltm, m1_lt, pk_mul, hsn]; omega)) only [e40, x40_0, x40_1, x40_2, x40_3, x40_4, x40_5, x40_8, x40_9, x40_12, x40_13, x40_14, x40_15, x40_18, x40_19, x40_22, x40_23, x40_26, x40_27, x40_30, x40_32, x40_33, x40_34, x40_35, x40_38, x40_39, x40_40, x40_41, x40_42, x40_43, x40_44, x40_45, rf_some, qS_sB, qR_sB, qZ_sB, qI_sB0, qI_sB3, qI_sBn, pI_sB0, pI_sB3, pI_sBn, isWall_sB, exists_eq_left, Option.toList_some, Option.toList_none, List.cons_append, List.nil_append, if_true, if_false, qb_0, qb_q01, q01_1, q01_0, if_qb, if_qbn, if_qba, if_qbo, eq_self, true_or, or_true, and_self, true_and, and_true, not_true_eq_false, not_false_eq_true, vpi, ltI, eqI, eqI0, eqI4, nI_clamp, ite_not, vs_same, vs_ne, qrem_f, qabs_f, Nat.not_lt_zero, qS_bB, qR_bB, qZ_bB, qI_bB0, qI_bB, pI_bB0, pI_bB, isWall_bB, isItm_bB, isItm_sB, ltm, m1_lt, pk_mul, hsn, f0', f3', nI_add, show g (b + 19 + i) < 3 + q by omega, eq_false c2, hde, c3, opI, pk_sub, pk_div, e1, show ¬ 2 = 0 by omega]
theorem N_blows_loop (h : CS M B p) (hd : CD M B p g rw cl bl dm a kp lt L s w tt dp D) (hD : D ≤ 80000) (hN : N ≤ 30) : ∀ (k i s' : Nat) (u : qV) (l4 : Value), i + k = g 0 → s' ≤ 6 * i → ∃ u', ∀ (d : Nat) o, Rn (d + 6) 18 (17, [.ref B, .int (nI N), .int (nI s'), .int (nI i), l4], [], 0, 0, sB M (B + 22) u) o = (o = (some (.int (opI (blG dm cl bl (g 0) N g k i s'))), sB M (B + 22) u')) := by
  obtain ⟨b1, b2, b3, b4, b5, b6⟩ := BK_n hd.1
  intro k
  induction k with
  | zero =>
    intro i s' u l4 hi hs
    obtain ⟨⟨n0, n1, n2, n3, n4, n5, n6, n7, n8, n9⟩, _, hI, hW, hA, hP, hK, hC, hM, hG, hpk, hpi⟩ := id h
    have w7 : qI M (B + 7) 7 = nI (g 0) := b1.1.2.2.2.2
    refine ⟨u, fun d o => ?_⟩
    rw [show i = g 0 by omega]
    simp (disch := first | omega | (simp (disch := omega) only [rf_some, qS_sB, qR_sB, qZ_sB, qI_sB0, qI_sB3, qI_sBn, pI_sB0, pI_sB3, pI_sBn, isWall_sB, exists_eq_left, Option.toList_some, Option.toList_none, List.cons_append, List.nil_append, if_true, if_false, qb_0, qb_q01, q01_1, q01_0, if_qb, if_qbn, if_qba, if_qbo, eq_self, true_or, or_true, and_self, true_and, and_true, not_true_eq_false, not_false_eq_true, vpi, ltI, eqI, eqI0, eqI4, nI_clamp, ite_not, vs_same, vs_ne, qrem_f, qabs_f, Nat.not_lt_zero, qS_bB, qR_bB, qZ_bB, qI_bB0, qI_bB, pI_bB0, pI_bB, isWall_bB, isItm_bB, isItm_sB, ltm, m1_lt, pk_mul, n0, n1, n2, n3, n4, n5, n6, n7, n8, n9, hW, W_s hW, W_s1 hW, W_s2 hW, W_s3 hW, W_sn hW, W_r0 hW, W_r1 hW, W_r2 hW, W_rn hW, qI_sBx]; done) | (simp (disch := omega) only [rf_some, qS_sB, qR_sB, qZ_sB, qI_sB0, qI_sB3, qI_sBn, pI_sB0, pI_sB3, pI_sBn, isWall_sB, exists_eq_left, Option.toList_some, Option.toList_none, List.cons_append, List.nil_append, if_true, if_false, qb_0, qb_q01, q01_1, q01_0, if_qb, if_qbn, if_qba, if_qbo, eq_self, true_or, or_true, and_self, true_and, and_true, not_true_eq_false, not_false_eq_true, vpi, ltI, eqI, eqI0, eqI4, nI_clamp, ite_not, vs_same, vs_ne, qrem_f, qabs_f, Nat.not_lt_zero, qS_bB, qR_bB, qZ_bB, qI_bB0, qI_bB, pI_bB0, pI_bB, isWall_bB, isItm_bB, isItm_sB, ltm, m1_lt, pk_mul, n0, n1, n2, n3, n4, n5, n6, n7, n8, n9, hW, W_s hW, W_s1 hW, W_s2 hW, W_s3 hW, W_sn hW, W_r0 hW, W_r1 hW, W_r2 hW, W_rn hW, qI_sBx]; omega)) only [x18_17, x18_18, x18_19, x18_22, x18_25, x18_83, x18_84, rf_some, qS_sB, qR_sB, qZ_sB, qI_sB0, qI_sB3, qI_sBn, pI_sB0, pI_sB3, pI_sBn, isWall_sB, exists_eq_left, Option.toList_some, Option.toList_none, List.cons_append, List.nil_append, if_true, if_false, qb_0, qb_q01, q01_1, q01_0, if_qb, if_qbn, if_qba, if_qbo, eq_self, true_or, or_true, and_self, true_and, and_true, not_true_eq_false, not_false_eq_true, vpi, ltI, eqI, eqI0, eqI4, nI_clamp, ite_not, vs_same, vs_ne, qrem_f, qabs_f, Nat.not_lt_zero, n0, n1, n2, n3, n4, n5, n6, n7, n8, n9, qI_sBx, w7, Nat.lt_irrefl, blG, opI]
  | succ k ih =>
    intro i s' u l4 hi hs
    have hi' : i < g 0 := by omega
    have hM1 := C_ah (u := u) h hd
    obtain ⟨h1, hd1, _⟩ := hM1
    obtain ⟨⟨n0, n1, n2, n3, n4, n5, n6, n7, n8, n9⟩, _, hI, hW, hA, hP, hK, hC, hM, hG, hpk, hpi⟩ := id h
    have hsn := W_sn hW (show i < 9 by omega)
    have hgi := b3 i (by omega)
    have hcp := b6 i hi'
    simp only [Nat.zero_add] at hgi hcp
    obtain ⟨f0, f1, f2, f3, f4, f5, f6⟩ := b1.2.2.2 i hi'
    simp only [Nat.zero_add] at f3
    have f3' := nblk f3
    have w7 : qI M (B + 7) 7 = nI (g 0) := b1.1.2.2.2.2
    have hbw := bw1_los (dm := dm) (cl := cl) (bl := bl) (N := N) b2 hi' hgi.1 hcp
    have e0 : blG dm cl bl (g 0) N g (k + 1) i s' = if bw1 dm cl bl (g 0) N g i = 6 then none else blG dm cl bl (g 0) N g k (i + 1) (s' + bw1 dm cl bl (g 0) N g i) := rfl
    by_cases c1 : 3 ≤ g (19 + i)
    · rw [if_pos c1] at hbw
      obtain ⟨u1, hls⟩ := N_loss h1 hd1 hD hN hi' (by omega)
      simp only [sB_sB] at hls
      have hr1 : RW (blk (sB M (B + 22) u1) (B + 7)) g 0 (g 0) rw cl bl dm := RW_cg b1 b2 (fun j k hj => qI_sBx (by omega))
      have hlos : losN dm cl bl (g 0) N g i ≤ 1000 := by unfold losN; omega
      have hag := fun {d : Nat} {o : qOut} => N_against (d := d) (o := o) (M := sB M (B + 22) u1) (a := B + 7) hW hr1 b2 b3 hi' hlos
      simp only [Nat.zero_add] at hag
      by_cases c2 : 3 + losN dm cl bl (g 0) N g i ≤ g (19 + i)
      · have hb0 : bw1 dm cl bl (g 0) N g i = 0 := by rw [hbw]; exact if_pos c2
        rw [hb0, if_neg (by omega)] at e0
        simp only [if_pos c2] at hag
        rw [show opI (some 0) = nI 0 from rfl] at hag
        obtain ⟨u', hl⟩ := ih (i + 1) (s' + 0) u1 (.int (nI 0)) (by omega) (by omega)
        refine ⟨u', fun d o => ?_⟩
        rw [e0, ← hl d o, x18_17]
        simp (disch := first | omega | (simp (disch := omega) only [rf_some, qS_sB, qR_sB, qZ_sB, qI_sB0, qI_sB3, qI_sBn, pI_sB0, pI_sB3, pI_sBn, isWall_sB, exists_eq_left, Option.toList_some, Option.toList_none, List.cons_append, List.nil_append, if_true, if_false, qb_0, qb_q01, q01_1, q01_0, if_qb, if_qbn, if_qba, if_qbo, eq_self, true_or, or_true, and_self, true_and, and_true, not_true_eq_false, not_false_eq_true, vpi, ltI, eqI, eqI0, eqI4, nI_clamp, ite_not, vs_same, vs_ne, qrem_f, qabs_f, Nat.not_lt_zero, qS_bB, qR_bB, qZ_bB, qI_bB0, qI_bB, pI_bB0, pI_bB, isWall_bB, isItm_bB, isItm_sB, ltm, m1_lt, pk_mul, n0, n1, n2, n3, n4, n5, n6, n7, n8, n9, hW, W_s hW, W_s1 hW, W_s2 hW, W_s3 hW, W_sn hW, W_r0 hW, W_r1 hW, W_r2 hW, W_rn hW, qI_sBx, hsn]; done) | (simp (disch := omega) only [rf_some, qS_sB, qR_sB, qZ_sB, qI_sB0, qI_sB3, qI_sBn, pI_sB0, pI_sB3, pI_sBn, isWall_sB, exists_eq_left, Option.toList_some, Option.toList_none, List.cons_append, List.nil_append, if_true, if_false, qb_0, qb_q01, q01_1, q01_0, if_qb, if_qbn, if_qba, if_qbo, eq_self, true_or, or_true, and_self, true_and, and_true, not_true_eq_false, not_false_eq_true, vpi, ltI, eqI, eqI0, eqI4, nI_clamp, ite_not, vs_same, vs_ne, qrem_f, qabs_f, Nat.not_lt_zero, qS_bB, qR_bB, qZ_bB, qI_bB0, qI_bB, pI_bB0, pI_bB, isWall_bB, isItm_bB, isItm_sB, ltm, m1_lt, pk_mul, n0, n1, n2, n3, n4, n5, n6, n7, n8, n9, hW, W_s hW, W_s1 hW, W_s2 hW, W_s3 hW, W_sn hW, W_r0 hW, W_r1 hW, W_r2 hW, W_rn hW, qI_sBx, hsn]; omega)) only [x18_18, x18_19, x18_22, x18_25, x18_28, x18_29, x18_32, x18_33, x18_36, x18_39, x18_40, x18_43, x18_44, x18_45, x18_46, x18_49, x18_50, x18_53, x18_54, x18_57, x18_60, x18_62, x18_64, x18_66, x18_69, x18_71, x18_72, x18_73, x18_75, x18_76, x18_77, x18_80, rf_some, qS_sB, qR_sB, qZ_sB, qI_sB0, qI_sB3, qI_sBn, pI_sB0, pI_sB3, pI_sBn, isWall_sB, exists_eq_left, Option.toList_some, Option.toList_none, List.cons_append, List.nil_append, if_true, if_false, qb_0, qb_q01, q01_1, q01_0, if_qb, if_qbn, if_qba, if_qbo, eq_self, true_or, or_true, and_self, true_and, and_true, not_true_eq_false, not_false_eq_true, vpi, ltI, eqI, eqI0, eqI4, nI_clamp, ite_not, vs_same, vs_ne, qrem_f, qabs_f, Nat.not_lt_zero, qS_bB, qR_bB, qZ_bB, qI_bB0, qI_bB, pI_bB0, pI_bB, isWall_bB, isItm_bB, isItm_sB, ltm, m1_lt, pk_mul, n0, n1, n2, n3, n4, n5, n6, n7, n8, n9, qI_sBx, w7, hi', S_at, hsn, f3', show ¬ g (19 + i) < 3 by omega, hls, hag, nI_add]
      · by_cases c3 : g (1 + i) = 3 ∨ cap (g (1 + i)) < 3 + losN dm cl bl (g 0) N g i
        · have hb0 : bw1 dm cl bl (g 0) N g i = 6 := by rw [hbw]; unfold blwN; rw [if_neg c2, if_pos c3]
          rw [hb0, if_pos rfl] at e0
          simp only [if_neg c2, if_pos c3] at hag
          rw [show opI none = -4 from rfl] at hag
          refine ⟨u1, fun d o => ?_⟩
          rw [e0, x18_17]
          simp (disch := first | omega | (simp (disch := omega) only [rf_some, qS_sB, qR_sB, qZ_sB, qI_sB0, qI_sB3, qI_sBn, pI_sB0, pI_sB3, pI_sBn, isWall_sB, exists_eq_left, Option.toList_some, Option.toList_none, List.cons_append, List.nil_append, if_true, if_false, qb_0, qb_q01, q01_1, q01_0, if_qb, if_qbn, if_qba, if_qbo, eq_self, true_or, or_true, and_self, true_and, and_true, not_true_eq_false, not_false_eq_true, vpi, ltI, eqI, eqI0, eqI4, nI_clamp, ite_not, vs_same, vs_ne, qrem_f, qabs_f, Nat.not_lt_zero, qS_bB, qR_bB, qZ_bB, qI_bB0, qI_bB, pI_bB0, pI_bB, isWall_bB, isItm_bB, isItm_sB, ltm, m1_lt, pk_mul, n0, n1, n2, n3, n4, n5, n6, n7, n8, n9, hW, W_s hW, W_s1 hW, W_s2 hW, W_s3 hW, W_sn hW, W_r0 hW, W_r1 hW, W_r2 hW, W_rn hW, qI_sBx, hsn]; done) | (simp (disch := omega) only [rf_some, qS_sB, qR_sB, qZ_sB, qI_sB0, qI_sB3, qI_sBn, pI_sB0, pI_sB3, pI_sBn, isWall_sB, exists_eq_left, Option.toList_some, Option.toList_none, List.cons_append, List.nil_append, if_true, if_false, qb_0, qb_q01, q01_1, q01_0, if_qb, if_qbn, if_qba, if_qbo, eq_self, true_or, or_true, and_self, true_and, and_true, not_true_eq_false, not_false_eq_true, vpi, ltI, eqI, eqI0, eqI4, nI_clamp, ite_not, vs_same, vs_ne, qrem_f, qabs_f, Nat.not_lt_zero, qS_bB, qR_bB, qZ_bB, qI_bB0, qI_bB, pI_bB0, pI_bB, isWall_bB, isItm_bB, isItm_sB, ltm, m1_lt, pk_mul, n0, n1, n2, n3, n4, n5, n6, n7, n8, n9, hW, W_s hW, W_s1 hW, W_s2 hW, W_s3 hW, W_sn hW, W_r0 hW, W_r1 hW, W_r2 hW, W_rn hW, qI_sBx, hsn]; omega)) only [x18_18, x18_19, x18_22, x18_25, x18_28, x18_29, x18_32, x18_33, x18_36, x18_39, x18_40, x18_43, x18_44, x18_45, x18_46, x18_49, x18_50, x18_53, x18_54, x18_57, x18_60, x18_62, x18_64, x18_66, x18_69, x18_71, rf_some, qS_sB, qR_sB, qZ_sB, qI_sB0, qI_sB3, qI_sBn, pI_sB0, pI_sB3, pI_sBn, isWall_sB, exists_eq_left, Option.toList_some, Option.toList_none, List.cons_append, List.nil_append, if_true, if_false, qb_0, qb_q01, q01_1, q01_0, if_qb, if_qbn, if_qba, if_qbo, eq_self, true_or, or_true, and_self, true_and, and_true, not_true_eq_false, not_false_eq_true, vpi, ltI, eqI, eqI0, eqI4, nI_clamp, ite_not, vs_same, vs_ne, qrem_f, qabs_f, Nat.not_lt_zero, qS_bB, qR_bB, qZ_bB, qI_bB0, qI_bB, pI_bB0, pI_bB, isWall_bB, isItm_bB, isItm_sB, ltm, m1_lt, pk_mul, n0, n1, n2, n3, n4, n5, n6, n7, n8, n9, qI_sBx, w7, hi', S_at, hsn, f3', show ¬ g (19 + i) < 3 by omega, hls, hag, opI]
        · have hb0 : bw1 dm cl bl (g 0) N g i = (3 + losN dm cl bl (g 0) N g i - g (19 + i) + 1) / 2 := by rw [hbw]; unfold blwN; rw [if_neg c2, if_neg c3]
          have hcap := @cap_le (g (1 + i))
          have hle : (3 + losN dm cl bl (g 0) N g i - g (19 + i) + 1) / 2 ≤ 3 := by omega
          rw [hb0, if_neg (by omega)] at e0
          simp only [if_neg c2, if_neg c3] at hag
          have e4 := eqI4 (c := (3 + losN dm cl bl (g 0) N g i - g (19 + i) + 1) / 2) (by omega)
          rw [show opI (some ((3 + losN dm cl bl (g 0) N g i - g (19 + i) + 1) / 2)) = nI ((3 + losN dm cl bl (g 0) N g i - g (19 + i) + 1) / 2) from rfl] at hag
          obtain ⟨u', hl⟩ := ih (i + 1) (s' + (3 + losN dm cl bl (g 0) N g i - g (19 + i) + 1) / 2) u1 (.int (nI ((3 + losN dm cl bl (g 0) N g i - g (19 + i) + 1) / 2))) (by omega) (by omega)
          refine ⟨u', fun d o => ?_⟩
          rw [e0, ← hl d o, x18_17]
          simp (disch := first | omega | (simp (disch := omega) only [rf_some, qS_sB, qR_sB, qZ_sB, qI_sB0, qI_sB3, qI_sBn, pI_sB0, pI_sB3, pI_sBn, isWall_sB, exists_eq_left, Option.toList_some, Option.toList_none, List.cons_append, List.nil_append, if_true, if_false, qb_0, qb_q01, q01_1, q01_0, if_qb, if_qbn, if_qba, if_qbo, eq_self, true_or, or_true, and_self, true_and, and_true, not_true_eq_false, not_false_eq_true, vpi, ltI, eqI, eqI0, eqI4, nI_clamp, ite_not, vs_same, vs_ne, qrem_f, qabs_f, Nat.not_lt_zero, qS_bB, qR_bB, qZ_bB, qI_bB0, qI_bB, pI_bB0, pI_bB, isWall_bB, isItm_bB, isItm_sB, ltm, m1_lt, pk_mul, n0, n1, n2, n3, n4, n5, n6, n7, n8, n9, hW, W_s hW, W_s1 hW, W_s2 hW, W_s3 hW, W_sn hW, W_r0 hW, W_r1 hW, W_r2 hW, W_rn hW, qI_sBx, hsn]; done) | (simp (disch := omega) only [rf_some, qS_sB, qR_sB, qZ_sB, qI_sB0, qI_sB3, qI_sBn, pI_sB0, pI_sB3, pI_sBn, isWall_sB, exists_eq_left, Option.toList_some, Option.toList_none, List.cons_append, List.nil_append, if_true, if_false, qb_0, qb_q01, q01_1, q01_0, if_qb, if_qbn, if_qba, if_qbo, eq_self, true_or, or_true, and_self, true_and, and_true, not_true_eq_false, not_false_eq_true, vpi, ltI, eqI, eqI0, eqI4, nI_clamp, ite_not, vs_same, vs_ne, qrem_f, qabs_f, Nat.not_lt_zero, qS_bB, qR_bB, qZ_bB, qI_bB0, qI_bB, pI_bB0, pI_bB, isWall_bB, isItm_bB, isItm_sB, ltm, m1_lt, pk_mul, n0, n1, n2, n3, n4, n5, n6, n7, n8, n9, hW, W_s hW, W_s1 hW, W_s2 hW, W_s3 hW, W_sn hW, W_r0 hW, W_r1 hW, W_r2 hW, W_rn hW, qI_sBx, hsn]; omega)) only [x18_18, x18_19, x18_22, x18_25, x18_28, x18_29, x18_32, x18_33, x18_36, x18_39, x18_40, x18_43, x18_44, x18_45, x18_46, x18_49, x18_50, x18_53, x18_54, x18_57, x18_60, x18_62, x18_64, x18_66, x18_69, x18_71, x18_72, x18_73, x18_75, x18_76, x18_77, x18_80, rf_some, qS_sB, qR_sB, qZ_sB, qI_sB0, qI_sB3, qI_sBn, pI_sB0, pI_sB3, pI_sBn, isWall_sB, exists_eq_left, Option.toList_some, Option.toList_none, List.cons_append, List.nil_append, if_true, if_false, qb_0, qb_q01, q01_1, q01_0, if_qb, if_qbn, if_qba, if_qbo, eq_self, true_or, or_true, and_self, true_and, and_true, not_true_eq_false, not_false_eq_true, vpi, ltI, eqI, eqI0, eqI4, nI_clamp, ite_not, vs_same, vs_ne, qrem_f, qabs_f, Nat.not_lt_zero, qS_bB, qR_bB, qZ_bB, qI_bB0, qI_bB, pI_bB0, pI_bB, isWall_bB, isItm_bB, isItm_sB, ltm, m1_lt, pk_mul, n0, n1, n2, n3, n4, n5, n6, n7, n8, n9, qI_sBx, w7, hi', S_at, hsn, f3', show ¬ g (19 + i) < 3 by omega, hls, hag, e4, nI_add]
    · rw [if_neg c1] at hbw
      rw [hbw, if_neg (by omega)] at e0
      obtain ⟨u', hl⟩ := ih (i + 1) (s' + 0) u l4 (by omega) (by omega)
      refine ⟨u', fun d o => ?_⟩
      rw [e0, ← hl d o, x18_17]
      simp (disch := first | omega | (simp (disch := omega) only [rf_some, qS_sB, qR_sB, qZ_sB, qI_sB0, qI_sB3, qI_sBn, pI_sB0, pI_sB3, pI_sBn, isWall_sB, exists_eq_left, Option.toList_some, Option.toList_none, List.cons_append, List.nil_append, if_true, if_false, qb_0, qb_q01, q01_1, q01_0, if_qb, if_qbn, if_qba, if_qbo, eq_self, true_or, or_true, and_self, true_and, and_true, not_true_eq_false, not_false_eq_true, vpi, ltI, eqI, eqI0, eqI4, nI_clamp, ite_not, vs_same, vs_ne, qrem_f, qabs_f, Nat.not_lt_zero, qS_bB, qR_bB, qZ_bB, qI_bB0, qI_bB, pI_bB0, pI_bB, isWall_bB, isItm_bB, isItm_sB, ltm, m1_lt, pk_mul, n0, n1, n2, n3, n4, n5, n6, n7, n8, n9, hW, W_s hW, W_s1 hW, W_s2 hW, W_s3 hW, W_sn hW, W_r0 hW, W_r1 hW, W_r2 hW, W_rn hW, qI_sBx, hsn]; done) | (simp (disch := omega) only [rf_some, qS_sB, qR_sB, qZ_sB, qI_sB0, qI_sB3, qI_sBn, pI_sB0, pI_sB3, pI_sBn, isWall_sB, exists_eq_left, Option.toList_some, Option.toList_none, List.cons_append, List.nil_append, if_true, if_false, qb_0, qb_q01, q01_1, q01_0, if_qb, if_qbn, if_qba, if_qbo, eq_self, true_or, or_true, and_self, true_and, and_true, not_true_eq_false, not_false_eq_true, vpi, ltI, eqI, eqI0, eqI4, nI_clamp, ite_not, vs_same, vs_ne, qrem_f, qabs_f, Nat.not_lt_zero, qS_bB, qR_bB, qZ_bB, qI_bB0, qI_bB, pI_bB0, pI_bB, isWall_bB, isItm_bB, isItm_sB, ltm, m1_lt, pk_mul, n0, n1, n2, n3, n4, n5, n6, n7, n8, n9, hW, W_s hW, W_s1 hW, W_s2 hW, W_s3 hW, W_sn hW, W_r0 hW, W_r1 hW, W_r2 hW, W_rn hW, qI_sBx, hsn]; omega)) only [x18_18, x18_19, x18_22, x18_25, x18_28, x18_29, x18_32, x18_33, x18_36, x18_39, x18_40, x18_77, x18_80, rf_some, qS_sB, qR_sB, qZ_sB, qI_sB0, qI_sB3, qI_sBn, pI_sB0, pI_sB3, pI_sBn, isWall_sB, exists_eq_left, Option.toList_some, Option.toList_none, List.cons_append, List.nil_append, if_true, if_false, qb_0, qb_q01, q01_1, q01_0, if_qb, if_qbn, if_qba, if_qbo, eq_self, true_or, or_true, and_self, true_and, and_true, not_true_eq_false, not_false_eq_true, vpi, ltI, eqI, eqI0, eqI4, nI_clamp, ite_not, vs_same, vs_ne, qrem_f, qabs_f, Nat.not_lt_zero, qS_bB, qR_bB, qZ_bB, qI_bB0, qI_bB, pI_bB0, pI_bB, isWall_bB, isItm_bB, isItm_sB, ltm, m1_lt, pk_mul, n0, n1, n2, n3, n4, n5, n6, n7, n8, n9, qI_sBx, w7, hi', S_at, hsn, f3', show g (19 + i) < 3 by omega, nI_add]
      rfl
theorem N_blows_bad (h : CS M B p) (hx : ¬ ((1 : Int) ≤ x.toInt ∧ x.toInt ≤ 30)) : Ev (d + 7) 18 [.ref B, .int x] M o = (o = (some (.int (-1)), M)) := by
  rcases rg_bad (k := 1) (m := 30) (by omega) (by omega) hx with c | ⟨c, c2⟩
  · simp (disch := omega) only [e18, x18_0, x18_1, x18_2, x18_5, x18_6, x18_8, x18_11, x18_12, c, if_true]
  · simp (disch := omega) only [e18, x18_0, x18_1, x18_2, x18_5, x18_6, x18_8, x18_11, x18_12, c, c2, if_true, if_false]
theorem N_blows_ok (h : CS M B p) (hd : CD M B p g rw cl bl dm a kp lt L s w tt dp D) (hD : D ≤ 80000) (hN : 1 ≤ N ∧ N ≤ 30) : ∃ M', CS M' B p ∧ CD M' B p g rw cl bl dm a kp lt L s w tt dp D ∧ smo B M M' ∧ ∀ (d : Nat) o, Ev (d + 7) 18 [.ref B, .int (nI N)] M o = (o = (some (.int (opI (blG dm cl bl (g 0) N g (g 0) 0 0))), M')) := by
  obtain ⟨u', hl⟩ := N_blows_loop h hd hD hN.2 (g 0) 0 0 (blk M (B + 22)) .null (Nat.zero_add _) (by omega)
  rw [sB_blk] at hl
  refine ⟨sB M (B + 22) u', (C_ah h hd).1, (C_ah h hd).2.1, (C_ah h hd).2.2, fun d o => ?_⟩
  simp (disch := omega) only [e18, x18_0, x18_1, x18_2, x18_5, x18_6, x18_8, x18_11, x18_12, x18_13, x18_14, x18_15, x18_16, rf_some, qS_sB, qR_sB, qZ_sB, qI_sB0, qI_sB3, qI_sBn, pI_sB0, pI_sB3, pI_sBn, isWall_sB, exists_eq_left, Option.toList_some, Option.toList_none, List.cons_append, List.nil_append, if_true, if_false, qb_0, qb_q01, q01_1, q01_0, if_qb, if_qbn, if_qba, if_qbo, eq_self, true_or, or_true, and_self, true_and, and_true, not_true_eq_false, not_false_eq_true, vpi, ltI, eqI, eqI0, eqI4, nI_clamp, ite_not, vs_same, vs_ne, qrem_f, qabs_f, Nat.not_lt_zero, show ¬ N < 1 by omega, show ¬ 30 < N by omega, hl]
end QCG
