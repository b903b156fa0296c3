/-! ===== WHETHER ALL COMES AS MEASURED ===== -/
section QKD
variable {d B R a b b' i n c k rw cl bl L s kp D N e q m t : Nat} {M M' : qM} {u v : qV} {o : qOut} {x y z ch : Int32} {p g g1 g2 dm lt w tt dp mo : Nat → Nat} {rg is : Bool}
/-- what is measured of day t is so -/
def OKt (ch : Int32) (w tt dp : Nat → Nat) (s t : Nat) (g : Nat → Nat) : Prop := ∀ q, q < s → hasI ch (nI (w q)) = nI 1 → tt q = t → g (635 + w q) = dp q
def OKd (ch : Int32) (w tt dp : Nat → Nat) (s : Nat) (mo : Nat → Nat) (cl bl n : Nat) : Nat → Nat → (Nat → Nat) → Prop
  | 0, _, _ => True
  | k + 1, t, g => OKt ch w tt dp s t (dayG mo cl bl 616 n g).1 ∧ OKd ch w tt dp s mo cl bl n k (t + 1) (dayG mo cl bl 616 n g).1
theorem soF_ok : ∀ k q is, q + k = s → (lp (soF ch w tt dp t g) k q is = true ↔ is = true ∧ ∀ j, q ≤ j → j < s → hasI ch (nI (w j)) = nI 1 → tt j = t → g (635 + w j) = dp j) := by
  intro k
  induction k with
  | zero =>
    intro q is hq
    exact ⟨fun h => ⟨h, fun j h1 h2 => by omega⟩, fun h => h.1⟩
  | succ k ih =>
    intro q is hq
    have e : lp (soF ch w tt dp t g) (k + 1) q is = lp (soF ch w tt dp t g) k (q + 1) (soF ch w tt dp t g q is) := rfl
    rw [e, ih (q + 1) _ (by omega)]
    have hs : soF ch w tt dp t g q is = true ↔ is = true ∧ (hasI ch (nI (w q)) = nI 1 → tt q = t → g (635 + w q) = dp q) := by
      unfold soF
      rw [Bool.and_eq_true, Bool.or_eq_true, Bool.or_eq_true, decide_eq_true_iff, decide_eq_true_iff, decide_eq_true_iff]
      refine ⟨fun h => ⟨h.1, fun h1 h2 => ?_⟩, fun h => ⟨h.1, ?_⟩⟩
      · rcases h.2 with (h3 | h3) | h3
        · exact absurd h2 h3
        · exact absurd h1 h3
        · exact h3
      · by_cases h1 : tt q = t
        · by_cases h2 : hasI ch (nI (w q)) = nI 1
          · exact Or.inr (h.2 h2 h1)
          · exact Or.inl (Or.inr h2)
        · exact Or.inl (Or.inl h1)
    rw [hs]
    refine ⟨fun h => ⟨h.1.1, fun j h1 h2 h3 h4 => ?_⟩, fun h => ⟨⟨h.1, fun h3 h4 => h.2 q (Nat.le_refl q) (by omega) h3 h4⟩, fun j h1 h2 => h.2 j (by omega) h2⟩⟩
    by_cases c : j = q
    · rw [c] at h3 h4 ⊢; exact h.1.2 h3 h4
    · exact h.2 j (by omega) h2 h3 h4
theorem soG_ok : ∀ k t g is, (soG ch w tt dp s mo cl bl n k t g is = true ↔ is = true ∧ OKd ch w tt dp s mo cl bl n k t g) := by
  intro k
  induction k with
  | zero => intro t g is; exact ⟨fun h => ⟨h, trivial⟩, fun h => h.1⟩
  | succ k ih =>
    intro t g is
    have e : soG ch w tt dp s mo cl bl n (k + 1) t g is = soG ch w tt dp s mo cl bl n k (t + 1) (dayG mo cl bl 616 n g).1 (lp (soF ch w tt dp t (dayG mo cl bl 616 n g).1) s 0 is) := rfl
    rw [e, ih, soF_ok s 0 is (Nat.zero_add s)]
    exact ⟨fun h => ⟨h.1.1, fun q hq => h.1.2 q (Nat.zero_le q) hq, h.2⟩, fun h => ⟨⟨h.1, fun q _ hq => h.2.1 q hq⟩, h.2.2⟩⟩
theorem OKd_more (hL : ∀ q, q < s → hasI ch (nI (w q)) = nI 1 → tt q ≤ L) : ∀ k t g, L < t → OKd ch w tt dp s mo cl bl n k t g := by
  intro k
  induction k with
  | zero => intro t g _; trivial
  | succ k ih => intro t g ht; exact ⟨fun q h1 h2 h3 => by have := hL q h1 h2; omega, ih (t + 1) _ (by omega)⟩
theorem OKd_add (hL : ∀ q, q < s → hasI ch (nI (w q)) = nI 1 → tt q ≤ L) : ∀ k m t g, L < t + k → (OKd ch w tt dp s mo cl bl n (k + m) t g ↔ OKd ch w tt dp s mo cl bl n k t g) := by
  intro k
  induction k with
  | zero =>
    intro m t g ht
    exact ⟨fun _ => trivial, fun _ => by rw [Nat.zero_add]; exact OKd_more hL m t g (by omega)⟩
  | succ k ih =>
    intro m t g ht
    rw [show k + 1 + m = (k + m) + 1 by omega]
    exact and_congr Iff.rfl (ih m (t + 1) _ (by omega))
theorem me_last_max (hn : ∀ q, q < s → tt q ≤ 30) : (∀ q, q < s → hasI ch (nI (w q)) = nI 1 → tt q ≤ me_last ch w tt s 0 0) ∧ me_last ch w tt s 0 0 ≤ 30 := by
  have := lp_ind (P := fun k z => (∀ q, q < k → hasI ch (nI (w q)) = nI 1 → tt q ≤ z) ∧ z ≤ 30) (f := fun i z => if hasI ch (nI (w i)) = nI 0 then z else if z < tt i then tt i else z) (n := s) (fun i z hi hz => by
    by_cases c : hasI ch (nI (w i)) = nI 0
    · rw [if_pos c]
      refine ⟨fun q hq h1 => ?_, hz.2⟩
      by_cases e : q = i
      · rw [e, c] at h1; exact absurd h1 (by decide)
      · exact hz.1 q (by omega) h1
    · rw [if_neg c]
      have hti := hn i hi
      by_cases c2 : z < tt i
      · rw [if_pos c2]
        refine ⟨fun q hq h1 => ?_, hti⟩
        by_cases e : q = i
        · rw [e]; exact Nat.le_refl _
        · have := hz.1 q (by omega) h1; omega
      · rw [if_neg c2]
        refine ⟨fun q hq h1 => ?_, hz.2⟩
        by_cases e : q = i
        · rw [e]; omega
        · exact hz.1 q (by omega) h1) s 0 0 (by omega) ⟨fun q hq => by omega, by omega⟩
  exact this
theorem holds_ok (q0 : AQ u g 616 n rw cl bl dm) (hs : ∀ q, q < s → w q < 9 ∧ dp q ≤ 9) (hc : ∀ j, j < 9 → hasI ch (nI j) = nI 1 → j < n) : me_holds u t ch w tt dp s 0 = true ↔ OKt ch w tt dp s t g := by
  have hd : ∀ q, q < s → hasI ch (nI (w q)) = nI 1 → (u (4 + w q) 3 = nI (dp q) ↔ g (635 + w q) = dp q) := fun q hq h1 => by
    have hw := hs q hq
    have hn := hc (w q) hw.1 h1
    have f3 := (q0.1.2.2.2 (w q) hn).2.2.2.1
    have hg := (q0.2.2.1 (w q) (by have := q0.2.1; omega)).2.2.1
    rw [show 616 + 19 + w q = 635 + w q by omega] at f3 hg
    rw [f3, nI_eq (by omega) (by omega)]
  unfold me_holds
  constructor
  · intro h q hq h1 h2
    have hf := fnd_none s 0 (Option.isNone_iff_eq_none.mp h) q (by omega) (by omega)
    refine Classical.byContradiction fun h3 => ?_
    rw [decide_eq_true (show ¬ hasI ch (nI (w q)) = nI 0 ∧ tt q = t ∧ ¬ u (4 + w q) 3 = nI (dp q) from ⟨by rw [hasI_n0]; exact h1, h2, fun h4 => h3 ((hd q hq h1).mp h4)⟩)] at hf
    cases hf
  · intro h
    refine Option.isNone_iff_eq_none.mpr ?_
    cases hf : fnd (fun i => decide (¬ hasI ch (nI (w i)) = nI 0 ∧ tt i = t ∧ ¬ u (4 + w i) 3 = nI (dp i))) s 0 with
    | none => rfl
    | some q =>
      obtain ⟨_, hq, hp⟩ := fnd_in hf
      obtain ⟨h1, h2, h3⟩ := of_decide_eq_true hp
      rw [hasI_n0] at h1
      exact absurd ((hd q (by omega) h1).mpr (h q (by omega) h1 h2)) h3
theorem hasMe_sB (hm : hasMe M (B + 275) s w tt dp) : hasMe (sB M (B + 22) u) (B + 275) s w tt dp := by
  obtain ⟨m1, m2, m3⟩ := hm
  refine ⟨(qI_sBx (by omega)).trans m1, m2, fun i hi => ?_⟩
  rw [qI_sBx (by omega), qI_sBx (by omega), qI_sBx (by omega)]
  exact m3 i hi
noncomputable def coB (ch : Int32) (w tt dp : Nat → Nat) (s : Nat) (mo : Nat → Nat) (cl bl n k t : Nat) (g : Nat → Nat) : Bool := @decide (OKd ch w tt dp s mo cl bl n k t g) (Classical.propDecidable _)
theorem N_comes_loop {l2 : Nat} (h : CS M B p) (hm : hasMe M (B + 275) s w tt dp) (hbl : 0 < bl ∧ bl ≤ 30) (hL : l2 ≤ 30) (hc : ∀ j, j < 9 → hasI ch (nI j) = nI 1 → j < n) : ∀ (k t : Nat) (u : qV) (g : Nat → Nat), t + k = l2 + 1 → AQ u g 616 n rw cl bl dm → g (616 + 55) ≤ 80000 + t → ∃ u', ∀ (d : Nat) o, Rn (d + 5) 41 (11, [.ref B, .int ch, .int (nI l2), .int (nI t)], [], 0, 0, sB M (B + 22) u) o = (o = (some (.int (qb (coB ch w tt dp s dm cl bl n k t g = true))), sB M (B + 22) u')) := by
  obtain ⟨⟨n0, n1, n2, n3, n4, n5, n6, n7, n8, n9⟩, _, hI, hW, hA, hP, hK, hC, hM, hG, hpk, hpi⟩ := id h
  have hMs := hM.1
  obtain ⟨m1, m2, m3⟩ := id hm
  intro k
  induction k with
  | zero =>
    intro t u g ht q hd
    refine ⟨u, fun d o => ?_⟩
    have e : coB ch w tt dp s dm cl bl n 0 t g = true := @decide_eq_true _ (Classical.propDecidable _) trivial
    rw [e]
    simp (disch := first | omega | (simp (disch := omega) only [rf_some, qS_sB, qR_sB, qZ_sB, qI_sB0, qI_sB3, qI_sBn, pI_sB0, pI_sB3, pI_sBn, isWall_sB, exists_eq_left, Option.toList_some, Option.toList_none, List.cons_append, List.nil_append, if_true, if_false, qb_0, qb_q01, q01_1, q01_0, if_qb, if_qbn, if_qba, if_qbo, eq_self, true_or, or_true, and_self, true_and, and_true, not_true_eq_false, not_false_eq_true, vpi, ltI, eqI, eqI0, eqI4, nI_clamp, ite_not, vs_same, vs_ne, qrem_f, qabs_f, Nat.not_lt_zero, qS_bB, qR_bB, qZ_bB, qI_bB0, qI_bB, pI_bB0, pI_bB, isWall_bB, isItm_bB, isItm_sB, ltm, m1_lt, pk_mul, n0, n1, n2, n3, n4, n5, n6, n7, n8, n9, hA, W_s hA, W_s1 hA, W_s2 hA, W_s3 hA, W_sn hA, W_r0 hA, W_r1 hA, W_r2 hA, W_rn hA]; done) | (simp (disch := omega) only [rf_some, qS_sB, qR_sB, qZ_sB, qI_sB0, qI_sB3, qI_sBn, pI_sB0, pI_sB3, pI_sBn, isWall_sB, exists_eq_left, Option.toList_some, Option.toList_none, List.cons_append, List.nil_append, if_true, if_false, qb_0, qb_q01, q01_1, q01_0, if_qb, if_qbn, if_qba, if_qbo, eq_self, true_or, or_true, and_self, true_and, and_true, not_true_eq_false, not_false_eq_true, vpi, ltI, eqI, eqI0, eqI4, nI_clamp, ite_not, vs_same, vs_ne, qrem_f, qabs_f, Nat.not_lt_zero, qS_bB, qR_bB, qZ_bB, qI_bB0, qI_bB, pI_bB0, pI_bB, isWall_bB, isItm_bB, isItm_sB, ltm, m1_lt, pk_mul, n0, n1, n2, n3, n4, n5, n6, n7, n8, n9, hA, W_s hA, W_s1 hA, W_s2 hA, W_s3 hA, W_sn hA, W_r0 hA, W_r1 hA, W_r2 hA, W_rn hA]; omega)) only [x41_11, x41_12, x41_13, x41_55, x41_56, rf_some, qS_sB, qR_sB, qZ_sB, qI_sB0, qI_sB3, qI_sBn, pI_sB0, pI_sB3, pI_sBn, isWall_sB, exists_eq_left, Option.toList_some, Option.toList_none, List.cons_append, List.nil_append, if_true, if_false, qb_0, qb_q01, q01_1, q01_0, if_qb, if_qbn, if_qba, if_qbo, eq_self, true_or, or_true, and_self, true_and, and_true, not_true_eq_false, not_false_eq_true, vpi, ltI, eqI, eqI0, eqI4, nI_clamp, ite_not, vs_same, vs_ne, qrem_f, qabs_f, Nat.not_lt_zero, n0, n1, n2, n3, n4, n5, n6, n7, n8, n9, show l2 < t by omega]
    rfl
  | succ k ih =>
    intro t u g ht q hd
    have hr := fun {d : Nat} {o : qOut} => D_rings (d := d) (o := o) hA q hbl (by omega)
    have hp := fun {d : Nat} {o : qOut} => D_day (d := d) (o := o) hA q
    have h55 : (dayG dm cl bl 616 n g).1 (616 + 55) = g (616 + 55) + 1 := goesG_55 q.2.1
    have q' := AQ_day (bl := bl) q
    have hh := fun {d : Nat} {o : qOut} => S_me_holds (d := d) (o := o) (u := (w_pass u n (ringG 616 bl g = true)).1) (dy := t) (ch := ch) hM hm hA (by omega) (by omega)
    have hok := holds_ok (t := t) (tt := tt) (ch := ch) q' (fun q hq => ⟨(m3 q hq).2.2.2.1, (m3 q hq).2.2.2.2.2⟩) hc
    by_cases c : OKt ch w tt dp s t (dayG dm cl bl 616 n g).1
    · obtain ⟨u', hl⟩ := ih (t + 1) _ _ (by omega) q' (by rw [h55]; omega)
      refine ⟨u', fun d o => ?_⟩
      have e : coB ch w tt dp s dm cl bl n (k + 1) t g = coB ch w tt dp s dm cl bl n k (t + 1) (dayG dm cl bl 616 n g).1 := by
        unfold coB
        exact @decide_eq_decide _ _ (Classical.propDecidable _) (Classical.propDecidable _) |>.mpr ⟨fun hh => hh.2, fun hh => ⟨c, hh⟩⟩
      have e1 : qb (me_holds (w_pass u n (ringG 616 bl g = true)).1 t ch w tt dp s 0 = true) = nI 1 := if_pos (hok.mpr c)
      rw [e1] at hh
      rw [e, x41_11]
      simp (disch := first | omega | (simp (disch := omega) only [rf_some, qS_sB, qR_sB, qZ_sB, qI_sB0, qI_sB3, qI_sBn, pI_sB0, pI_sB3, pI_sBn, isWall_sB, exists_eq_left, Option.toList_some, Option.toList_none, List.cons_append, List.nil_append, if_true, if_false, qb_0, qb_q01, q01_1, q01_0, if_qb, if_qbn, if_qba, if_qbo, eq_self, true_or, or_true, and_self, true_and, and_true, not_true_eq_false, not_false_eq_true, vpi, ltI, eqI, eqI0, eqI4, nI_clamp, ite_not, vs_same, vs_ne, qrem_f, qabs_f, Nat.not_lt_zero, qS_bB, qR_bB, qZ_bB, qI_bB0, qI_bB, pI_bB0, pI_bB, isWall_bB, isItm_bB, isItm_sB, ltm, m1_lt, pk_mul, n0, n1, n2, n3, n4, n5, n6, n7, n8, n9, hA, W_s hA, W_s1 hA, W_s2 hA, W_s3 hA, W_sn hA, W_r0 hA, W_r1 hA, W_r2 hA, W_rn hA, hMs]; done) | (simp (disch := omega) only [rf_some, qS_sB, qR_sB, qZ_sB, qI_sB0, qI_sB3, qI_sBn, pI_sB0, pI_sB3, pI_sBn, isWall_sB, exists_eq_left, Option.toList_some, Option.toList_none, List.cons_append, List.nil_append, if_true, if_false, qb_0, qb_q01, q01_1, q01_0, if_qb, if_qbn, if_qba, if_qbo, eq_self, true_or, or_true, and_self, true_and, and_true, not_true_eq_false, not_false_eq_true, vpi, ltI, eqI, eqI0, eqI4, nI_clamp, ite_not, vs_same, vs_ne, qrem_f, qabs_f, Nat.not_lt_zero, qS_bB, qR_bB, qZ_bB, qI_bB0, qI_bB, pI_bB0, pI_bB, isWall_bB, isItm_bB, isItm_sB, ltm, m1_lt, pk_mul, n0, n1, n2, n3, n4, n5, n6, n7, n8, n9, hA, W_s hA, W_s1 hA, W_s2 hA, W_s3 hA, W_sn hA, W_r0 hA, W_r1 hA, W_r2 hA, W_rn hA, hMs]; omega)) only [x41_12, x41_13, x41_16, x41_17, x41_20, x41_21, x41_24, x41_27, x41_30, x41_30i, x41_31, x41_32, x41_35, x41_36, x41_37, x41_38, x41_41, x41_44, x41_47, x41_48, x41_49, x41_52, rf_some, qS_sB, qR_sB, qZ_sB, qI_sB0, qI_sB3, qI_sBn, pI_sB0, pI_sB3, pI_sBn, isWall_sB, exists_eq_left, Option.toList_some, Option.toList_none, List.cons_append, List.nil_append, if_true, if_false, qb_0, qb_q01, q01_1, q01_0, if_qb, if_qbn, if_qba, if_qbo, eq_self, true_or, or_true, and_self, true_and, and_true, not_true_eq_false, not_false_eq_true, vpi, ltI, eqI, eqI0, eqI4, nI_clamp, ite_not, vs_same, vs_ne, qrem_f, qabs_f, Nat.not_lt_zero, qS_bB, qR_bB, qZ_bB, qI_bB0, qI_bB, pI_bB0, pI_bB, isWall_bB, isItm_bB, isItm_sB, ltm, m1_lt, pk_mul, n0, n1, n2, n3, n4, n5, n6, n7, n8, n9, show ¬ l2 < t by omega, hr, hp, hh, Nat.one_ne_zero, hl, nI_add]
    · refine ⟨(w_pass u n (ringG 616 bl g = true)).1, fun d o => ?_⟩
      have e : coB ch w tt dp s dm cl bl n (k + 1) t g = false := @decide_eq_false _ (Classical.propDecidable _) (fun hh => c hh.1)
      have e1 : qb (me_holds (w_pass u n (ringG 616 bl g = true)).1 t ch w tt dp s 0 = true) = nI 0 := if_neg (fun hh => c (hok.mp hh))
      rw [e1] at hh
      rw [e, x41_11]
      simp (disch := first | omega | (simp (disch := omega) only [rf_some, qS_sB, qR_sB, qZ_sB, qI_sB0, qI_sB3, qI_sBn, pI_sB0, pI_sB3, pI_sBn, isWall_sB, exists_eq_left, Option.toList_some, Option.toList_none, List.cons_append, List.nil_append, if_true, if_false, qb_0, qb_q01, q01_1, q01_0, if_qb, if_qbn, if_qba, if_qbo, eq_self, true_or, or_true, and_self, true_and, and_true, not_true_eq_false, not_false_eq_true, vpi, ltI, eqI, eqI0, eqI4, nI_clamp, ite_not, vs_same, vs_ne, qrem_f, qabs_f, Nat.not_lt_zero, qS_bB, qR_bB, qZ_bB, qI_bB0, qI_bB, pI_bB0, pI_bB, isWall_bB, isItm_bB, isItm_sB, ltm, m1_lt, pk_mul, n0, n1, n2, n3, n4, n5, n6, n7, n8, n9, hA, W_s hA, W_s1 hA, W_s2 hA, W_s3 hA, W_sn hA, W_r0 hA, W_r1 hA, W_r2 hA, W_rn hA, hMs]; done) | (simp (disch := omega) only [rf_some, qS_sB, qR_sB, qZ_sB, qI_sB0, qI_sB3, qI_sBn, pI_sB0, pI_sB3, pI_sBn, isWall_sB, exists_eq_left, Option.toList_some, Option.toList_none, List.cons_append, List.nil_append, if_true, if_false, qb_0, qb_q01, q01_1, q01_0, if_qb, if_qbn, if_qba, if_qbo, eq_self, true_or, or_true, and_self, true_and, and_true, not_true_eq_false, not_false_eq_true, vpi, ltI, eqI, eqI0, eqI4, nI_clamp, ite_not, vs_same, vs_ne, qrem_f, qabs_f, Nat.not_lt_zero, qS_bB, qR_bB, qZ_bB, qI_bB0, qI_bB, pI_bB0, pI_bB, isWall_bB, isItm_bB, isItm_sB, ltm, m1_lt, pk_mul, n0, n1, n2, n3, n4, n5, n6, n7, n8, n9, hA, W_s hA, W_s1 hA, W_s2 hA, W_s3 hA, W_sn hA, W_r0 hA, W_r1 hA, W_r2 hA, W_rn hA, hMs]; omega)) only [x41_12, x41_13, x41_16, x41_17, x41_20, x41_21, x41_24, x41_27, x41_30, x41_30i, x41_31, x41_32, x41_35, x41_36, x41_37, x41_38, x41_41, x41_44, x41_47, x41_48, rf_some, qS_sB, qR_sB, qZ_sB, qI_sB0, qI_sB3, qI_sBn, pI_sB0, pI_sB3, pI_sBn, isWall_sB, exists_eq_left, Option.toList_some, Option.toList_none, List.cons_append, List.nil_append, if_true, if_false, qb_0, qb_q01, q01_1, q01_0, if_qb, if_qbn, if_qba, if_qbo, eq_self, true_or, or_true, and_self, true_and, and_true, not_true_eq_false, not_false_eq_true, vpi, ltI, eqI, eqI0, eqI4, nI_clamp, ite_not, vs_same, vs_ne, qrem_f, qabs_f, Nat.not_lt_zero, qS_bB, qR_bB, qZ_bB, qI_bB0, qI_bB, pI_bB0, pI_bB, isWall_bB, isItm_bB, isItm_sB, ltm, m1_lt, pk_mul, n0, n1, n2, n3, n4, n5, n6, n7, n8, n9, show ¬ l2 < t by omega, hr, hp, hh]
      rfl
theorem N_comes (h : CS M B p) (hm : hasMe M (B + 275) s w tt dp) (hbl : 0 < bl ∧ bl ≤ 30) (hc : ∀ j, j < 9 → hasI ch (nI j) = nI 1 → j < n) (q : AQ u g 616 n rw cl bl dm) (hd : g (616 + 55) ≤ 80000) : ∃ u', ∀ (d : Nat) o, Ev (d + 6) 41 [.ref B, .int ch] (sB M (B + 22) u) o = (o = (some (.int (qb (soG ch w tt dp s dm cl bl n 30 1 g true = true))), sB M (B + 22) u')) := by
  obtain ⟨m1, m2, m3⟩ := id hm
  obtain ⟨hx1, hx2⟩ := me_last_max (ch := ch) (w := w) (tt := tt) (s := s) (fun q hq => (m3 q hq).2.2.2.2.1)
  obtain ⟨l2, hl2⟩ : ∃ l, l = me_last ch w tt s 0 0 := ⟨_, rfl⟩
  rw [← hl2] at hx1 hx2
  obtain ⟨u', hl⟩ := N_comes_loop (dp := dp) h hm hbl hx2 hc l2 1 u g (by omega) q (by omega)
  obtain ⟨⟨n0, n1, n2, n3, n4, n5, n6, n7, n8, n9⟩, _, hI, hW, hA, hP, hK, hC, hM, hG, hpk, hpi⟩ := id h
  have hMs := hM.1
  have hlast := fun {d : Nat} {o : qOut} => S_me_last (d := d) (o := o) (ch := ch) (M := sB M (B + 22) u) hM (hasMe_sB hm)
  rw [← hl2] at hlast
  have e : qb (coB ch w tt dp s dm cl bl n l2 1 g = true) = qb (soG ch w tt dp s dm cl bl n 30 1 g true = true) := qb_cg (by
    rw [soG_ok]
    unfold coB
    rw [@decide_eq_true_iff _ (Classical.propDecidable _)]
    have := OKd_add (mo := dm) (cl := cl) (bl := bl) (n := n) (dp := dp) (L := l2) hx1 l2 (30 - l2) 1 g (by omega)
    rw [show l2 + (30 - l2) = 30 by omega] at this
    exact ⟨fun hh => ⟨rfl, this.mpr hh⟩, fun hh => this.mp hh.2⟩)
  rw [e] at hl
  refine ⟨u', fun d o => ?_⟩
  simp (disch := first | omega | (simp (disch := omega) only [rf_some, qS_sB, qR_sB, qZ_sB, qI_sB0, qI_sB3, qI_sBn, pI_sB0, pI_sB3, pI_sBn, isWall_sB, exists_eq_left, Option.toList_some, Option.toList_none, List.cons_append, List.nil_append, if_true, if_false, qb_0, qb_q01, q01_1, q01_0, if_qb, if_qbn, if_qba, if_qbo, eq_self, true_or, or_true, and_self, true_and, and_true, not_true_eq_false, not_false_eq_true, vpi, ltI, eqI, eqI0, eqI4, nI_clamp, ite_not, vs_same, vs_ne, qrem_f, qabs_f, Nat.not_lt_zero, qS_bB, qR_bB, qZ_bB, qI_bB0, qI_bB, pI_bB0, pI_bB, isWall_bB, isItm_bB, isItm_sB, ltm, m1_lt, pk_mul, n0, n1, n2, n3, n4, n5, n6, n7, n8, n9, hA, W_s hA, W_s1 hA, W_s2 hA, W_s3 hA, W_sn hA, W_r0 hA, W_r1 hA, W_r2 hA, W_rn hA, hMs]; done) | (simp (disch := omega) only [rf_some, qS_sB, qR_sB, qZ_sB, qI_sB0, qI_sB3, qI_sBn, pI_sB0, pI_sB3, pI_sBn, isWall_sB, exists_eq_left, Option.toList_some, Option.toList_none, List.cons_append, List.nil_append, if_true, if_false, qb_0, qb_q01, q01_1, q01_0, if_qb, if_qbn, if_qba, if_qbo, eq_self, true_or, or_true, and_self, true_and, and_true, not_true_eq_false, not_false_eq_true, vpi, ltI, eqI, eqI0, eqI4, nI_clamp, ite_not, vs_same, vs_ne, qrem_f, qabs_f, Nat.not_lt_zero, qS_bB, qR_bB, qZ_bB, qI_bB0, qI_bB, pI_bB0, pI_bB, isWall_bB, isItm_bB, isItm_sB, ltm, m1_lt, pk_mul, n0, n1, n2, n3, n4, n5, n6, n7, n8, n9, hA, W_s hA, W_s1 hA, W_s2 hA, W_s3 hA, W_sn hA, W_r0 hA, W_r1 hA, W_r2 hA, W_rn hA, hMs]; omega)) only [e41, x41_0, x41_1, x41_4, x41_5, x41_8, x41_9, x41_10, rf_some, qS_sB, qR_sB, qZ_sB, qI_sB0, qI_sB3, qI_sBn, pI_sB0, pI_sB3, pI_sBn, isWall_sB, exists_eq_left, Option.toList_some, Option.toList_none, List.cons_append, List.nil_append, if_true, if_false, qb_0, qb_q01, q01_1, q01_0, if_qb, if_qbn, if_qba, if_qbo, eq_self, true_or, or_true, and_self, true_and, and_true, not_true_eq_false, not_false_eq_true, vpi, ltI, eqI, eqI0, eqI4, nI_clamp, ite_not, vs_same, vs_ne, qrem_f, qabs_f, Nat.not_lt_zero, n0, n1, n2, n3, n4, n5, n6, n7, n8, n9, hlast, hl]
theorem bitI_mem (hi : i < 9) {j : Nat} (hj : j < 9) : (hasI (bitI i) (nI j) = nI 1) = (j = i) := by
  have h := hasB_or hasB_0 hi
  have e : ∀ i, i < 9 → nI 0 ||| bitI i = bitI i := by decide +kernel
  rw [e i hi] at h
  rw [hasB_1 h hj]
  exact propext ⟨fun hh => hh.resolve_right id, Or.inl⟩
theorem AQ_kind (q0 : AQ u g 616 n rw cl bl dm) (hi : i < n) (hk : k ≤ 4) : AQ (vs u (4 + i) 0 (nI k)) (gs g (617 + i) k) 616 n rw cl bl dm := by
  obtain ⟨⟨⟨h1, h2, h3, h4, h5⟩, h6, h7, h8⟩, q2, q3, q4, q5⟩ := q0
  refine ⟨⟨⟨(vs_ne (by omega)).trans h1, (vs_ne (by omega)).trans h2, (vs_ne (by omega)).trans h3, ?_, (vs_ne (by omega)).trans h5⟩, (gs_ne (by omega)).trans h6, fun c hc => (vs_ne (by omega)).trans (h7 c hc), fun j hj => ?_⟩, q2, gs_GB q3 (fun j hj => by omega), fun j l hj hl => ?_, q5⟩
  · rw [vs_ne (by omega), gs_ne (by omega)]; exact h4
  · have := h8 j hj
    by_cases c : j = i
    · subst c
      rw [show 617 + j = 616 + 1 + j by omega]
      simp (disch := omega) only [vs_ne, vs_same, gs_ne, gs_same]
      exact ⟨trivial, this.2⟩
    · simp (disch := omega) only [vs_ne, gs_ne]
      exact this
  · rw [gs_ne (by omega), gs_ne (by omega), gs_ne (by omega), gs_ne (by omega)]
    exact q4 j l hj hl
theorem AQ_damp {c q : Nat} (q0 : AQ u g 616 n rw cl bl dm) (hq : q ≤ 9) : AQ (vs u 3 c (nI q)) g 616 n rw cl bl (gs dm c q) := by
  obtain ⟨⟨⟨h1, h2, h3, h4, h5⟩, h6, h7, h8⟩, q2, q3, q4, q5, q6⟩ := q0
  refine ⟨⟨⟨(vs_ne (by omega)).trans h1, (vs_ne (by omega)).trans h2, (vs_ne (by omega)).trans h3, (vs_ne (by omega)).trans h4, (vs_ne (by omega)).trans h5⟩, h6, fun j hj => ?_, fun j hj => ?_⟩, q2, q3, q4, fun j hj => ?_, q6⟩
  · unfold vs gs
    by_cases e : j = c
    · rw [if_pos ⟨rfl, e⟩, if_pos e]
    · rw [if_neg (fun hh => e hh.2), if_neg e]; exact h7 j hj
  · simp (disch := omega) only [vs_ne]
    exact h8 j hj
  · unfold gs
    by_cases e : j = c
    · rw [if_pos e]; exact hq
    · rw [if_neg e]; exact q5 j hj
theorem N_kinds_bad (h : CS M B p) (hd : CD M B p g rw cl bl dm a kp lt L s w tt dp D) (hx : ¬ (¬ x < nI 0 ∧ x < nI (g 0))) : Ev (d + 7) 23 [.ref B, .int x] M o = (o = (some (.int (-1)), M)) := by
  obtain ⟨⟨n0, n1, n2, n3, n4, n5, n6, n7, n8, n9⟩, _, hI, hW, hA, hP, hK, hC, hM, hG, hpk, hpi⟩ := h
  obtain ⟨b1, b2, b3, b4, b5⟩ := BK_n hd.1
  simp (disch := first | omega | (simp (disch := omega) only [rf_some, qS_sB, qR_sB, qZ_sB, qI_sB0, qI_sB3, qI_sBn, pI_sB0, pI_sB3, pI_sBn, isWall_sB, exists_eq_left, Option.toList_some, Option.toList_none, List.cons_append, List.nil_append, if_true, if_false, qb_0, qb_q01, q01_1, q01_0, if_qb, if_qbn, if_qba, if_qbo, eq_self, true_or, or_true, and_self, true_and, and_true, not_true_eq_false, not_false_eq_true, vpi, ltI, eqI, eqI0, eqI4, nI_clamp, ite_not, vs_same, vs_ne, qrem_f, qabs_f, Nat.not_lt_zero, qS_bB, qR_bB, qZ_bB, qI_bB0, qI_bB, pI_bB0, pI_bB, isWall_bB, isItm_bB, isItm_sB, ltm, m1_lt, pk_mul, n0, n1, n2, n3, n4, n5, n6, n7, n8, n9, hW, W_s hW, W_s1 hW, W_s2 hW, W_s3 hW, W_sn hW, W_r0 hW, W_r1 hW, W_r2 hW, W_rn hW]; done) | (simp (disch := omega) only [rf_some, qS_sB, qR_sB, qZ_sB, qI_sB0, qI_sB3, qI_sBn, pI_sB0, pI_sB3, pI_sBn, isWall_sB, exists_eq_left, Option.toList_some, Option.toList_none, List.cons_append, List.nil_append, if_true, if_false, qb_0, qb_q01, q01_1, q01_0, if_qb, if_qbn, if_qba, if_qbo, eq_self, true_or, or_true, and_self, true_and, and_true, not_true_eq_false, not_false_eq_true, vpi, ltI, eqI, eqI0, eqI4, nI_clamp, ite_not, vs_same, vs_ne, qrem_f, qabs_f, Nat.not_lt_zero, qS_bB, qR_bB, qZ_bB, qI_bB0, qI_bB, pI_bB0, pI_bB, isWall_bB, isItm_bB, isItm_sB, ltm, m1_lt, pk_mul, n0, n1, n2, n3, n4, n5, n6, n7, n8, n9, hW, W_s hW, W_s1 hW, W_s2 hW, W_s3 hW, W_sn hW, W_r0 hW, W_r1 hW, W_r2 hW, W_rn hW]; omega)) only [e23, x23_0, x23_1, x23_4, x23_5, x23_8, x23_11, x23_12, rf_some, qS_sB, qR_sB, qZ_sB, qI_sB0, qI_sB3, qI_sBn, pI_sB0, pI_sB3, pI_sBn, isWall_sB, exists_eq_left, Option.toList_some, Option.toList_none, List.cons_append, List.nil_append, if_true, if_false, qb_0, qb_q01, q01_1, q01_0, if_qb, if_qbn, if_qba, if_qbo, eq_self, true_or, or_true, and_self, true_and, and_true, not_true_eq_false, not_false_eq_true, vpi, ltI, eqI, eqI0, eqI4, nI_clamp, ite_not, vs_same, vs_ne, qrem_f, qabs_f, Nat.not_lt_zero, n0, n1, n2, n3, n4, n5, n6, n7, n8, n9, T_hasNail hW b1, hx]
theorem N_kinds_no (h : CS M B p) (hd : CD M B p g rw cl bl dm a kp lt L s w tt dp D) (hi : i < g 0) (hx : g (19 + i) = 0) : Ev (d + 7) 23 [.ref B, .int (nI i)] M o = (o = (some (.int (-2)), M)) := by
  obtain ⟨⟨n0, n1, n2, n3, n4, n5, n6, n7, n8, n9⟩, _, hI, hW, hA, hP, hK, hC, hM, hG, hpk, hpi⟩ := h
  obtain ⟨b1, b2, b3, b4, b5⟩ := BK_n hd.1
  have hsn := W_sn hW (show i < 9 by omega)
  have hio := fun {d : Nat} {o : qOut} => T_isOut (d := d) (o := o) hW b1 b2 b3 hi
  simp only [Nat.zero_add] at hio
  simp (disch := first | omega | (simp (disch := omega) only [rf_some, qS_sB, qR_sB, qZ_sB, qI_sB0, qI_sB3, qI_sBn, pI_sB0, pI_sB3, pI_sBn, isWall_sB, exists_eq_left, Option.toList_some, Option.toList_none, List.cons_append, List.nil_append, if_true, if_false, qb_0, qb_q01, q01_1, q01_0, if_qb, if_qbn, if_qba, if_qbo, eq_self, true_or, or_true, and_self, true_and, and_true, not_true_eq_false, not_false_eq_true, vpi, ltI, eqI, eqI0, eqI4, nI_clamp, ite_not, vs_same, vs_ne, qrem_f, qabs_f, Nat.not_lt_zero, qS_bB, qR_bB, qZ_bB, qI_bB0, qI_bB, pI_bB0, pI_bB, isWall_bB, isItm_bB, isItm_sB, ltm, m1_lt, pk_mul, n0, n1, n2, n3, n4, n5, n6, n7, n8, n9, hW, W_s hW, W_s1 hW, W_s2 hW, W_s3 hW, W_sn hW, W_r0 hW, W_r1 hW, W_r2 hW, W_rn hW, hsn]; done) | (simp (disch := omega) only [rf_some, qS_sB, qR_sB, qZ_sB, qI_sB0, qI_sB3, qI_sBn, pI_sB0, pI_sB3, pI_sBn, isWall_sB, exists_eq_left, Option.toList_some, Option.toList_none, List.cons_append, List.nil_append, if_true, if_false, qb_0, qb_q01, q01_1, q01_0, if_qb, if_qbn, if_qba, if_qbo, eq_self, true_or, or_true, and_self, true_and, and_true, not_true_eq_false, not_false_eq_true, vpi, ltI, eqI, eqI0, eqI4, nI_clamp, ite_not, vs_same, vs_ne, qrem_f, qabs_f, Nat.not_lt_zero, qS_bB, qR_bB, qZ_bB, qI_bB0, qI_bB, pI_bB0, pI_bB, isWall_bB, isItm_bB, isItm_sB, ltm, m1_lt, pk_mul, n0, n1, n2, n3, n4, n5, n6, n7, n8, n9, hW, W_s hW, W_s1 hW, W_s2 hW, W_s3 hW, W_sn hW, W_r0 hW, W_r1 hW, W_r2 hW, W_rn hW, hsn]; omega)) only [e23, x23_0, x23_1, x23_4, x23_5, x23_8, x23_11, x23_12, x23_13, x23_14, x23_17, x23_18, x23_21, x23_24, x23_27, x23_29, rf_some, qS_sB, qR_sB, qZ_sB, qI_sB0, qI_sB3, qI_sBn, pI_sB0, pI_sB3, pI_sBn, isWall_sB, exists_eq_left, Option.toList_some, Option.toList_none, List.cons_append, List.nil_append, if_true, if_false, qb_0, qb_q01, q01_1, q01_0, if_qb, if_qbn, if_qba, if_qbo, eq_self, true_or, or_true, and_self, true_and, and_true, not_true_eq_false, not_false_eq_true, vpi, ltI, eqI, eqI0, eqI4, nI_clamp, ite_not, vs_same, vs_ne, qrem_f, qabs_f, Nat.not_lt_zero, n0, n1, n2, n3, n4, n5, n6, n7, n8, n9, T_hasNail hW b1, hi, T_at hW, hio, eq_true hx]
theorem N_kinds_loop (h : CS M B p) (hd : CD M B p g rw cl bl dm a kp lt L s w tt dp D) (hD : D ≤ 80000) (hi : i < g 0) : ∀ (q k : Nat) (u : qV) (z : Int32), k + q = 5 → ∃ u', ∀ (d : Nat) o, Rn (d + 6) 23 (34, [.ref B, .int (nI i), .int z, .int (nI k)], [], 0, 0, sB M (B + 22) u) o = (o = (some (.int (lp (kiF dm cl bl (g 0) s w tt dp g i) q k z)), sB M (B + 22) u')) := by
  have hb := hd.2.2.2.2.2.2
  have hm := hd.2.2.2.2.1
  obtain ⟨⟨n0, n1, n2, n3, n4, n5, n6, n7, n8, n9⟩, _, hI, hW, hA, hP, hK, hC, hM, hG, hpk, hpi⟩ := id h
  have hn9 : g 0 ≤ 9 := (BK_n hd.1).2.1
  have hsn := W_sn hA (show i < 9 by omega)
  intro q
  induction q with
  | zero =>
    intro k u z hk
    refine ⟨u, fun d o => ?_⟩
    simp (disch := first | omega | (simp (disch := omega) only [rf_some, qS_sB, qR_sB, qZ_sB, qI_sB0, qI_sB3, qI_sBn, pI_sB0, pI_sB3, pI_sBn, isWall_sB, exists_eq_left, Option.toList_some, Option.toList_none, List.cons_append, List.nil_append, if_true, if_false, qb_0, qb_q01, q01_1, q01_0, if_qb, if_qbn, if_qba, if_qbo, eq_self, true_or, or_true, and_self, true_and, and_true, not_true_eq_false, not_false_eq_true, vpi, ltI, eqI, eqI0, eqI4, nI_clamp, ite_not, vs_same, vs_ne, qrem_f, qabs_f, Nat.not_lt_zero, qS_bB, qR_bB, qZ_bB, qI_bB0, qI_bB, pI_bB0, pI_bB, isWall_bB, isItm_bB, isItm_sB, ltm, m1_lt, pk_mul, n0, n1, n2, n3, n4, n5, n6, n7, n8, n9, hA, W_s hA, W_s1 hA, W_s2 hA, W_s3 hA, W_sn hA, W_r0 hA, W_r1 hA, W_r2 hA, W_rn hA]; done) | (simp (disch := omega) only [rf_some, qS_sB, qR_sB, qZ_sB, qI_sB0, qI_sB3, qI_sBn, pI_sB0, pI_sB3, pI_sBn, isWall_sB, exists_eq_left, Option.toList_some, Option.toList_none, List.cons_append, List.nil_append, if_true, if_false, qb_0, qb_q01, q01_1, q01_0, if_qb, if_qbn, if_qba, if_qbo, eq_self, true_or, or_true, and_self, true_and, and_true, not_true_eq_false, not_false_eq_true, vpi, ltI, eqI, eqI0, eqI4, nI_clamp, ite_not, vs_same, vs_ne, qrem_f, qabs_f, Nat.not_lt_zero, qS_bB, qR_bB, qZ_bB, qI_bB0, qI_bB, pI_bB0, pI_bB, isWall_bB, isItm_bB, isItm_sB, ltm, m1_lt, pk_mul, n0, n1, n2, n3, n4, n5, n6, n7, n8, n9, hA, W_s hA, W_s1 hA, W_s2 hA, W_s3 hA, W_sn hA, W_r0 hA, W_r1 hA, W_r2 hA, W_rn hA]; omega)) only [x23_34, x23_35, x23_36, x23_84, x23_85, rf_some, qS_sB, qR_sB, qZ_sB, qI_sB0, qI_sB3, qI_sBn, pI_sB0, pI_sB3, pI_sBn, isWall_sB, exists_eq_left, Option.toList_some, Option.toList_none, List.cons_append, List.nil_append, if_true, if_false, qb_0, qb_q01, q01_1, q01_0, if_qb, if_qbn, if_qba, if_qbo, eq_self, true_or, or_true, and_self, true_and, and_true, not_true_eq_false, not_false_eq_true, vpi, ltI, eqI, eqI0, eqI4, nI_clamp, ite_not, vs_same, vs_ne, qrem_f, qabs_f, Nat.not_lt_zero, n0, n1, n2, n3, n4, n5, n6, n7, n8, n9, show ¬ k < 5 by omega, lp]
  | succ q ih =>
    intro k u z hk
    obtain ⟨q0, hq5⟩ := C_ah0 hd u
    have q1 := AQ_kind q0 hi (show k ≤ 4 by omega)
    obtain ⟨u1, hco⟩ := N_comes (ch := bitI i) (dp := dp) h hm hb.2.2.1 (fun j hj hh => by rw [bitI_mem (by omega) hj] at hh; omega) q1 (by rw [gs_ne (by omega)]; omega)
    have e0 : lp (kiF dm cl bl (g 0) s w tt dp g i) (q + 1) k z = lp (kiF dm cl bl (g 0) s w tt dp g i) q (k + 1) (kiF dm cl bl (g 0) s w tt dp g i k z) := rfl
    obtain ⟨u', hl⟩ := ih (k + 1) u1 (kiF dm cl bl (g 0) s w tt dp g i k z) (by omega)
    refine ⟨u', fun d o => ?_⟩
    rw [e0, ← hl d o, x23_34]
    by_cases c1 : soG (bitI i) w tt dp s dm cl bl (g 0) 30 1 (gs (cpG g 0 616 56) (617 + i) k) true = true
    · have e : kiF dm cl bl (g 0) s w tt dp g i k z = z ||| bitI k := if_pos c1
      rw [e]
      rw [c1] at hco
      simp (disch := first | omega | (simp (disch := omega) only [rf_some, qS_sB, qR_sB, qZ_sB, qI_sB0, qI_sB3, qI_sBn, pI_sB0, pI_sB3, pI_sBn, isWall_sB, exists_eq_left, Option.toList_some, Option.toList_none, List.cons_append, List.nil_append, if_true, if_false, qb_0, qb_q01, q01_1, q01_0, if_qb, if_qbn, if_qba, if_qbo, eq_self, true_or, or_true, and_self, true_and, and_true, not_true_eq_false, not_false_eq_true, vpi, ltI, eqI, eqI0, eqI4, nI_clamp, ite_not, vs_same, vs_ne, qrem_f, qabs_f, Nat.not_lt_zero, qS_bB, qR_bB, qZ_bB, qI_bB0, qI_bB, pI_bB0, pI_bB, isWall_bB, isItm_bB, isItm_sB, ltm, m1_lt, pk_mul, n0, n1, n2, n3, n4, n5, n6, n7, n8, n9, hA, W_s hA, W_s1 hA, W_s2 hA, W_s3 hA, W_sn hA, W_r0 hA, W_r1 hA, W_r2 hA, W_rn hA]; done) | (simp (disch := omega) only [rf_some, qS_sB, qR_sB, qZ_sB, qI_sB0, qI_sB3, qI_sBn, pI_sB0, pI_sB3, pI_sBn, isWall_sB, exists_eq_left, Option.toList_some, Option.toList_none, List.cons_append, List.nil_append, if_true, if_false, qb_0, qb_q01, q01_1, q01_0, if_qb, if_qbn, if_qba, if_qbo, eq_self, true_or, or_true, and_self, true_and, and_true, not_true_eq_false, not_false_eq_true, vpi, ltI, eqI, eqI0, eqI4, nI_clamp, ite_not, vs_same, vs_ne, qrem_f, qabs_f, Nat.not_lt_zero, qS_bB, qR_bB, qZ_bB, qI_bB0, qI_bB, pI_bB0, pI_bB, isWall_bB, isItm_bB, isItm_sB, ltm, m1_lt, pk_mul, n0, n1, n2, n3, n4, n5, n6, n7, n8, n9, hA, W_s hA, W_s1 hA, W_s2 hA, W_s3 hA, W_sn hA, W_r0 hA, W_r1 hA, W_r2 hA, W_rn hA]; omega)) only [x23_35, x23_36, x23_39, x23_40, x23_43, x23_44, x23_47, x23_50, x23_51, x23_54, x23_55, x23_58, x23_59, x23_62, x23_63, x23_64, x23_65, x23_66, x23_69, x23_72, x23_73, x23_74, x23_75, x23_76, x23_77, x23_78, x23_81, rf_some, qS_sB, qR_sB, qZ_sB, qI_sB0, qI_sB3, qI_sBn, pI_sB0, pI_sB3, pI_sBn, isWall_sB, exists_eq_left, Option.toList_some, Option.toList_none, List.cons_append, List.nil_append, if_true, if_false, qb_0, qb_q01, q01_1, q01_0, if_qb, if_qbn, if_qba, if_qbo, eq_self, true_or, or_true, and_self, true_and, and_true, not_true_eq_false, not_false_eq_true, vpi, ltI, eqI, eqI0, eqI4, nI_clamp, ite_not, vs_same, vs_ne, qrem_f, qabs_f, Nat.not_lt_zero, qS_bB, qR_bB, qZ_bB, qI_bB0, qI_bB, pI_bB0, pI_bB, isWall_bB, isItm_bB, isItm_sB, ltm, m1_lt, pk_mul, n0, n1, n2, n3, n4, n5, n6, n7, n8, n9, show k < 5 by omega, C_cp2 h hd, S_at, show i < 9 by omega, hsn, pI_sBn, ← bitI.eq_1, hco, nI_add]
    · have e : kiF dm cl bl (g 0) s w tt dp g i k z = z := if_neg c1
      rw [e]
      rw [Bool.eq_false_iff.mpr c1] at hco
      simp (disch := first | omega | (simp (disch := omega) only [rf_some, qS_sB, qR_sB, qZ_sB, qI_sB0, qI_sB3, qI_sBn, pI_sB0, pI_sB3, pI_sBn, isWall_sB, exists_eq_left, Option.toList_some, Option.toList_none, List.cons_append, List.nil_append, if_true, if_false, qb_0, qb_q01, q01_1, q01_0, if_qb, if_qbn, if_qba, if_qbo, eq_self, true_or, or_true, and_self, true_and, and_true, not_true_eq_false, not_false_eq_true, vpi, ltI, eqI, eqI0, eqI4, nI_clamp, ite_not, vs_same, vs_ne, qrem_f, qabs_f, Nat.not_lt_zero, qS_bB, qR_bB, qZ_bB, qI_bB0, qI_bB, pI_bB0, pI_bB, isWall_bB, isItm_bB, isItm_sB, ltm, m1_lt, pk_mul, n0, n1, n2, n3, n4, n5, n6, n7, n8, n9, hA, W_s hA, W_s1 hA, W_s2 hA, W_s3 hA, W_sn hA, W_r0 hA, W_r1 hA, W_r2 hA, W_rn hA]; done) | (simp (disch := omega) only [rf_some, qS_sB, qR_sB, qZ_sB, qI_sB0, qI_sB3, qI_sBn, pI_sB0, pI_sB3, pI_sBn, isWall_sB, exists_eq_left, Option.toList_some, Option.toList_none, List.cons_append, List.nil_append, if_true, if_false, qb_0, qb_q01, q01_1, q01_0, if_qb, if_qbn, if_qba, if_qbo, eq_self, true_or, or_true, and_self, true_and, and_true, not_true_eq_false, not_false_eq_true, vpi, ltI, eqI, eqI0, eqI4, nI_clamp, ite_not, vs_same, vs_ne, qrem_f, qabs_f, Nat.not_lt_zero, qS_bB, qR_bB, qZ_bB, qI_bB0, qI_bB, pI_bB0, pI_bB, isWall_bB, isItm_bB, isItm_sB, ltm, m1_lt, pk_mul, n0, n1, n2, n3, n4, n5, n6, n7, n8, n9, hA, W_s hA, W_s1 hA, W_s2 hA, W_s3 hA, W_sn hA, W_r0 hA, W_r1 hA, W_r2 hA, W_rn hA]; omega)) only [x23_35, x23_36, x23_39, x23_40, x23_43, x23_44, x23_47, x23_50, x23_51, x23_54, x23_55, x23_58, x23_59, x23_62, x23_63, x23_64, x23_65, x23_66, x23_69, x23_72, x23_73, x23_74, x23_75, x23_76, x23_77, x23_78, x23_81, rf_some, qS_sB, qR_sB, qZ_sB, qI_sB0, qI_sB3, qI_sBn, pI_sB0, pI_sB3, pI_sBn, isWall_sB, exists_eq_left, Option.toList_some, Option.toList_none, List.cons_append, List.nil_append, if_true, if_false, qb_0, qb_q01, q01_1, q01_0, if_qb, if_qbn, if_qba, if_qbo, eq_self, true_or, or_true, and_self, true_and, and_true, not_true_eq_false, not_false_eq_true, vpi, ltI, eqI, eqI0, eqI4, nI_clamp, ite_not, vs_same, vs_ne, qrem_f, qabs_f, Nat.not_lt_zero, qS_bB, qR_bB, qZ_bB, qI_bB0, qI_bB, pI_bB0, pI_bB, isWall_bB, isItm_bB, isItm_sB, ltm, m1_lt, pk_mul, n0, n1, n2, n3, n4, n5, n6, n7, n8, n9, show k < 5 by omega, C_cp2 h hd, S_at, show i < 9 by omega, hsn, pI_sBn, ← bitI.eq_1, hco, Bool.false_eq_true, nI_add]
theorem N_kinds_ok (h : CS M B p) (hd : CD M B p g rw cl bl dm a kp lt L s w tt dp D) (hD : D ≤ 80000) (hi : i < g 0) (hx : ¬ g (19 + i) = 0) : ∃ M', CS M' B p ∧ CD M' B p g rw cl bl dm a kp lt L s w tt dp D ∧ smo B M M' ∧ ∀ (d : Nat) o, Ev (d + 7) 23 [.ref B, .int (nI i)] M o = (o = (some (.int (lp (kiF dm cl bl (g 0) s w tt dp g i) 5 0 (nI 0))), M')) := by
  obtain ⟨u', hl⟩ := N_kinds_loop h hd hD hi 5 0 (blk M (B + 22)) (nI 0) rfl
  rw [sB_blk] at hl
  obtain ⟨⟨n0, n1, n2, n3, n4, n5, n6, n7, n8, n9⟩, _, hI, hW, hA, hP, hK, hC, hM, hG, hpk, hpi⟩ := id h
  obtain ⟨b1, b2, b3, b4, b5⟩ := BK_n hd.1
  have hsn := W_sn hW (show i < 9 by omega)
  have hio := fun {d : Nat} {o : qOut} => T_isOut (d := d) (o := o) hW b1 b2 b3 hi
  simp only [Nat.zero_add] at hio
  refine ⟨sB M (B + 22) u', (C_ah h hd).1, (C_ah h hd).2.1, (C_ah h hd).2.2, fun d o => ?_⟩
  simp (disch := first | omega | (simp (disch := omega) only [rf_some, qS_sB, qR_sB, qZ_sB, qI_sB0, qI_sB3, qI_sBn, pI_sB0, pI_sB3, pI_sBn, isWall_sB, exists_eq_left, Option.toList_some, Option.toList_none, List.cons_append, List.nil_append, if_true, if_false, qb_0, qb_q01, q01_1, q01_0, if_qb, if_qbn, if_qba, if_qbo, eq_self, true_or, or_true, and_self, true_and, and_true, not_true_eq_false, not_false_eq_true, vpi, ltI, eqI, eqI0, eqI4, nI_clamp, ite_not, vs_same, vs_ne, qrem_f, qabs_f, Nat.not_lt_zero, qS_bB, qR_bB, qZ_bB, qI_bB0, qI_bB, pI_bB0, pI_bB, isWall_bB, isItm_bB, isItm_sB, ltm, m1_lt, pk_mul, n0, n1, n2, n3, n4, n5, n6, n7, n8, n9, hW, W_s hW, W_s1 hW, W_s2 hW, W_s3 hW, W_sn hW, W_r0 hW, W_r1 hW, W_r2 hW, W_rn hW, hsn]; done) | (simp (disch := omega) only [rf_some, qS_sB, qR_sB, qZ_sB, qI_sB0, qI_sB3, qI_sBn, pI_sB0, pI_sB3, pI_sBn, isWall_sB, exists_eq_left, Option.toList_some, Option.toList_none, List.cons_append, List.nil_append, if_true, if_false, qb_0, qb_q01, q01_1, q01_0, if_qb, if_qbn, if_qba, if_qbo, eq_self, true_or, or_true, and_self, true_and, and_true, not_true_eq_false, not_false_eq_true, vpi, ltI, eqI, eqI0, eqI4, nI_clamp, ite_not, vs_same, vs_ne, qrem_f, qabs_f, Nat.not_lt_zero, qS_bB, qR_bB, qZ_bB, qI_bB0, qI_bB, pI_bB0, pI_bB, isWall_bB, isItm_bB, isItm_sB, ltm, m1_lt, pk_mul, n0, n1, n2, n3, n4, n5, n6, n7, n8, n9, hW, W_s hW, W_s1 hW, W_s2 hW, W_s3 hW, W_sn hW, W_r0 hW, W_r1 hW, W_r2 hW, W_rn hW, hsn]; omega)) only [e23, x23_0, x23_1, x23_4, x23_5, x23_8, x23_11, x23_12, x23_13, x23_14, x23_17, x23_18, x23_21, x23_24, x23_27, x23_29, x23_30, x23_31, x23_32, x23_33, rf_some, qS_sB, qR_sB, qZ_sB, qI_sB0, qI_sB3, qI_sBn, pI_sB0, pI_sB3, pI_sBn, isWall_sB, exists_eq_left, Option.toList_some, Option.toList_none, List.cons_append, List.nil_append, if_true, if_false, qb_0, qb_q01, q01_1, q01_0, if_qb, if_qbn, if_qba, if_qbo, eq_self, true_or, or_true, and_self, true_and, and_true, not_true_eq_false, not_false_eq_true, vpi, ltI, eqI, eqI0, eqI4, nI_clamp, ite_not, vs_same, vs_ne, qrem_f, qabs_f, Nat.not_lt_zero, n0, n1, n2, n3, n4, n5, n6, n7, n8, n9, T_hasNail hW b1, hi, T_at hW, hio, eq_false hx, hl]
theorem N_damps_bad (h : CS M B p) (hd : CD M B p g rw cl bl dm a kp lt L s w tt dp D) (hx : ¬ (¬ x < nI 0 ∧ x < nI cl)) : Ev (d + 7) 24 [.ref B, .int x] M o = (o = (some (.int (-1)), M)) := by
  obtain ⟨⟨n0, n1, n2, n3, n4, n5, n6, n7, n8, n9⟩, _, hI, hW, hA, hP, hK, hC, hM, hG, hpk, hpi⟩ := h
  obtain ⟨b1, b2, b3, b4, b5⟩ := BK_n hd.1
  simp (disch := first | omega | (simp (disch := omega) only [rf_some, qS_sB, qR_sB, qZ_sB, qI_sB0, qI_sB3, qI_sBn, pI_sB0, pI_sB3, pI_sBn, isWall_sB, exists_eq_left, Option.toList_some, Option.toList_none, List.cons_append, List.nil_append, if_true, if_false, qb_0, qb_q01, q01_1, q01_0, if_qb, if_qbn, if_qba, if_qbo, eq_self, true_or, or_true, and_self, true_and, and_true, not_true_eq_false, not_false_eq_true, vpi, ltI, eqI, eqI0, eqI4, nI_clamp, ite_not, vs_same, vs_ne, qrem_f, qabs_f, Nat.not_lt_zero, qS_bB, qR_bB, qZ_bB, qI_bB0, qI_bB, pI_bB0, pI_bB, isWall_bB, isItm_bB, isItm_sB, ltm, m1_lt, pk_mul, n0, n1, n2, n3, n4, n5, n6, n7, n8, n9, hW, W_s hW, W_s1 hW, W_s2 hW, W_s3 hW, W_sn hW, W_r0 hW, W_r1 hW, W_r2 hW, W_rn hW]; done) | (simp (disch := omega) only [rf_some, qS_sB, qR_sB, qZ_sB, qI_sB0, qI_sB3, qI_sBn, pI_sB0, pI_sB3, pI_sBn, isWall_sB, exists_eq_left, Option.toList_some, Option.toList_none, List.cons_append, List.nil_append, if_true, if_false, qb_0, qb_q01, q01_1, q01_0, if_qb, if_qbn, if_qba, if_qbo, eq_self, true_or, or_true, and_self, true_and, and_true, not_true_eq_false, not_false_eq_true, vpi, ltI, eqI, eqI0, eqI4, nI_clamp, ite_not, vs_same, vs_ne, qrem_f, qabs_f, Nat.not_lt_zero, qS_bB, qR_bB, qZ_bB, qI_bB0, qI_bB, pI_bB0, pI_bB, isWall_bB, isItm_bB, isItm_sB, ltm, m1_lt, pk_mul, n0, n1, n2, n3, n4, n5, n6, n7, n8, n9, hW, W_s hW, W_s1 hW, W_s2 hW, W_s3 hW, W_sn hW, W_r0 hW, W_r1 hW, W_r2 hW, W_rn hW]; omega)) only [e24, x24_0, x24_1, x24_4, x24_5, x24_8, x24_11, x24_12, rf_some, qS_sB, qR_sB, qZ_sB, qI_sB0, qI_sB3, qI_sBn, pI_sB0, pI_sB3, pI_sBn, isWall_sB, exists_eq_left, Option.toList_some, Option.toList_none, List.cons_append, List.nil_append, if_true, if_false, qb_0, qb_q01, q01_1, q01_0, if_qb, if_qbn, if_qba, if_qbo, eq_self, true_or, or_true, and_self, true_and, and_true, not_true_eq_false, not_false_eq_true, vpi, ltI, eqI, eqI0, eqI4, nI_clamp, ite_not, vs_same, vs_ne, qrem_f, qabs_f, Nat.not_lt_zero, n0, n1, n2, n3, n4, n5, n6, n7, n8, n9, T_hasColumn hW b1, hx]
theorem N_damps_loop {who : Int32} (h : CS M B p) (hd : CD M B p g rw cl bl dm a kp lt L s w tt dp D) (hD : D ≤ 80000) (hc : c < 6) (hwho : ∀ j, j < 9 → hasI who (nI j) = nI 1 → j < g 0) : ∀ (q k : Nat) (u : qV) (z : Int32), k + q = 10 → ∃ u', ∀ (d : Nat) o, Rn (d + 6) 24 (27, [.ref B, .int (nI c), .int who, .int z, .int (nI k)], [], 0, 0, sB M (B + 22) u) o = (o = (some (.int (lp (daF dm cl bl (g 0) s w tt dp g c who) q k z)), sB M (B + 22) u')) := by
  have hb := hd.2.2.2.2.2.2
  have hm := hd.2.2.2.2.1
  obtain ⟨⟨n0, n1, n2, n3, n4, n5, n6, n7, n8, n9⟩, _, hI, hW, hA, hP, hK, hC, hM, hG, hpk, hpi⟩ := id h
  intro q
  induction q with
  | zero =>
    intro k u z hk
    refine ⟨u, fun d o => ?_⟩
    simp (disch := first | omega | (simp (disch := omega) only [rf_some, qS_sB, qR_sB, qZ_sB, qI_sB0, qI_sB3, qI_sBn, pI_sB0, pI_sB3, pI_sBn, isWall_sB, exists_eq_left, Option.toList_some, Option.toList_none, List.cons_append, List.nil_append, if_true, if_false, qb_0, qb_q01, q01_1, q01_0, if_qb, if_qbn, if_qba, if_qbo, eq_self, true_or, or_true, and_self, true_and, and_true, not_true_eq_false, not_false_eq_true, vpi, ltI, eqI, eqI0, eqI4, nI_clamp, ite_not, vs_same, vs_ne, qrem_f, qabs_f, Nat.not_lt_zero, qS_bB, qR_bB, qZ_bB, qI_bB0, qI_bB, pI_bB0, pI_bB, isWall_bB, isItm_bB, isItm_sB, ltm, m1_lt, pk_mul, n0, n1, n2, n3, n4, n5, n6, n7, n8, n9, hA, W_s hA, W_s1 hA, W_s2 hA, W_s3 hA, W_sn hA, W_r0 hA, W_r1 hA, W_r2 hA, W_rn hA]; done) | (simp (disch := omega) only [rf_some, qS_sB, qR_sB, qZ_sB, qI_sB0, qI_sB3, qI_sBn, pI_sB0, pI_sB3, pI_sBn, isWall_sB, exists_eq_left, Option.toList_some, Option.toList_none, List.cons_append, List.nil_append, if_true, if_false, qb_0, qb_q01, q01_1, q01_0, if_qb, if_qbn, if_qba, if_qbo, eq_self, true_or, or_true, and_self, true_and, and_true, not_true_eq_false, not_false_eq_true, vpi, ltI, eqI, eqI0, eqI4, nI_clamp, ite_not, vs_same, vs_ne, qrem_f, qabs_f, Nat.not_lt_zero, qS_bB, qR_bB, qZ_bB, qI_bB0, qI_bB, pI_bB0, pI_bB, isWall_bB, isItm_bB, isItm_sB, ltm, m1_lt, pk_mul, n0, n1, n2, n3, n4, n5, n6, n7, n8, n9, hA, W_s hA, W_s1 hA, W_s2 hA, W_s3 hA, W_sn hA, W_r0 hA, W_r1 hA, W_r2 hA, W_rn hA]; omega)) only [x24_27, x24_29, x24_31, x24_76, x24_77, rf_some, qS_sB, qR_sB, qZ_sB, qI_sB0, qI_sB3, qI_sBn, pI_sB0, pI_sB3, pI_sBn, isWall_sB, exists_eq_left, Option.toList_some, Option.toList_none, List.cons_append, List.nil_append, if_true, if_false, qb_0, qb_q01, q01_1, q01_0, if_qb, if_qbn, if_qba, if_qbo, eq_self, true_or, or_true, and_self, true_and, and_true, not_true_eq_false, not_false_eq_true, vpi, ltI, eqI, eqI0, eqI4, nI_clamp, ite_not, vs_same, vs_ne, qrem_f, qabs_f, Nat.not_lt_zero, n0, n1, n2, n3, n4, n5, n6, n7, n8, n9, show 9 < k by omega, lp]
  | succ q ih =>
    intro k u z hk
    obtain ⟨q0, hq5⟩ := C_ah0 hd u
    have q1 := AQ_damp (c := c) q0 (show k ≤ 9 by omega)
    obtain ⟨u1, hco⟩ := N_comes (ch := who) (dp := dp) h hm hb.2.2.1 hwho q1 (by omega)
    have e0 : lp (daF dm cl bl (g 0) s w tt dp g c who) (q + 1) k z = lp (daF dm cl bl (g 0) s w tt dp g c who) q (k + 1) (daF dm cl bl (g 0) s w tt dp g c who k z) := rfl
    obtain ⟨u', hl⟩ := ih (k + 1) u1 (daF dm cl bl (g 0) s w tt dp g c who k z) (by omega)
    refine ⟨u', fun d o => ?_⟩
    rw [e0, ← hl d o, x24_27]
    by_cases c1 : soG who w tt dp s (gs dm c k) cl bl (g 0) 30 1 (cpG g 0 616 56) true = true
    · have e : daF dm cl bl (g 0) s w tt dp g c who k z = z ||| bitI k := if_pos c1
      rw [e]
      rw [c1] at hco
      simp (disch := first | omega | (simp (disch := omega) only [rf_some, qS_sB, qR_sB, qZ_sB, qI_sB0, qI_sB3, qI_sBn, pI_sB0, pI_sB3, pI_sBn, isWall_sB, exists_eq_left, Option.toList_some, Option.toList_none, List.cons_append, List.nil_append, if_true, if_false, qb_0, qb_q01, q01_1, q01_0, if_qb, if_qbn, if_qba, if_qbo, eq_self, true_or, or_true, and_self, true_and, and_true, not_true_eq_false, not_false_eq_true, vpi, ltI, eqI, eqI0, eqI4, nI_clamp, ite_not, vs_same, vs_ne, qrem_f, qabs_f, Nat.not_lt_zero, qS_bB, qR_bB, qZ_bB, qI_bB0, qI_bB, pI_bB0, pI_bB, isWall_bB, isItm_bB, isItm_sB, ltm, m1_lt, pk_mul, n0, n1, n2, n3, n4, n5, n6, n7, n8, n9, hA, W_s hA, W_s1 hA, W_s2 hA, W_s3 hA, W_sn hA, W_r0 hA, W_r1 hA, W_r2 hA, W_rn hA]; done) | (simp (disch := omega) only [rf_some, qS_sB, qR_sB, qZ_sB, qI_sB0, qI_sB3, qI_sBn, pI_sB0, pI_sB3, pI_sBn, isWall_sB, exists_eq_left, Option.toList_some, Option.toList_none, List.cons_append, List.nil_append, if_true, if_false, qb_0, qb_q01, q01_1, q01_0, if_qb, if_qbn, if_qba, if_qbo, eq_self, true_or, or_true, and_self, true_and, and_true, not_true_eq_false, not_false_eq_true, vpi, ltI, eqI, eqI0, eqI4, nI_clamp, ite_not, vs_same, vs_ne, qrem_f, qabs_f, Nat.not_lt_zero, qS_bB, qR_bB, qZ_bB, qI_bB0, qI_bB, pI_bB0, pI_bB, isWall_bB, isItm_bB, isItm_sB, ltm, m1_lt, pk_mul, n0, n1, n2, n3, n4, n5, n6, n7, n8, n9, hA, W_s hA, W_s1 hA, W_s2 hA, W_s3 hA, W_sn hA, W_r0 hA, W_r1 hA, W_r2 hA, W_rn hA]; omega)) only [x24_29, x24_31, x24_34, x24_35, x24_38, x24_39, x24_42, x24_45, x24_46, x24_49, x24_50, x24_52, x24_55, x24_56, x24_57, x24_60, x24_63, x24_64, x24_65, x24_67, x24_68, x24_69, x24_70, x24_73, rf_some, qS_sB, qR_sB, qZ_sB, qI_sB0, qI_sB3, qI_sBn, pI_sB0, pI_sB3, pI_sBn, isWall_sB, exists_eq_left, Option.toList_some, Option.toList_none, List.cons_append, List.nil_append, if_true, if_false, qb_0, qb_q01, q01_1, q01_0, if_qb, if_qbn, if_qba, if_qbo, eq_self, true_or, or_true, and_self, true_and, and_true, not_true_eq_false, not_false_eq_true, vpi, ltI, eqI, eqI0, eqI4, nI_clamp, ite_not, vs_same, vs_ne, qrem_f, qabs_f, Nat.not_lt_zero, qS_bB, qR_bB, qZ_bB, qI_bB0, qI_bB, pI_bB0, pI_bB, isWall_bB, isItm_bB, isItm_sB, ltm, m1_lt, pk_mul, n0, n1, n2, n3, n4, n5, n6, n7, n8, n9, show ¬ 9 < k by omega, C_cp2 h hd, S_setDamp, hc, ← bitI.eq_1, hco, nI_add]
    · have e : daF dm cl bl (g 0) s w tt dp g c who k z = z := if_neg c1
      rw [e]
      rw [Bool.eq_false_iff.mpr c1] at hco
      simp (disch := first | omega | (simp (disch := omega) only [rf_some, qS_sB, qR_sB, qZ_sB, qI_sB0, qI_sB3, qI_sBn, pI_sB0, pI_sB3, pI_sBn, isWall_sB, exists_eq_left, Option.toList_some, Option.toList_none, List.cons_append, List.nil_append, if_true, if_false, qb_0, qb_q01, q01_1, q01_0, if_qb, if_qbn, if_qba, if_qbo, eq_self, true_or, or_true, and_self, true_and, and_true, not_true_eq_false, not_false_eq_true, vpi, ltI, eqI, eqI0, eqI4, nI_clamp, ite_not, vs_same, vs_ne, qrem_f, qabs_f, Nat.not_lt_zero, qS_bB, qR_bB, qZ_bB, qI_bB0, qI_bB, pI_bB0, pI_bB, isWall_bB, isItm_bB, isItm_sB, ltm, m1_lt, pk_mul, n0, n1, n2, n3, n4, n5, n6, n7, n8, n9, hA, W_s hA, W_s1 hA, W_s2 hA, W_s3 hA, W_sn hA, W_r0 hA, W_r1 hA, W_r2 hA, W_rn hA]; done) | (simp (disch := omega) only [rf_some, qS_sB, qR_sB, qZ_sB, qI_sB0, qI_sB3, qI_sBn, pI_sB0, pI_sB3, pI_sBn, isWall_sB, exists_eq_left, Option.toList_some, Option.toList_none, List.cons_append, List.nil_append, if_true, if_false, qb_0, qb_q01, q01_1, q01_0, if_qb, if_qbn, if_qba, if_qbo, eq_self, true_or, or_true, and_self, true_and, and_true, not_true_eq_false, not_false_eq_true, vpi, ltI, eqI, eqI0, eqI4, nI_clamp, ite_not, vs_same, vs_ne, qrem_f, qabs_f, Nat.not_lt_zero, qS_bB, qR_bB, qZ_bB, qI_bB0, qI_bB, pI_bB0, pI_bB, isWall_bB, isItm_bB, isItm_sB, ltm, m1_lt, pk_mul, n0, n1, n2, n3, n4, n5, n6, n7, n8, n9, hA, W_s hA, W_s1 hA, W_s2 hA, W_s3 hA, W_sn hA, W_r0 hA, W_r1 hA, W_r2 hA, W_rn hA]; omega)) only [x24_29, x24_31, x24_34, x24_35, x24_38, x24_39, x24_42, x24_45, x24_46, x24_49, x24_50, x24_52, x24_55, x24_56, x24_57, x24_60, x24_63, x24_64, x24_65, x24_67, x24_68, x24_69, x24_70, x24_73, rf_some, qS_sB, qR_sB, qZ_sB, qI_sB0, qI_sB3, qI_sBn, pI_sB0, pI_sB3, pI_sBn, isWall_sB, exists_eq_left, Option.toList_some, Option.toList_none, List.cons_append, List.nil_append, if_true, if_false, qb_0, qb_q01, q01_1, q01_0, if_qb, if_qbn, if_qba, if_qbo, eq_self, true_or, or_true, and_self, true_and, and_true, not_true_eq_false, not_false_eq_true, vpi, ltI, eqI, eqI0, eqI4, nI_clamp, ite_not, vs_same, vs_ne, qrem_f, qabs_f, Nat.not_lt_zero, qS_bB, qR_bB, qZ_bB, qI_bB0, qI_bB, pI_bB0, pI_bB, isWall_bB, isItm_bB, isItm_sB, ltm, m1_lt, pk_mul, n0, n1, n2, n3, n4, n5, n6, n7, n8, n9, show ¬ 9 < k by omega, C_cp2 h hd, S_setDamp, hc, ← bitI.eq_1, hco, Bool.false_eq_true, nI_add]
theorem N_damps_ok (h : CS M B p) (hd : CD M B p g rw cl bl dm a kp lt L s w tt dp D) (hD : D ≤ 80000) (hc : c < cl) : ∃ M', CS M' B p ∧ CD M' B p g rw cl bl dm a kp lt L s w tt dp D ∧ smo B M M' ∧ ∀ (d : Nat) o, Ev (d + 7) 24 [.ref B, .int (nI c)] M o = (o = (some (.int (lp (daF dm cl bl (g 0) s w tt dp g c (bts (fun q => decide (g (10 + q) % cl = c)) (g 0) 0 (nI 0))) 10 0 (nI 0))), M')) := by
  have hb := hd.2.2.2.2.2.2
  have hn9 : g 0 ≤ 9 := (BK_n hd.1).2.1
  have hB := bts_B (P := fun q => decide (g (10 + q) % cl = c)) hn9
  obtain ⟨u', hl⟩ := N_damps_loop (who := bts (fun q => decide (g (10 + q) % cl = c)) (g 0) 0 (nI 0)) h hd hD (show c < 6 by omega) (fun j hj hh => by rw [hasB_1 hB hj] at hh; exact hh.1) 10 0 (blk M (B + 22)) (nI 0) rfl
  rw [sB_blk] at hl
  obtain ⟨⟨n0, n1, n2, n3, n4, n5, n6, n7, n8, n9⟩, _, hI, hW, hA, hP, hK, hC, hM, hG, hpk, hpi⟩ := id h
  obtain ⟨b1, b2, b3, b4, b5⟩ := BK_n hd.1
  have hnc := fun {d : Nat} {o : qOut} => T_ncol (d := d) (o := o) hW b1 b2 b3 (show 0 < cl ∧ cl ≤ 6 by omega) (show c < 100 by omega)
  simp only [Nat.zero_add] at hnc
  refine ⟨sB M (B + 22) u', (C_ah h hd).1, (C_ah h hd).2.1, (C_ah h hd).2.2, fun d o => ?_⟩
  simp (disch := first | omega | (simp (disch := omega) only [rf_some, qS_sB, qR_sB, qZ_sB, qI_sB0, qI_sB3, qI_sBn, pI_sB0, pI_sB3, pI_sBn, isWall_sB, exists_eq_left, Option.toList_some, Option.toList_none, List.cons_append, List.nil_append, if_true, if_false, qb_0, qb_q01, q01_1, q01_0, if_qb, if_qbn, if_qba, if_qbo, eq_self, true_or, or_true, and_self, true_and, and_true, not_true_eq_false, not_false_eq_true, vpi, ltI, eqI, eqI0, eqI4, nI_clamp, ite_not, vs_same, vs_ne, qrem_f, qabs_f, Nat.not_lt_zero, qS_bB, qR_bB, qZ_bB, qI_bB0, qI_bB, pI_bB0, pI_bB, isWall_bB, isItm_bB, isItm_sB, ltm, m1_lt, pk_mul, n0, n1, n2, n3, n4, n5, n6, n7, n8, n9, hW, W_s hW, W_s1 hW, W_s2 hW, W_s3 hW, W_sn hW, W_r0 hW, W_r1 hW, W_r2 hW, W_rn hW]; done) | (simp (disch := omega) only [rf_some, qS_sB, qR_sB, qZ_sB, qI_sB0, qI_sB3, qI_sBn, pI_sB0, pI_sB3, pI_sBn, isWall_sB, exists_eq_left, Option.toList_some, Option.toList_none, List.cons_append, List.nil_append, if_true, if_false, qb_0, qb_q01, q01_1, q01_0, if_qb, if_qbn, if_qba, if_qbo, eq_self, true_or, or_true, and_self, true_and, and_true, not_true_eq_false, not_false_eq_true, vpi, ltI, eqI, eqI0, eqI4, nI_clamp, ite_not, vs_same, vs_ne, qrem_f, qabs_f, Nat.not_lt_zero, qS_bB, qR_bB, qZ_bB, qI_bB0, qI_bB, pI_bB0, pI_bB, isWall_bB, isItm_bB, isItm_sB, ltm, m1_lt, pk_mul, n0, n1, n2, n3, n4, n5, n6, n7, n8, n9, hW, W_s hW, W_s1 hW, W_s2 hW, W_s3 hW, W_sn hW, W_r0 hW, W_r1 hW, W_r2 hW, W_rn hW]; omega)) only [e24, x24_0, x24_1, x24_4, x24_5, x24_8, x24_11, x24_12, x24_13, x24_14, x24_17, x24_18, x24_21, x24_22, x24_23, x24_24, x24_25, rf_some, qS_sB, qR_sB, qZ_sB, qI_sB0, qI_sB3, qI_sBn, pI_sB0, pI_sB3, pI_sBn, isWall_sB, exists_eq_left, Option.toList_some, Option.toList_none, List.cons_append, List.nil_append, if_true, if_false, qb_0, qb_q01, q01_1, q01_0, if_qb, if_qbn, if_qba, if_qbo, eq_self, true_or, or_true, and_self, true_and, and_true, not_true_eq_false, not_false_eq_true, vpi, ltI, eqI, eqI0, eqI4, nI_clamp, ite_not, vs_same, vs_ne, qrem_f, qabs_f, Nat.not_lt_zero, n0, n1, n2, n3, n4, n5, n6, n7, n8, n9, T_hasColumn hW b1, hc, hnc, hl]
end QKD
