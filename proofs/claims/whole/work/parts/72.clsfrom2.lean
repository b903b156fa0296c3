section QFS
variable {d B R a b b' i j n c k rw cl bl L s kp D N e q m t de : Nat} {M M' : qM} {u v : qV} {o : qOut} {x y z z' ch : Int32} {p g dm lt w tt dp mo : Nat → Nat}
theorem lp_sh {α : Type} {f : α → α} : ∀ r i z, lp (fun _ z => f z) r i z = lp (fun _ z => f z) r 0 z := by
  intro r
  induction r with
  | zero => intro i z; rfl
  | succ r ih =>
    intro i z
    show lp (fun _ z => f z) r (i + 1) (f z) = lp (fun _ z => f z) r (0 + 1) (f z)
    rw [ih, ih (0 + 1)]
theorem lp_app {α : Type} {f : Nat → α → α} : ∀ k1 k2 i z, lp f (k1 + k2) i z = lp f k2 (i + k1) (lp f k1 i z) := by
  intro k1
  induction k1 with
  | zero => intro k2 i z; rw [Nat.zero_add]; rfl
  | succ k1 ih =>
    intro k2 i z
    rw [show k1 + 1 + k2 = (k1 + k2) + 1 by omega]
    show lp f (k1 + k2) (i + 1) (f i z) = _
    rw [ih, show i + 1 + k1 = i + (k1 + 1) by omega]
    rfl
theorem dm_at {n a q : Nat} (hq : q < n) : (a * n + q) / n = a ∧ (a * n + q) % n = q := by
  have h0 : 0 < n := by omega
  constructor
  · rw [Nat.mul_comm, Nat.mul_add_div h0, Nat.div_eq_of_lt hq, Nat.add_zero]
  · rw [Nat.mul_comm, Nat.mul_add_mod, Nat.mod_eq_of_lt hq]
theorem lp_flat {α : Type} {h : Nat → Nat → α → α} {n : Nat} : ∀ k a z, lp (fun a z => lp (h a) n 0 z) k a z = lp (fun s z => h (s / n) (s % n) z) (k * n) (a * n) z := by
  have inner : ∀ j a q z, q + j ≤ n → lp (h a) j q z = lp (fun s z => h (s / n) (s % n) z) j (a * n + q) z := by
    intro j
    induction j with
    | zero => intro a q z _; rfl
    | succ j ih =>
      intro a q z hq
      show lp (h a) j (q + 1) (h a q z) = lp (fun s z => h (s / n) (s % n) z) j (a * n + q + 1) (h ((a * n + q) / n) ((a * n + q) % n) z)
      obtain ⟨e1, e2⟩ := dm_at (a := a) (show q < n by omega)
      rw [e1, e2, ih a (q + 1) _ (by omega), show a * n + (q + 1) = a * n + q + 1 by omega]
  intro k
  induction k with
  | zero => intro a z; rw [Nat.zero_mul]; rfl
  | succ k ih =>
    intro a z
    show lp (fun a z => lp (h a) n 0 z) k (a + 1) (lp (h a) n 0 z) = _
    rw [ih, inner n a 0 z (by omega), show (k + 1) * n = n + k * n by rw [Nat.succ_mul]; omega, lp_app, show (a + 1) * n = a * n + n by rw [Nat.succ_mul]]
    rfl
theorem fnd_ex {P : Nat → Bool} {r : Nat} (hr : r < n) (h : P r = true) : (fnd P n 0).isSome = true := by
  cases hf : fnd P n 0 with
  | none => have := fnd_none n 0 hf r (by omega) (by omega); rw [h] at this; cases this
  | some j => rfl
theorem near_u (h : RN u g 0 n cl) (hg : GB g 0) (hn9 : n ≤ 9) (hcl : 0 < cl ∧ cl ≤ 6) (hi : i < n) (hj : j < n) : (¬ nI 1 < n_steps u (4 + i) (4 + j)) ↔ nea cl g i j := by
  have hs := RN_steps h hg hn9 hcl hi hj
  simp only [Nat.zero_add] at hs
  have h1 := (hg i (by omega)).2.1
  have h2 := (hg j (by omega)).2.1
  simp only [Nat.zero_add] at h1 h2
  have hap : ∀ a c : Nat, a < 100 → c < 100 → apN a c < 100 := fun a c h1 h2 => by unfold apN; split <;> omega
  have q1 := hap (g (10 + i) / cl) (g (10 + j) / cl) (Nat.lt_of_le_of_lt (Nat.div_le_self _ _) (by omega)) (Nat.lt_of_le_of_lt (Nat.div_le_self _ _) (by omega))
  have q2 := hap (g (10 + i) % cl) (g (10 + j) % cl) (Nat.lt_of_le_of_lt (Nat.mod_le _ _) (by omega)) (Nat.lt_of_le_of_lt (Nat.mod_le _ _) (by omega))
  rw [hs, nI_ltI (by omega) (by omega)]
  unfold nea
  omega
/-- the class's round -/
theorem RND_cls (h : RN u g 0 n cl) (hg : GB g 0) (hn9 : n ≤ 9) (hcl : 0 < cl ∧ cl ≤ 6) : RND cl g n (fun z => w_round u n n 0 z) := by
  refine rnd_of (f := fun j z => if w_touch u j z n 0 = true then z ||| bitI j else z) (T := fun j z => w_touch u j z n 0 = true) (J := fun q => q) (N := n) (fun q hq => hq) hn9 (fun q z hq hz ht => if_pos ht) (fun q z hq hz ht => if_neg ht) (fun q z hq hz ht => ?_) (fun z i j hz hi hj hm hne => ⟨j, hj, rfl, fun z' hz' hm' => ?_⟩)
  · have ht' : (fnd (fun i => decide (¬ hasI z (nI i) = nI 0 ∧ ¬ nI 1 < n_steps u (4 + i) (4 + q))) n 0).isSome = true := ht
    obtain ⟨i, hf⟩ := Option.isSome_iff_exists.mp ht'
    obtain ⟨_, hi, hp⟩ := fnd_in hf
    obtain ⟨h1, h2⟩ := of_decide_eq_true hp
    rw [hasI_n0] at h1
    exact ⟨i, by omega, h1, (near_u h hg hn9 hcl (by omega) hq).mp h2⟩
  · refine fnd_ex (r := i) hi (decide_eq_true ⟨?_, (near_u h hg hn9 hcl hi hj).mpr hne⟩)
    rw [hasI_n0]
    exact hm'
/-- the reference's round -/
theorem RND_ref (hn9 : n ≤ 9) : RND cl g n (fun z => lp (frA cl g n) n 0 z) := by
  have e : (fun z => lp (frA cl g n) n 0 z) = fun z => lp (fun s z => frF cl g (s / n) (s % n) z) (n * n) 0 z := by
    funext z
    have := lp_flat (h := frF cl g) (n := n) n 0 z
    rw [Nat.zero_mul] at this
    exact this
  rw [e]
  by_cases h0 : n = 0
  · subst h0
    exact fun z hz hn => ⟨hz, hn, fun _ _ h => h, fun P hP h => h, fun _ i j hi => by omega⟩
  · refine rnd_of (T := fun s z => hasI z (nI (s / n)) = nI 1 ∧ (g (10 + s / n) = g (10 + s % n) ∨ apN (g (10 + s / n) / cl) (g (10 + s % n) / cl) + apN (g (10 + s / n) % cl) (g (10 + s % n) % cl) = 1)) (J := fun s => s % n) (N := n * n) (fun q hq => Nat.mod_lt q (by omega)) hn9 (fun q z hq hz ht => if_pos ht) (fun q z hq hz ht => if_neg ht) (fun q z hq hz ht => ⟨q / n, Nat.div_lt_of_lt_mul hq, ht.1, nea_iff.mpr ht.2⟩) (fun z i j hz hi hj hm hne => ?_)
    obtain ⟨e1, e2⟩ := dm_at (n := n) (a := i) hj
    have hlt : i * n + j < n * n := by
      have : i * n + n ≤ n * n := by rw [← Nat.succ_mul]; exact Nat.mul_le_mul_right n hi
      omega
    refine ⟨i * n + j, hlt, e2, fun z' hz' hm' => ?_⟩
    show hasI z' (nI ((i * n + j) / n)) = nI 1 ∧ _
    rw [e1, e2]
    exact ⟨hm', nea_iff.mp hne⟩
theorem nI_and {p q : Nat} : nI p &&& nI q = nI (p &&& q) := Int32.toBitVec_inj.mp (by
  show BitVec.ofNat 32 p &&& BitVec.ofNat 32 q = BitVec.ofNat 32 (p &&& q)
  exact BitVec.ofNat_and.symm)
theorem hasB_and {P Q : Nat → Prop} (h : hasB z P) (h' : hasB z' Q) : hasB (z &&& z') (fun j => P j ∧ Q j) := by
  obtain ⟨m, rfl, hm, hb⟩ := h
  obtain ⟨m', rfl, hm', hb'⟩ := h'
  refine ⟨m &&& m', nI_and, Nat.lt_of_le_of_lt Nat.and_le_left hm, fun j hj => ?_⟩
  have e : ∀ q : Nat, (q / 2 ^ j % 2 = 1) ↔ q.testBit j = true := fun q => by
    rw [Nat.testBit_eq_decide_div_mod_eq]
    exact decide_eq_true_iff.symm
  rw [e, Nat.testBit_and, Bool.and_eq_true, ← e, ← e]
  exact and_congr (hb j hj) (hb' j hj)
theorem frL_B (hn : n ≤ 9) : hasB (lp (frL g de x) n 0 (nI 0)) (fun j => j < n ∧ mem x j ∧ hasI (nI (g (46 + j))) (nI de) = nI 1) := by
  have := lp_ind (P := fun k z => hasB z (fun j => j < k ∧ mem x j ∧ hasI (nI (g (46 + j))) (nI de) = nI 1)) (f := frL g de x) (n := n) (fun i z hi hz => by
    unfold frL
    by_cases c : hasI x (nI i) = nI 1 ∧ hasI (nI (g (46 + i))) (nI de) = nI 1
    · rw [if_pos c]
      refine hasB_congr (hasB_or hz (show i < 9 by omega)) (fun j hj => ⟨fun hh => ?_, fun hh => ?_⟩)
      · rcases hh with rfl | hh
        · exact ⟨by omega, c⟩
        · exact ⟨by omega, hh.2⟩
      · by_cases e : j = i
        · exact Or.inl e
        · exact Or.inr ⟨by omega, hh.2⟩
    · rw [if_neg c]
      refine hasB_congr hz (fun j hj => ⟨fun hh => ⟨by omega, hh.2⟩, fun hh => ?_⟩)
      by_cases e : j = i
      · rw [e] at hh; exact absurd hh.2 c
      · exact ⟨by omega, hh.2⟩) n 0 (nI 0) (by omega) (hasB_congr hasB_0 (fun j _ => ⟨fun h => h.elim, fun h => by omega⟩))
  exact this
theorem tie_from (h : RN u g 0 n cl) (hg : GB g 0) (hn9 : n ≤ 9) (hcl : 0 < cl ∧ cl ≤ 6) (hi : i < n) : w_hang u n (n - 1) 1 (bitI i) &&& bts (fun q => decide (¬ hasI (nI (g (46 + q))) (nI de) = nI 0)) n 0 (nI 0) = frG cl g n de i := by
  have hc := RND_cls h hg hn9 hcl
  have hr := RND_ref (cl := cl) (g := g) hn9
  have hs := rnd_same hc hr hn9 hi (r := n - 1) (r' := 9) (by omega) (by omega)
  have e0 : ∀ i, i < 9 → nI 0 ||| bitI i = bitI i := by decide +kernel
  have hB : isB (bitI i) := by rw [← e0 i (by omega)]; exact isB_or ⟨_, hasB_0⟩ (by omega)
  have hm : ∀ j, j < 9 → (mem (bitI i) j ↔ j = i) := fun j hj => by unfold mem; rw [bitI_mem (by omega) hj]
  have hin : ∀ j, j < 9 → mem (bitI i) j → j < n := fun j hj h => by rw [hm j hj] at h; omega
  have ew : w_hang u n (n - 1) 1 (bitI i) = lp (fun _ z => (fun z => w_round u n n 0 z) z) (n - 1) 0 (bitI i) := lp_sh (f := fun z => w_round u n n 0 z) (n - 1) 1 (bitI i)
  have er : lp (frN cl g n) 9 0 (bitI i) = lp (fun _ z => (fun z => lp (frA cl g n) n 0 z) z) 9 0 (bitI i) := rfl
  have hBw : isB (w_hang u n (n - 1) 1 (bitI i)) ∧ ∀ j, j < 9 → mem (w_hang u n (n - 1) 1 (bitI i)) j → j < n := by
    have hcnt : 1 ≤ cnt (memD (bitI i)) n 0 0 := by
      have := cnt_lt (P := fun _ => false) (Q := memD (bitI i)) n 0 i (fun j _ _ h => by cases h) (by omega) (by omega) (memD_t.mpr ((hm i (by omega)).mpr rfl)) rfl
      omega
    have := rnd_closed hc hn9 (n - 1) (bitI i) hB hin (by omega)
    rw [ew]
    exact ⟨this.1, this.2.1⟩
  unfold frG
  refine hasB_inj (hasB_and (isB_B hBw.1) (bts_B hn9)) (hasB_congr (frL_B hn9) (fun j hj => ?_))
  have hsj := hs j hj
  rw [← ew, ← er] at hsj
  rw [decide_eq_true_iff, hasI_n0]
  exact ⟨fun hh => ⟨hsj.mpr hh.2.1, hh.1, hh.2.2⟩, fun hh => ⟨hh.2.1, hsj.mp hh.1, hh.2.2⟩⟩
theorem N_from_bad1 (h : CS M B p) (hd : CD M B p g rw cl bl dm a kp lt L s w tt dp D) (hx : ¬ (¬ x < nI 0 ∧ x < nI (g 0))) : Ev (d + 4) 20 [.ref B, .int x, .int y] M o = (o = (some (.int (-1)), M)) := by
  obtain ⟨⟨n0, n1, n2, n3, n4, n5, n6, n7, n8, n9⟩, _, hI, hW, hA, hP, hK, hC, hM, hG, hpk, hpi⟩ := h
  obtain ⟨b1, b2, b3, b4, b5⟩ := BK_n hd.1
  simp (disch := first | omega | (simp (disch := omega) only [rf_some, qS_sB, qR_sB, qZ_sB, qI_sB0, qI_sB3, qI_sBn, pI_sB0, pI_sB3, pI_sBn, isWall_sB, exists_eq_left, Option.toList_some, Option.toList_none, List.cons_append, List.nil_append, if_true, if_false, qb_0, qb_q01, q01_1, q01_0, if_qb, if_qbn, if_qba, if_qbo, eq_self, true_or, or_true, and_self, true_and, and_true, not_true_eq_false, not_false_eq_true, vpi, ltI, eqI, eqI0, eqI4, nI_clamp, ite_not, vs_same, vs_ne, qrem_f, qabs_f, Nat.not_lt_zero, qS_bB, qR_bB, qZ_bB, qI_bB0, qI_bB, pI_bB0, pI_bB, isWall_bB, isItm_bB, isItm_sB, ltm, m1_lt, pk_mul, n0, n1, n2, n3, n4, n5, n6, n7, n8, n9, hW, W_s hW, W_s1 hW, W_s2 hW, W_s3 hW, W_sn hW, W_r0 hW, W_r1 hW, W_r2 hW, W_rn hW]; done) | (simp (disch := omega) only [rf_some, qS_sB, qR_sB, qZ_sB, qI_sB0, qI_sB3, qI_sBn, pI_sB0, pI_sB3, pI_sBn, isWall_sB, exists_eq_left, Option.toList_some, Option.toList_none, List.cons_append, List.nil_append, if_true, if_false, qb_0, qb_q01, q01_1, q01_0, if_qb, if_qbn, if_qba, if_qbo, eq_self, true_or, or_true, and_self, true_and, and_true, not_true_eq_false, not_false_eq_true, vpi, ltI, eqI, eqI0, eqI4, nI_clamp, ite_not, vs_same, vs_ne, qrem_f, qabs_f, Nat.not_lt_zero, qS_bB, qR_bB, qZ_bB, qI_bB0, qI_bB, pI_bB0, pI_bB, isWall_bB, isItm_bB, isItm_sB, ltm, m1_lt, pk_mul, n0, n1, n2, n3, n4, n5, n6, n7, n8, n9, hW, W_s hW, W_s1 hW, W_s2 hW, W_s3 hW, W_sn hW, W_r0 hW, W_r1 hW, W_r2 hW, W_rn hW]; omega)) only [e20, x20_0, x20_1, x20_4, x20_5, x20_8, x20_11, x20_12, x20_15, x20_18, x20_19, rf_some, qS_sB, qR_sB, qZ_sB, qI_sB0, qI_sB3, qI_sBn, pI_sB0, pI_sB3, pI_sBn, isWall_sB, exists_eq_left, Option.toList_some, Option.toList_none, List.cons_append, List.nil_append, if_true, if_false, qb_0, qb_q01, q01_1, q01_0, if_qb, if_qbn, if_qba, if_qbo, eq_self, true_or, or_true, and_self, true_and, and_true, not_true_eq_false, not_false_eq_true, vpi, ltI, eqI, eqI0, eqI4, nI_clamp, ite_not, vs_same, vs_ne, qrem_f, qabs_f, Nat.not_lt_zero, n0, n1, n2, n3, n4, n5, n6, n7, n8, n9, T_hasNail hW b1, hx]
theorem N_from_bad2 (h : CS M B p) (hd : CD M B p g rw cl bl dm a kp lt L s w tt dp D) (hi : i < g 0) (hx : ¬ ((0 : Int) ≤ x.toInt ∧ x.toInt ≤ 5)) : Ev (d + 4) 20 [.ref B, .int (nI i), .int x] M o = (o = (some (.int (-1)), M)) := by
  obtain ⟨⟨n0, n1, n2, n3, n4, n5, n6, n7, n8, n9⟩, _, hI, hW, hA, hP, hK, hC, hM, hG, hpk, hpi⟩ := h
  obtain ⟨b1, b2, b3, b4, b5⟩ := BK_n hd.1
  have e : (¬ x < nI 0 ∧ x < nI 6) = False := by
    rw [Int32.lt_iff_toInt_lt, Int32.lt_iff_toInt_lt, nI_toInt (by omega), nI_toInt (by omega)]
    exact eq_false (by omega)
  simp (disch := first | omega | (simp (disch := omega) only [rf_some, qS_sB, qR_sB, qZ_sB, qI_sB0, qI_sB3, qI_sBn, pI_sB0, pI_sB3, pI_sBn, isWall_sB, exists_eq_left, Option.toList_some, Option.toList_none, List.cons_append, List.nil_append, if_true, if_false, qb_0, qb_q01, q01_1, q01_0, if_qb, if_qbn, if_qba, if_qbo, eq_self, true_or, or_true, and_self, true_and, and_true, not_true_eq_false, not_false_eq_true, vpi, ltI, eqI, eqI0, eqI4, nI_clamp, ite_not, vs_same, vs_ne, qrem_f, qabs_f, Nat.not_lt_zero, qS_bB, qR_bB, qZ_bB, qI_bB0, qI_bB, pI_bB0, pI_bB, isWall_bB, isItm_bB, isItm_sB, ltm, m1_lt, pk_mul, n0, n1, n2, n3, n4, n5, n6, n7, n8, n9, hW, W_s hW, W_s1 hW, W_s2 hW, W_s3 hW, W_sn hW, W_r0 hW, W_r1 hW, W_r2 hW, W_rn hW]; done) | (simp (disch := omega) only [rf_some, qS_sB, qR_sB, qZ_sB, qI_sB0, qI_sB3, qI_sBn, pI_sB0, pI_sB3, pI_sBn, isWall_sB, exists_eq_left, Option.toList_some, Option.toList_none, List.cons_append, List.nil_append, if_true, if_false, qb_0, qb_q01, q01_1, q01_0, if_qb, if_qbn, if_qba, if_qbo, eq_self, true_or, or_true, and_self, true_and, and_true, not_true_eq_false, not_false_eq_true, vpi, ltI, eqI, eqI0, eqI4, nI_clamp, ite_not, vs_same, vs_ne, qrem_f, qabs_f, Nat.not_lt_zero, qS_bB, qR_bB, qZ_bB, qI_bB0, qI_bB, pI_bB0, pI_bB, isWall_bB, isItm_bB, isItm_sB, ltm, m1_lt, pk_mul, n0, n1, n2, n3, n4, n5, n6, n7, n8, n9, hW, W_s hW, W_s1 hW, W_s2 hW, W_s3 hW, W_sn hW, W_r0 hW, W_r1 hW, W_r2 hW, W_rn hW]; omega)) only [e20, x20_0, x20_1, x20_4, x20_5, x20_8, x20_11, x20_12, x20_15, x20_18, x20_19, rf_some, qS_sB, qR_sB, qZ_sB, qI_sB0, qI_sB3, qI_sBn, pI_sB0, pI_sB3, pI_sBn, isWall_sB, exists_eq_left, Option.toList_some, Option.toList_none, List.cons_append, List.nil_append, if_true, if_false, qb_0, qb_q01, q01_1, q01_0, if_qb, if_qbn, if_qba, if_qbo, eq_self, true_or, or_true, and_self, true_and, and_true, not_true_eq_false, not_false_eq_true, vpi, ltI, eqI, eqI0, eqI4, nI_clamp, ite_not, vs_same, vs_ne, qrem_f, qabs_f, Nat.not_lt_zero, n0, n1, n2, n3, n4, n5, n6, n7, n8, n9, T_hasNail hW b1, hi, S_isDeed, e]
theorem N_from_no (h : CS M B p) (hd : CD M B p g rw cl bl dm a kp lt L s w tt dp D) (hi : i < g 0) (hde : de ≤ 5) (hx : ¬ hasI (nI (g (37 + i))) (nI de) = nI 1) : Ev (d + 4) 20 [.ref B, .int (nI i), .int (nI de)] M o = (o = (some (.int (-2)), M)) := by
  obtain ⟨⟨n0, n1, n2, n3, n4, n5, n6, n7, n8, n9⟩, _, hI, hW, hA, hP, hK, hC, hM, hG, hpk, hpi⟩ := h
  obtain ⟨b1, b2, b3, b4, b5⟩ := BK_n hd.1
  have hsn := W_sn hW (show i < 9 by omega)
  obtain ⟨f0, f1, f2, f3, f4, f5, f6⟩ := b1.2.2.2 i hi
  simp only [Nat.zero_add] at f5
  have f5' := nblk f5
  have hx' : hasI (nI (g (37 + i))) (nI de) = nI 0 := by rw [← hasI_n1]; exact hx
  simp (disch := first | omega | (simp (disch := omega) only [rf_some, qS_sB, qR_sB, qZ_sB, qI_sB0, qI_sB3, qI_sBn, pI_sB0, pI_sB3, pI_sBn, isWall_sB, exists_eq_left, Option.toList_some, Option.toList_none, List.cons_append, List.nil_append, if_true, if_false, qb_0, qb_q01, q01_1, q01_0, if_qb, if_qbn, if_qba, if_qbo, eq_self, true_or, or_true, and_self, true_and, and_true, not_true_eq_false, not_false_eq_true, vpi, ltI, eqI, eqI0, eqI4, nI_clamp, ite_not, vs_same, vs_ne, qrem_f, qabs_f, Nat.not_lt_zero, qS_bB, qR_bB, qZ_bB, qI_bB0, qI_bB, pI_bB0, pI_bB, isWall_bB, isItm_bB, isItm_sB, ltm, m1_lt, pk_mul, n0, n1, n2, n3, n4, n5, n6, n7, n8, n9, hW, W_s hW, W_s1 hW, W_s2 hW, W_s3 hW, W_sn hW, W_r0 hW, W_r1 hW, W_r2 hW, W_rn hW, hsn]; done) | (simp (disch := omega) only [rf_some, qS_sB, qR_sB, qZ_sB, qI_sB0, qI_sB3, qI_sBn, pI_sB0, pI_sB3, pI_sBn, isWall_sB, exists_eq_left, Option.toList_some, Option.toList_none, List.cons_append, List.nil_append, if_true, if_false, qb_0, qb_q01, q01_1, q01_0, if_qb, if_qbn, if_qba, if_qbo, eq_self, true_or, or_true, and_self, true_and, and_true, not_true_eq_false, not_false_eq_true, vpi, ltI, eqI, eqI0, eqI4, nI_clamp, ite_not, vs_same, vs_ne, qrem_f, qabs_f, Nat.not_lt_zero, qS_bB, qR_bB, qZ_bB, qI_bB0, qI_bB, pI_bB0, pI_bB, isWall_bB, isItm_bB, isItm_sB, ltm, m1_lt, pk_mul, n0, n1, n2, n3, n4, n5, n6, n7, n8, n9, hW, W_s hW, W_s1 hW, W_s2 hW, W_s3 hW, W_sn hW, W_r0 hW, W_r1 hW, W_r2 hW, W_rn hW, hsn]; omega)) only [e20, x20_0, x20_1, x20_4, x20_5, x20_8, x20_11, x20_12, x20_15, x20_18, x20_19, x20_20, x20_21, x20_24, x20_25, x20_28, x20_31, x20_32, x20_35, x20_38, x20_40, rf_some, qS_sB, qR_sB, qZ_sB, qI_sB0, qI_sB3, qI_sBn, pI_sB0, pI_sB3, pI_sBn, isWall_sB, exists_eq_left, Option.toList_some, Option.toList_none, List.cons_append, List.nil_append, if_true, if_false, qb_0, qb_q01, q01_1, q01_0, if_qb, if_qbn, if_qba, if_qbo, eq_self, true_or, or_true, and_self, true_and, and_true, not_true_eq_false, not_false_eq_true, vpi, ltI, eqI, eqI0, eqI4, nI_clamp, ite_not, vs_same, vs_ne, qrem_f, qabs_f, Nat.not_lt_zero, n0, n1, n2, n3, n4, n5, n6, n7, n8, n9, T_hasNail hW b1, hi, S_isDeed, show de < 6 by omega, T_at hW, hsn, f5', S_has, hx']
theorem N_from_ok (h : CS M B p) (hd : CD M B p g rw cl bl dm a kp lt L s w tt dp D) (hi : i < g 0) (hde : de ≤ 5) (hx : hasI (nI (g (37 + i))) (nI de) = nI 1) : Ev (d + 4) 20 [.ref B, .int (nI i), .int (nI de)] M o = (o = (some (.int (frG cl g (g 0) de i)), M)) := by
  obtain ⟨⟨n0, n1, n2, n3, n4, n5, n6, n7, n8, n9⟩, _, hI, hW, hA, hP, hK, hC, hM, hG, hpk, hpi⟩ := h
  obtain ⟨b1, b2, b3, b4, b5⟩ := BK_n hd.1
  have hcl := hd.2.2.2.2.2.2.2.1
  have hsn := W_sn hW (show i < 9 by omega)
  obtain ⟨f0, f1, f2, f3, f4, f5, f6⟩ := b1.2.2.2 i hi
  simp only [Nat.zero_add] at f5
  have f5' := nblk f5
  have hx' : ¬ hasI (nI (g (37 + i))) (nI de) = nI 0 := by rw [hasI_n0]; exact hx
  have hhang := fun {d : Nat} {o : qOut} => S_hang (d := d) (o := o) (v := blk M (B + 7)) (i := i) hW b1.1.2.2.2.2 b2 (by omega)
  rw [sB_blk] at hhang
  have hbro := fun {d : Nat} {o : qOut} => T_bro (d := d) (o := o) (x := nI de) hW b1 b2
  simp only [Nat.zero_add] at hbro
  have htie := tie_from (de := de) b1.2.2.2 b3 b2 (show 0 < cl ∧ cl ≤ 6 by omega) hi
  simp (disch := first | omega | (simp (disch := omega) only [rf_some, qS_sB, qR_sB, qZ_sB, qI_sB0, qI_sB3, qI_sBn, pI_sB0, pI_sB3, pI_sBn, isWall_sB, exists_eq_left, Option.toList_some, Option.toList_none, List.cons_append, List.nil_append, if_true, if_false, qb_0, qb_q01, q01_1, q01_0, if_qb, if_qbn, if_qba, if_qbo, eq_self, true_or, or_true, and_self, true_and, and_true, not_true_eq_false, not_false_eq_true, vpi, ltI, eqI, eqI0, eqI4, nI_clamp, ite_not, vs_same, vs_ne, qrem_f, qabs_f, Nat.not_lt_zero, qS_bB, qR_bB, qZ_bB, qI_bB0, qI_bB, pI_bB0, pI_bB, isWall_bB, isItm_bB, isItm_sB, ltm, m1_lt, pk_mul, n0, n1, n2, n3, n4, n5, n6, n7, n8, n9, hW, W_s hW, W_s1 hW, W_s2 hW, W_s3 hW, W_sn hW, W_r0 hW, W_r1 hW, W_r2 hW, W_rn hW, hsn]; done) | (simp (disch := omega) only [rf_some, qS_sB, qR_sB, qZ_sB, qI_sB0, qI_sB3, qI_sBn, pI_sB0, pI_sB3, pI_sBn, isWall_sB, exists_eq_left, Option.toList_some, Option.toList_none, List.cons_append, List.nil_append, if_true, if_false, qb_0, qb_q01, q01_1, q01_0, if_qb, if_qbn, if_qba, if_qbo, eq_self, true_or, or_true, and_self, true_and, and_true, not_true_eq_false, not_false_eq_true, vpi, ltI, eqI, eqI0, eqI4, nI_clamp, ite_not, vs_same, vs_ne, qrem_f, qabs_f, Nat.not_lt_zero, qS_bB, qR_bB, qZ_bB, qI_bB0, qI_bB, pI_bB0, pI_bB, isWall_bB, isItm_bB, isItm_sB, ltm, m1_lt, pk_mul, n0, n1, n2, n3, n4, n5, n6, n7, n8, n9, hW, W_s hW, W_s1 hW, W_s2 hW, W_s3 hW, W_sn hW, W_r0 hW, W_r1 hW, W_r2 hW, W_rn hW, hsn]; omega)) only [e20, x20_0, x20_1, x20_4, x20_5, x20_8, x20_11, x20_12, x20_15, x20_18, x20_19, x20_20, x20_21, x20_24, x20_25, x20_28, x20_31, x20_32, x20_35, x20_38, x20_40, x20_41, x20_42, x20_45, x20_46, x20_49, x20_50, x20_53, x20_54, x20_57, x20_58, rf_some, qS_sB, qR_sB, qZ_sB, qI_sB0, qI_sB3, qI_sBn, pI_sB0, pI_sB3, pI_sBn, isWall_sB, exists_eq_left, Option.toList_some, Option.toList_none, List.cons_append, List.nil_append, if_true, if_false, qb_0, qb_q01, q01_1, q01_0, if_qb, if_qbn, if_qba, if_qbo, eq_self, true_or, or_true, and_self, true_and, and_true, not_true_eq_false, not_false_eq_true, vpi, ltI, eqI, eqI0, eqI4, nI_clamp, ite_not, vs_same, vs_ne, qrem_f, qabs_f, Nat.not_lt_zero, n0, n1, n2, n3, n4, n5, n6, n7, n8, n9, T_hasNail hW b1, hi, S_isDeed, show de < 6 by omega, T_at hW, hsn, f5', S_has, hx', hhang, hbro, htie]
end QFS
