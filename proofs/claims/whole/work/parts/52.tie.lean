/-! ===== THE TIE: a wall's cells u against the slots g at b ===== -/
def RW (u : qV) (g : Nat → Nat) (b n rw cl bl : Nat) (dm : Nat → Nat) : Prop := (u 0 3 = nI rw ∧ u 0 4 = nI cl ∧ u 0 5 = nI bl ∧ u 0 6 = nI (g (b + 55)) ∧ u 0 7 = nI n) ∧ g b = n ∧ (∀ c, c < 6 → u 3 c = nI (dm c)) ∧ ∀ i, i < n → u (4 + i) 0 = nI (g (b + 1 + i)) ∧ u (4 + i) 1 = nI (g (b + 10 + i) / cl) ∧ u (4 + i) 2 = nI (g (b + 10 + i) % cl) ∧ u (4 + i) 3 = nI (g (b + 19 + i)) ∧ u (4 + i) 4 = nI (g (b + 28 + i)) ∧ u (4 + i) 5 = nI (g (b + 37 + i)) ∧ u (4 + i) 6 = nI (g (b + 46 + i))
/-- of two nails that hold no two are in one cell -/
def UN (g : Nat → Nat) (b n : Nat) : Prop := ∀ i j, i < n → j < n → 0 < g (b + 19 + i) → 0 < g (b + 19 + j) → g (b + 10 + i) = g (b + 10 + j) → i = j
/-- none is deeper than its kind lets it -/
def CP (g : Nat → Nat) (b n : Nat) : Prop := ∀ i, i < n → g (b + 19 + i) ≤ cap (g (b + 1 + i))
theorem fnd_congr {P Q : Nat → Bool} : ∀ k i, (∀ j, i ≤ j → j < i + k → P j = Q j) → fnd P k i = fnd Q k i := by
  intro k
  induction k with
  | zero => intro i _; rfl
  | succ k ih =>
    intro i h
    unfold fnd
    rw [h i (Nat.le_refl i) (by omega), ih (i + 1) (fun j h1 h2 => h j (by omega) (by omega))]
theorem fnd_none {P : Nat → Bool} : ∀ k i, fnd P k i = none → ∀ j, i ≤ j → j < i + k → P j = false := by
  intro k
  induction k with
  | zero => intro i _ j h1 h2; omega
  | succ k ih =>
    intro i h j h1 h2
    unfold fnd at h
    by_cases c : P i = true
    · rw [if_pos c] at h; cases h
    · rw [if_neg c] at h
      by_cases e : j = i
      · rw [e]; exact Bool.eq_false_iff.mpr c
      · exact ih (i + 1) h j (by omega) (by omega)
theorem divmod_eq {a b c : Nat} (h1 : a / c = b / c) (h2 : a % c = b % c) : a = b := by
  have ha := Nat.div_add_mod a c
  have hb := Nat.div_add_mod b c
  rw [h1, h2] at ha
  omega
section QTI
variable {i j n b cl bl rw c L s D N t m r q p lo hi : Nat} {u : qV} {g dm lt : Nat → Nat}
theorem tie_find (h : RW u g b n rw cl bl dm) (hn9 : n ≤ 9) (hg : GB g b) (hc : c < 100) : ∀ k i, i + k ≤ n → w_find u (nI (c / cl)) (nI (c % cl)) k i = insG g b c k i := by
  intro k i hk
  refine fnd_congr k i (fun j h1 h2 => ?_)
  obtain ⟨e0, e1, e2, e3, e4, e5, e6⟩ := h.2.2.2 j (by omega)
  have hgj := hg j (by omega)
  have hd := Nat.div_le_self c cl
  have hd2 := Nat.div_le_self (g (b + 10 + j)) cl
  have hm := Nat.mod_le c cl
  have hm2 := Nat.mod_le (g (b + 10 + j)) cl
  refine decide_eq_decide.mpr ?_
  rw [e1, e2, e3, eqI (by omega) (by omega), eqI (by omega) (by omega), ltI (by omega) (by omega)]
  refine ⟨fun ⟨a1, a2, a3⟩ => ⟨divmod_eq a1 a2, by omega⟩, fun ⟨a1, a2⟩ => ⟨by rw [a1], by rw [a1], by omega⟩⟩
theorem nin_op {r c : Int32} : nin u r c m i = opI (w_find u r c m i) := by
  unfold nin
  cases w_find u r c m i <;> rfl
theorem tie_nin (h : RW u g b n rw cl bl dm) (hn9 : n ≤ 9) (hg : GB g b) (hc : c < 100) : nin u (nI (c / cl)) (nI (c % cl)) n 0 = opI (insG g b c n 0) := by
  rw [nin_op, tie_find h hn9 hg hc n 0 (by omega)]
theorem opI_n4 {z : Option Nat} (hz : ∀ c, z = some c → c < 1000) : (opI z = -4) = (z = none) := by
  cases z with
  | none => exact propext ⟨fun _ => rfl, fun _ => rfl⟩
  | some c =>
    have h1 := hz c rfl
    have := eqI4 (c := c) (by omega)
    refine propext ⟨fun hh => ?_, fun hh => by cases hh⟩
    rw [show opI (some c) = nI c from rfl, this] at hh
    exact hh.elim
theorem tie_free (h : RW u g b n rw cl bl dm) (hn9 : n ≤ 9) (hg : GB g b) (hc : c < 100) : (nin u (nI (c / cl)) (nI (c % cl)) n 0 = -4) = (insG g b c n 0 = none) := by
  rw [tie_nin h hn9 hg hc, opI_n4 (fun k hk => by have := insG_lt (c' := 0) hn9 hk; omega)]
theorem n_set_ne {v : qV} {w : Nat → Int32} {j k a : Nat} (h : j ≠ a) : n_set v a w j k = v j k := by
  unfold n_set
  simp (disch := omega) only [vs_ne]
theorem n_set_at {v : qV} {w : Nat → Int32} {k a : Nat} (hk : k < 7) : n_set v a w a k = w k := by
  unfold n_set
  have : k = 0 ∨ k = 1 ∨ k = 2 ∨ k = 3 ∨ k = 4 ∨ k = 5 ∨ k = 6 := by omega
  rcases this with rfl | rfl | rfl | rfl | rfl | rfl | rfl <;> simp (disch := omega) only [vs_ne, vs_same]
theorem n_set_7 {v : qV} {w : Nat → Int32} {k a : Nat} (hk : 7 ≤ k) : n_set v a w a k = v a k := by
  unfold n_set
  simp (disch := omega) only [vs_ne]
theorem addsG_ne {k s c dp yr : Nat} (hn : g b = n) (h : k ≠ b ∧ k ≠ b + 1 + n ∧ k ≠ b + 10 + n ∧ k ≠ b + 19 + n ∧ k ≠ b + 28 + n ∧ k ≠ b + 37 + n ∧ k ≠ b + 46 + n) : addsG g b s c dp yr k = g k := by
  unfold addsG
  rw [hn]
  simp (disch := omega) only [gs_ne]
theorem addsG_at {s c dp yr : Nat} (hn : g b = n) (hn9 : n < 9) : addsG g b s c dp yr b = n + 1 ∧ addsG g b s c dp yr (b + 1 + n) = s ∧ addsG g b s c dp yr (b + 10 + n) = c ∧ addsG g b s c dp yr (b + 19 + n) = dp ∧ addsG g b s c dp yr (b + 28 + n) = 0 ∧ addsG g b s c dp yr (b + 37 + n) = yr ∧ addsG g b s c dp yr (b + 46 + n) = yr := by
  unfold addsG
  rw [hn]
  refine ⟨?_, ?_, ?_, ?_, ?_, ?_, ?_⟩ <;> simp (disch := omega) only [gs_ne, gs_same]
theorem tie_add {x : Nat → Nat} (h : RW u g b n rw cl bl dm) (hn9 : n < 9) : RW (w_add u n (n_new x cl)) (addsG g b (x 0) (x 1) (x 2) (x 3)) b (n + 1) rw cl bl dm := by
  obtain ⟨⟨h1, h2, h3, h4, h5⟩, h6, h7, h8⟩ := h
  obtain ⟨a0, a1, a2, a3, a4, a5, a6⟩ := addsG_at (s := x 0) (c := x 1) (dp := x 2) (yr := x 3) h6 hn9
  have hhd : ∀ k, k ≠ 7 → w_add u n (n_new x cl) 0 k = u 0 k := fun k hk => w_add_hd hk
  refine ⟨⟨(hhd 3 (by decide)).trans h1, (hhd 4 (by decide)).trans h2, (hhd 5 (by decide)).trans h3, (hhd 6 (by decide)).trans ?_, vs_same⟩, a0, fun c hc => ?_, fun i hi => ?_⟩
  · rw [addsG_ne h6 (by omega)]; exact h4
  · unfold w_add
    rw [vs_ne (by omega), n_set_ne (by omega)]
    exact h7 c hc
  · unfold w_add
    by_cases e : i = n
    · subst e
      rw [a1, a2, a3, a4, a5, a6]
      refine ⟨?_, ?_, ?_, ?_, ?_, ?_, ?_⟩ <;> rw [vs_ne (by omega), n_set_at (by omega)] <;> rfl
    · rw [addsG_ne h6 (by omega), addsG_ne h6 (by omega), addsG_ne h6 (by omega), addsG_ne h6 (by omega), addsG_ne h6 (by omega), addsG_ne h6 (by omega)]
      simp (disch := omega) only [vs_ne, n_set_ne]
      exact h8 i (by omega)
theorem UN_add {s c dp yr : Nat} (h : UN g b n) (hn : g b = n) (hn9 : n < 9) (hf : insG g b c n 0 = none) : UN (addsG g b s c dp yr) b (n + 1) := by
  obtain ⟨a0, a1, a2, a3, a4, a5, a6⟩ := addsG_at (s := s) (c := c) (dp := dp) (yr := yr) hn hn9
  have hf2 := fnd_none n 0 hf
  have hfree : ∀ j, j < n → 0 < g (b + 19 + j) → g (b + 10 + j) ≠ c := fun j hj hd hc => by
    have := hf2 j (by omega) (by omega)
    rw [decide_eq_true (show g (b + 10 + j) = c ∧ 0 < g (b + 19 + j) from ⟨hc, hd⟩)] at this
    cases this
  intro i j hi hj hdi hdj hc
  by_cases ei : i = n
  · by_cases ej : j = n
    · omega
    · subst ei
      rw [a2, addsG_ne hn (by omega)] at hc
      rw [addsG_ne hn (by omega)] at hdj
      exact absurd hc.symm (hfree j (by omega) hdj)
  · by_cases ej : j = n
    · subst ej
      rw [a2, addsG_ne hn (by omega)] at hc
      rw [addsG_ne hn (by omega)] at hdi
      exact absurd hc (hfree i (by omega) hdi)
    · rw [addsG_ne hn (by omega), addsG_ne hn (by omega)] at hc
      rw [addsG_ne hn (by omega)] at hdi hdj
      exact h i j (by omega) (by omega) hdi hdj hc
theorem CP_add {s c dp yr : Nat} (h : CP g b n) (hn : g b = n) (hn9 : n < 9) (hc : dp ≤ cap s) : CP (addsG g b s c dp yr) b (n + 1) := by
  obtain ⟨a0, a1, a2, a3, a4, a5, a6⟩ := addsG_at (s := s) (c := c) (dp := dp) (yr := yr) hn hn9
  intro i hi
  by_cases e : i = n
  · subst e
    rw [a1, a3]; exact hc
  · rw [addsG_ne hn (by omega), addsG_ne hn (by omega)]
    exact h i (by omega)
theorem GB_add {s c dp yr : Nat} (h : GB g b) (hn : g b = n) (hn9 : n < 9) (h1 : s ≤ 4) (h2 : c < 36) (h3 : dp ≤ 1000) (h4 : yr ≤ 63) : GB (addsG g b s c dp yr) b := by
  obtain ⟨a0, a1, a2, a3, a4, a5, a6⟩ := addsG_at (s := s) (c := c) (dp := dp) (yr := yr) hn hn9
  intro i hi
  by_cases e : i = n
  · subst e
    rw [a1, a2, a3, a4, a5]
    exact ⟨h1, h2, h3, by omega, h4⟩
  · rw [addsG_ne hn (by omega), addsG_ne hn (by omega), addsG_ne hn (by omega), addsG_ne hn (by omega), addsG_ne hn (by omega)]
    exact h i hi
theorem tie_clear (h0 : g b = 0) (h55 : g (b + 55) = 0) : RW (w_clear u) g b 0 4 5 7 (fun _ => 1) := by
  refine ⟨⟨rfl, rfl, rfl, ?_, rfl⟩, h0, fun c hc => ?_, fun i hi => by omega⟩
  · rw [h55]; rfl
  · have : c = 0 ∨ c = 1 ∨ c = 2 ∨ c = 3 ∨ c = 4 ∨ c = 5 := by omega
    rcases this with rfl | rfl | rfl | rfl | rfl | rfl <;> rfl
/-! what the list of numbers is -/
theorem r_lst_f {x p1 : Nat} (h : r_num lt p = some (x, p1)) : r_lst lt (m + 1) p = if lt p1 = 59 then some ([x], p1 + 1) else if lt p1 = 44 then (match r_lst lt m (p1 + 1) with | none => none | some (xs, q) => some (x :: xs, q)) else none := by
  show (match r_num lt p with
    | none => none
    | some (x, p') => if lt p' = 59 then some ([x], p' + 1) else if lt p' = 44 then (match r_lst lt m (p' + 1) with | none => none | some (xs, q) => some (x :: xs, q)) else none) = _
  rw [h]
theorem r_lst_inv {xs : List Nat} (h : r_lst lt (m + 1) p = some (xs, q)) : ∃ x p1, r_num lt p = some (x, p1) ∧ ((lt p1 = 59 ∧ xs = [x] ∧ q = p1 + 1) ∨ (lt p1 = 44 ∧ ∃ ys, xs = x :: ys ∧ r_lst lt m (p1 + 1) = some (ys, q))) := by
  cases hr : r_num lt p with
  | none =>
    have : r_lst lt (m + 1) p = none := by
      show (match r_num lt p with
        | none => none
        | some (x, p') => if lt p' = 59 then some ([x], p' + 1) else if lt p' = 44 then (match r_lst lt m (p' + 1) with | none => none | some (xs, q) => some (x :: xs, q)) else none) = _
      rw [hr]
    rw [this] at h; cases h
  | some xp =>
    obtain ⟨x, p1⟩ := xp
    rw [r_lst_f hr] at h
    refine ⟨x, p1, rfl, ?_⟩
    by_cases c1 : lt p1 = 59
    · rw [if_pos c1] at h; cases h
      exact Or.inl ⟨c1, rfl, rfl⟩
    · rw [if_neg c1] at h
      by_cases c2 : lt p1 = 44
      · rw [if_pos c2] at h
        refine Or.inr ⟨c2, ?_⟩
        cases hl : r_lst lt m (p1 + 1) with
        | none => rw [hl] at h; cases h
        | some yq =>
          obtain ⟨ys, q'⟩ := yq
          rw [hl] at h; cases h
          exact ⟨ys, rfl, rfl⟩
      · rw [if_neg c2] at h; cases h
theorem fig44 {k : Nat} (h : lt k = 44) : fig (lt k) = none := by rw [h]; rfl
theorem fig59 {k : Nat} (h : lt k = 59) : fig (lt k) = none := by rw [h]; rfl
theorem r_num3_of {x p1 : Nat} (h : r_num lt p = some (x, p1)) (hf : fig (lt p1) = none) (hb : lo ≤ x ∧ x ≤ hi) : r_num3 lt p lo hi = some (x, p1) := by
  unfold r_num3
  rw [h]
  exact if_pos ⟨hf, hb⟩
theorem r_more_of {x p1 : Nat} (h0 : lt p = 44) (h : r_num lt (p + 1) = some (x, p1)) (hf : fig (lt p1) = none) (hb : lo ≤ x ∧ x ≤ hi) : r_more lt p lo hi = some (x, p1) := by
  unfold r_more
  rw [if_pos h0]
  exact r_num3_of h hf hb
theorem r_more_b {x p1 : Nat} (h : r_more lt p lo hi = some (x, p1)) : lt p = 44 ∧ r_num lt (p + 1) = some (x, p1) ∧ fig (lt p1) = none ∧ lo ≤ x ∧ x ≤ hi := by
  unfold r_more at h
  by_cases c : lt p = 44
  · rw [if_pos c] at h; exact ⟨c, r_num3_b h⟩
  · rw [if_neg c] at h; cases h
theorem r_lst_1 {xs : List Nat} (h : r_lst lt (m + 1) p = some (xs, q)) (hl : xs.length = 1) : ∃ x p1, r_num lt p = some (x, p1) ∧ lt p1 = 59 ∧ xs = [x] ∧ q = p1 + 1 := by
  obtain ⟨x, p1, h1, h2 | ⟨h2, ys, h3, h4⟩⟩ := r_lst_inv h
  · exact ⟨x, p1, h1, h2⟩
  · subst h3
    cases m with
    | zero => cases h4
    | succ m =>
      obtain ⟨y, p2, _, h5 | ⟨_, zs, h5, _⟩⟩ := r_lst_inv h4
      · rw [h5.2.1] at hl; cases hl
      · rw [h5] at hl; cases hl
theorem r_lst_s {xs : List Nat} {k : Nat} (h : r_lst lt (m + 1) p = some (xs, q)) (hl : xs.length = k + 2) : ∃ x p1 ys, r_num lt p = some (x, p1) ∧ lt p1 = 44 ∧ xs = x :: ys ∧ ys.length = k + 1 ∧ r_lst lt m (p1 + 1) = some (ys, q) := by
  obtain ⟨x, p1, h1, ⟨h2, h3, h4⟩ | ⟨h2, ys, h3, h4⟩⟩ := r_lst_inv h
  · rw [h3] at hl; cases hl
  · refine ⟨x, p1, ys, h1, h2, h3, ?_, h4⟩
    rw [h3] at hl
    simp only [List.length_cons] at hl
    omega
end QTI
