/-! ===== BLOWS: a nail that is deeper goes as one that is less deep, as long as that one is firm ===== -/
theorem lp_ind2 {α β : Type} {Q : Nat → α → β → Prop} {f : Nat → α → α} {h : Nat → β → β} {n : Nat} (hf : ∀ i s t, i < n → Q i s t → Q (i + 1) (f i s) (h i t)) : ∀ (k i : Nat) (s : α) (t : β), i + k = n → Q i s t → Q n (lp f k i s) (lp h k i t) := by
  intro k
  induction k with
  | zero => intro i s t hi q; rw [show n = i by omega]; exact q
  | succ k ih => intro i s t hi q; exact ih (i + 1) _ _ (by omega) (hf i s t (by omega) q)
section QSH
variable {i j n b cl bl e m : Nat} {g g1 g2 mo : Nat → Nat} {rg : Bool}
def SE (b i e m : Nat) (g1 g2 : Nat → Nat) : Prop := (∀ k, k ≠ b + 19 + i → g1 k = g2 k) ∧ g1 (b + 19 + i) = g2 (b + 19 + i) + e ∧ m ≤ g2 (b + 19 + i)
theorem SE_rust (hn9 : n ≤ 9) (hi : i < n) (h : SE b i e 3 g1 g2) : SE b i e 2 (lp (rusG mo cl b) n 0 g1) (lp (rusG mo cl b) n 0 g2) := by
  have := lp_ind2 (Q := fun k t1 t2 => SE b i e (if k ≤ i then 3 else 2) t1 t2) (f := rusG mo cl b) (h := rusG mo cl b) (n := n) (fun k t1 t2 hk q => by
    obtain ⟨q1, q2, q3⟩ := q
    unfold rusG rustG
    by_cases c : k = i
    · subst c
      rw [if_pos (Nat.le_refl k)] at q3
      rw [if_neg (show ¬ k + 1 ≤ k by omega), if_neg (show ¬ t1 (b + 19 + k) = 0 by omega), if_neg (show ¬ t2 (b + 19 + k) = 0 by omega), q1 _ (show b + 1 + k ≠ b + 19 + k by omega), q1 _ (show b + 28 + k ≠ b + 19 + k by omega), q1 _ (show b + 10 + k ≠ b + 19 + k by omega)]
      by_cases c1 : t2 (b + 1 + k) = 1
      · rw [if_pos c1, if_pos c1]
        exact ⟨q1, q2, by omega⟩
      · rw [if_neg c1, if_neg c1]
        by_cases c2 : 9 < t2 (b + 28 + k) + mo (t2 (b + 10 + k) % cl)
        · rw [if_pos c2, if_pos c2]
          refine ⟨fun q hq => ?_, ?_, ?_⟩
          · rw [gs_ne hq, gs_ne hq]
            unfold gs
            split
            · rfl
            · exact q1 q hq
          · rw [gs_same, gs_same]; omega
          · rw [gs_same]; omega
        · rw [if_neg c2, if_neg c2]
          refine ⟨fun q hq => ?_, ?_, ?_⟩
          · unfold gs
            split
            · rfl
            · exact q1 q hq
          · rw [gs_ne (by omega), gs_ne (by omega)]; exact q2
          · rw [gs_ne (by omega)]; omega
    · have e1 : t1 (b + 19 + k) = t2 (b + 19 + k) := q1 _ (by omega)
      have q3' : (if k + 1 ≤ i then 3 else 2) ≤ t2 (b + 19 + i) := by
        by_cases c5 : k + 1 ≤ i
        · rw [if_pos c5]; rw [if_pos (by omega)] at q3; exact q3
        · rw [if_neg c5]
          split at q3 <;> omega
      rw [e1, q1 _ (show b + 1 + k ≠ b + 19 + i by omega), q1 _ (show b + 28 + k ≠ b + 19 + i by omega), q1 _ (show b + 10 + k ≠ b + 19 + i by omega)]
      by_cases c0 : t2 (b + 19 + k) = 0
      · rw [if_pos c0, if_pos c0]; exact ⟨q1, q2, q3'⟩
      · rw [if_neg c0, if_neg c0]
        by_cases c1 : t2 (b + 1 + k) = 1
        · rw [if_pos c1, if_pos c1]
          exact ⟨q1, q2, q3'⟩
        · rw [if_neg c1, if_neg c1]
          have hgs : ∀ (x : Nat), SE b i e (if k + 1 ≤ i then 3 else 2) (gs t1 (b + 28 + k) x) (gs t2 (b + 28 + k) x) := fun x => by
            refine ⟨fun q hq => ?_, ?_, ?_⟩
            · unfold gs
              split
              · rfl
              · exact q1 q hq
            · rw [gs_ne (by omega), gs_ne (by omega)]; exact q2
            · rw [gs_ne (by omega)]; exact q3'
          by_cases c2 : 9 < t2 (b + 28 + k) + mo (t2 (b + 10 + k) % cl)
          · rw [if_pos c2, if_pos c2]
            refine ⟨fun q hq => ?_, ?_, ?_⟩
            · unfold gs
              repeat' split
              all_goals first | rfl | exact q1 q hq
            · rw [gs_ne (by omega), gs_ne (by omega), gs_ne (by omega), gs_ne (by omega), gs_ne (by omega), gs_ne (by omega)]; exact q2
            · rw [gs_ne (by omega), gs_ne (by omega), gs_ne (by omega)]; exact q3'
          · rw [if_neg c2, if_neg c2]
            exact hgs _) n 0 g1 g2 (by omega) (by rw [if_pos (by omega)]; exact h)
  rw [if_neg (by omega)] at this
  exact this
theorem bellG_n (hn9 : n ≤ 9) (hj : n ≤ j) (hj9 : j < 9) : bellG cl b n rg g (b + 19 + j) = g (b + 19 + j) := by
  unfold bellG
  split
  · exact lp_in (n := n) (P := fun t : Nat → Nat => t (b + 19 + j) = g (b + 19 + j)) (fun i s hi hs => (gs_ne (by omega)).trans hs) n 0 g (by omega) rfl
  · rfl
theorem shkN_SE (hn9 : n ≤ 9) (hi : i < n) (h : SE b i e 1 g1 g2) (hj : j < 9) : shkN cl b n (fun q => g1 (b + 19 + q)) g1 j = shkN cl b n (fun q => g2 (b + 19 + q)) g2 j := by
  obtain ⟨q1, q2, q3⟩ := h
  unfold shkN
  have e0 : shk0 b g1 j = shk0 b g2 j := by unfold shk0; rw [q1 _ (by omega)]
  rw [e0]
  have : ∀ k r s, r + k ≤ 9 → lp (shkf cl b (fun q => g1 (b + 19 + q)) g1 j) k r s = lp (shkf cl b (fun q => g2 (b + 19 + q)) g2 j) k r s := by
    intro k
    induction k with
    | zero => intro r s _; rfl
    | succ k ih =>
      intro r s hr
      have ea : (0 < g1 (b + 19 + r)) = (0 < g2 (b + 19 + r)) := by
        by_cases c : r = i
        · subst c; exact propext ⟨fun _ => by omega, fun _ => by omega⟩
        · rw [q1 _ (by omega)]
      have e : shkf cl b (fun q => g1 (b + 19 + q)) g1 j r s = shkf cl b (fun q => g2 (b + 19 + q)) g2 j r s := by
        unfold shkf
        simp only [q1 (b + 1 + r) (by omega), q1 (b + 10 + r) (by omega), q1 (b + 10 + j) (by omega), ea]
      show lp _ k (r + 1) (shkf cl b (fun q => g1 (b + 19 + q)) g1 j r s) = lp _ k (r + 1) (shkf cl b (fun q => g2 (b + 19 + q)) g2 j r s)
      rw [e]
      exact ih _ _ (by omega)
  exact this n 0 _ (by omega)
/-- behind the bell: all but i as it is; i as much deeper as ahead, or less -/
theorem SE_bell (hn9 : n ≤ 9) (hi : i < n) (h : SE b i e 1 g1 g2) : (∀ k, k ≠ b + 19 + i → bellG cl b n rg g1 k = bellG cl b n rg g2 k) ∧ (bellG cl b n rg g1 (b + 19 + i) = bellG cl b n rg g2 (b + 19 + i) + e ∨ (bellG cl b n rg g2 (b + 19 + i) = 0 ∧ bellG cl b n rg g1 (b + 19 + i) ≤ e)) := by
  have h0 := h
  obtain ⟨q1, q2, q3⟩ := h
  cases rg with
  | false => exact ⟨q1, Or.inl q2⟩
  | true =>
    refine ⟨fun k hk => ?_, ?_⟩
    · by_cases c : k < b + 19 ∨ b + 28 ≤ k
      · rw [bellG_ne hn9 c, bellG_ne hn9 c, q1 k hk]
      · obtain ⟨j, rfl⟩ : ∃ j, k = b + 19 + j := ⟨k - (b + 19), by omega⟩
        by_cases c2 : j < n
        · rw [bellG_d hn9 c2, bellG_d hn9 c2, shkN_SE hn9 hi h0 (by omega), q1 _ hk]
        · rw [bellG_n hn9 (by omega) (by omega), bellG_n hn9 (by omega) (by omega), q1 _ hk]
    · rw [bellG_d hn9 hi, bellG_d hn9 hi, shkN_SE hn9 hi h0 (by omega), q2]
      by_cases c : shkN cl b n (fun q => g2 (b + 19 + q)) g2 i ≤ g2 (b + 19 + i)
      · exact Or.inl (by omega)
      · exact Or.inr ⟨by omega, by omega⟩
theorem SE_leave (hn9 : n ≤ 9) (hi : i < n) (h : SE b i e 3 g1 g2) : SE b i e 3 (lp (lvG b) n 0 g1) (lp (lvG b) n 0 g2) := by
  refine lp_two (Q := SE b i e 3) (f := lvG b) (h := lvG b) (n := n) (fun k t1 t2 hk q => ?_) n 0 g1 g2 (by omega) h
  obtain ⟨q1, q2, q3⟩ := q
  unfold lvG
  by_cases c : k = i
  · subst c
    rw [if_neg (show ¬ t1 (b + 19 + k) = 0 by omega), if_neg (show ¬ t2 (b + 19 + k) = 0 by omega)]
    exact ⟨q1, q2, q3⟩
  · rw [q1 (b + 19 + k) (by omega)]
    by_cases c0 : t2 (b + 19 + k) = 0
    · rw [if_pos c0, if_pos c0]
      refine ⟨fun q hq => ?_, ?_, ?_⟩
      · unfold gs
        repeat' split
        all_goals first | rfl | exact q1 q hq
      · rw [gs_ne (by omega), gs_ne (by omega), gs_ne (by omega), gs_ne (by omega)]; exact q2
      · rw [gs_ne (by omega), gs_ne (by omega)]; exact q3
    · rw [if_neg c0, if_neg c0]
      exact ⟨q1, q2, q3⟩
def SM (b i e : Nat) (t1 t2 : (Nat → Nat) × Option Nat) : Prop := SE b i e 3 t1.1 t2.1 ∧ t1.2 = t2.2
theorem SM_mix {k l : Nat} {t1 t2 : (Nat → Nat) × Option Nat} (hi : i < 9) (hk : k < 9) (hl : l < 9) (h : SM b i e t1 t2) : SM b i e (mixG cl b k l t1) (mixG cl b k l t2) := by
  obtain ⟨⟨q1, q2, q3⟩, q4⟩ := h
  have hcond : ∀ r, r < 9 → ((0 < t1.1 (b + 19 + r) ∧ t1.1 (b + 19 + r) < 3) ↔ (0 < t2.1 (b + 19 + r) ∧ t2.1 (b + 19 + r) < 3)) := fun r hr => by
    by_cases c : r = i
    · subst c; exact ⟨fun _ => by omega, fun _ => by omega⟩
    · rw [q1 _ (by omega)]
  unfold mixG
  rw [q1 (b + 10 + k) (by omega), q1 (b + 10 + l) (by omega), q1 (b + 37 + k) (by omega), q1 (b + 37 + l) (by omega), q4]
  by_cases c : (0 < t2.1 (b + 19 + k) ∧ t2.1 (b + 19 + k) < 3) ∧ (0 < t2.1 (b + 19 + l) ∧ t2.1 (b + 19 + l) < 3) ∧ apN (t2.1 (b + 10 + k) / cl) (t2.1 (b + 10 + l) / cl) + apN (t2.1 (b + 10 + k) % cl) (t2.1 (b + 10 + l) % cl) = 1
  · rw [if_pos c, if_pos ⟨(hcond k hk).mpr c.1, (hcond l hl).mpr c.2.1, c.2.2⟩]
    refine ⟨⟨fun q hq => ?_, ?_, ?_⟩, rfl⟩
    · show gs (gs t1.1 _ _) _ _ q = gs (gs t2.1 _ _) _ _ q
      unfold gs
      repeat' split
      all_goals first | rfl | exact q1 q hq
    · show gs (gs t1.1 _ _) _ _ _ = gs (gs t2.1 _ _) _ _ _ + e
      rw [gs_ne (by omega), gs_ne (by omega), gs_ne (by omega), gs_ne (by omega)]; exact q2
    · show 3 ≤ gs (gs t2.1 _ _) _ _ _
      rw [gs_ne (by omega), gs_ne (by omega)]; exact q3
  · rw [if_neg c, if_neg (fun hh => c ⟨(hcond k hk).mp hh.1, (hcond l hl).mp hh.2.1, hh.2.2⟩)]
    exact ⟨⟨q1, q2, q3⟩, q4⟩
theorem SE_day (hn9 : n ≤ 9) (hi : i < n) (h : SE b i e 3 g1 g2) : (3 ≤ (dayG mo cl bl b n g2).1 (b + 19 + i) → SE b i e 3 (dayG mo cl bl b n g1).1 (dayG mo cl bl b n g2).1) ∧ ((dayG mo cl bl b n g2).1 (b + 19 + i) < 3 → (dayG mo cl bl b n g1).1 (b + 19 + i) ≤ e + 2) := by
  have hring : ringG b bl g1 = ringG b bl g2 := by unfold ringG; rw [h.1 _ (by omega)]
  have hr := SE_rust (mo := mo) (cl := cl) hn9 hi h
  have hb := SE_bell (cl := cl) (rg := ringG b bl g2) hn9 hi ⟨hr.1, hr.2.1, Nat.le_trans (by omega) hr.2.2⟩
  have d1 : (dayG mo cl bl b n g1).1 (b + 19 + i) = bellG cl b n (ringG b bl g2) (lp (rusG mo cl b) n 0 g1) (b + 19 + i) := by unfold dayG; rw [goesG_d hn9 hi, hring]
  have d2 : (dayG mo cl bl b n g2).1 (b + 19 + i) = bellG cl b n (ringG b bl g2) (lp (rusG mo cl b) n 0 g2) (b + 19 + i) := by unfold dayG; rw [goesG_d hn9 hi]
  refine ⟨fun h3 => ?_, fun h3 => ?_⟩
  · rw [d2] at h3
    have hs : SE b i e 3 (bellG cl b n (ringG b bl g2) (lp (rusG mo cl b) n 0 g1)) (bellG cl b n (ringG b bl g2) (lp (rusG mo cl b) n 0 g2)) := ⟨hb.1, by rcases hb.2 with c | c; exact c; omega, h3⟩
    have hlv := SE_leave (n := n) hn9 hi hs
    have hmx : SM b i e (tailG cl b n (bellG cl b n (ringG b bl g2) (lp (rusG mo cl b) n 0 g1))) (tailG cl b n (bellG cl b n (ringG b bl g2) (lp (rusG mo cl b) n 0 g2))) := by
      unfold tailG
      refine lp_two (Q := SM b i e) (f := mixR cl b n) (h := mixR cl b n) (n := n) (fun k t1 t2 hk q => ?_) n 0 _ _ (by omega) ⟨hlv, rfl⟩
      unfold mixR
      exact lp_two (Q := SM b i e) (f := mixG cl b k) (h := mixG cl b k) (n := n) (fun l s1 s2 hl q' => SM_mix (by omega) (by omega) (by omega) q') (n - (k + 1)) (k + 1) t1 t2 (by omega) q
    obtain ⟨⟨m1, m2, m3⟩, m4⟩ := hmx
    have e55 := m1 (b + 55) (by omega)
    unfold dayG goesG
    rw [hring]
    refine ⟨fun q hq => ?_, ?_, ?_⟩
    · show gs _ _ _ q = gs _ _ _ q
      unfold gs
      split
      · rw [e55]
      · exact m1 q hq
    · show gs _ _ _ _ = gs _ _ _ _ + e
      rw [gs_ne (by omega), gs_ne (by omega)]; exact m2
    · show 3 ≤ gs _ _ _ _
      rw [gs_ne (by omega)]; exact m3
  · rw [d2] at h3
    rw [d1]
    rcases hb.2 with c | ⟨c1, c2⟩
    · omega
    · omega
end QSH
