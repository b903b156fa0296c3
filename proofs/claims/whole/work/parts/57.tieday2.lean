theorem lp_two' {α β : Type} {Q : α → β → Prop} {f : Nat → α → α} {h : Nat → β → β} {n i0 : Nat} (hf : ∀ i s t, i0 ≤ i → i < n → Q s t → Q (f i s) (h i t)) : ∀ (k i : Nat) (s : α) (t : β), i0 ≤ i → i + k ≤ n → Q s t → Q (lp f k i s) (lp h k i t) := by
  intro k
  induction k with
  | zero => intro i s t _ hi q; exact q
  | succ k ih => intro i s t h0 hi q; exact ih (i + 1) _ _ (by omega) (by omega) (hf i s t h0 (by omega) q)
section QTE
variable {i j n b cl bl rw c m k : Nat} {u w v : qV} {g mo dm al g' : Nat → Nat} {rg : Bool}
theorem mixR_id {t : (Nat → Nat) × Option Nat} (hlo : ¬ (0 < t.1 (b + 19 + i) ∧ t.1 (b + 19 + i) < 3)) : ∀ k j, lp (mixG cl b i) k j t = t := by
  intro k
  induction k with
  | zero => intro j; rfl
  | succ k ih =>
    intro j
    have : mixG cl b i j t = t := by unfold mixG; exact if_neg (fun hh => hlo hh.1)
    show lp (mixG cl b i) k (j + 1) (mixG cl b i j t) = t
    rw [this]
    exact ih (j + 1)
/-- all pairs of i -/
def OuQ (b n cl : Nat) (s : qV × Int32) (t : (Nat → Nat) × Option Nat) : Prop := RN s.1 t.1 b n cl ∧ GB t.1 b ∧ s.2 = opI t.2 ∧ ∀ c, t.2 = some c → c < 100
theorem OuQ_step {s : qV × Int32} {t : (Nat → Nat) × Option Nat} (hn9 : n ≤ 9) (hcl : 0 < cl ∧ cl ≤ 6) (hi : i < n) (h : OuQ b n cl s t) : OuQ b n cl (w_mixf n i s) (mixR cl b n i t) := by
  obtain ⟨hr, hg, hz, hz9⟩ := h
  have hlu := lsN_u hr hg hn9 hi
  unfold w_mixf mixR
  by_cases c1 : 0 < t.1 (b + 19 + i) ∧ t.1 (b + 19 + i) < 3
  · rw [if_pos (by rw [hlu]; exact c1)]
    have key := lp_two' (Q := fun s' t' => MiQ b n cl i t.2 s' t' ∧ t'.1 (b + 19 + i) = t.1 (b + 19 + i)) (f := w_mix1 i) (h := mixG cl b i) (n := n) (i0 := i + 1) (fun j s' t' h1 h2 h3 => ⟨MiQ_step hn9 hcl hi h2 (by omega) (by rw [h3.2]; exact c1) h3.1, (mixG_ne (by omega) (by omega)).trans h3.2⟩) (n - (i + 1)) (i + 1) (s.1, -4) t (Nat.le_refl _) (by omega) ⟨⟨hr, hg, none, rfl, (fun c hc => by cases hc), by cases t.2 <;> rfl⟩, rfl⟩
    obtain ⟨⟨k1, k2, zo, k3, k4, k5⟩, _⟩ := key
    refine ⟨k1, k2, ?_, ?_⟩
    · show (if s.2 = -4 ∧ ¬ (lp (w_mix1 i) (n - (i + 1)) (i + 1) (s.1, -4)).2 = -4 then nI 10 * nI i + (lp (w_mix1 i) (n - (i + 1)) (i + 1) (s.1, -4)).2 else s.2) = _
      rw [k5, k3]
      cases hm : t.2 with
      | none =>
        rw [hm] at hz
        cases zo with
        | none => rw [if_neg (fun hh => hh.2 rfl)]; exact hz
        | some z0 =>
          have h9 := k4 z0 rfl
          have := eqI4 (c := z0) (by omega)
          rw [if_pos ⟨hz, by rw [show opI (some z0) = nI z0 from rfl, this]; exact id⟩, show opI (some z0) = nI z0 from rfl, pk_mul, nI_add]
          rfl
      | some c =>
        rw [hm] at hz
        have hc := hz9 c hm
        have := eqI4 (c := c) (by omega)
        rw [if_neg (fun hh => by rw [hz, show opI (some c) = nI c from rfl, this] at hh; exact hh.1)]
        exact hz
    · intro c hc
      rw [k5] at hc
      cases hm : t.2 with
      | none =>
        rw [hm] at hc
        cases zo with
        | none => cases hc
        | some z0 =>
          have h9 := k4 z0 rfl
          cases hc
          show 10 * i + z0 < 100
          omega
      | some c' =>
        rw [hm] at hc
        cases hc
        exact hz9 c hm
  · rw [if_neg (by rw [hlu]; exact c1), mixR_id c1]
    exact ⟨hr, hg, hz, hz9⟩
/-! the bell -/
theorem tie_findN (h : RN u g b n cl) (hn9 : n ≤ 9) (hg : GB g b) (hc : c < 100) : ∀ k i, i + k ≤ n → w_find u (nI (c / cl)) (nI (c % cl)) k i = insG g b c k i := by
  intro k i hk
  refine fnd_congr k i (fun j h1 h2 => ?_)
  obtain ⟨e0, e1, e2, e3, e4, e5, e6⟩ := h j (by omega)
  have hgj := hg j (by omega)
  have hd := Nat.div_le_self c cl
  have hd2 := Nat.div_le_self (g (b + 10 + j)) cl
  have hm := Nat.mod_le c cl
  have hm2 := Nat.mod_le (g (b + 10 + j)) cl
  refine decide_eq_decide.mpr ?_
  rw [e1, e2, e3, eqI (by omega) (by omega), eqI (by omega) (by omega), ltI (by omega) (by omega)]
  refine ⟨fun ⟨a1, a2, a3⟩ => ⟨divmod_eq a1 a2, by omega⟩, fun ⟨a1, a2⟩ => ⟨by rw [a1], by rw [a1], by omega⟩⟩
theorem RN_congr (h : RN u g b n cl) (e : ∀ i, i < n → g' (b + 1 + i) = g (b + 1 + i) ∧ g' (b + 10 + i) = g (b + 10 + i) ∧ g' (b + 19 + i) = g (b + 19 + i) ∧ g' (b + 28 + i) = g (b + 28 + i) ∧ g' (b + 37 + i) = g (b + 37 + i) ∧ g' (b + 46 + i) = g (b + 46 + i)) : RN u g' b n cl := by
  intro i hi
  obtain ⟨e1, e2, e3, e4, e5, e6⟩ := e i hi
  rw [e1, e2, e3, e4, e5, e6]
  exact h i hi
def lsG (cl b : Nat) (al g : Nat → Nat) (k i : Nat) : Nat := lp (shkf cl b al g i) k 0 0
theorem shkf_add : ∀ k j s, lp (shkf cl b al g i) k j s = s + lp (shkf cl b al g i) k j 0 := by
  intro k
  induction k with
  | zero => intro j s; rfl
  | succ k ih =>
    intro j s
    show lp (shkf cl b al g i) k (j + 1) (shkf cl b al g i j s) = s + lp (shkf cl b al g i) k (j + 1) (shkf cl b al g i j 0)
    rw [ih (j + 1) (shkf cl b al g i j s), ih (j + 1) (shkf cl b al g i j 0)]
    have : shkf cl b al g i j s = s + shkf cl b al g i j 0 := by unfold shkf; split <;> omega
    omega
theorem lsG_s : lsG cl b al g (k + 1) i = lsG cl b al g k i + (if (g (b + 1 + k) = 4 ∧ 0 < al k ∧ g (b + 10 + k) % cl < cl - 1) ∧ g (b + 10 + k) + 1 = g (b + 10 + i) then 1 else 0) := by
  unfold lsG
  rw [lp_last, Nat.zero_add]
  show shkf cl b al g i k _ = _
  unfold shkf
  split <;> rfl
def BV (cl b : Nat) (al g : Nat → Nat) (p k i : Nat) : Nat := al i - ((if i < p then shk0 b g i else 0) + lsG cl b al g k i)
def gBV (cl b : Nat) (al g : Nat → Nat) (p k : Nat) : Nat → Nat := fun q => if b + 19 ≤ q ∧ q < b + 28 then BV cl b al g p k (q - (b + 19)) else g q
theorem gBV_d {p : Nat} (hi : i < 9) : gBV cl b al g p k (b + 19 + i) = BV cl b al g p k i := by
  unfold gBV
  rw [if_pos (by omega), show b + 19 + i - (b + 19) = i by omega]
theorem gBV_o {p q : Nat} (hq : q < b + 19 ∨ b + 28 ≤ q) : gBV cl b al g p k q = g q := if_neg (by omega)
theorem gBV_GB {p : Nat} (hg : GB g b) (ha : ∀ i, i < 9 → al i ≤ 1000) : GB (gBV cl b al g p k) b := by
  intro i hi
  rw [gBV_d hi, gBV_o (by omega), gBV_o (by omega), gBV_o (by omega), gBV_o (by omega)]
  obtain ⟨g1, g2, g3, g4, g5⟩ := hg i hi
  have := ha i hi
  unfold BV
  exact ⟨g1, g2, by omega, g4, g5⟩
/-- how the bell shakes nail k and leans it -/
theorem BQ_step {z : Int32} (hn9 : n ≤ 9) (hcl : 0 < cl ∧ cl ≤ 6) (hg : GB g b) (ha : ∀ i, i < 9 → al i ≤ 1000) (hu : ∀ i j, i < n → j < n → 0 < al i → 0 < al j → g (b + 10 + i) = g (b + 10 + j) → i = j) (hk : k < n) (hz : (hasI z (nI k) = nI 0) = (al k = 0)) (h : RN w (gBV cl b al g k k) b n cl) : RN (w_bellf z n k w) (gBV cl b al g (k + 1) (k + 1)) b n cl := by
  have hgk := hg k (by omega)
  have hak := ha k (by omega)
  obtain ⟨e0, e1, e2, e3, e4, e5, e6⟩ := h k hk
  rw [gBV_o (by omega)] at e0 e1 e2 e4 e5 e6
  rw [gBV_d (by omega)] at e3
  unfold w_bellf
  by_cases c0 : al k = 0
  · rw [if_pos (by rw [hz]; exact c0)]
    refine RN_congr h (fun i hi => ?_)
    rw [gBV_d (by omega), gBV_d (by omega), gBV_o (by omega), gBV_o (by omega), gBV_o (by omega), gBV_o (by omega), gBV_o (by omega), gBV_o (by omega), gBV_o (by omega), gBV_o (by omega), gBV_o (by omega), gBV_o (by omega)]
    refine ⟨rfl, rfl, ?_, rfl, rfl, rfl⟩
    have els : lsG cl b al g (k + 1) i = lsG cl b al g k i := by rw [lsG_s, if_neg (fun hh => by omega), Nat.add_zero]
    unfold BV
    rw [els]
    by_cases ei : i = k
    · rw [ei, c0]; omega
    · by_cases c2 : i < k
      · rw [if_pos c2, if_pos (by omega)]
      · rw [if_neg c2, if_neg (by omega)]
  · rw [if_neg (by rw [hz]; exact c0)]
    have hs : RN (n_shake w (4 + k)) (gBV cl b al g (k + 1) k) b n cl := by
      have hBk : BV cl b al g k k k = al k - lsG cl b al g k k := by unfold BV; rw [if_neg (by omega), Nat.zero_add]
      have hBk1 : BV cl b al g (k + 1) k k = al k - (shk0 b g k + lsG cl b al g k k) := by unfold BV; rw [if_pos (by omega)]
      have hoth : ∀ i, i ≠ k → BV cl b al g (k + 1) k i = BV cl b al g k k i := fun i hi => by
        unfold BV
        by_cases c2 : i < k
        · rw [if_pos c2, if_pos (by omega)]
        · rw [if_neg c2, if_neg (by omega)]
      unfold n_shake
      rw [e0]
      by_cases c3 : g (b + 1 + k) = 3
      · rw [if_pos (by rw [c3])]
        refine RN_congr h (fun i hi => ?_)
        rw [gBV_d (by omega), gBV_d (by omega), gBV_o (by omega), gBV_o (by omega), gBV_o (by omega), gBV_o (by omega), gBV_o (by omega), gBV_o (by omega), gBV_o (by omega), gBV_o (by omega), gBV_o (by omega), gBV_o (by omega)]
        refine ⟨rfl, rfl, ?_, rfl, rfl, rfl⟩
        by_cases ei : i = k
        · rw [ei, hBk, hBk1]
          unfold shk0
          rw [if_neg (by omega), if_pos c3, Nat.zero_add]
        · exact hoth i ei
      · rw [if_neg (fun hh => c3 ((nI_eq (by omega) (by omega)).mp hh))]
        have hown : (if nI (g (b + 1 + k)) = nI 2 then nI 2 else nI 1) = nI (shk0 b g k) := by
          unfold shk0
          by_cases c4 : g (b + 1 + k) = 2
          · rw [if_pos c4, if_pos (by rw [c4])]
          · rw [if_neg c4, if_neg (fun hh => c4 ((nI_eq (by omega) (by omega)).mp hh)), if_neg c3]
        have hsle : shk0 b g k ≤ 2 := by unfold shk0; repeat' split
                                         all_goals omega
        rw [hown]
        unfold n_lose
        rw [e3, hBk, max_lose (by omega) (by omega)]
        intro i hi
        rw [gBV_d (by omega), gBV_o (by omega), gBV_o (by omega), gBV_o (by omega), gBV_o (by omega), gBV_o (by omega)]
        obtain ⟨f0, f1, f2, f3, f4, f5, f6⟩ := h i hi
        rw [gBV_o (by omega)] at f0 f1 f2 f4 f5 f6
        rw [gBV_d (by omega)] at f3
        by_cases ei : i = k
        · subst ei
          simp (disch := omega) only [vs_ne, vs_same]
          refine ⟨e0, e1, e2, ?_, e4, e5, e6⟩
          rw [hBk1, show al i - lsG cl b al g i i - shk0 b g i = al i - (shk0 b g i + lsG cl b al g i i) by omega]
        · simp (disch := omega) only [vs_ne]
          rw [hoth i ei]
          exact ⟨f0, f1, f2, f3, f4, f5, f6⟩
    have hgb1 := gBV_GB (cl := cl) (p := k + 1) (k := k) hg ha
    obtain ⟨f0, f1, f2, f3, f4, f5, f6⟩ := hs k hk
    rw [gBV_o (by omega)] at f0 f1 f2 f4 f5 f6
    have hmod := Nat.mod_lt (g (b + 10 + k)) hcl.1
    have hfin : ∀ w', RN w' (gBV cl b al g (k + 1) k) b n cl → (∀ i, i < n → BV cl b al g (k + 1) (k + 1) i = BV cl b al g (k + 1) k i) → RN w' (gBV cl b al g (k + 1) (k + 1)) b n cl := fun w' hw' he => by
      refine RN_congr hw' (fun i hi => ?_)
      rw [gBV_d (by omega), gBV_d (by omega), gBV_o (by omega), gBV_o (by omega), gBV_o (by omega), gBV_o (by omega), gBV_o (by omega), gBV_o (by omega), gBV_o (by omega), gBV_o (by omega), gBV_o (by omega), gBV_o (by omega)]
      exact ⟨rfl, rfl, he i hi, rfl, rfl, rfl⟩
    have hstep : ∀ i, BV cl b al g (k + 1) (k + 1) i = BV cl b al g (k + 1) k i - (if (g (b + 1 + k) = 4 ∧ 0 < al k ∧ g (b + 10 + k) % cl < cl - 1) ∧ g (b + 10 + k) + 1 = g (b + 10 + i) then 1 else 0) := fun i => by
      unfold BV
      rw [lsG_s]
      omega
    unfold w_lean
    rw [f0]
    by_cases c4 : g (b + 1 + k) = 4
    · rw [if_pos (by rw [c4])]
      by_cases c5 : g (b + 10 + k) % cl < cl - 1
      · have hdm := Nat.div_add_mod (g (b + 10 + k)) cl
        have e1' : (g (b + 10 + k) + 1) / cl = g (b + 10 + k) / cl := by
          rw [Nat.div_eq_iff hcl.1]
          have : g (b + 10 + k) / cl * cl = cl * (g (b + 10 + k) / cl) := Nat.mul_comm _ _
          omega
        have e2' : (g (b + 10 + k) + 1) % cl = g (b + 10 + k) % cl + 1 := by
          have h1 := Nat.div_add_mod (g (b + 10 + k) + 1) cl
          rw [e1'] at h1
          omega
        have hf := tie_findN hs hn9 hgb1 (show g (b + 10 + k) + 1 < 100 by omega) n 0 (by omega)
        rw [e1', e2'] at hf
        rw [f1, f2, nI_add, hf]
        cases hins : insG (gBV cl b al g (k + 1) k) b (g (b + 10 + k) + 1) n 0 with
        | none =>
          refine hfin _ hs (fun i hi => ?_)
          rw [hstep i]
          by_cases c6 : (g (b + 1 + k) = 4 ∧ 0 < al k ∧ g (b + 10 + k) % cl < cl - 1) ∧ g (b + 10 + k) + 1 = g (b + 10 + i)
          · have := fnd_none n 0 hins i (by omega) (by omega)
            have hz0 : BV cl b al g (k + 1) k i = 0 := by
              refine Classical.byContradiction fun hh => ?_
              rw [decide_eq_true (show gBV cl b al g (k + 1) k (b + 10 + i) = g (b + 10 + k) + 1 ∧ 0 < gBV cl b al g (k + 1) k (b + 19 + i) from ⟨by rw [gBV_o (by omega)]; exact c6.2.symm, by rw [gBV_d (by omega)]; omega⟩)] at this
              cases this
            rw [hz0]; omega
          · rw [if_neg c6]; omega
        | some j =>
          obtain ⟨_, hj, hp⟩ := fnd_in hins
          have hp2 := of_decide_eq_true hp
          have hjn : j < n := by omega
          rw [gBV_o (by omega), gBV_d (by omega)] at hp2
          have halj : 0 < al j := by have := hp2.2; unfold BV at this; omega
          show RN (n_lose (n_shake w (4 + k)) (4 + j) (nI 1)) _ b n cl
          obtain ⟨q0, q1, q2, q3, q4, q5, q6⟩ := hs j hjn
          rw [gBV_o (by omega)] at q0 q1 q2 q4 q5 q6
          rw [gBV_d (by omega)] at q3
          have hBle : BV cl b al g (k + 1) k j ≤ 1000 := by have := ha j (by omega); unfold BV; omega
          unfold n_lose
          rw [q3, max_lose (by omega) (by omega)]
          intro i hi
          rw [gBV_d (by omega), gBV_o (by omega), gBV_o (by omega), gBV_o (by omega), gBV_o (by omega), gBV_o (by omega), hstep i]
          obtain ⟨r0, r1, r2, r3, r4, r5, r6⟩ := hs i hi
          rw [gBV_o (by omega)] at r0 r1 r2 r4 r5 r6
          rw [gBV_d (by omega)] at r3
          by_cases ei : i = j
          · subst ei
            simp (disch := omega) only [vs_ne, vs_same]
            rw [if_pos ⟨⟨c4, by omega, c5⟩, hp2.1.symm⟩]
            exact ⟨q0, q1, q2, rfl, q4, q5, q6⟩
          · simp (disch := omega) only [vs_ne]
            have hsame : BV cl b al g (k + 1) k i - (if (g (b + 1 + k) = 4 ∧ 0 < al k ∧ g (b + 10 + k) % cl < cl - 1) ∧ g (b + 10 + k) + 1 = g (b + 10 + i) then 1 else 0) = BV cl b al g (k + 1) k i := by
              by_cases c6 : (g (b + 1 + k) = 4 ∧ 0 < al k ∧ g (b + 10 + k) % cl < cl - 1) ∧ g (b + 10 + k) + 1 = g (b + 10 + i)
              · have hal0 : al i = 0 := by
                  refine Classical.byContradiction fun hh => ei ?_
                  exact hu i j hi hjn (by omega) halj (by rw [hp2.1, ← c6.2])
                have : BV cl b al g (k + 1) k i = 0 := by unfold BV; omega
                rw [this]; omega
              · rw [if_neg c6]; omega
            rw [hsame]
            exact ⟨r0, r1, r2, r3, r4, r5, r6⟩
      · have hnone : w_find (n_shake w (4 + k)) (n_shake w (4 + k) (4 + k) 1) (n_shake w (4 + k) (4 + k) 2 + nI 1) n 0 = none := by
          cases hf : w_find (n_shake w (4 + k)) (n_shake w (4 + k) (4 + k) 1) (n_shake w (4 + k) (4 + k) 2 + nI 1) n 0 with
          | none => rfl
          | some j =>
            obtain ⟨_, hj, hp⟩ := fnd_in hf
            have hp2 := of_decide_eq_true hp
            obtain ⟨q0, q1, q2, q3, q4, q5, q6⟩ := hs j (by omega)
            rw [gBV_o (by omega)] at q2
            have hmj := Nat.mod_lt (g (b + 10 + j)) hcl.1
            have := hp2.2.1
            rw [q2, f2, nI_add, nI_eq (by omega) (by omega)] at this
            omega
        rw [hnone]
        refine hfin _ hs (fun i hi => ?_)
        rw [hstep i, if_neg (fun hh => c5 hh.1.2.2)]
        omega
    · rw [if_neg (fun hh => c4 ((nI_eq (by omega) (by omega)).mp hh))]
      refine hfin _ hs (fun i hi => ?_)
      rw [hstep i, if_neg (fun hh => c4 hh.1.1)]
      omega
end QTE
