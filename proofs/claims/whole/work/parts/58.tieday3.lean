section QTF
variable {i j n b cl bl rw c m k : Nat} {u w v : qV} {g mo dm al g' : Nat → Nat} {rg : Bool} {x y : Int32}
/-- rows 0 to 3 are as they were -/
def r03 (v w : qV) : Prop := ∀ j, j < 4 → ∀ k, w j k = v j k
theorem r03_refl : r03 v v := fun _ _ _ => rfl
theorem r03_trans (h : r03 v w) (h' : r03 w u) : r03 v u := fun j hj k => (h' j hj k).trans (h j hj k)
theorem r03_vs : r03 v (vs v (4 + i) k x) := fun j hj k' => vs_ne (by omega)
theorem r03_lose : r03 v (n_lose v (4 + i) x) := r03_vs
theorem r03_rust : r03 v (n_rust v (4 + i) y) := by
  unfold n_rust
  split
  · exact r03_refl
  · split
    · exact r03_refl
    · split
      · exact r03_vs
      · exact r03_trans r03_vs (r03_trans r03_vs r03_lose)
theorem r03_leave : r03 v (n_leave v (4 + i)) := by
  unfold n_leave
  split
  · exact r03_trans r03_vs r03_vs
  · exact r03_refl
theorem r03_shake : r03 v (n_shake v (4 + i)) := by
  unfold n_shake
  split
  · exact r03_refl
  · exact r03_lose
theorem r03_lean : r03 v (w_lean v i n) := by
  unfold w_lean
  split
  · split
    · exact r03_lose
    · exact r03_refl
  · exact r03_refl
theorem r03_bell : r03 v (w_bell v n) := lp_hd (P := fun w : qV => r03 v w) (fun i s h => by
  unfold w_bellf
  split
  · exact h
  · exact r03_trans h (r03_trans r03_shake r03_lean)) _ _ _ r03_refl
theorem r03_mix1 {s : qV × Int32} : r03 s.1 (w_mix1 i j s).1 := by
  unfold w_mix1
  split
  · exact r03_trans r03_vs r03_vs
  · exact r03_refl
theorem r03_mixf {s : qV × Int32} : r03 s.1 (w_mixf n i s).1 := by
  unfold w_mixf
  split
  · exact lp_hd (P := fun w : qV × Int32 => r03 s.1 w.1) (fun j t h => r03_trans h r03_mix1) _ _ _ r03_refl
  · exact r03_refl
theorem r03_rusts : r03 v (lp w_rustf n 0 v) := lp_hd (P := fun w : qV => r03 v w) (fun i s h => r03_trans h r03_rust) _ _ _ r03_refl
theorem r03_pass0 {P : Prop} [Decidable P] : r03 (vs v 0 6 (v 0 6 + nI 1)) (w_pass0 v n P) := by
  unfold w_pass0
  refine lp_hd (P := fun w : qV => r03 (vs v 0 6 (v 0 6 + nI 1)) w) (fun i s h => r03_trans h r03_leave) _ _ _ ?_
  split
  · exact r03_trans r03_rusts r03_bell
  · exact r03_rusts
theorem r03_pass {P : Prop} [Decidable P] : r03 (vs v 0 6 (v 0 6 + nI 1)) (w_pass v n P).1 := by
  unfold w_pass
  exact lp_hd (P := fun w : qV × Int32 => r03 (vs v 0 6 (v 0 6 + nI 1)) w.1) (fun i s h => r03_trans h r03_mixf) _ _ _ r03_pass0
theorem hold_B (hn : n ≤ 9) : hasB (w_hold v n 0 (nI 0)) (fun j => j < n ∧ ¬ v (4 + j) 3 < nI 1) := by
  have := lp_ind (P := fun k z => hasB z (fun j => j < k ∧ ¬ v (4 + j) 3 < nI 1)) (f := fun i z => if v (4 + i) 3 < nI 1 then z else z ||| (nI 1 <<< (nI i &&& 31))) (n := n) (fun i z hi hz => by
    by_cases c : v (4 + i) 3 < nI 1
    · rw [if_pos c]
      refine hasB_congr hz (fun j hj => ⟨fun hh => ⟨by omega, hh.2⟩, fun hh => ?_⟩)
      by_cases e : j = i
      · rw [e] at hh; exact absurd c hh.2
      · exact ⟨by omega, hh.2⟩
    · rw [if_neg c]
      refine hasB_congr (hasB_or hz (show i < 9 by omega)) (fun j hj => ⟨fun hh => ?_, fun hh => ?_⟩)
      · rcases hh with rfl | hh
        · exact ⟨by omega, c⟩
        · exact ⟨by omega, hh.2⟩
      · by_cases e : j = i
        · exact Or.inl e
        · exact Or.inr ⟨by omega, hh.2⟩) n 0 (nI 0) (by omega) (hasB_congr hasB_0 (fun j _ => ⟨fun h => h.elim, fun h => by omega⟩))
  exact this
theorem shkN_congr (h : ∀ q, q < b + 19 ∨ b + 28 ≤ q → g' q = g q) (hn9 : n ≤ 9) (hi : i < 9) : shkN cl b n al g' i = shkN cl b n al g i := by
  unfold shkN
  have e0 : shk0 b g' i = shk0 b g i := by unfold shk0; rw [h _ (by omega)]
  rw [e0]
  have : ∀ k j s, j + k ≤ 9 → lp (shkf cl b al g' i) k j s = lp (shkf cl b al g i) k j s := by
    intro k
    induction k with
    | zero => intro j s _; rfl
    | succ k ih =>
      intro j s hj
      have e : shkf cl b al g' i j s = shkf cl b al g i j s := by unfold shkf; rw [h _ (by omega), h _ (by omega), h _ (by omega)]
      show lp _ k (j + 1) (shkf cl b al g' i j s) = lp _ k (j + 1) (shkf cl b al g i j s)
      rw [e]
      exact ih _ _ (by omega)
  exact this n 0 _ (by omega)
theorem bellG_d (hn9 : n ≤ 9) (hi : i < n) : bellG cl b n true g (b + 19 + i) = g (b + 19 + i) - shkN cl b n (fun i => g (b + 19 + i)) g i := by
  have := lp_ind (P := fun k t => (∀ i, i < k → t (b + 19 + i) = g (b + 19 + i) - shkN cl b n (fun i => g (b + 19 + i)) g i) ∧ ∀ q, q < b + 19 ∨ b + 28 ≤ q → t q = g q) (f := shdG cl b n (fun i => g (b + 19 + i))) (n := n) (fun k t hk ht => by
    refine ⟨fun i hi => ?_, fun q hq => ?_⟩
    · unfold shdG
      by_cases e : i = k
      · subst e
        rw [gs_same, shkN_congr ht.2 hn9 (by omega)]
      · rw [gs_ne (by omega)]
        exact ht.1 i (by omega)
    · unfold shdG
      rw [gs_ne (by omega)]
      exact ht.2 q hq) n 0 g (by omega) ⟨fun i hi => by omega, fun _ _ => rfl⟩
  exact this.1 i hi
theorem RN_bell (h : RN u g b n cl) (hn9 : n ≤ 9) (hcl : 0 < cl ∧ cl ≤ 6) (hg : GB g b) (hu : UN g b n) : RN (w_bell u n) (bellG cl b n true g) b n cl := by
  have hh := hold_B (v := u) hn9
  have hB : RN (w_bell u n) (gBV cl b (fun i => g (b + 19 + i)) g n n) b n cl := by
    refine lp_ind (P := fun k w => RN w (gBV cl b (fun i => g (b + 19 + i)) g k k) b n cl) (f := w_bellf (w_hold u n 0 (nI 0)) n) (n := n) (fun k w hk hw => ?_) n 0 u (by omega) ?_
    · have hgk := hg k (by omega)
      refine BQ_step (al := fun i => g (b + 19 + i)) hn9 hcl hg (fun i hi => (hg i hi).2.2.1) hu hk ?_ hw
      rw [hasB_0' hh (by omega)]
      obtain ⟨_, _, _, e3, _⟩ := h k hk
      rw [e3, nI_ltI (by omega) (by omega)]
      exact propext ⟨fun q => by
        refine Classical.byContradiction fun c => q ⟨hk, by omega⟩, fun q => by omega⟩
    · refine RN_congr h (fun i hi => ?_)
      rw [gBV_d (by omega), gBV_o (by omega), gBV_o (by omega), gBV_o (by omega), gBV_o (by omega), gBV_o (by omega)]
      refine ⟨rfl, rfl, ?_, rfl, rfl, rfl⟩
      unfold BV
      rw [if_neg (by omega)]
      rfl
  refine RN_congr hB (fun i hi => ?_)
  rw [gBV_d (by omega), gBV_o (by omega), gBV_o (by omega), gBV_o (by omega), gBV_o (by omega), gBV_o (by omega), bellG_d hn9 hi, bellG_ne hn9 (by omega), bellG_ne hn9 (by omega), bellG_ne hn9 (by omega), bellG_ne hn9 (by omega), bellG_ne hn9 (by omega)]
  refine ⟨rfl, rfl, ?_, rfl, rfl, rfl⟩
  unfold BV shkN
  rw [if_pos hi, shkf_add]
  rfl
theorem rust_dle (hi : i < 9) : rusG mo cl b j g (b + 19 + i) ≤ g (b + 19 + i) := by
  unfold rusG rustG
  split
  · exact Nat.le_refl _
  · split
    · exact Nat.le_refl _
    · split
      · by_cases e : i = j
        · subst e; rw [gs_same]; omega
        · rw [gs_ne (by omega), gs_ne (by omega), gs_ne (by omega)]; exact Nat.le_refl _
      · rw [gs_ne (by omega)]; exact Nat.le_refl _
theorem rusts_dle (hn9 : n ≤ 9) (hi : i < 9) : lp (rusG mo cl b) n 0 g (b + 19 + i) ≤ g (b + 19 + i) := lp_hd (P := fun t : Nat → Nat => t (b + 19 + i) ≤ g (b + 19 + i)) (fun j t h => Nat.le_trans (rust_dle hi) h) _ _ _ (Nat.le_refl _)
theorem bellG_dle (hn9 : n ≤ 9) (hi : i < n) : bellG cl b n rg g (b + 19 + i) ≤ g (b + 19 + i) := by
  cases rg with
  | true => rw [bellG_d hn9 hi]; omega
  | false => exact Nat.le_refl _
theorem goesG_d (hn9 : n ≤ 9) (hi : i < n) : (goesG mo cl b n rg g).1 (b + 19 + i) = bellG cl b n rg (lp (rusG mo cl b) n 0 g) (b + 19 + i) := by
  show gs (tailG cl b n (bellG cl b n rg (lp (rusG mo cl b) n 0 g))).1 (b + 55) _ (b + 19 + i) = _
  rw [gs_ne (by omega), tailG_ne hn9 (by omega)]
theorem goesG_dle (hn9 : n ≤ 9) (hi : i < n) : (goesG mo cl b n rg g).1 (b + 19 + i) ≤ g (b + 19 + i) := by
  rw [goesG_d hn9 hi]
  exact Nat.le_trans (bellG_dle hn9 hi) (rusts_dle hn9 (by omega))
theorem UN_le (h : UN g b n) (hn9 : n ≤ 9) (hd : ∀ i, i < n → g' (b + 19 + i) ≤ g (b + 19 + i)) (hc : ∀ i, i < n → g' (b + 10 + i) = g (b + 10 + i)) : UN g' b n := by
  intro i j hi hj h1 h2 h3
  rw [hc i hi, hc j hj] at h3
  exact h i j hi hj (by have := hd i hi; omega) (by have := hd j hj; omega) h3
theorem UN_goes (h : UN g b n) (hn9 : n ≤ 9) : UN (goesG mo cl b n rg g).1 b n := UN_le h hn9 (fun i hi => goesG_dle hn9 hi) (fun i hi => goesG_ne hn9 (by omega) (by omega))
theorem CP_goes (h : CP g b n) (hn9 : n ≤ 9) : CP (goesG mo cl b n rg g).1 b n := fun i hi => by
  rw [goesG_ne (k := b + 1 + i) hn9 (by omega) (by omega)]
  exact Nat.le_trans (goesG_dle hn9 hi) (h i hi)
theorem w_pass_congr {P Q : Prop} [hP : Decidable P] [hQ : Decidable Q] (h : P ↔ Q) : w_pass v n P = w_pass v n Q := by
  have e : P = Q := propext h
  subst e
  have : hP = hQ := Subsingleton.elim _ _
  rw [this]
/-- a day of both -/
theorem tie_goes (h : RW u g b n rw cl bl dm) (hn9 : n ≤ 9) (hcl : 0 < cl ∧ cl ≤ 6) (hm : ∀ c, c < 6 → dm c ≤ 9) (hg : GB g b) (hu : UN g b n) : RW (w_pass u n (rg = true)).1 (goesG dm cl b n rg g).1 b n rw cl bl dm ∧ (w_pass u n (rg = true)).2 = opI (goesG dm cl b n rg g).2 := by
  obtain ⟨⟨h1, h2, h3, h4, h5⟩, h6, h7, h8⟩ := h
  have hr0 := r03_pass (v := u) (n := n) (P := (rg = true))
  have hrn0 : RN (vs u 0 6 (u 0 6 + nI 1)) g b n cl := fun i hi => by
    simp (disch := omega) only [vs_ne]
    exact h8 i hi
  have hrust : RN (lp w_rustf n 0 (vs u 0 6 (u 0 6 + nI 1))) (lp (rusG dm cl b) n 0 g) b n cl ∧ GB (lp (rusG dm cl b) n 0 g) b := by
    have := lp_two (Q := fun w t => (RN w t b n cl ∧ GB t b) ∧ ∀ c, c < 6 → w 3 c = nI (dm c)) (f := w_rustf) (h := rusG dm cl b) (n := n) (fun i w t hi q => ⟨⟨RN_rust q.1.1 q.1.2 hn9 hi hcl q.2 hm, rustG_GB (by omega) hcl hm q.1.2⟩, fun c hc => (r03_rust 3 (by omega) c).trans (q.2 c hc)⟩) n 0 (vs u 0 6 (u 0 6 + nI 1)) g (by omega) ⟨⟨hrn0, hg⟩, fun c hc => (vs_ne (by omega)).trans (h7 c hc)⟩
    exact this.1
  have hu1 : UN (lp (rusG dm cl b) n 0 g) b n := UN_le hu hn9 (fun i hi => rusts_dle hn9 (by omega)) (fun i hi => lp_rust_ne hn9 (by omega))
  have hbell : RN (if rg = true then w_bell (lp w_rustf n 0 (vs u 0 6 (u 0 6 + nI 1))) n else lp w_rustf n 0 (vs u 0 6 (u 0 6 + nI 1))) (bellG cl b n rg (lp (rusG dm cl b) n 0 g)) b n cl := by
    cases rg with
    | true => exact RN_bell hrust.1 hn9 hcl hrust.2 hu1
    | false => exact hrust.1
  have hgb := bellG_GB (cl := cl) (rg := rg) hn9 hrust.2
  have hleave : RN (w_pass0 u n (rg = true)) (lp (lvG b) n 0 (bellG cl b n rg (lp (rusG dm cl b) n 0 g))) b n cl ∧ GB (lp (lvG b) n 0 (bellG cl b n rg (lp (rusG dm cl b) n 0 g))) b := lp_two (Q := fun w t => RN w t b n cl ∧ GB t b) (f := w_leavef) (h := lvG b) (n := n) (fun i w t hi q => ⟨RN_leave q.1 q.2 hn9 hi, lvG_GB (by omega) q.2⟩) n 0 _ _ (by omega) ⟨hbell, hgb⟩
  have hmix : OuQ b n cl (w_pass u n (rg = true)) (tailG cl b n (bellG cl b n rg (lp (rusG dm cl b) n 0 g))) := lp_two (Q := OuQ b n cl) (f := w_mixf n) (h := mixR cl b n) (n := n) (fun i s t hi q => OuQ_step hn9 hcl hi q) n 0 _ _ (by omega) ⟨hleave.1, hleave.2, rfl, fun c hc => by cases hc⟩
  obtain ⟨k1, k2, k3, k4⟩ := hmix
  refine ⟨⟨⟨(hr0 0 (by omega) 3).trans ((vs_ne (by omega)).trans h1), (hr0 0 (by omega) 4).trans ((vs_ne (by omega)).trans h2), (hr0 0 (by omega) 5).trans ((vs_ne (by omega)).trans h3), ?_, (hr0 0 (by omega) 7).trans ((vs_ne (by omega)).trans h5)⟩, (goesG_ne hn9 (by omega) (by omega)).trans h6, fun c hc => (hr0 3 (by omega) c).trans ((vs_ne (by omega)).trans (h7 c hc)), ?_⟩, k3⟩
  · rw [hr0 0 (by omega) 6, vs_same, h4, nI_add, goesG_55 hn9]
  · refine RN_congr k1 (fun i hi => ?_)
    unfold goesG
    simp (disch := omega) only [gs_ne]
    exact ⟨trivial, trivial, trivial, trivial, trivial, trivial⟩
theorem rings_n (h : RW u g b n rw cl bl dm) (hbl : 0 < bl ∧ bl ≤ 30) (hd : g (b + 55) < 100000) : (qrem (u 0 6 + nI 1) (nI bl) = nI 0) = (ringG b bl g = true) := by
  obtain ⟨⟨h1, h2, h3, h4, h5⟩, h6, h7, h8⟩ := h
  have := Nat.mod_lt (g (b + 55) + 1) hbl.1
  rw [h4, nI_add, qrem_nI (by omega) hbl.1 (by omega), nI_eq (by omega) (by omega)]
  unfold ringG
  exact propext (decide_eq_true_iff).symm
end QTF
