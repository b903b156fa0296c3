/-! ===== ROOM: the two are one ===== -/
section QRO2
variable {r k q s t m p a cl rw c x n i : Nat} {σ σ' : Nat → Nat} {op : Nat → Nat} {told : Option Nat} {fr : Nat → Int32}
/-- the rows of the class (op) and of the reference (fr) let the same sets be; rows behind the last none -/
def RMQ (op : Nat → Nat) (fr : Nat → Int32) (rw cl : Nat) : Prop := (∀ q, q < rw → ∀ s, s < 64 → can s (op q) = canI s (fr q)) ∧ (∀ q, rw ≤ q → q < 6 → ∀ s, s < 64 → can s (op q) = true → s = 0) ∧ (∀ q, q < 6 → can 0 (op q) = true) ∧ (∀ q, q < 6 → ∀ s, s < 64 → can s (op q) = true → s < 2 ^ cl) ∧ rw ≤ 6 ∧ 0 < cl ∧ cl ≤ 6
theorem tz_has : ∀ t, t < 64 → 0 < t → t / 2 ^ tz t % 2 = 1 := by decide +kernel
theorem tz_le : ∀ t, t < 64 → ∀ c, c < 6 → t / 2 ^ c % 2 = 1 → tz t ≤ c := by decide +kernel
theorem tz_cl : ∀ cl, cl < 7 → ∀ t, t < 64 → 0 < t → t < 2 ^ cl → tz t < cl := by decide +kernel
/-- a way over the class's rows is one over the reference's, and back -/
theorem fea_ref (h : RMQ op fr rw cl) (hf : Fea (fun q s => can s (op q)) σ 0 6) : Fea (crN fr cl none) σ 0 rw ∧ tot σ rw 0 = tot σ 6 0 := by
  obtain ⟨h1, h2, h3, h4, h5, h6⟩ := h
  refine ⟨fun q a b => ?_, ?_⟩
  · have := hf q (by omega) (by omega)
    refine ⟨this.1, ?_, fun c => this.2.2 (by omega)⟩
    show (canI (σ q) (fr q) && true) = true
    rw [Bool.and_true, ← h1 q (by omega) _ this.1]
    exact this.2.1
  · have e := tot_app (σ := σ) rw (6 - rw) 0
    rw [show rw + (6 - rw) = 6 by omega] at e
    rw [e, tot_0 (6 - rw) (0 + rw) (fun q a b => ?_), Nat.add_zero]
    have := hf q (by omega) (by omega)
    exact h2 q (by omega) (by omega) _ this.1 this.2.1
theorem fea_cls (h : RMQ op fr rw cl) (hf : Fea (crN fr cl told) σ 0 rw) : ∃ σ', Fea (fun q s => can s (op q)) σ' 0 6 ∧ tot σ' 6 0 = tot σ rw 0 ∧ ∀ q, q < rw → σ' q = σ q := by
  obtain ⟨h1, h2, h3, h4, h5, h6⟩ := h
  refine ⟨fun q => if q < rw then σ q else 0, fun q a b => ?_, ?_, fun q hq => if_pos hq⟩
  · show (if q < rw then σ q else 0) < 64 ∧ can (if q < rw then σ q else 0) (op q) = true ∧ (_ → dj (if q < rw then σ q else 0) (if q + 1 < rw then σ (q + 1) else 0) = true)
    by_cases c : q < rw
    · rw [if_pos c]
      have := hf q (by omega) (by omega)
      have hc := this.2.1
      unfold crN at hc
      rw [Bool.and_eq_true] at hc
      refine ⟨this.1, by rw [h1 q c _ this.1]; exact hc.1, fun _ => ?_⟩
      by_cases c2 : q + 1 < rw
      · rw [if_pos c2]; exact this.2.2 (by omega)
      · rw [if_neg c2]; exact dj_0r
    · rw [if_neg c]
      exact ⟨by omega, h3 q (by omega), fun _ => dj_0l⟩
  · have e := tot_app (σ := fun q => if q < rw then σ q else 0) rw (6 - rw) 0
    rw [show rw + (6 - rw) = 6 by omega] at e
    rw [e, tot_0 (6 - rw) (0 + rw) (fun q a b => if_neg (by omega)), Nat.add_zero]
    exact tot_congr rw 0 (fun q a b => if_pos (by omega))
def allN (op : Nat → Nat) : Nat := mw 0 (Wk op 6) 64 0 0
theorem all_le (hf : Fea (fun q s => can s (op q)) σ 0 6) : tot σ 6 0 ≤ allN op := by
  have h1 := B2 5 0 (by omega) hf
  have h2 := (mw_max (s := 0) (w := Wk op 6)).1 (σ 0) (hf 0 (by omega) (by omega)).1 dj_0l
  exact Nat.le_trans h1 h2
theorem all_ex (h : RMQ op fr rw cl) : ∃ σ, Fea (fun q s => can s (op q)) σ 0 6 ∧ tot σ 6 0 = allN op := by
  obtain ⟨h1, h2, h3, h4, h5, h6⟩ := h
  have hz : ∃ σ, Fea (fun q s => can s (op q)) σ 0 6 ∧ tot σ 6 0 = 0 := ⟨fun _ => 0, fun q a b => ⟨(by decide : 0 < 64), h3 q (by omega), fun _ => dj_0l⟩, tot_0 6 0 (fun _ _ _ => rfl)⟩
  rcases (mw_max (s := 0) (w := Wk op 6)).2 with e | ⟨t, ht, hd, e⟩
  · obtain ⟨σ, a, b⟩ := hz
    exact ⟨σ, a, b.trans e.symm⟩
  · by_cases c : can t (op 0) = true
    · obtain ⟨σ, a, b, d⟩ := B1 h3 5 0 t (by omega) ht c
      exact ⟨σ, a, d.trans e⟩
    · have : Wk op 6 t = 0 := by
        have := GrN_s (op := op) (s := t) (r := 0) (by omega)
        rw [if_neg c] at this
        exact this
      obtain ⟨σ, a, b⟩ := hz
      exact ⟨σ, a, by rw [b]; show 0 = mw 0 (Wk op 6) 64 0 0; rw [← e, this]⟩
theorem room_all (h : RMQ op fr rw cl) : rmG fr cl rw none = some (allN op) := by
  obtain ⟨σ, hf, e⟩ := all_ex h
  obtain ⟨f1, f2⟩ := fea_ref h hf
  obtain ⟨a, ha, hle⟩ := (rmG_max (told := none)).2 σ f1
  obtain ⟨σ2, g1, g2⟩ := (rmG_max (told := none)).1 a ha
  obtain ⟨σ3, k1, k2, _⟩ := fea_cls h g1
  have := all_le k1
  have : a = allN op := by omega
  rw [ha, this]
/-- a cell is in a way -/
theorem okT_in (hm : m < 64) (hc : x % cl < 6) : okT (some x) cl (x / cl) m = true ↔ m / 2 ^ (x % cl) % 2 = 1 := by
  show (decide (x / cl ≠ x / cl) || decide (hasI (nI m) (nI (x % cl)) = nI 1)) = true ↔ _
  rw [decide_eq_false (fun hh => hh rfl), Bool.false_or, decide_eq_true_iff, bit_has m (by omega) _ (by omega), nI_eq (by omega) (by omega)]
theorem room_at (h : RMQ op fr rw cl) (hx : x < rw * cl) : rmG fr cl rw (some x) = some (allN op) ↔ ∃ σ, Fea (fun q s => can s (op q)) σ 0 6 ∧ tot σ 6 0 = allN op ∧ σ (x / cl) / 2 ^ (x % cl) % 2 = 1 := by
  obtain ⟨h1, h2, h3, h4, h5, h6⟩ := id h
  have hmod := Nat.mod_lt x h6.1
  have hdv : x / cl < rw := Nat.div_lt_of_lt_mul (by rw [Nat.mul_comm]; exact hx)
  constructor
  · intro hr
    obtain ⟨σ, g1, g2⟩ := (rmG_max (told := some x)).1 _ hr
    obtain ⟨σ', k1, k2, k3⟩ := fea_cls h g1
    refine ⟨σ', k1, k2.trans g2, ?_⟩
    rw [k3 _ hdv]
    have := g1 (x / cl) (Nat.zero_le _) (by rw [Nat.zero_add]; exact hdv)
    have hc := this.2.1
    unfold crN at hc
    rw [Bool.and_eq_true] at hc
    exact (okT_in this.1 (by omega)).mp hc.2
  · intro ⟨σ, hf, e, hb⟩
    obtain ⟨f1, f2⟩ := fea_ref h hf
    have f3 : Fea (crN fr cl (some x)) σ 0 rw := fun q a b => by
      have := f1 q a b
      refine ⟨this.1, ?_, this.2.2⟩
      have hc := this.2.1
      unfold crN at hc ⊢
      rw [Bool.and_eq_true] at hc ⊢
      refine ⟨hc.1, ?_⟩
      by_cases e : q = x / cl
      · rw [e]; exact (okT_in (by rw [← e]; exact this.1) (by omega)).mpr hb
      · show (decide (x / cl ≠ q) || decide (hasI (nI (σ q)) (nI (x % cl)) = nI 1)) = true
        have e2 : ¬ x / cl = q := fun hh => e hh.symm
        simp [e2]
    obtain ⟨a, ha, hle⟩ := (rmG_max (told := some x)).2 σ f3
    obtain ⟨σ2, g1, g2⟩ := (rmG_max (told := some x)).1 a ha
    obtain ⟨σ3, k1, k2, _⟩ := fea_cls h g1
    have := all_le k1
    have : a = allN op := by omega
    rw [ha, this]
/-- zeros ahead of row r -/
theorem Gr_way (h : RMQ op fr rw cl) (hr : r < 6) (ht : t < 64) (hc : can t (op r) = true) : ∃ σ, Fea (fun q s => can s (op q)) σ 0 6 ∧ tot σ 6 0 = GrN op r t ∧ σ r = t := by
  obtain ⟨h1, h2, h3, h4, h5, h6⟩ := id h
  obtain ⟨σ, f1, f2, f3⟩ := B1 h3 (5 - r) r t (by omega) ht hc
  rw [show 5 - r + 1 = 6 - r by omega] at f1 f3
  refine ⟨fun q => if q < r then 0 else σ q, fun q a b => ?_, ?_, (if_neg (by omega)).trans f2⟩
  · show (if q < r then 0 else σ q) < 64 ∧ can (if q < r then 0 else σ q) (op q) = true ∧ (_ → dj (if q < r then 0 else σ q) (if q + 1 < r then 0 else σ (q + 1)) = true)
    by_cases c : q < r
    · rw [if_pos c]; exact ⟨by omega, h3 q (by omega), fun _ => dj_0l⟩
    · rw [if_neg c, if_neg (by omega)]
      have := f1 q (by omega) (by omega)
      exact ⟨this.1, this.2.1, fun c => this.2.2 (by omega)⟩
  · have e := tot_app (σ := fun q => if q < r then 0 else σ q) r (6 - r) 0
    rw [show r + (6 - r) = 6 by omega] at e
    rw [e, tot_0 r 0 (fun q a b => if_pos (by omega)), Nat.zero_add, Nat.zero_add, ← f3]
    exact tot_congr (6 - r) r (fun q a b => if_neg (by omega))
theorem lc_min {all : Nat} {w : Nat → Nat} : (∀ c, lc all w 63 1 none = some c → ∃ t, 0 < t ∧ t < 64 ∧ w t = all ∧ tz t = c) ∧ (∀ t, 0 < t → t < 64 → w t = all → ∃ c, lc all w 63 1 none = some c ∧ c ≤ tz t) := by
  have key := lp_ind (P := fun j z => 0 < j ∧ (∀ c, z = some c → ∃ t, 0 < t ∧ t < 64 ∧ w t = all ∧ tz t = c) ∧ (∀ t, 0 < t → t < j → w t = all → ∃ c, z = some c ∧ c ≤ tz t)) (f := lcf all w) (n := 64) (fun i z hi hz0 => by
    obtain ⟨hi0, hz⟩ := hz0
    refine ⟨by omega, ?_⟩
    by_cases h0 : i = 0
    · omega
    · unfold lcf
      by_cases c1 : w i = all
      · rw [if_pos c1]
        cases z with
        | none =>
          refine ⟨fun c hc => ?_, fun t h1 h2 h3 => ?_⟩
          · have : some (tz i) = some c := hc
            cases this
            exact ⟨i, by omega, hi, c1, rfl⟩
          · by_cases e : t = i
            · rw [e]; exact ⟨tz i, rfl, Nat.le_refl _⟩
            · obtain ⟨c, hc, _⟩ := hz.2 t h1 (by omega) h3; cases hc
        | some c0 =>
          show (∀ c, (if tz i < c0 then some (tz i) else some c0) = some c → _) ∧ (∀ t, _ → _ → _ → ∃ c, (if tz i < c0 then some (tz i) else some c0) = some c ∧ _)
          by_cases c2 : tz i < c0
          · rw [if_pos c2]
            refine ⟨fun c hc => ?_, fun t h1 h2 h3 => ⟨tz i, rfl, ?_⟩⟩
            · cases hc; exact ⟨i, by omega, hi, c1, rfl⟩
            · by_cases e : t = i
              · rw [e]; exact Nat.le_refl _
              · obtain ⟨c, hc, hle⟩ := hz.2 t h1 (by omega) h3
                cases hc; omega
          · rw [if_neg c2]
            refine ⟨hz.1, fun t h1 h2 h3 => ⟨c0, rfl, ?_⟩⟩
            by_cases e : t = i
            · rw [e]; omega
            · obtain ⟨c, hc, hle⟩ := hz.2 t h1 (by omega) h3
              cases hc; exact hle
      · rw [if_neg c1]
        refine ⟨hz.1, fun t h1 h2 h3 => ?_⟩
        by_cases e : t = i
        · rw [e] at h3; exact absurd h3 c1
        · exact hz.2 t h1 (by omega) h3) 63 1 none rfl ⟨by omega, (fun c h => by cases h), fun t h1 h2 => by omega⟩
  exact key.2
end QRO2
