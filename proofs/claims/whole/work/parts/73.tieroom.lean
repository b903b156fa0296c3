/-! ===== ROOM: from the last row up, and from the first row down ===== -/
section QRO1
variable {r k q s t m p a cl rw c x : Nat} {σ σ' : Nat → Nat} {cn : Nat → Nat → Bool} {w : Nat → Nat} {told : Option Nat} {fr : Nat → Int32}
def tot (σ : Nat → Nat) : Nat → Nat → Nat
  | 0, _ => 0
  | k + 1, r => pc (σ r) + tot σ k (r + 1)
/-- rows r, r + 1, .., k of them, that can be
-/
def Fea (cn : Nat → Nat → Bool) (σ : Nat → Nat) (r k : Nat) : Prop := ∀ q, r ≤ q → q < r + k → σ q < 64 ∧ cn q (σ q) = true ∧ (q + 1 < r + k → dj (σ q) (σ (q + 1)) = true)
theorem tot_last : ∀ k r, tot σ (k + 1) r = tot σ k r + pc (σ (r + k)) := by
  intro k
  induction k with
  | zero => intro r; show pc (σ r) + 0 = 0 + pc (σ (r + 0)); rw [Nat.zero_add]; rfl
  | succ k ih =>
    intro r
    show pc (σ r) + tot σ (k + 1) (r + 1) = pc (σ r) + tot σ k (r + 1) + pc (σ (r + (k + 1)))
    rw [ih (r + 1), show r + 1 + k = r + (k + 1) by omega]
    omega
theorem tot_congr : ∀ k r, (∀ q, r ≤ q → q < r + k → σ q = σ' q) → tot σ k r = tot σ' k r := by
  intro k
  induction k with
  | zero => intro r _; rfl
  | succ k ih =>
    intro r h
    show pc (σ r) + tot σ k (r + 1) = pc (σ' r) + tot σ' k (r + 1)
    rw [h r (Nat.le_refl r) (by omega), ih (r + 1) (fun q h1 h2 => h q (by omega) (by omega))]
theorem tot_0 : ∀ k r, (∀ q, r ≤ q → q < r + k → σ q = 0) → tot σ k r = 0 := by
  intro k
  induction k with
  | zero => intro r _; rfl
  | succ k ih =>
    intro r h
    show pc (σ r) + tot σ k (r + 1) = 0
    rw [h r (Nat.le_refl r) (by omega), ih (r + 1) (fun q h1 h2 => h q (by omega) (by omega))]
    rfl
theorem tot_app : ∀ k k' r, tot σ (k + k') r = tot σ k r + tot σ k' (r + k) := by
  intro k
  induction k with
  | zero => intro k' r; rw [Nat.zero_add]; show _ = 0 + tot σ k' (r + 0); rw [Nat.zero_add]; rfl
  | succ k ih =>
    intro k' r
    rw [show k + 1 + k' = (k + k') + 1 by omega]
    show pc (σ r) + tot σ (k + k') (r + 1) = pc (σ r) + tot σ k (r + 1) + tot σ k' (r + (k + 1))
    rw [ih k' (r + 1), show r + 1 + k = r + (k + 1) by omega]
    omega
theorem dj_0l : dj 0 t = true := by
  unfold dj
  rw [beq_iff_eq]
  exact Int32.toBitVec_inj.mp (by show BitVec.ofNat 32 0 &&& _ = _; rw [BitVec.zero_and]; rfl)
theorem dj_0r : dj t 0 = true := by
  unfold dj
  rw [beq_iff_eq]
  exact Int32.toBitVec_inj.mp (by show _ &&& BitVec.ofNat 32 0 = _; rw [BitVec.and_zero]; rfl)
theorem dj_sym : dj s t = dj t s := by
  unfold dj
  rw [show nI s &&& nI t = nI t &&& nI s from Int32.and_comm _ _]
theorem mw_max : (∀ t, t < 64 → dj s t = true → w t ≤ mw s w 64 0 0) ∧ (mw s w 64 0 0 = 0 ∨ ∃ t, t < 64 ∧ dj s t = true ∧ w t = mw s w 64 0 0) := by
  have := lp_ind (P := fun k z => (∀ t, t < k → dj s t = true → w t ≤ z) ∧ (z = 0 ∨ ∃ t, t < 64 ∧ dj s t = true ∧ w t = z)) (f := fun t z => if dj s t = true then mx z (w t) else z) (n := 64) (fun i z hi hz => by
    by_cases c : dj s i = true
    · rw [if_pos c]
      unfold mx
      by_cases c2 : z < w i
      · rw [if_pos c2]
        refine ⟨fun t ht hd => ?_, Or.inr ⟨i, hi, c, rfl⟩⟩
        by_cases e : t = i
        · rw [e]; exact Nat.le_refl _
        · have := hz.1 t (by omega) hd; omega
      · rw [if_neg c2]
        refine ⟨fun t ht hd => ?_, hz.2⟩
        by_cases e : t = i
        · rw [e]; omega
        · exact hz.1 t (by omega) hd
    · rw [if_neg c]
      refine ⟨fun t ht hd => ?_, hz.2⟩
      by_cases e : t = i
      · rw [e] at hd; exact absurd hd c
      · exact hz.1 t (by omega) hd) 64 0 0 rfl ⟨fun t ht => by omega, Or.inl rfl⟩
  exact this
/-- the most cells from row r on, row r being s -/
def GrN (op : Nat → Nat) (r s : Nat) : Nat := Wk op (6 - r) s
theorem GrN_6 {op : Nat → Nat} : GrN op 6 s = 0 := rfl
theorem GrN_s {op : Nat → Nat} (hr : r < 6) : GrN op r s = if can s (op r) = true then pc s + mw s (GrN op (r + 1)) 64 0 0 else 0 := by
  unfold GrN
  rw [show 6 - r = (6 - (r + 1)) + 1 by omega]
  show f_row (op (5 - (6 - (r + 1)))) (Wk op (6 - (r + 1))) s = _
  rw [show 5 - (6 - (r + 1)) = r by omega]
  rfl
theorem B2 {op : Nat → Nat} : ∀ k r, r + (k + 1) = 6 → Fea (fun q s => can s (op q)) σ r (k + 1) → tot σ (k + 1) r ≤ GrN op r (σ r) := by
  intro k
  induction k with
  | zero =>
    intro r hr hf
    obtain ⟨h1, h2, h3⟩ := hf r (Nat.le_refl r) (by omega)
    rw [GrN_s (by omega), if_pos h2]
    show pc (σ r) + 0 ≤ _
    omega
  | succ k ih =>
    intro r hr hf
    obtain ⟨h1, h2, h3⟩ := hf r (Nat.le_refl r) (by omega)
    have hi := ih (r + 1) (by omega) (fun q a b => ⟨(hf q (by omega) (by omega)).1, (hf q (by omega) (by omega)).2.1, fun c => (hf q (by omega) (by omega)).2.2 (by omega)⟩)
    have hm := (mw_max (s := σ r) (w := GrN op (r + 1))).1 (σ (r + 1)) (hf (r + 1) (by omega) (by omega)).1 (h3 (by omega))
    rw [GrN_s (by omega), if_pos h2]
    show pc (σ r) + tot σ (k + 1) (r + 1) ≤ _
    omega
theorem pc_0 : pc 0 = 0 := rfl
theorem B1 {op : Nat → Nat} (h0 : ∀ q, q < 6 → can 0 (op q) = true) : ∀ k r s, r + (k + 1) = 6 → s < 64 → can s (op r) = true → ∃ σ, Fea (fun q s => can s (op q)) σ r (k + 1) ∧ σ r = s ∧ tot σ (k + 1) r = GrN op r s := by
  intro k
  induction k with
  | zero =>
    intro r s hr hs hc
    refine ⟨fun _ => s, fun q a b => ?_, rfl, ?_⟩
    · have : q = r := by omega
      subst this
      exact ⟨hs, hc, fun c => by omega⟩
    · rw [GrN_s (by omega), if_pos hc]
      have hm := (mw_max (s := s) (w := GrN op (r + 1))).2
      have e6 : ∀ t, GrN op (r + 1) t = 0 := fun t => by rw [show r + 1 = 6 by omega]; rfl
      show pc s + 0 = pc s + _
      rcases hm with h | ⟨t, _, _, h⟩
      · rw [h]
      · rw [← h, e6]
  | succ k ih =>
    intro r s hr hs hc
    rw [GrN_s (by omega), if_pos hc]
    have hm := (mw_max (s := s) (w := GrN op (r + 1))).2
    by_cases hz : mw s (GrN op (r + 1)) 64 0 0 = 0
    · refine ⟨fun q => if q = r then s else 0, fun q a b => ?_, if_pos rfl, ?_⟩
      · by_cases e : q = r
        · subst e
          show (if q = q then s else 0) < 64 ∧ can (if q = q then s else 0) (op q) = true ∧ (_ → dj (if q = q then s else 0) (if q + 1 = q then s else 0) = true)
          rw [if_pos rfl, if_neg (by omega)]
          exact ⟨hs, hc, fun _ => dj_0r⟩
        · show (if q = r then s else 0) < 64 ∧ can (if q = r then s else 0) (op q) = true ∧ (_ → dj (if q = r then s else 0) (if q + 1 = r then s else 0) = true)
          rw [if_neg e]
          exact ⟨by omega, h0 q (by omega), fun _ => dj_0l⟩
      · show pc (if r = r then s else 0) + tot _ (k + 1) (r + 1) = _
        rw [if_pos rfl, hz, tot_0 (k + 1) (r + 1) (fun q a b => if_neg (by omega))]
    · obtain ⟨t, ht, hd, hw⟩ := hm.resolve_left hz
      have hct : can t (op (r + 1)) = true := by
        refine Classical.byContradiction fun hh => hz ?_
        rw [← hw, GrN_s (by omega), if_neg hh]
      obtain ⟨σ, hf, e1, e2⟩ := ih (r + 1) t (by omega) ht hct
      refine ⟨fun q => if q = r then s else σ q, fun q a b => ?_, if_pos rfl, ?_⟩
      · by_cases e : q = r
        · subst e
          show (if q = q then s else σ q) < 64 ∧ can (if q = q then s else σ q) (op q) = true ∧ (_ → dj (if q = q then s else σ q) (if q + 1 = q then s else σ (q + 1)) = true)
          rw [if_pos rfl, if_neg (by omega), e1]
          exact ⟨hs, hc, fun _ => hd⟩
        · show (if q = r then s else σ q) < 64 ∧ can (if q = r then s else σ q) (op q) = true ∧ (_ → dj (if q = r then s else σ q) (if q + 1 = r then s else σ (q + 1)) = true)
          rw [if_neg e, if_neg (by omega)]
          have := hf q (by omega) (by omega)
          exact ⟨this.1, this.2.1, fun c => this.2.2 (by omega)⟩
      · show pc (if r = r then s else σ r) + tot _ (k + 1) (r + 1) = _
        rw [if_pos rfl, tot_congr (σ' := σ) (k + 1) (r + 1) (fun q a b => if_neg (by omega)), e2, ← hw]
/-! from the first row down -/
theorem oMx_some {a b : Option Nat} {k : Nat} : (oMx a b = some k → a = some k ∨ b = some k) ∧ (∀ j, a = some j → ∃ i, oMx a b = some i ∧ j ≤ i) ∧ (∀ j, b = some j → ∃ i, oMx a b = some i ∧ j ≤ i) := by
  cases a with
  | none => exact ⟨fun h => Or.inr h, (fun j h => by cases h), fun j h => ⟨j, h, Nat.le_refl j⟩⟩
  | some a =>
    cases b with
    | none => exact ⟨fun h => Or.inl h, (fun j h => by cases h; exact ⟨a, rfl, Nat.le_refl a⟩), (fun j h => by cases h)⟩
    | some b =>
      refine ⟨fun h => ?_, fun j h => ?_, fun j h => ?_⟩
      · cases h
        unfold mx
        split
        · exact Or.inr rfl
        · exact Or.inl rfl
      · cases h
        refine ⟨mx a b, rfl, ?_⟩
        unfold mx
        split <;> omega
      · cases h
        refine ⟨mx a b, rfl, ?_⟩
        unfold mx
        split <;> omega
theorem rmS_max {w : Nat → Option Nat} : (∀ a, lp (rmS w m) 64 0 none = some a → ∃ p k, p < 64 ∧ w p = some k ∧ dj p m = true ∧ a = k + pc m) ∧ (∀ p k, p < 64 → w p = some k → dj p m = true → ∃ a, lp (rmS w m) 64 0 none = some a ∧ k + pc m ≤ a) := by
  have := lp_ind (P := fun j z => (∀ a, z = some a → ∃ p k, p < 64 ∧ w p = some k ∧ dj p m = true ∧ a = k + pc m) ∧ (∀ p k, p < j → w p = some k → dj p m = true → ∃ a, z = some a ∧ k + pc m ≤ a)) (f := rmS w m) (n := 64) (fun i z hi hz => by
    unfold rmS
    cases hw : w i with
    | none =>
      refine ⟨hz.1, fun p k hp h1 h2 => ?_⟩
      by_cases e : p = i
      · rw [e, hw] at h1; cases h1
      · exact hz.2 p k (by omega) h1 h2
    | some k0 =>
      show (∀ a, (if dj i m = true then oMx z (some (k0 + pc m)) else z) = some a → _) ∧ _
      by_cases c : dj i m = true
      · refine ⟨fun a ha => ?_, fun p k hp h1 h2 => ?_⟩
        · rw [if_pos c] at ha
          rcases (oMx_some (k := a)).1 ha with h | h
          · exact hz.1 a h
          · cases h; exact ⟨i, k0, hi, hw, c, rfl⟩
        · show ∃ a, (if dj i m = true then oMx z (some (k0 + pc m)) else z) = some a ∧ _
          rw [if_pos c]
          by_cases e : p = i
          · rw [e, hw] at h1; cases h1
            exact (oMx_some (k := 0)).2.2 _ rfl
          · obtain ⟨a, h3, h4⟩ := hz.2 p k (by omega) h1 h2
            obtain ⟨b, h5, h6⟩ := (oMx_some (a := z) (b := some (k0 + pc m)) (k := 0)).2.1 a h3
            exact ⟨b, h5, by omega⟩
      · refine ⟨fun a ha => ?_, fun p k hp h1 h2 => ?_⟩
        · rw [if_neg c] at ha; exact hz.1 a ha
        · show ∃ a, (if dj i m = true then oMx z (some (k0 + pc m)) else z) = some a ∧ _
          rw [if_neg c]
          by_cases e : p = i
          · rw [e] at h2; exact absurd h2 c
          · exact hz.2 p k (by omega) h1 h2) 64 0 none rfl ⟨(fun a h => by cases h), fun p k hp => by omega⟩
  exact this
def crN (fr : Nat → Int32) (cl : Nat) (told : Option Nat) (q m : Nat) : Bool := canI m (fr q) && okT told cl q m
theorem F1 : ∀ r m a, m < 64 → rmW fr cl told r m = some a → ∃ σ, Fea (crN fr cl told) σ 0 r ∧ tot σ r 0 = a ∧ (0 < r → σ (r - 1) = m) ∧ (r = 0 → m = 0) := by
  intro r
  induction r with
  | zero =>
    intro m a hm h
    unfold rmW at h
    by_cases c : m = 0
    · rw [if_pos c] at h; cases h
      exact ⟨fun _ => 0, fun q a b => by omega, rfl, fun h => by omega, fun _ => c⟩
    · rw [if_neg c] at h; cases h
  | succ r ih =>
    intro m a hm h
    have h' : (if (canI m (fr r) && okT told cl r m) = true then lp (rmS (rmW fr cl told r) m) 64 0 none else none) = some a := h
    by_cases c : (canI m (fr r) && okT told cl r m) = true
    · rw [if_pos c] at h'
      obtain ⟨p, k, hp, hw, hd, ha⟩ := rmS_max.1 a h'
      obtain ⟨σ, hf, e1, e2, e3⟩ := ih p k hp hw
      refine ⟨fun q => if q = r then m else σ q, fun q q1 q2 => ?_, ?_, fun _ => if_pos (by omega), fun h => by omega⟩
      · by_cases e : q = r
        · subst e
          show (if q = q then m else σ q) < 64 ∧ crN fr cl told q (if q = q then m else σ q) = true ∧ _
          rw [if_pos rfl]
          exact ⟨hm, c, fun h => by omega⟩
        · have := hf q (by omega) (by omega)
          show (if q = r then m else σ q) < 64 ∧ crN fr cl told q (if q = r then m else σ q) = true ∧ (_ → dj (if q = r then m else σ q) (if q + 1 = r then m else σ (q + 1)) = true)
          rw [if_neg e]
          refine ⟨this.1, this.2.1, fun h => ?_⟩
          by_cases e' : q + 1 = r
          · rw [if_pos e']
            have := e2 (by omega)
            rw [show r - 1 = q by omega] at this
            rw [this]; exact hd
          · rw [if_neg e']; exact this.2.2 (by omega)
      · rw [tot_last, tot_congr (σ' := σ) r 0 (fun q a b => if_neg (by omega)), e1, Nat.zero_add]
        show k + pc (if r = r then m else σ r) = a
        rw [if_pos rfl, ha]
    · rw [if_neg c] at h'; cases h'
theorem F2 : ∀ r, Fea (crN fr cl told) σ 0 r → ∃ a, rmW fr cl told r (if r = 0 then 0 else σ (r - 1)) = some a ∧ tot σ r 0 ≤ a := by
  intro r
  induction r with
  | zero => intro _; exact ⟨0, rfl, Nat.le_refl 0⟩
  | succ r ih =>
    intro hf
    obtain ⟨a, h1, h2⟩ := ih (fun q a b => ⟨(hf q (by omega) (by omega)).1, (hf q (by omega) (by omega)).2.1, fun c => (hf q (by omega) (by omega)).2.2 (by omega)⟩)
    obtain ⟨f1, f2, f3⟩ := hf r (by omega) (by omega)
    rw [if_neg (by omega), show r + 1 - 1 = r by omega]
    have hd : dj (if r = 0 then 0 else σ (r - 1)) (σ r) = true := by
      by_cases c : r = 0
      · rw [if_pos c]; exact dj_0l
      · rw [if_neg c]
        have := (hf (r - 1) (by omega) (by omega)).2.2 (by omega)
        rw [show r - 1 + 1 = r by omega] at this
        exact this
    have hlt : (if r = 0 then 0 else σ (r - 1)) < 64 := by
      split
      · omega
      · exact (hf (r - 1) (by omega) (by omega)).1
    obtain ⟨b, h3, h4⟩ := (rmS_max (w := rmW fr cl told r) (m := σ r)).2 _ a hlt h1 hd
    refine ⟨b, ?_, ?_⟩
    · show (if (canI (σ r) (fr r) && okT told cl r (σ r)) = true then lp (rmS (rmW fr cl told r) (σ r)) 64 0 none else none) = some b
      rw [if_pos (show (canI (σ r) (fr r) && okT told cl r (σ r)) = true from f2)]; exact h3
    · rw [tot_last, Nat.zero_add]; omega
theorem rmF_max {w : Nat → Option Nat} : (∀ a, rmF w 64 0 none = some a → ∃ m, m < 64 ∧ w m = some a) ∧ (∀ m k, m < 64 → w m = some k → ∃ a, rmF w 64 0 none = some a ∧ k ≤ a) := by
  have := lp_ind (P := fun j z => (∀ a, z = some a → ∃ m, m < 64 ∧ w m = some a) ∧ (∀ m k, m < j → w m = some k → ∃ a, z = some a ∧ k ≤ a)) (f := fun m z => oMx z (w m)) (n := 64) (fun i z hi hz => by
    refine ⟨fun a ha => ?_, fun m k hm h1 => ?_⟩
    · rcases (oMx_some (k := a)).1 ha with h | h
      · exact hz.1 a h
      · exact ⟨i, hi, h⟩
    · by_cases e : m = i
      · rw [e] at h1
        exact (oMx_some (a := z) (b := w i) (k := 0)).2.2 k h1
      · obtain ⟨a, h3, h4⟩ := hz.2 m k (by omega) h1
        obtain ⟨b, h5, h6⟩ := (oMx_some (a := z) (b := w i) (k := 0)).2.1 a h3
        exact ⟨b, h5, by omega⟩) 64 0 none rfl ⟨(fun a h => by cases h), fun m k hm => by omega⟩
  exact this
/-- what rooms answers: the most over all ways -/
theorem rmG_max : (∀ a, rmG fr cl rw told = some a → ∃ σ, Fea (crN fr cl told) σ 0 rw ∧ tot σ rw 0 = a) ∧ (∀ σ, Fea (crN fr cl told) σ 0 rw → ∃ a, rmG fr cl rw told = some a ∧ tot σ rw 0 ≤ a) := by
  refine ⟨fun a ha => ?_, fun σ hf => ?_⟩
  · obtain ⟨m, hm, hw⟩ := rmF_max.1 a ha
    obtain ⟨σ, h1, h2, _⟩ := F1 rw m a hm hw
    exact ⟨σ, h1, h2⟩
  · obtain ⟨a, h1, h2⟩ := F2 rw hf
    have hlt : (if rw = 0 then 0 else σ (rw - 1)) < 64 := by
      split
      · omega
      · exact (hf (rw - 1) (by omega) (by omega)).1
    obtain ⟨b, h3, h4⟩ := (rmF_max (w := rmW fr cl told rw)).2 _ a hlt h1
    exact ⟨b, h3, by omega⟩
end QRO1
