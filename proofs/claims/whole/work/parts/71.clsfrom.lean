/-! ===== WHAT HANGS TOGETHER ===== -/
section QFR
variable {d B R a b b' i j n c k rw cl bl L s kp D N e q m t de : Nat} {M M' : qM} {u v : qV} {o : qOut} {x y z z' ch : Int32} {p g dm lt w tt dp mo : Nat → Nat}
/-- two nails that touch, or are in one cell -/
def nea (cl : Nat) (g : Nat → Nat) (i j : Nat) : Prop := apN (g (10 + i) / cl) (g (10 + j) / cl) + apN (g (10 + i) % cl) (g (10 + j) % cl) ≤ 1
theorem apN_0 {a b : Nat} : apN a b = 0 ↔ a = b := by unfold apN; split <;> omega
theorem nea_iff : nea cl g i j ↔ (g (10 + i) = g (10 + j) ∨ apN (g (10 + i) / cl) (g (10 + j) / cl) + apN (g (10 + i) % cl) (g (10 + j) % cl) = 1) := by
  unfold nea
  constructor
  · intro h
    by_cases c : apN (g (10 + i) / cl) (g (10 + j) / cl) + apN (g (10 + i) % cl) (g (10 + j) % cl) = 1
    · exact Or.inr c
    · exact Or.inl (divmod_eq (c := cl) (apN_0.mp (by omega)) (apN_0.mp (by omega)))
  · intro h
    rcases h with h | h
    · rw [h, apN_0.mpr rfl, apN_0.mpr rfl]; omega
    · omega
def clo (cl : Nat) (g : Nat → Nat) (n : Nat) (P : Nat → Prop) : Prop := ∀ i j, i < n → j < n → P i → nea cl g i j → P j
def mem (z : Int32) (j : Nat) : Prop := hasI z (nI j) = nI 1
def isB (z : Int32) : Prop := ∃ P, hasB z P
theorem isB_or (h : isB z) (hj : j < 9) : isB (z ||| bitI j) := by obtain ⟨P, h⟩ := h; exact ⟨_, hasB_or h hj⟩
theorem mem_or (h : isB z) (hj : j < 9) (hi : i < 9) : mem (z ||| bitI j) i ↔ i = j ∨ mem z i := by
  obtain ⟨P, h⟩ := h
  unfold mem
  rw [hasB_1 (hasB_or h hj) hi, hasB_1 h hi]
theorem isB_B (h : isB z) : hasB z (fun j => mem z j) := by
  obtain ⟨P, h⟩ := h
  exact hasB_congr h (fun j hj => by unfold mem; rw [hasB_1 h hj])
/-- a round: it loses none, brings none that no closed set that has all that were has, and what brings none is closed -/
def RND (cl : Nat) (g : Nat → Nat) (n : Nat) (f : Int32 → Int32) : Prop := ∀ z, isB z → (∀ j, j < 9 → mem z j → j < n) → isB (f z) ∧ (∀ j, j < 9 → mem (f z) j → j < n) ∧ (∀ j, j < 9 → mem z j → mem (f z) j) ∧ (∀ P, clo cl g n P → (∀ j, j < 9 → mem z j → P j) → ∀ j, j < 9 → mem (f z) j → P j) ∧ ((∀ j, j < 9 → mem (f z) j → mem z j) → clo cl g n (fun j => mem z j))
theorem cnt_b {P : Nat → Bool} : ∀ k i z, cnt P k i z = z + cnt P k i 0 := by
  intro k
  induction k with
  | zero => intro i z; rfl
  | succ k ih =>
    intro i z
    rw [cnt_s, cnt_s, ih (i + 1) (if P i = true then z + 1 else z), ih (i + 1) (if P i = true then 0 + 1 else 0)]
    split <;> omega
theorem cnt_mono {P Q : Nat → Bool} : ∀ k i, (∀ j, i ≤ j → j < i + k → P j = true → Q j = true) → cnt P k i 0 ≤ cnt Q k i 0 := by
  intro k
  induction k with
  | zero => intro i _; exact Nat.le_refl _
  | succ k ih =>
    intro i h
    have h1 := ih (i + 1) (fun j a b => h j (by omega) (by omega))
    rw [cnt_s, cnt_s, cnt_b k (i + 1) (if P i = true then 0 + 1 else 0), cnt_b k (i + 1) (if Q i = true then 0 + 1 else 0)]
    by_cases c : P i = true
    · rw [if_pos c, if_pos (h i (Nat.le_refl i) (by omega) c)]; omega
    · rw [if_neg c]; split <;> omega
theorem cnt_lt {P Q : Nat → Bool} : ∀ k i r, (∀ j, i ≤ j → j < i + k → P j = true → Q j = true) → i ≤ r → r < i + k → Q r = true → P r = false → cnt P k i 0 < cnt Q k i 0 := by
  intro k
  induction k with
  | zero => intro i r _ h1 h2; omega
  | succ k ih =>
    intro i r h h1 h2 hq hp
    rw [cnt_s, cnt_s, cnt_b k (i + 1) (if P i = true then 0 + 1 else 0), cnt_b k (i + 1) (if Q i = true then 0 + 1 else 0)]
    by_cases e : i = r
    · subst e
      have hm := cnt_mono k (i + 1) (fun j a b => h j (by omega) (by omega))
      rw [hp, if_pos hq, if_neg (by decide)]; omega
    · have h3 := ih (i + 1) r (fun j a b => h j (by omega) (by omega)) (by omega) (by omega) hq hp
      by_cases c : P i = true
      · rw [if_pos c, if_pos (h i (Nat.le_refl i) (by omega) c)]; omega
      · rw [if_neg c]; split <;> omega
theorem cnt_all {P : Nat → Bool} : ∀ k i, k ≤ cnt P k i 0 → ∀ j, i ≤ j → j < i + k → P j = true := by
  intro k
  induction k with
  | zero => intro i _ j h1 h2; omega
  | succ k ih =>
    intro i h j h1 h2
    have hle := @cnt_le P k (i + 1) 0
    rw [cnt_s, cnt_b] at h
    by_cases c : P i = true
    · rw [if_pos c] at h
      by_cases e : j = i
      · rw [e]; exact c
      · exact ih (i + 1) (by omega) j (by omega) (by omega)
    · rw [if_neg c] at h; omega
noncomputable def memD (z : Int32) (j : Nat) : Bool := decide (hasI z (nI j) = nI 1)
theorem memD_t {j : Nat} : memD z j = true ↔ mem z j := decide_eq_true_iff
theorem memD_f {j : Nat} : memD z j = false ↔ ¬ mem z j := decide_eq_false_iff_not
/-- rounds enough: what is reached is closed -/
theorem rnd_closed {f : Int32 → Int32} (hf : RND cl g n f) (hn9 : n ≤ 9) : ∀ r z, isB z → (∀ j, j < 9 → mem z j → j < n) → n ≤ cnt (memD z) n 0 0 + r → isB (lp (fun _ z => f z) r 0 z) ∧ (∀ j, j < 9 → mem (lp (fun _ z => f z) r 0 z) j → j < n) ∧ (∀ j, j < 9 → mem z j → mem (lp (fun _ z => f z) r 0 z) j) ∧ (∀ P, clo cl g n P → (∀ j, j < 9 → mem z j → P j) → ∀ j, j < 9 → mem (lp (fun _ z => f z) r 0 z) j → P j) ∧ clo cl g n (fun j => mem (lp (fun _ z => f z) r 0 z) j) := by
  have sh : ∀ r i z, lp (fun _ z => f z) r i z = lp (fun _ z => f z) r 0 z := by
    intro r
    induction r with
    | zero => intro i z; rfl
    | succ r ih =>
      intro i z
      show lp (fun _ z => f z) r (i + 1) (f z) = lp (fun _ z => f z) r (0 + 1) (f z)
      rw [ih, ih (0 + 1)]
  -- once closed, always closed: the round brings none
  have stay : ∀ r z, isB z → (∀ j, j < 9 → mem z j → j < n) → clo cl g n (fun j => mem z j) → isB (lp (fun _ z => f z) r 0 z) ∧ (∀ j, j < 9 → (mem (lp (fun _ z => f z) r 0 z) j ↔ mem z j)) := by
    intro r
    induction r with
    | zero => intro z hz _ _; exact ⟨hz, fun j _ => Iff.rfl⟩
    | succ r ih =>
      intro z hz hn hc
      obtain ⟨f1, f2, f3, f4, f5⟩ := hf z hz hn
      have e : ∀ j, j < 9 → (mem (f z) j ↔ mem z j) := fun j hj => ⟨f4 (fun j => mem z j) hc (fun _ _ h => h) j hj, f3 j hj⟩
      have hc' : clo cl g n (fun j => mem (f z) j) := fun i j hi hj h1 h2 => (e j (by omega)).mpr (hc i j hi hj ((e i (by omega)).mp h1) h2)
      obtain ⟨g1, g2⟩ := ih (f z) f1 f2 hc'
      show isB (lp (fun _ z => f z) r (0 + 1) (f z)) ∧ _
      rw [sh]
      exact ⟨g1, fun j hj => (show mem (lp (fun _ z => f z) r (0 + 1) (f z)) j ↔ mem z j by rw [sh]; exact (g2 j hj).trans (e j hj))⟩
  intro r
  induction r with
  | zero =>
    intro z hz hn hcnt
    refine ⟨hz, hn, fun _ _ h => h, fun P hP h => h, fun i j hi hj h1 h2 => ?_⟩
    have := cnt_all n 0 (show n ≤ cnt (memD z) n 0 0 by omega) j (by omega) (by omega)
    exact memD_t.mp this
  | succ r ih =>
    intro z hz hn hcnt
    obtain ⟨f1, f2, f3, f4, f5⟩ := hf z hz hn
    have es : lp (fun _ z => f z) (r + 1) 0 z = lp (fun _ z => f z) r 0 (f z) := by
      show lp (fun _ z => f z) r (0 + 1) (f z) = _
      rw [sh]
    rw [es]
    by_cases c : ∀ j, j < 9 → mem (f z) j → mem z j
    · have hc := f5 c
      have e : ∀ j, j < 9 → (mem (f z) j ↔ mem z j) := fun j hj => ⟨c j hj, f3 j hj⟩
      have hc' : clo cl g n (fun j => mem (f z) j) := fun i j hi hj h1 h2 => (e j (by omega)).mpr (hc i j hi hj ((e i (by omega)).mp h1) h2)
      obtain ⟨s1, s2⟩ := stay r (f z) f1 f2 hc'
      refine ⟨s1, fun j hj h => f2 j hj ((s2 j hj).mp h), fun j hj h => (s2 j hj).mpr (f3 j hj h), fun P hP h j hj h1 => f4 P hP h j hj ((s2 j hj).mp h1), fun i j hi hj h1 h2 => (s2 j (by omega)).mpr (hc' i j hi hj ((s2 i (by omega)).mp h1) h2)⟩
    · obtain ⟨r0, hr0⟩ := Classical.not_forall.mp c
      obtain ⟨hr9, hr0⟩ := Classical.not_forall.mp hr0
      obtain ⟨hm1, hm2⟩ := Classical.not_forall.mp hr0
      have hrn := f2 r0 hr9 hm1
      have hlt := cnt_lt (P := memD z) (Q := memD (f z)) n 0 r0 (fun j h1 h2 h3 => memD_t.mpr (f3 j (by omega) (memD_t.mp h3))) (by omega) (by omega) (memD_t.mpr hm1) (memD_f.mpr hm2)
      obtain ⟨g1, g2, g3, g4, g5⟩ := ih (f z) f1 f2 (by omega)
      exact ⟨g1, g2, fun j hj h => g3 j hj (f3 j hj h), fun P hP h => g4 P hP (f4 P hP h), g5⟩
/-- two ways of rounds reach the same -/
theorem rnd_same {f f' : Int32 → Int32} {r r' : Nat} (hf : RND cl g n f) (hf' : RND cl g n f') (hn9 : n ≤ 9) (hi : i < n) (hr : n ≤ 1 + r) (hr' : n ≤ 1 + r') : ∀ j, j < 9 → (mem (lp (fun _ z => f z) r 0 (bitI i)) j ↔ mem (lp (fun _ z => f' z) r' 0 (bitI i)) j) := by
  have e0 : ∀ i, i < 9 → nI 0 ||| bitI i = bitI i := by decide +kernel
  have hB : isB (bitI i) := by rw [← e0 i (by omega)]; exact isB_or ⟨_, hasB_0⟩ (by omega)
  have hm : ∀ j, j < 9 → (mem (bitI i) j ↔ j = i) := fun j hj => by unfold mem; rw [bitI_mem (by omega) hj]
  have hin : ∀ j, j < 9 → mem (bitI i) j → j < n := fun j hj h => by rw [hm j hj] at h; omega
  have hcnt : 1 ≤ cnt (memD (bitI i)) n 0 0 := by
    have := cnt_lt (P := fun _ => false) (Q := memD (bitI i)) n 0 i (fun j _ _ h => by cases h) (by omega) (by omega) (memD_t.mpr ((hm i (by omega)).mpr rfl)) rfl
    omega
  obtain ⟨a1, a2, a3, a4, a5⟩ := rnd_closed hf hn9 r (bitI i) hB hin (by omega)
  obtain ⟨b1, b2, b3, b4, b5⟩ := rnd_closed hf' hn9 r' (bitI i) hB hin (by omega)
  intro j hj
  exact ⟨a4 _ b5 b3 j hj, b4 _ a5 a3 j hj⟩
/-- a round built of steps, each of which brings one nail or none -/
theorem rnd_of {f : Nat → Int32 → Int32} {T : Nat → Int32 → Prop} {J : Nat → Nat} {N : Nat} (hJ : ∀ q, q < N → J q < n) (hn9 : n ≤ 9) (hy : ∀ q z, q < N → isB z → T q z → f q z = z ||| bitI (J q)) (hno : ∀ q z, q < N → isB z → ¬ T q z → f q z = z) (hT : ∀ q z, q < N → isB z → T q z → ∃ i, i < n ∧ mem z i ∧ nea cl g i (J q)) (hall : ∀ z i j, isB z → i < n → j < n → mem z i → nea cl g i j → ∃ q, q < N ∧ J q = j ∧ ∀ z', isB z' → mem z' i → T q z') : RND cl g n (fun z => lp f N 0 z) := by
  intro z hz hn
  have key := lp_ind (P := fun _ y => isB y ∧ (∀ j, j < 9 → mem y j → j < n) ∧ (∀ j, j < 9 → mem z j → mem y j) ∧ (∀ P, clo cl g n P → (∀ j, j < 9 → mem z j → P j) → ∀ j, j < 9 → mem y j → P j)) (f := f) (n := N) (fun q y hq hy0 => by
    obtain ⟨h1, h2, h3, h4⟩ := hy0
    have hJq := hJ q hq
    by_cases c : T q y
    · rw [hy q y hq h1 c]
      refine ⟨isB_or h1 (by omega), fun j hj h => ?_, fun j hj h => (mem_or h1 (by omega) hj).mpr (Or.inr (h3 j hj h)), fun P hP hz' j hj h => ?_⟩
      · rcases (mem_or h1 (by omega) hj).mp h with e | e
        · omega
        · exact h2 j hj e
      · rcases (mem_or h1 (by omega) hj).mp h with e | e
        · obtain ⟨i, hi, hm, hne⟩ := hT q y hq h1 c
          rw [e]
          exact hP i (J q) hi hJq (h4 P hP hz' i (by omega) hm) hne
        · exact h4 P hP hz' j hj e
    · rw [hno q y hq h1 c]
      exact ⟨h1, h2, h3, h4⟩) N 0 z (by omega) ⟨hz, hn, fun _ _ h => h, fun P hP h => h⟩
  obtain ⟨k1, k2, k3, k4⟩ := key
  refine ⟨k1, k2, k3, k4, fun hsame i j hi hj hm hne => ?_⟩
  -- nothing was brought: at each step all of z was there, so the step for j brought j
  obtain ⟨q, hq, hJq, hTq⟩ := hall z i j hz hi hj hm hne
  have mono : ∀ k q y, q + k = N → isB y → ∀ j, j < 9 → mem y j → mem (lp f k q y) j := by
    intro k
    induction k with
    | zero => intro q y _ _ j _ h; exact h
    | succ k ih =>
      intro q y hqk hy0 j hj h
      show mem (lp f k (q + 1) (f q y)) j
      have hJq' := hJ q (by omega)
      by_cases c : T q y
      · have e := hy q y (by omega) hy0 c
        exact ih (q + 1) _ (by omega) (by rw [e]; exact isB_or hy0 (by omega)) j hj (by rw [e]; exact (mem_or hy0 (by omega) hj).mpr (Or.inr h))
      · have e := hno q y (by omega) hy0 c
        exact ih (q + 1) _ (by omega) (by rw [e]; exact hy0) j hj (by rw [e]; exact h)
  have run : ∀ k q' y, q' + k = N → q' ≤ q → isB y → mem y i → mem (lp f k q' y) j := by
    intro k
    induction k with
    | zero => intro q' y hqk hle; omega
    | succ k ih =>
      intro q' y hqk hle hy0 hmi
      show mem (lp f k (q' + 1) (f q' y)) j
      have hJq' := hJ q' (by omega)
      by_cases e : q' = q
      · subst e
        have e2 := hy q' y hq hy0 (hTq y hy0 hmi)
        rw [e2, hJq]
        exact mono k (q' + 1) _ (by omega) (isB_or hy0 (by omega)) j (by omega) ((mem_or hy0 (by omega) (by omega)).mpr (Or.inl rfl))
      · by_cases c : T q' y
        · have e2 := hy q' y (by omega) hy0 c
          rw [e2]
          exact ih (q' + 1) _ (by omega) (by omega) (isB_or hy0 (by omega)) ((mem_or hy0 (by omega) (by omega)).mpr (Or.inr hmi))
        · rw [hno q' y (by omega) hy0 c]
          exact ih (q' + 1) y (by omega) (by omega) hy0 hmi
  exact hsame j (by omega) (run N 0 z (by omega) (by omega) hz hm)
end QFR
