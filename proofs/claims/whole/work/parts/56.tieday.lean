/-! ===== THE TIE OF A DAY ===== -/
theorem lp_ind {α : Type} {P : Nat → α → Prop} {f : Nat → α → α} {n : Nat} (hf : ∀ i s, i < n → P i s → P (i + 1) (f i s)) : ∀ (k i : Nat) (s : α), i + k = n → P i s → P n (lp f k i s) := by
  intro k
  induction k with
  | zero => intro i s hi h; rw [show n = i by omega]; exact h
  | succ k ih => intro i s hi h; exact ih (i + 1) _ (by omega) (hf i s (by omega) h)
theorem lp_two {α β : Type} {Q : α → β → Prop} {f : Nat → α → α} {h : Nat → β → β} {n : Nat} (hf : ∀ i s t, i < n → Q s t → Q (f i s) (h i t)) : ∀ (k i : Nat) (s : α) (t : β), i + k ≤ n → Q s t → Q (lp f k i s) (lp h k i t) := by
  intro k
  induction k with
  | zero => intro i s t hi q; exact q
  | succ k ih => intro i s t hi q; exact ih (i + 1) _ _ (by omega) (hf i s t (by omega) q)
theorem lp_last {α : Type} {f : Nat → α → α} : ∀ (k i : Nat) (s : α), lp f (k + 1) i s = f (i + k) (lp f k i s) := by
  intro k
  induction k with
  | zero => intro i s; rfl
  | succ k ih =>
    intro i s
    show lp f (k + 1) (i + 1) (f i s) = _
    rw [ih (i + 1) (f i s), show i + 1 + k = i + (k + 1) by omega]
    rfl
/-! bits -/
theorem hasI_01 {x y : Int32} : hasI x y = nI 0 ∨ hasI x y = nI 1 := by
  obtain ⟨j, hj, e⟩ := pk_andE (x >>> (y &&& 31)) (m := nI 1) 1 (by decide)
  unfold hasI
  rw [e]
  have : j = 0 ∨ j = 1 := by omega
  rcases this with rfl | rfl
  · exact Or.inl rfl
  · exact Or.inr rfl
theorem hasI_n0 {x y : Int32} : (¬ hasI x y = nI 0) = (hasI x y = nI 1) := by
  rcases @hasI_01 x y with h | h
  · rw [h]; exact propext ⟨fun hh => absurd rfl hh, fun hh => absurd hh (by decide)⟩
  · rw [h]; exact propext ⟨fun _ => rfl, fun _ => by decide⟩
theorem hasI_n1 {x y : Int32} : (¬ hasI x y = nI 1) = (hasI x y = nI 0) := by
  rcases @hasI_01 x y with h | h
  · rw [h]; exact propext ⟨fun _ => rfl, fun _ => by decide⟩
  · rw [h]; exact propext ⟨fun hh => absurd rfl hh, fun hh => absurd hh (by decide)⟩
theorem bit_or : ∀ m, m < 512 → ∀ i, i < 9 → nI m ||| bitI i = nI (m ||| 2 ^ i) := by decide +kernel
theorem bit_has : ∀ m, m < 512 → ∀ i, i < 9 → hasI (nI m) (nI i) = nI (m / 2 ^ i % 2) := by decide +kernel
theorem bit_lt : ∀ m, m < 512 → ∀ i, i < 9 → m ||| 2 ^ i < 512 := by decide +kernel
theorem bit_set : ∀ m, m < 512 → ∀ i, i < 9 → ∀ j, j < 9 → (m ||| 2 ^ i) / 2 ^ j % 2 = if j = i then 1 else m / 2 ^ j % 2 := by decide +kernel
/-- z has just the bits P, of those below 9 -/
def hasB (z : Int32) (P : Nat → Prop) : Prop := ∃ m, z = nI m ∧ m < 512 ∧ ∀ j, j < 9 → (m / 2 ^ j % 2 = 1 ↔ P j)
theorem hasB_0 : hasB (nI 0) (fun _ => False) := ⟨0, rfl, by decide, fun j _ => by rw [Nat.zero_div]; exact ⟨fun h => absurd h (by decide), fun h => h.elim⟩⟩
theorem hasB_or {z : Int32} {P : Nat → Prop} {i : Nat} (h : hasB z P) (hi : i < 9) : hasB (z ||| bitI i) (fun j => j = i ∨ P j) := by
  obtain ⟨m, rfl, hm, hb⟩ := h
  refine ⟨m ||| 2 ^ i, bit_or m hm i hi, bit_lt m hm i hi, fun j hj => ?_⟩
  rw [bit_set m hm i hi j hj]
  by_cases e : j = i
  · rw [if_pos e]; exact ⟨fun _ => Or.inl e, fun _ => rfl⟩
  · rw [if_neg e]; exact ⟨fun hh => Or.inr ((hb j hj).mp hh), fun hh => (hb j hj).mpr (hh.resolve_left e)⟩
theorem hasB_congr {z : Int32} {P Q : Nat → Prop} (h : hasB z P) (e : ∀ j, j < 9 → (P j ↔ Q j)) : hasB z Q := by
  obtain ⟨m, h1, h2, h3⟩ := h
  exact ⟨m, h1, h2, fun j hj => (h3 j hj).trans (e j hj)⟩
theorem hasB_1 {z : Int32} {P : Nat → Prop} {i : Nat} (h : hasB z P) (hi : i < 9) : (hasI z (nI i) = nI 1) = P i := by
  obtain ⟨m, rfl, hm, hb⟩ := h
  rw [bit_has m hm i hi]
  have := Nat.mod_lt (m / 2 ^ i) (show 2 > 0 by omega)
  refine propext ⟨fun hh => (hb i hi).mp ?_, fun hh => by rw [(hb i hi).mpr hh]⟩
  rw [nI_eq (by omega) (by omega)] at hh
  exact hh
theorem hasB_0' {z : Int32} {P : Nat → Prop} {i : Nat} (h : hasB z P) (hi : i < 9) : (hasI z (nI i) = nI 0) = ¬ P i := by
  rw [← hasI_n1, hasB_1 h hi]
theorem hasB_inj {z z' : Int32} {P : Nat → Prop} (h : hasB z P) (h' : hasB z' P) : z = z' := by
  obtain ⟨m, rfl, hm, hb⟩ := h
  obtain ⟨m', rfl, hm', hb'⟩ := h'
  have key : ∀ j, j < 9 → m / 2 ^ j % 2 = m' / 2 ^ j % 2 := fun j hj => by
    have h1 := Nat.mod_lt (m / 2 ^ j) (show 2 > 0 by omega)
    have h2 := Nat.mod_lt (m' / 2 ^ j) (show 2 > 0 by omega)
    have h3 := (hb j hj).trans (hb' j hj).symm
    omega
  have k0 := key 0 (by omega)
  have k1 := key 1 (by omega)
  have k2 := key 2 (by omega)
  have k3 := key 3 (by omega)
  have k4 := key 4 (by omega)
  have k5 := key 5 (by omega)
  have k6 := key 6 (by omega)
  have k7 := key 7 (by omega)
  have k8 := key 8 (by omega)
  simp only [Nat.reducePow, Nat.div_one] at k0 k1 k2 k3 k4 k5 k6 k7 k8
  have : m = m' := by omega
  rw [this]
theorem bts_B {P : Nat → Bool} {n : Nat} (hn : n ≤ 9) : hasB (bts P n 0 (nI 0)) (fun j => j < n ∧ P j = true) := by
  have := lp_ind (P := fun k z => hasB z (fun j => j < k ∧ P j = true)) (f := fun i z => if P i = true then z ||| bitI i else z) (n := n) (fun i z hi hz => by
    by_cases c : P i = true
    · rw [if_pos c]
      refine hasB_congr (hasB_or hz (show i < 9 by omega)) (fun j hj => ⟨fun hh => ?_, fun hh => ?_⟩)
      · rcases hh with rfl | hh
        · exact ⟨by omega, c⟩
        · exact ⟨by omega, hh.2⟩
      · by_cases e : j = i
        · exact Or.inl e
        · exact Or.inr ⟨by omega, hh.2⟩
    · rw [if_neg c]
      refine hasB_congr hz (fun j hj => ⟨fun hh => ⟨by omega, hh.2⟩, fun hh => ?_⟩)
      by_cases e : j = i
      · rw [e] at hh; exact absurd hh.2 c
      · exact ⟨by omega, hh.2⟩) n 0 (nI 0) (by omega) (hasB_congr hasB_0 (fun j _ => ⟨fun h => h.elim, fun h => by omega⟩))
  exact this
def RN (u : qV) (g : Nat → Nat) (b n cl : Nat) : Prop := ∀ i, i < n → u (4 + i) 0 = nI (g (b + 1 + i)) ∧ u (4 + i) 1 = nI (g (b + 10 + i) / cl) ∧ u (4 + i) 2 = nI (g (b + 10 + i) % cl) ∧ u (4 + i) 3 = nI (g (b + 19 + i)) ∧ u (4 + i) 4 = nI (g (b + 28 + i)) ∧ u (4 + i) 5 = nI (g (b + 37 + i)) ∧ u (4 + i) 6 = nI (g (b + 46 + i))
section QTD
variable {i j n b cl bl rw c m : Nat} {u w : qV} {g mo dm : Nat → Nat} {rg : Bool}
theorem w_damp_n (hc : c < 6) : w_damp u (nI c) = u 3 c := by
  unfold w_damp
  rw [if_neg (nI_nlt (by omega) (by omega)), if_pos ((nI_ltI (by omega) (by omega)).mpr hc), nI_clamp (by omega)]
theorem max_lose {a k : Nat} (ha : a < 2 ^ 30) (hk : k < 2 ^ 30) : q_max (nI 0) (nI a - nI k) = nI (a - k) := by
  unfold q_max
  by_cases h : k ≤ a
  · rw [pk_sub h]
    by_cases h2 : 0 < a - k
    · rw [if_pos ((nI_ltI (by omega) (by omega)).mpr h2)]
    · rw [if_neg (fun hh => h2 ((nI_ltI (by omega) (by omega)).mp hh)), show a - k = 0 by omega]
  · have hn : (nI a - nI k).toInt = (a : Int) - k := pk_sub_toInt ha hk
    rw [if_neg (fun hh => by
      rw [Int32.lt_iff_toInt_lt, hn, nI_toInt (by omega)] at hh
      omega), show a - k = 0 by omega]
theorem RN_rust (h : RN u g b n cl) (hg : GB g b) (hn9 : n ≤ 9) (hi : i < n) (hcl : 0 < cl ∧ cl ≤ 6) (hd : ∀ c, c < 6 → u 3 c = nI (mo c)) (hm : ∀ c, c < 6 → mo c ≤ 9) : RN (w_rustf i u) (rusG mo cl b i g) b n cl := by
  obtain ⟨e0, e1, e2, e3, e4, e5, e6⟩ := h i hi
  obtain ⟨g1, g2, g3, g4, g5⟩ := hg i (by omega)
  have hmod := Nat.mod_lt (g (b + 10 + i)) hcl.1
  have hmo := hm (g (b + 10 + i) % cl) (by omega)
  unfold w_rustf rusG n_rust rustG
  rw [e2, w_damp_n (by omega), hd _ (by omega), e0, e3, e4]
  by_cases c1 : g (b + 1 + i) = 1
  · rw [if_pos (by rw [c1]), if_pos c1, ite_self]
    exact h
  · rw [if_neg (fun hh => c1 ((nI_eq (by omega) (by omega)).mp hh)), if_neg c1]
    by_cases c2 : g (b + 19 + i) = 0
    · rw [if_pos c2, if_pos ((nI_ltI (by omega) (by omega)).mpr (by omega))]
      exact h
    · rw [if_neg c2, if_neg (fun hh => by have := (nI_ltI (by omega) (by omega)).mp hh; omega), nI_add]
      by_cases c3 : 9 < g (b + 28 + i) + mo (g (b + 10 + i) % cl)
      · rw [if_pos c3, if_neg (fun hh => by have := (nI_ltI (by omega) (by omega)).mp hh; omega), pk_sub (by omega)]
        unfold n_lose
        rw [vs_ne (by omega), vs_ne (by omega), e3, max_lose (by omega) (by omega)]
        intro i' hi'
        by_cases e : i' = i
        · subst e
          simp (disch := omega) only [vs_ne, vs_same, gs_ne, gs_same]
          exact ⟨e0, e1, e2, trivial, trivial, e5, e6⟩
        · simp (disch := omega) only [vs_ne, gs_ne]
          exact h i' hi'
      · rw [if_neg c3, if_pos ((nI_ltI (by omega) (by omega)).mpr (by omega))]
        intro i' hi'
        by_cases e : i' = i
        · subst e
          simp (disch := omega) only [vs_ne, vs_same, gs_ne, gs_same]
          exact ⟨e0, e1, e2, e3, trivial, e5, e6⟩
        · simp (disch := omega) only [vs_ne, gs_ne]
          exact h i' hi'
theorem RN_leave (h : RN u g b n cl) (hg : GB g b) (hn9 : n ≤ 9) (hi : i < n) : RN (w_leavef i u) (lvG b i g) b n cl := by
  obtain ⟨e0, e1, e2, e3, e4, e5, e6⟩ := h i hi
  obtain ⟨g1, g2, g3, g4, g5⟩ := hg i (by omega)
  unfold w_leavef n_leave lvG
  rw [e3]
  by_cases c2 : g (b + 19 + i) = 0
  · rw [if_pos c2, if_pos ((nI_ltI (by omega) (by omega)).mpr (by omega))]
    intro i' hi'
    by_cases e : i' = i
    · subst e
      simp (disch := omega) only [vs_ne, vs_same, gs_ne, gs_same]
      exact ⟨e0, e1, e2, e3, trivial, trivial, e6⟩
    · simp (disch := omega) only [vs_ne, gs_ne]
      exact h i' hi'
  · rw [if_neg c2, if_neg (fun hh => by have := (nI_ltI (by omega) (by omega)).mp hh; omega)]
    exact h
theorem abs_ap {a c : Nat} (ha : a < 1000) (hc : c < 1000) : qabs (nI a - nI c) = nI (apN a c) := by
  unfold qabs apN
  have hn : (nI a - nI c).toInt = (a : Int) - c := pk_sub_toInt (by omega) (by omega)
  by_cases h : a < c
  · rw [if_pos h, if_neg (fun hh => by
      rw [Int32.le_iff_toInt_le, hn] at hh
      have : (0 : Int32).toInt = 0 := by decide
      omega)]
    have h2 : (0 : Int32) - (nI a - nI c) = nI c - nI a := by
      rw [Int32.zero_sub, Int32.neg_sub]
    rw [h2, pk_sub (by omega)]
  · rw [if_neg h, pk_sub (by omega), if_pos (nI_pos' (by omega))]
theorem RN_steps (h : RN u g b n cl) (hg : GB g b) (hn9 : n ≤ 9) (hcl : 0 < cl ∧ cl ≤ 6) (hi : i < n) (hj : j < n) : n_steps u (4 + i) (4 + j) = nI (apN (g (b + 10 + i) / cl) (g (b + 10 + j) / cl) + apN (g (b + 10 + i) % cl) (g (b + 10 + j) % cl)) := by
  obtain ⟨e0, e1, e2, e3, e4, e5, e6⟩ := h i hi
  obtain ⟨f0, f1, f2, f3, f4, f5, f6⟩ := h j hj
  have hgi := (hg i (by omega)).2.1
  have hgj := (hg j (by omega)).2.1
  have h1 := Nat.div_le_self (g (b + 10 + i)) cl
  have h2 := Nat.div_le_self (g (b + 10 + j)) cl
  have h3 := Nat.mod_lt (g (b + 10 + i)) hcl.1
  have h4 := Nat.mod_lt (g (b + 10 + j)) hcl.1
  unfold n_steps
  rw [e1, e2, f1, f2, abs_ap (by omega) (by omega), abs_ap (by omega) (by omega), nI_add]
theorem lsN_u (h : RN u g b n cl) (hg : GB g b) (hn9 : n ≤ 9) (hi : i < n) : (nI 0 < u (4 + i) 3 ∧ u (4 + i) 3 < nI 3) = (0 < g (b + 19 + i) ∧ g (b + 19 + i) < 3) := by
  obtain ⟨e0, e1, e2, e3, e4, e5, e6⟩ := h i hi
  have := (hg i (by omega)).2.2.1
  rw [e3, ltI (by omega) (by omega), ltI (by omega) (by omega)]
/-- one pair mixes: class and reference; m0 what had mixed ahead of i, zo the first of i's -/
def MiQ (b n cl i : Nat) (m0 : Option Nat) (s : qV × Int32) (t : (Nat → Nat) × Option Nat) : Prop := RN s.1 t.1 b n cl ∧ GB t.1 b ∧ ∃ zo : Option Nat, s.2 = opI zo ∧ (∀ c, zo = some c → c < 9) ∧ t.2 = (match m0 with | some c => some c | none => zo.map (fun j => 10 * i + j))
theorem or_eq {p q : Nat} : (p ≠ p ||| q ∨ q ≠ p ||| q) ↔ p ≠ q := by
  constructor
  · intro h e
    subst e
    rw [Nat.or_self] at h
    rcases h with h | h <;> exact h rfl
  · intro h
    refine Classical.byContradiction fun hh => h ?_
    have h1 : p = p ||| q := Classical.byContradiction fun c => hh (Or.inl c)
    have h2 : q = p ||| q := Classical.byContradiction fun c => hh (Or.inr c)
    exact h1.trans h2.symm
theorem MiQ_step {m0 : Option Nat} {s : qV × Int32} {t : (Nat → Nat) × Option Nat} (hn9 : n ≤ 9) (hcl : 0 < cl ∧ cl ≤ 6) (hi : i < n) (hj : j < n) (hij : i < j) (hlo : 0 < t.1 (b + 19 + i) ∧ t.1 (b + 19 + i) < 3) (h : MiQ b n cl i m0 s t) : MiQ b n cl i m0 (w_mix1 i j s) (mixG cl b i j t) := by
  obtain ⟨hr, hg, zo, hz, hz9, ht⟩ := h
  obtain ⟨e0, e1, e2, e3, e4, e5, e6⟩ := hr i hi
  obtain ⟨f0, f1, f2, f3, f4, f5, f6⟩ := hr j hj
  have hgi := (hg i (by omega)).2.2.2.2
  have hgj := (hg j (by omega)).2.2.2.2
  have hap : ∀ a c : Nat, a < 100 → c < 100 → apN a c < 100 := fun a c h1 h2 => by unfold apN; split <;> omega
  have a1 := (hg i (by omega)).2.1
  have a2 := (hg j (by omega)).2.1
  have q1 := hap (t.1 (b + 10 + i) / cl) (t.1 (b + 10 + j) / cl) (Nat.lt_of_le_of_lt (Nat.div_le_self _ _) (by omega)) (Nat.lt_of_le_of_lt (Nat.div_le_self _ _) (by omega))
  have q2 := hap (t.1 (b + 10 + i) % cl) (t.1 (b + 10 + j) % cl) (Nat.lt_of_le_of_lt (Nat.mod_le _ _) (by omega)) (Nat.lt_of_le_of_lt (Nat.mod_le _ _) (by omega))
  have hgb := mixG_GB (cl := cl) (i := i) (j := j) (s := t) (b := b) (by omega) (by omega) hg
  have hcond : ((nI 0 < s.1 (4 + j) 3 ∧ s.1 (4 + j) 3 < nI 3) ∧ n_steps s.1 (4 + i) (4 + j) = nI 1) ↔ ((0 < t.1 (b + 19 + i) ∧ t.1 (b + 19 + i) < 3) ∧ (0 < t.1 (b + 19 + j) ∧ t.1 (b + 19 + j) < 3) ∧ apN (t.1 (b + 10 + i) / cl) (t.1 (b + 10 + j) / cl) + apN (t.1 (b + 10 + i) % cl) (t.1 (b + 10 + j) % cl) = 1) := by
    rw [lsN_u hr hg hn9 hj, RN_steps hr hg hn9 hcl hi hj, nI_eq (by omega) (by omega)]
    exact ⟨fun hh => ⟨hlo, hh.1, hh.2⟩, fun hh => ⟨hh.2.1, hh.2.2⟩⟩
  by_cases c1 : (0 < t.1 (b + 19 + i) ∧ t.1 (b + 19 + i) < 3) ∧ (0 < t.1 (b + 19 + j) ∧ t.1 (b + 19 + j) < 3) ∧ apN (t.1 (b + 10 + i) / cl) (t.1 (b + 10 + j) / cl) + apN (t.1 (b + 10 + i) % cl) (t.1 (b + 10 + j) % cl) = 1
  · have ew : w_mix1 i j s = (vs (vs s.1 (4 + i) 5 (nI (t.1 (b + 37 + i) ||| t.1 (b + 37 + j)))) (4 + j) 5 (nI (t.1 (b + 37 + i) ||| t.1 (b + 37 + j))), if s.2 = -4 ∧ t.1 (b + 37 + i) ≠ t.1 (b + 37 + j) then nI j else s.2) := by
      unfold w_mix1
      rw [if_pos (hcond.mpr c1), e5, f5, or_nI hgi hgj]
      refine Prod.ext rfl ?_
      have hor := or_lt hgi hgj
      have : (s.2 = -4 ∧ (nI (t.1 (b + 37 + i)) = nI (t.1 (b + 37 + i) ||| t.1 (b + 37 + j)) → ¬ nI (t.1 (b + 37 + j)) = nI (t.1 (b + 37 + i) ||| t.1 (b + 37 + j)))) ↔ (s.2 = -4 ∧ t.1 (b + 37 + i) ≠ t.1 (b + 37 + j)) := by
        rw [nI_eq (by omega) (by omega), nI_eq (by omega) (by omega), ← or_eq]
        refine ⟨fun hh => ⟨hh.1, ?_⟩, fun hh => ⟨hh.1, fun h1 h2 => ?_⟩⟩
        · by_cases c : t.1 (b + 37 + i) = t.1 (b + 37 + i) ||| t.1 (b + 37 + j)
          · exact Or.inr (hh.2 c)
          · exact Or.inl c
        · rcases hh.2 with h3 | h3
          · exact h3 h1
          · exact h3 h2
      show (if s.2 = -4 ∧ _ then nI j else s.2) = _
      by_cases c : s.2 = -4 ∧ t.1 (b + 37 + i) ≠ t.1 (b + 37 + j)
      · rw [if_pos (this.mpr c), if_pos c]
      · rw [if_neg (fun hh => c (this.mp hh)), if_neg c]
    have et : mixG cl b i j t = (gs (gs t.1 (b + 37 + i) (t.1 (b + 37 + i) ||| t.1 (b + 37 + j))) (b + 37 + j) (t.1 (b + 37 + i) ||| t.1 (b + 37 + j)), if t.2 = none ∧ t.1 (b + 37 + i) ≠ t.1 (b + 37 + j) then some (10 * i + j) else t.2) := by
      unfold mixG
      rw [if_pos c1]
    rw [et] at hgb
    rw [ew, et]
    refine ⟨fun i' hi' => ?_, hgb, ?_⟩
    · by_cases d1 : i' = j
      · subst d1
        simp (disch := omega) only [vs_ne, vs_same, gs_ne, gs_same]
        exact ⟨f0, f1, f2, f3, f4, trivial, f6⟩
      · by_cases d2 : i' = i
        · subst d2
          simp (disch := omega) only [vs_ne, vs_same, gs_ne, gs_same]
          exact ⟨e0, e1, e2, e3, e4, trivial, e6⟩
        · simp (disch := omega) only [vs_ne, gs_ne]
          exact hr i' hi'
    · by_cases c2 : t.1 (b + 37 + i) = t.1 (b + 37 + j)
      · refine ⟨zo, ?_, hz9, ?_⟩
        · show (if s.2 = -4 ∧ t.1 (b + 37 + i) ≠ t.1 (b + 37 + j) then nI j else s.2) = _
          rw [if_neg (fun hh => hh.2 c2)]; exact hz
        · show (if t.2 = none ∧ t.1 (b + 37 + i) ≠ t.1 (b + 37 + j) then some (10 * i + j) else t.2) = _
          rw [if_neg (fun hh => hh.2 c2)]; exact ht
      · cases zo with
        | none =>
          refine ⟨some j, ?_, fun c hc => by cases hc; omega, ?_⟩
          · show (if s.2 = -4 ∧ t.1 (b + 37 + i) ≠ t.1 (b + 37 + j) then nI j else s.2) = _
            rw [if_pos ⟨hz, c2⟩]; rfl
          · show (if t.2 = none ∧ t.1 (b + 37 + i) ≠ t.1 (b + 37 + j) then some (10 * i + j) else t.2) = _
            cases m0 with
            | none => rw [if_pos ⟨ht, c2⟩]; rfl
            | some c =>
              have ht' : t.2 = some c := ht
              rw [if_neg (fun hh => by rw [ht'] at hh; cases hh.1)]; exact ht'
        | some z0 =>
          refine ⟨some z0, ?_, hz9, ?_⟩
          · show (if s.2 = -4 ∧ t.1 (b + 37 + i) ≠ t.1 (b + 37 + j) then nI j else s.2) = _
            rw [if_neg (fun hh => by
              have h9 := hz9 z0 rfl
              have := eqI4 (c := z0) (by omega)
              rw [hz, show opI (some z0) = nI z0 from rfl, this] at hh
              exact hh.1)]
            exact hz
          · show (if t.2 = none ∧ t.1 (b + 37 + i) ≠ t.1 (b + 37 + j) then some (10 * i + j) else t.2) = _
            have hne : t.2 ≠ none := by
              rw [ht]
              cases m0 with
              | none => intro hh; cases hh
              | some c => intro hh; cases hh
            rw [if_neg (fun hh => hne hh.1)]; exact ht
  · have ew : w_mix1 i j s = s := by unfold w_mix1; exact if_neg (fun hh => c1 (hcond.mp hh))
    have et : mixG cl b i j t = t := by unfold mixG; exact if_neg c1
    rw [ew, et]
    exact ⟨hr, hg, zo, hz, hz9, ht⟩
end QTD
