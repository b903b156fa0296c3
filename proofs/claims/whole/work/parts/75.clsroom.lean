/-! ===== ROOM: the lowest cell, the bits of the rows, the call ===== -/
section QRX
variable {r k q s t m p a cl rw c x n i N : Nat} {σ σ' : Nat → Nat} {op : Nat → Nat} {told : Option Nat} {fr : Nat → Int32}
theorem fnd_first {P : Nat → Bool} : ∀ k i j, fnd P k i = some j → ∀ q, i ≤ q → q < j → P q = false := by
  intro k
  induction k with
  | zero => intro i j h; cases h
  | succ k ih =>
    intro i j h q h1 h2
    unfold fnd at h
    by_cases c : P i = true
    · rw [if_pos c] at h; cases h; omega
    · rw [if_neg c] at h
      by_cases e : q = i
      · rw [e]; exact Bool.eq_false_iff.mpr c
      · exact ih (i + 1) j h q (by omega) h2
theorem lo_some {all : Nat} {w : Nat → Nat → Nat} : ∀ k r N, lo all w cl k r = some N → ∃ q c, r ≤ q ∧ q < r + k ∧ lc all (w q) 63 1 none = some c ∧ N = q * cl + c ∧ ∀ q', r ≤ q' → q' < q → lc all (w q') 63 1 none = none := by
  intro k
  induction k with
  | zero => intro r N h; cases h
  | succ k ih =>
    intro r N h
    have h' : (match lc all (w r) 63 1 none with | some c => some (r * cl + c) | none => lo all w cl k (r + 1)) = some N := h
    cases hl : lc all (w r) 63 1 none with
    | some c =>
      rw [hl] at h'; cases h'
      exact ⟨r, c, Nat.le_refl r, by omega, hl, rfl, fun q' h1 h2 => by omega⟩
    | none =>
      rw [hl] at h'
      obtain ⟨q, c, h1, h2, h3, h4, h5⟩ := ih (r + 1) N h'
      refine ⟨q, c, by omega, by omega, h3, h4, fun q' h6 h7 => ?_⟩
      by_cases e : q' = r
      · rw [e]; exact hl
      · exact h5 q' (by omega) h7
theorem lo_none {all : Nat} {w : Nat → Nat → Nat} : ∀ k r, lo all w cl k r = none → ∀ q, r ≤ q → q < r + k → lc all (w q) 63 1 none = none := by
  intro k
  induction k with
  | zero => intro r _ q h1 h2; omega
  | succ k ih =>
    intro r h q h1 h2
    have h' : (match lc all (w r) 63 1 none with | some c => some (r * cl + c) | none => lo all w cl k (r + 1)) = none := h
    cases hl : lc all (w r) 63 1 none with
    | some c => rw [hl] at h'; cases h'
    | none =>
      rw [hl] at h'
      by_cases e : q = r
      · rw [e]; exact hl
      · exact ih (r + 1) h' q (by omega) (by omega)
/-- a way that is as many: its first row that is not empty gives as many, and its lowest cell -/
theorem way_low (h : RMQ op fr rw cl) (ha : 0 < allN op) (hf : Fea (fun q s => can s (op q)) σ 0 6) (e : tot σ 6 0 = allN op) : ∃ r, r < 6 ∧ σ r ≠ 0 ∧ (∀ q, q < r → σ q = 0) ∧ ∃ c, lc (allN op) (GrN op r) 63 1 none = some c ∧ c ≤ tz (σ r) := by
  cases hn : fnd (fun q => decide (σ q ≠ 0)) 6 0 with
  | none =>
    have := fnd_none 6 0 hn
    have h0 : tot σ 6 0 = 0 := tot_0 6 0 (fun q h1 h2 => Classical.byContradiction fun hh => by
      have := this q h1 (by omega)
      rw [decide_eq_true hh] at this; cases this)
    omega
  | some r =>
    obtain ⟨_, hr, hp⟩ := fnd_in hn
    have hr6 : r < 6 := by omega
    have hne : σ r ≠ 0 := of_decide_eq_true hp
    have hz : ∀ q, q < r → σ q = 0 := fun q hq => Classical.byContradiction fun hh => by
      have := fnd_first 6 0 r hn q (by omega) hq
      rw [decide_eq_true hh] at this; cases this
    have hfr := hf r (by omega) (by omega)
    have e1 := tot_app (σ := σ) r (6 - r) 0
    rw [show r + (6 - r) = 6 by omega, tot_0 r 0 (fun q a b => hz q (by omega)), Nat.zero_add, Nat.zero_add] at e1
    have hB := B2 (op := op) (σ := σ) (5 - r) r (by omega) (fun q a b => by
      have := hf q (by omega) (by omega)
      exact ⟨this.1, this.2.1, fun c => this.2.2 (by omega)⟩)
    rw [show 5 - r + 1 = 6 - r by omega] at hB
    obtain ⟨σ2, k1, k2, k3⟩ := Gr_way h hr6 hfr.1 hfr.2.1
    have hle := all_le k1
    have hG : GrN op r (σ r) = allN op := by omega
    obtain ⟨c, hc, hcle⟩ := (lc_min (all := allN op) (w := GrN op r)).2 (σ r) (by omega) hfr.1 hG
    exact ⟨r, hr6, hne, hz, c, hc, hcle⟩
theorem room_low (h : RMQ op fr rw cl) (ha : 0 < allN op) : ∃ N, lo (allN op) (fun r => GrN op r) cl 6 0 = some N ∧ N < rw * cl ∧ rmG fr cl rw (some N) = some (allN op) ∧ ∀ x, x < N → rmG fr cl rw (some x) ≠ some (allN op) := by
  obtain ⟨h1, h2, h3, h4, h5, h6⟩ := id h
  cases hl : lo (allN op) (fun r => GrN op r) cl 6 0 with
  | none =>
    obtain ⟨σ, hf, e⟩ := all_ex h
    obtain ⟨r, hr, hne, hz, c, hc, hcle⟩ := way_low h ha hf e
    have := lo_none 6 0 hl r (by omega) (by omega)
    rw [hc] at this; cases this
  | some N =>
    obtain ⟨q, c, hq0, hq, hlc, hN, hfirst⟩ := lo_some 6 0 N hl
    obtain ⟨t, ht0, ht, hG, htz⟩ := lc_min.1 c hlc
    have hcan : can t (op q) = true := by
      refine Classical.byContradiction fun hh => ?_
      rw [GrN_s (by omega), if_neg hh] at hG
      omega
    have hcl := tz_cl cl (by omega) t ht ht0 (h4 q (by omega) t ht hcan)
    have hqr : q < rw := by
      refine Classical.byContradiction fun hh => ?_
      have := h2 q (by omega) (by omega) t ht hcan
      omega
    have hd : N / cl = q ∧ N % cl = c := by
      rw [hN]; exact dm_at (by omega)
    have hlt : N < rw * cl := by
      have : q * cl + cl ≤ rw * cl := by rw [← Nat.succ_mul]; exact Nat.mul_le_mul_right cl hqr
      omega
    refine ⟨N, rfl, hlt, ?_, fun x hx hr => ?_⟩
    · rw [room_at h hlt, hd.1, hd.2]
      obtain ⟨σ, k1, k2, k3⟩ := Gr_way h (by omega) ht hcan
      exact ⟨σ, k1, k2.trans hG, by rw [k3, ← htz]; exact tz_has t ht ht0⟩
    · rw [room_at h (by omega)] at hr
      obtain ⟨σ, hf, e, hb⟩ := hr
      obtain ⟨r, hr6, hne, hz, c', hc', hcle⟩ := way_low h ha hf e
      have hxr : r ≤ x / cl := by
        refine Classical.byContradiction fun hh => ?_
        have := hz (x / cl) (by omega)
        rw [this, Nat.zero_div] at hb
        exact absurd hb (by decide)
      have hqr' : q ≤ r := by
        refine Classical.byContradiction fun hh => ?_
        have := hfirst r (by omega) (by omega)
        rw [hc'] at this; cases this
      have hxd := Nat.div_add_mod x cl
      rw [Nat.mul_comm] at hxd
      have hmul : ∀ a b, a < b → a * cl + cl ≤ b * cl := fun a b hab => by rw [← Nat.succ_mul]; exact Nat.mul_le_mul_right cl hab
      have hmod := Nat.mod_lt x h6.1
      by_cases e1 : q = x / cl
      · have er : r = q := by omega
        rw [er] at hc' hcle
        rw [hlc] at hc'
        cases hc'
        rw [e1] at hcle
        have hb6 := hf (x / cl) (by omega) (by omega)
        have := tz_le (σ (x / cl)) hb6.1 (x % cl) (by omega) hb
        rw [hN, e1] at hx
        omega
      · have := hmul q (x / cl) (by omega)
        omega
/-! bits -/
def bx (x : Int32) (c : Nat) : Bool := x.toBitVec.getLsbD c
theorem bx_and {x y : Int32} : bx (x &&& y) c = (bx x c && bx y c) := by
  unfold bx
  rw [Int32.toBitVec_and, BitVec.getLsbD_and]
theorem bx_m1 (hc : c < 32) : bx (-1) c = true := by
  have e : (-1 : Int32).toBitVec = BitVec.allOnes 32 := by decide
  unfold bx
  rw [e, BitVec.getLsbD_allOnes]
  exact decide_eq_true hc
theorem bx_not {x : Int32} (hc : c < 32) : bx (x ^^^ -1) c = !bx x c := by
  have h := bx_m1 hc
  unfold bx at h ⊢
  rw [Int32.toBitVec_xor, BitVec.getLsbD_xor, h, Bool.xor_true]
theorem bx_nI (hc : c < 32) : bx (nI m) c = m.testBit c := by
  show (BitVec.ofNat 32 m).getLsbD c = _
  rw [BitVec.getLsbD_ofNat, decide_eq_true hc, Bool.true_and]
theorem tb_iff {m c : Nat} : m.testBit c = true ↔ m / 2 ^ c % 2 = 1 := by
  rw [Nat.testBit_eq_decide_div_mod_eq]; exact decide_eq_true_iff
theorem bx_0 {x : Int32} : x = nI 0 ↔ ∀ c, c < 32 → bx x c = false := by
  constructor
  · intro h c hc
    rw [h, bx_nI hc, Nat.zero_testBit]
  · intro h
    refine Int32.toBitVec_inj.mp (BitVec.eq_of_getLsbD_eq (fun i hi => ?_))
    have := h i hi
    have h2 := bx_nI (m := 0) hi
    rw [Nat.zero_testBit] at h2
    unfold bx at this h2
    rw [this, h2]
theorem can_bits {y : Int32} (hs : s < 64) : canI s y = true ↔ (∀ c, c < 6 → s / 2 ^ c % 2 = 1 → bx y c = true) ∧ ((nI s &&& (nI s <<< (nI 1 &&& 31))) == nI 0) = true := by
  unfold canI
  rw [Bool.and_eq_true]
  refine and_congr ?_ Iff.rfl
  rw [beq_iff_eq, bx_0]
  constructor
  · intro h c hc hb
    have := h c (by omega)
    rw [bx_and, bx_nI (by omega), bx_not (by omega), tb_iff.mpr hb, Bool.true_and] at this
    cases hy : bx y c with
    | true => rfl
    | false => rw [hy] at this; cases this
  · intro h c hc
    rw [bx_and, bx_nI hc, bx_not hc]
    by_cases c6 : c < 6
    · cases hb : s.testBit c with
      | false => rfl
      | true => rw [h c c6 (tb_iff.mp hb)]; rfl
    · have : s.testBit c = false := Nat.testBit_lt_two_pow (Nat.lt_of_lt_of_le hs (Nat.pow_le_pow_right (n := 2) (by omega) (show 6 ≤ c by omega)))
      rw [this]; rfl
theorem s_zero : ∀ s, s < 64 → (∀ c, c < 6 → ¬ s / 2 ^ c % 2 = 1) → s = 0 := by decide +kernel
theorem s_cl : ∀ cl, cl < 7 → ∀ s, s < 64 → (∀ c, c < 6 → s / 2 ^ c % 2 = 1 → c < cl) → s < 2 ^ cl := by decide +kernel
theorem bx_clear {y : Int32} {e : Nat} (he : e < 31) (hc : c < 32) : bx (y &&& ((nI 1 <<< (nI e &&& 31)) ^^^ -1)) c = (bx y c && decide (e ≠ c)) := by
  rw [bx_and, bx_not hc, bit1 e he, bx_nI hc, Nat.testBit_two_pow]
  by_cases h : e = c
  · simp [h]
  · simp [h]
/-- the cell and those beside it -/
def crs (R C r c : Nat) : Prop := (R = r ∧ C = c) ∨ (R = r + 1 ∧ C = c) ∨ (R + 1 = r ∧ C = c) ∨ (R = r ∧ C = c + 1) ∨ (R = r ∧ C + 1 = c)
theorem crs_ap {R C r c : Nat} : crs R C r c ↔ apN R r + apN C c ≤ 1 := by
  unfold crs apN
  constructor
  · intro h
    rcases h with h | h | h | h | h <;> (repeat' split) <;> omega
  · intro h
    (repeat' split at h) <;> omega
theorem cl_bits {v : qV} {R C : Nat} (hR : R < 100) (hC : C < 30) (hr : r < 6) (hc : c < 6) : bx (g_close v (nI R) (nI C) 1 r) c = true ↔ bx (v 1 r) c = true ∧ ¬ (R = r ∧ C = c) := by
  unfold g_close
  rw [if_neg (nI_nlt (by omega) (by omega))]
  by_cases h6 : R < 6
  · rw [if_pos ((nI_ltI (by omega) (by omega)).mpr h6), if_neg (nI_nlt (by omega) (by omega)), nI_clamp (by omega)]
    by_cases e : R = r
    · subst e
      rw [vs_same, bx_clear (by omega) (by omega), Bool.and_eq_true, decide_eq_true_iff]
      exact and_congr Iff.rfl ⟨fun h1 h2 => h1 h2.2, fun h1 h2 => h1 ⟨rfl, h2⟩⟩
    · rw [vs_ne (by omega)]
      exact ⟨fun h => ⟨h, fun hh => e hh.1⟩, fun h => h.1⟩
  · rw [if_neg (fun hh => h6 ((nI_ltI (by omega) (by omega)).mp hh))]
    exact ⟨fun h => ⟨h, fun hh => by omega⟩, fun h => h.1⟩
theorem neg_lt : (nI 0 - nI 1 < nI 0) = True := by decide
theorem cl_neg1 {v : qV} {y : Int32} : g_close v (nI 0 - nI 1) y = v := by
  unfold g_close
  rw [if_pos (by decide)]
theorem cl_neg2 {v : qV} {R : Nat} (hR : R < 100) : g_close v (nI R) (nI 0 - nI 1) = v := by
  unfold g_close
  rw [if_neg (nI_nlt (by omega) (by omega))]
  split
  · rw [if_pos (by decide)]
  · rfl
theorem rd_bits {v : qV} {R C : Nat} (hR : R < 50) (hC : C < 20) (hr : r < 6) (hc : c < 6) : bx (g_round v (nI R) (nI C) 1 r) c = true ↔ bx (v 1 r) c = true ∧ ¬ crs R C r c := by
  unfold g_round crs
  rw [nI_add, nI_add, cl_bits (by omega) (by omega) hr hc]
  by_cases hC0 : C = 0
  · subst hC0
    rw [cl_neg2 (by omega), cl_bits (by omega) (by omega) hr hc]
    by_cases hR0 : R = 0
    · subst hR0
      rw [cl_neg1, cl_bits (by omega) (by omega) hr hc]
      constructor
      · intro h; exact ⟨h.1.1.1, fun hh => by omega⟩
      · intro h; exact ⟨⟨⟨h.1, fun hh => h.2 (by omega)⟩, fun hh => h.2 (by omega)⟩, fun hh => h.2 (by omega)⟩
    · rw [pk_sub (show 1 ≤ R by omega), cl_bits (by omega) (by omega) hr hc, cl_bits (by omega) (by omega) hr hc]
      constructor
      · intro h; exact ⟨h.1.1.1.1, fun hh => by omega⟩
      · intro h; exact ⟨⟨⟨⟨h.1, fun hh => h.2 (by omega)⟩, fun hh => h.2 (by omega)⟩, fun hh => h.2 (by omega)⟩, fun hh => h.2 (by omega)⟩
  · rw [pk_sub (show 1 ≤ C by omega), cl_bits (by omega) (by omega) hr hc, cl_bits (by omega) (by omega) hr hc]
    by_cases hR0 : R = 0
    · subst hR0
      rw [cl_neg1, cl_bits (by omega) (by omega) hr hc]
      constructor
      · intro h; exact ⟨h.1.1.1.1, fun hh => by omega⟩
      · intro h; exact ⟨⟨⟨⟨h.1, fun hh => h.2 (by omega)⟩, fun hh => h.2 (by omega)⟩, fun hh => h.2 (by omega)⟩, fun hh => h.2 (by omega)⟩
    · rw [pk_sub (show 1 ≤ R by omega), cl_bits (by omega) (by omega) hr hc, cl_bits (by omega) (by omega) hr hc]
      constructor
      · intro h; exact ⟨h.1.1.1.1.1, fun hh => by omega⟩
      · intro h; exact ⟨⟨⟨⟨⟨h.1, fun hh => h.2 (by omega)⟩, fun hh => h.2 (by omega)⟩, fun hh => h.2 (by omega)⟩, fun hh => h.2 (by omega)⟩, fun hh => h.2 (by omega)⟩
theorem row_bits : ∀ cl, cl < 7 → ∀ c, c < 6 → ((2 ^ cl - 1) / 2 ^ c % 2 = 1 ↔ c < cl) := by decide +kernel
theorem open_bits {u v : qV} {g : Nat → Nat} (h : RN u g 0 n cl) (hg : GB g 0) (hn9 : n ≤ 9) (hcl : 0 < cl ∧ cl ≤ 6) (hr : r < 6) (hc : c < 6) : bx (g_open u rw cl n v 1 r) c = true ↔ (r < rw ∧ c < cl) ∧ ∀ i, i < n → 0 < g (19 + i) → ¬ crs (g (10 + i) / cl) (g (10 + i) % cl) r c := by
  have := lp_ind (P := fun k w => ∀ r c, r < 6 → c < 6 → (bx (w 1 r) c = true ↔ (r < rw ∧ c < cl) ∧ ∀ i, i < k → 0 < g (19 + i) → ¬ crs (g (10 + i) / cl) (g (10 + i) % cl) r c)) (f := g_of u) (n := n) (fun k w hk hw r c hr hc => by
    obtain ⟨e0, e1, e2, e3, _⟩ := h k hk
    have hgk := hg k (by omega)
    simp only [Nat.zero_add] at e1 e2 e3 hgk
    have hdv := Nat.div_le_self (g (10 + k)) cl
    have hmd := Nat.mod_lt (g (10 + k)) hcl.1
    unfold g_of
    rw [e1, e2, e3]
    by_cases c0 : g (19 + k) = 0
    · rw [if_pos ((nI_ltI (by omega) (by omega)).mpr (by omega)), hw r c hr hc]
      refine and_congr Iff.rfl ⟨fun hh i hi h0 => ?_, fun hh i hi h0 => hh i (by omega) h0⟩
      by_cases e : i = k
      · rw [e] at h0; omega
      · exact hh i (by omega) h0
    · rw [if_neg (fun hh => by have := (nI_ltI (by omega) (by omega)).mp hh; omega), rd_bits (by omega) (by omega) hr hc, hw r c hr hc]
      constructor
      · intro ⟨⟨a1, a2⟩, a3⟩
        refine ⟨a1, fun i hi h0 => ?_⟩
        by_cases e : i = k
        · rw [e]; exact a3
        · exact a2 i (by omega) h0
      · intro ⟨a1, a2⟩
        exact ⟨⟨a1, fun i hi h0 => a2 i (by omega) h0⟩, a2 k (by omega) (by omega)⟩) n 0 (vf v 1 (g_rowf rw cl) 6) (by omega) (fun r c hr hc => by
    rw [vf_at hr, bx_nI (by omega), tb_iff]
    unfold g_rowf
    by_cases c1 : r < rw
    · rw [if_pos c1, row_bits cl (by omega) c hc]
      exact ⟨fun hh => ⟨⟨c1, hh⟩, fun i hi => by omega⟩, fun hh => hh.1.2⟩
    · rw [if_neg c1, Nat.zero_div]
      exact ⟨fun hh => absurd hh (by decide), fun hh => absurd hh.1.1 c1⟩)
  exact this r c hr hc
theorem roF_bits {g : Nat → Nat} {f : Nat → Int32} (hc : c < 6) (hcl : 0 < cl ∧ cl ≤ 6) : bx (roF cl g q i f r) c = true ↔ bx (f r) c = true ∧ ¬ (r = q / cl ∧ c = q % cl ∧ 0 < g (19 + i) ∧ (g (10 + i) = q ∨ apN (g (10 + i) / cl) (q / cl) + apN (g (10 + i) % cl) (q % cl) = 1)) := by
  have hmd := Nat.mod_lt q hcl.1
  unfold roF
  by_cases c1 : r = q / cl
  · rw [if_pos c1]
    by_cases c2 : 0 < g (19 + i) ∧ (g (10 + i) = q ∨ apN (g (10 + i) / cl) (q / cl) + apN (g (10 + i) % cl) (q % cl) = 1)
    · rw [if_pos c2, bx_clear (by omega) (by omega), Bool.and_eq_true, decide_eq_true_iff]
      exact and_congr Iff.rfl ⟨fun h hh => h hh.2.1.symm, fun h hh => h ⟨c1, hh.symm, c2⟩⟩
    · rw [if_neg c2, bx_and, bx_m1 (by omega), Bool.and_true]
      exact ⟨fun h => ⟨h, fun hh => c2 hh.2.2⟩, fun h => h.1⟩
  · rw [if_neg c1]
    exact ⟨fun h => ⟨h, fun hh => c1 hh.1⟩, fun h => h.1⟩
theorem roO_bits {g : Nat → Nat} {fr0 : Nat → Int32} (hcl : 0 < cl ∧ cl ≤ 6) (hr : r < rw) (hc : c < 6) : bx (roO cl rw n g fr0 r) c = true ↔ c < cl ∧ ∀ q, q < rw * cl → ∀ i, i < n → ¬ (r = q / cl ∧ c = q % cl ∧ 0 < g (19 + i) ∧ (g (10 + i) = q ∨ apN (g (10 + i) / cl) (q / cl) + apN (g (10 + i) % cl) (q % cl) = 1)) := by
  have := lp_ind (P := fun k (f : Nat → Int32) => bx (f r) c = true ↔ c < cl ∧ ∀ q, q < k → ∀ i, i < n → ¬ (r = q / cl ∧ c = q % cl ∧ 0 < g (19 + i) ∧ (g (10 + i) = q ∨ apN (g (10 + i) / cl) (q / cl) + apN (g (10 + i) % cl) (q % cl) = 1))) (f := roX cl n g) (n := rw * cl) (fun k f hk hf => by
    have h2 := lp_ind (P := fun j (f' : Nat → Int32) => bx (f' r) c = true ↔ bx (f r) c = true ∧ ∀ i, i < j → ¬ (r = k / cl ∧ c = k % cl ∧ 0 < g (19 + i) ∧ (g (10 + i) = k ∨ apN (g (10 + i) / cl) (k / cl) + apN (g (10 + i) % cl) (k % cl) = 1))) (f := roF cl g k) (n := n) (fun j f' hj hf' => by
      rw [roF_bits hc hcl, hf']
      constructor
      · intro ⟨⟨a1, a2⟩, a3⟩
        refine ⟨a1, fun i hi => ?_⟩
        by_cases e : i = j
        · rw [e]; exact a3
        · exact a2 i (by omega)
      · intro ⟨a1, a2⟩
        exact ⟨⟨a1, fun i hi => a2 i (by omega)⟩, a2 j (by omega)⟩) n 0 f (by omega) ⟨fun h => ⟨h, fun i hi => by omega⟩, fun h => h.1⟩
    show bx (lp (roF cl g k) n 0 f r) c = true ↔ _
    rw [h2, hf]
    constructor
    · intro ⟨⟨a1, a2⟩, a3⟩
      refine ⟨a1, fun q hq => ?_⟩
      by_cases e : q = k
      · rw [e]; exact a3
      · exact a2 q (by omega)
    · intro ⟨a1, a2⟩
      exact ⟨⟨a1, fun q hq => a2 q (by omega)⟩, a2 k (by omega)⟩) (rw * cl) 0 (rf1 cl fr0 rw) (by omega) (by
    unfold rf1
    rw [if_pos hr, bx_nI (by omega), tb_iff, row_bits cl (by omega) c hc]
    exact ⟨fun h => ⟨h, fun q hq => by omega⟩, fun h => h.1⟩)
  exact this
theorem rows_tie {u v : qV} {g : Nat → Nat} {fr0 : Nat → Int32} (h : RN u g 0 n cl) (hg : GB g 0) (hn9 : n ≤ 9) (hcl : 0 < cl ∧ cl ≤ 6) (hrw : rw ≤ 6) (hop : ∀ q, q < 6 → nI (op q) = g_open u rw cl n v 1 q) : RMQ op (roO cl rw n g fr0) rw cl := by
  have hbits : ∀ q, q < rw → ∀ c, c < 6 → (bx (g_open u rw cl n v 1 q) c = true ↔ bx (roO cl rw n g fr0 q) c = true) := fun q hq c hc => by
    rw [open_bits h hg hn9 hcl (by omega) hc, roO_bits hcl hq hc]
    constructor
    · intro ⟨⟨_, a1⟩, a2⟩
      refine ⟨a1, fun y hy i hi ⟨b1, b2, b3, b4⟩ => a2 i hi b3 ?_⟩
      rw [crs_ap, b1, b2]
      rcases b4 with b4 | b4
      · rw [b4, apN_0.mpr rfl, apN_0.mpr rfl]; omega
      · omega
    · intro ⟨a1, a2⟩
      refine ⟨⟨hq, a1⟩, fun i hi h0 hc2 => ?_⟩
      obtain ⟨d1, d2⟩ := dm_at (n := cl) (a := q) a1
      have hlt : q * cl + c < rw * cl := by
        have : q * cl + cl ≤ rw * cl := by rw [← Nat.succ_mul]; exact Nat.mul_le_mul_right cl hq
        omega
      rw [crs_ap] at hc2
      refine a2 (q * cl + c) hlt i hi ⟨d1.symm, d2.symm, h0, ?_⟩
      rw [d1, d2]
      by_cases c9 : apN (g (10 + i) / cl) q + apN (g (10 + i) % cl) c = 1
      · exact Or.inr c9
      · refine Or.inl (divmod_eq (c := cl) ?_ ?_)
        · rw [d1]; exact apN_0.mp (by omega)
        · rw [d2]; exact apN_0.mp (by omega)
  have e : ∀ q, q < 6 → ∀ s, can s (op q) = canI s (g_open u rw cl n v 1 q) := fun q hq s => by rw [can_I, hop q hq]
  refine ⟨fun q hq s hs => ?_, fun q hq hq6 s hs hcn => ?_, fun q hq => ?_, fun q hq s hs hcn => ?_, hrw, hcl⟩
  · rw [e q (by omega) s]
    have : canI s (g_open u rw cl n v 1 q) = true ↔ canI s (roO cl rw n g fr0 q) = true := by
      rw [can_bits hs, can_bits hs]
      exact and_congr ⟨fun hh c hc hb => (hbits q hq c hc).mp (hh c hc hb), fun hh c hc hb => (hbits q hq c hc).mpr (hh c hc hb)⟩ Iff.rfl
    cases h1 : canI s (g_open u rw cl n v 1 q) with
    | true => exact (this.mp h1).symm
    | false =>
      cases h2 : canI s (roO cl rw n g fr0 q) with
      | true => rw [this.mpr h2] at h1; cases h1
      | false => rfl
  · rw [e q hq6 s, can_bits hs] at hcn
    refine s_zero s hs (fun c hc hb => ?_)
    have := (open_bits (rw := rw) (v := v) h hg hn9 hcl hq6 hc).mp (hcn.1 c hc hb)
    omega
  · rw [e q hq 0, can_bits (by omega)]
    exact ⟨fun c hc hb => by rw [Nat.zero_div] at hb; exact absurd hb (by decide), by decide +kernel⟩
  · rw [e q hq s, can_bits hs] at hcn
    exact s_cl cl (by omega) s hs (fun c hc hb => ((open_bits (rw := rw) (v := v) h hg hn9 hcl hq hc).mp (hcn.1 c hc hb)).1.2)
end QRX
section QRC
variable {d B a k rw cl bl L s kp D : Nat} {M : qM} {o : qOut} {x : Int32} {p g dm lt w tt dp : Nat → Nat} {fr0 : Nat → Int32}
def opN (u v : qV) (rw cl n : Nat) (q : Nat) : Nat := (g_open u rw cl n v 1 q).toBitVec.toNat
theorem opN_I {u v : qV} {n q : Nat} : nI (opN u v rw cl n q) = g_open u rw cl n v 1 q := by
  unfold opN
  refine Int32.toBitVec_inj.mp ?_
  show BitVec.ofNat 32 _ = _
  rw [BitVec.ofNat_toNat, BitVec.setWidth_eq]
theorem allN_le {op : Nat → Nat} : allN op ≤ 36 := by
  unfold allN
  exact mw_le (fun t ht => by have := @Wk_le op 6 t; omega) 64 0 0 (by omega) (by omega)
theorem N_room_bad (h : CS M B p) (hx : ¬ ((0 : Int) ≤ x.toInt ∧ x.toInt ≤ 1)) : Ev (d + 5) 17 [.ref B, .int x] M o = (o = (some (.int (-1)), M)) := by
  obtain ⟨c0, c1⟩ := rg_01 hx
  simp (disch := omega) only [e17, x17_0, x17_1, x17_4, x17_5, x17_6, x17_9, x17_10, c0, c1, if_false]
/-- what the class answers: how many, and the lowest cell -/
theorem N_room_ok (h : CS M B p) (hd : CD M B p g rw cl bl dm a kp lt L s w tt dp D) : ∃ (M' : qM) (op : Nat → Nat), CS M' B p ∧ CD M' B p g rw cl bl dm a kp lt L s w tt dp D ∧ smo B M M' ∧ (∀ fr0, RMQ op (roO cl rw (g 0) g fr0) rw cl) ∧ (∀ (d : Nat) o, Ev (d + 5) 17 [.ref B, .int (nI 0)] M o = (o = (some (.int (nI (allN op))), M'))) ∧ (∀ (d : Nat) o, Ev (d + 5) 17 [.ref B, .int (nI 1)] M o = (o = (some (.int (if allN op = 0 then -4 else opI (lo (allN op) (fun r => GrN op r) cl 6 0))), M'))) := by
  obtain ⟨⟨n0, n1, n2, n3, n4, n5, n6, n7, n8, n9⟩, _, hI, hW, hA, hP, hK, hC, hM, hG, hpk, hpi⟩ := id h
  obtain ⟨b1, b2, b3, b4, b5⟩ := BK_n hd.1
  have hb := hd.2.2.2.2.2.2
  have gp := hd.2.2.2.2.2.1
  have hGs := hG.1
  have h9 : ∀ t, t < 64 → g_open (blk M (B + 7)) rw cl (g 0) (blk M (B + 279)) 9 t = nI 0 := fun t ht => by
    have : ∀ (k i : Nat) (v : qV), lp (g_of (blk M (B + 7))) k i v 9 t = v 9 t := by
      intro k
      induction k with
      | zero => intro i v; rfl
      | succ k ih =>
        intro i v
        show lp _ k (i + 1) (g_of (blk M (B + 7)) i v) 9 t = _
        rw [ih]
        have hcl : ∀ (v : qV) (x y : Int32), g_close v x y 9 t = v 9 t := fun v x y => by
          unfold g_close
          repeat' split
          all_goals first | rfl | exact vs_ne (by omega)
        unfold g_of g_round
        split
        · rfl
        · rw [hcl, hcl, hcl, hcl, hcl]
    show lp _ (g 0) 0 (vf (blk M (B + 279)) 1 (g_rowf rw cl) 6) 9 t = _
    rw [this, vf_ne (by omega)]
    exact gp t ht
  have hmost := fun {d : Nat} {o : qOut} => S_mostIn (d := d) (o := o) (M := M) (u := blk M (B + 7)) (v := blk M (B + 279)) (op := opN (blk M (B + 7)) (blk M (B + 279)) rw cl (g 0)) hW hG (by omega) b1.1.2.2.2.2 b2 b1.1.1 (by omega) b1.1.2.1 hb.2.1.2 (fun r hr => opN_I.symm) h9
  rw [bB_blk, sB_blk] at hmost
  obtain ⟨op, hop⟩ : ∃ f, f = opN (blk M (B + 7)) (blk M (B + 279)) rw cl (g 0) := ⟨_, rfl⟩
  rw [← hop] at hmost
  have hle := @allN_le op
  have hrow : ∀ r, r < 6 → ∀ t, t < 64 → gf (g_open (blk M (B + 7)) rw cl (g 0) (blk M (B + 279))) op 6 (3 + r) t = nI (GrN op r t) ∧ GrN op r t ≤ 100 := fun r hr t ht => by
    have := gf_row (op := op) h9 6 (by omega) (6 - r) (by omega) t ht
    rw [show 6 - (6 - r) = r by omega] at this
    exact ⟨this, by unfold GrN; have := @Wk_le op (6 - r) t; omega⟩
  have hlo := fun {d : Nat} {o : qOut} => S_lo (d := d) (o := o) (M := M) (u := blk M (B + 7)) (v := gf (g_open (blk M (B + 7)) rw cl (g 0) (blk M (B + 279))) op 6) (all := allN op) (w := fun r => GrN op r) hW hG (by omega) b1.1.2.1 hb.2.1.2 (by omega) hrow
  have hM' : CS (sB (bB M (B + 279) 10 (gf (g_open (blk M (B + 7)) rw cl (g 0) (blk M (B + 279))) op 6)) (B + 7) (blk M (B + 7))) B p := CS_of h rfl rfl
  have e78 : ∀ q y, cor B q → qI (sB (bB M (B + 279) 10 (gf (g_open (blk M (B + 7)) rw cl (g 0) (blk M (B + 279))) op 6)) (B + 7) (blk M (B + 7))) q y = qI M q y ∨ (q = B + 288 ∧ 64 ≤ y) := fun q y hq => by
    by_cases c1 : B + 7 ≤ q ∧ q < B + 20
    · obtain ⟨j, rfl⟩ : ∃ j, q = B + 7 + j := ⟨q - (B + 7), by omega⟩
      left
      rw [qI_sBj (by omega)]; rfl
    · by_cases c2 : q = B + 288
      · subst c2
        by_cases c3 : y < 64
        · left
          rw [qI_sBx (by omega), show B + 288 = B + 279 + 9 by omega, qI_bB (by omega)]
          have := gf_row (op := op) h9 6 (by omega) 0 (by omega) y c3
          rw [gp y c3]
          exact this
        · exact Or.inr ⟨rfl, by omega⟩
      · left
        unfold cor at hq
        rw [qI_sBx (by omega), qI_bBx (by omega)]
  have hd' : CD (sB (bB M (B + 279) 10 (gf (g_open (blk M (B + 7)) rw cl (g 0) (blk M (B + 279))) op 6)) (B + 7) (blk M (B + 7))) B p g rw cl bl dm a kp lt L s w tt dp D := by
    have e : ∀ q y, cor B q → q ≠ B + 288 → qI (sB (bB M (B + 279) 10 (gf (g_open (blk M (B + 7)) rw cl (g 0) (blk M (B + 279))) op 6)) (B + 7) (blk M (B + 7))) q y = qI M q y := fun q y hq hne => (e78 q y hq).resolve_right (fun hh => hne hh.1)
    obtain ⟨h1, ⟨h2, h3, h4⟩, ⟨h5, h6, h7⟩, ⟨h8, h9', h10, h11, h12⟩, ⟨h13, h14, h15⟩, h16, h17⟩ := hd
    refine ⟨BK_cg h1 (fun j k hj => e _ _ (by unfold cor; omega) (by omega)), ⟨(e _ _ (by unfold cor; omega) (by omega)).trans h2, h3, fun k hk => BK_cg (h4 k hk) (fun j k' hj => ?_)⟩, ⟨(e _ _ (by unfold cor; omega) (by omega)).trans h5, h6, fun k hk => BK_cg (h7 k hk) (fun j k' hj => e _ _ (by unfold cor; omega) (by omega))⟩, ⟨(e _ _ (by unfold cor; omega) (by omega)).trans h8, h9', fun k hk => (e _ _ (by unfold cor; omega) (by omega)).trans (h10 k hk), h11, h12⟩, ⟨(e _ _ (by unfold cor; omega) (by omega)).trans h13, h14, fun i hi => ?_⟩, fun t ht => ?_, h17⟩
    · obtain ⟨q, hq, hpq⟩ := hpk k (by omega)
      exact e _ _ (by unfold cor; omega) (by omega)
    · rw [e _ _ (by unfold cor; omega) (by omega), e _ _ (by unfold cor; omega) (by omega), e _ _ (by unfold cor; omega) (by omega)]
      exact h15 i hi
    · rcases e78 (B + 279 + 9) t (by unfold cor; omega) with hh | hh
      · exact hh.trans (h16 t ht)
      · omega
  refine ⟨_, op, hM', hd', smo_trans (smo_bB (by omega)) (smo_sB (by omega)), fun fr0 => rows_tie b1.2.2.2 b3 b2 (by omega) hb.1.2 (fun q hq => by rw [hop]; exact opN_I), fun d o => ?_, fun d o => ?_⟩
  · simp (disch := first | omega | (simp (disch := omega) only [rf_some, qS_sB, qR_sB, qZ_sB, qI_sB0, qI_sB3, qI_sBn, pI_sB0, pI_sB3, pI_sBn, isWall_sB, exists_eq_left, Option.toList_some, Option.toList_none, List.cons_append, List.nil_append, if_true, if_false, qb_0, qb_q01, q01_1, q01_0, if_qb, if_qbn, if_qba, if_qbo, eq_self, true_or, or_true, and_self, true_and, and_true, not_true_eq_false, not_false_eq_true, vpi, ltI, eqI, eqI0, eqI4, nI_clamp, ite_not, vs_same, vs_ne, qrem_f, qabs_f, Nat.not_lt_zero, qS_bB, qR_bB, qZ_bB, qI_bB0, qI_bB, pI_bB0, pI_bB, isWall_bB, isItm_bB, isItm_sB, ltm, m1_lt, pk_mul, n0, n1, n2, n3, n4, n5, n6, n7, n8, n9, hGs]; done) | (simp (disch := omega) only [rf_some, qS_sB, qR_sB, qZ_sB, qI_sB0, qI_sB3, qI_sBn, pI_sB0, pI_sB3, pI_sBn, isWall_sB, exists_eq_left, Option.toList_some, Option.toList_none, List.cons_append, List.nil_append, if_true, if_false, qb_0, qb_q01, q01_1, q01_0, if_qb, if_qbn, if_qba, if_qbo, eq_self, true_or, or_true, and_self, true_and, and_true, not_true_eq_false, not_false_eq_true, vpi, ltI, eqI, eqI0, eqI4, nI_clamp, ite_not, vs_same, vs_ne, qrem_f, qabs_f, Nat.not_lt_zero, qS_bB, qR_bB, qZ_bB, qI_bB0, qI_bB, pI_bB0, pI_bB, isWall_bB, isItm_bB, isItm_sB, ltm, m1_lt, pk_mul, n0, n1, n2, n3, n4, n5, n6, n7, n8, n9, hGs]; omega)) only [e17, x17_0, x17_1, x17_4, x17_5, x17_6, x17_9, x17_10, x17_11, x17_12, x17_15, x17_16, x17_19, x17_22, x17_23, x17_24, x17_27, x17_28, rf_some, qS_sB, qR_sB, qZ_sB, qI_sB0, qI_sB3, qI_sBn, pI_sB0, pI_sB3, pI_sBn, isWall_sB, exists_eq_left, Option.toList_some, Option.toList_none, List.cons_append, List.nil_append, if_true, if_false, qb_0, qb_q01, q01_1, q01_0, if_qb, if_qbn, if_qba, if_qbo, eq_self, true_or, or_true, and_self, true_and, and_true, not_true_eq_false, not_false_eq_true, vpi, ltI, eqI, eqI0, eqI4, nI_clamp, ite_not, vs_same, vs_ne, qrem_f, qabs_f, Nat.not_lt_zero, n0, n1, n2, n3, n4, n5, n6, n7, n8, n9, hmost]
    rfl
  · have hmost' := @hmost
    rw [show mw 0 (Wk op 6) 64 0 0 = allN op from rfl] at hmost'
    by_cases c : allN op = 0
    · rw [if_pos c]
      simp (disch := first | omega | (simp (disch := omega) only [rf_some, qS_sB, qR_sB, qZ_sB, qI_sB0, qI_sB3, qI_sBn, pI_sB0, pI_sB3, pI_sBn, isWall_sB, exists_eq_left, Option.toList_some, Option.toList_none, List.cons_append, List.nil_append, if_true, if_false, qb_0, qb_q01, q01_1, q01_0, if_qb, if_qbn, if_qba, if_qbo, eq_self, true_or, or_true, and_self, true_and, and_true, not_true_eq_false, not_false_eq_true, vpi, ltI, eqI, eqI0, eqI4, nI_clamp, ite_not, vs_same, vs_ne, qrem_f, qabs_f, Nat.not_lt_zero, qS_bB, qR_bB, qZ_bB, qI_bB0, qI_bB, pI_bB0, pI_bB, isWall_bB, isItm_bB, isItm_sB, ltm, m1_lt, pk_mul, n0, n1, n2, n3, n4, n5, n6, n7, n8, n9, hGs]; done) | (simp (disch := omega) only [rf_some, qS_sB, qR_sB, qZ_sB, qI_sB0, qI_sB3, qI_sBn, pI_sB0, pI_sB3, pI_sBn, isWall_sB, exists_eq_left, Option.toList_some, Option.toList_none, List.cons_append, List.nil_append, if_true, if_false, qb_0, qb_q01, q01_1, q01_0, if_qb, if_qbn, if_qba, if_qbo, eq_self, true_or, or_true, and_self, true_and, and_true, not_true_eq_false, not_false_eq_true, vpi, ltI, eqI, eqI0, eqI4, nI_clamp, ite_not, vs_same, vs_ne, qrem_f, qabs_f, Nat.not_lt_zero, qS_bB, qR_bB, qZ_bB, qI_bB0, qI_bB, pI_bB0, pI_bB, isWall_bB, isItm_bB, isItm_sB, ltm, m1_lt, pk_mul, n0, n1, n2, n3, n4, n5, n6, n7, n8, n9, hGs]; omega)) only [e17, x17_0, x17_1, x17_4, x17_5, x17_6, x17_9, x17_10, x17_11, x17_12, x17_15, x17_16, x17_19, x17_22, x17_23, x17_24, x17_27, x17_28, x17_29, x17_30, x17_33, x17_35, x17_38, x17_39, x17_42, x17_43, x17_44, x17_47, x17_50, rf_some, qS_sB, qR_sB, qZ_sB, qI_sB0, qI_sB3, qI_sBn, pI_sB0, pI_sB3, pI_sBn, isWall_sB, exists_eq_left, Option.toList_some, Option.toList_none, List.cons_append, List.nil_append, if_true, if_false, qb_0, qb_q01, q01_1, q01_0, if_qb, if_qbn, if_qba, if_qbo, eq_self, true_or, or_true, and_self, true_and, and_true, not_true_eq_false, not_false_eq_true, vpi, ltI, eqI, eqI0, eqI4, nI_clamp, ite_not, vs_same, vs_ne, qrem_f, qabs_f, Nat.not_lt_zero, n0, n1, n2, n3, n4, n5, n6, n7, n8, n9, hmost', Nat.one_ne_zero, eq_true c]
    · rw [if_neg c]
      simp (disch := first | omega | (simp (disch := omega) only [rf_some, qS_sB, qR_sB, qZ_sB, qI_sB0, qI_sB3, qI_sBn, pI_sB0, pI_sB3, pI_sBn, isWall_sB, exists_eq_left, Option.toList_some, Option.toList_none, List.cons_append, List.nil_append, if_true, if_false, qb_0, qb_q01, q01_1, q01_0, if_qb, if_qbn, if_qba, if_qbo, eq_self, true_or, or_true, and_self, true_and, and_true, not_true_eq_false, not_false_eq_true, vpi, ltI, eqI, eqI0, eqI4, nI_clamp, ite_not, vs_same, vs_ne, qrem_f, qabs_f, Nat.not_lt_zero, qS_bB, qR_bB, qZ_bB, qI_bB0, qI_bB, pI_bB0, pI_bB, isWall_bB, isItm_bB, isItm_sB, ltm, m1_lt, pk_mul, n0, n1, n2, n3, n4, n5, n6, n7, n8, n9, hGs]; done) | (simp (disch := omega) only [rf_some, qS_sB, qR_sB, qZ_sB, qI_sB0, qI_sB3, qI_sBn, pI_sB0, pI_sB3, pI_sBn, isWall_sB, exists_eq_left, Option.toList_some, Option.toList_none, List.cons_append, List.nil_append, if_true, if_false, qb_0, qb_q01, q01_1, q01_0, if_qb, if_qbn, if_qba, if_qbo, eq_self, true_or, or_true, and_self, true_and, and_true, not_true_eq_false, not_false_eq_true, vpi, ltI, eqI, eqI0, eqI4, nI_clamp, ite_not, vs_same, vs_ne, qrem_f, qabs_f, Nat.not_lt_zero, qS_bB, qR_bB, qZ_bB, qI_bB0, qI_bB, pI_bB0, pI_bB, isWall_bB, isItm_bB, isItm_sB, ltm, m1_lt, pk_mul, n0, n1, n2, n3, n4, n5, n6, n7, n8, n9, hGs]; omega)) only [e17, x17_0, x17_1, x17_4, x17_5, x17_6, x17_9, x17_10, x17_11, x17_12, x17_15, x17_16, x17_19, x17_22, x17_23, x17_24, x17_27, x17_28, x17_29, x17_30, x17_33, x17_35, x17_38, x17_39, x17_42, x17_43, x17_44, x17_47, x17_50, rf_some, qS_sB, qR_sB, qZ_sB, qI_sB0, qI_sB3, qI_sBn, pI_sB0, pI_sB3, pI_sBn, isWall_sB, exists_eq_left, Option.toList_some, Option.toList_none, List.cons_append, List.nil_append, if_true, if_false, qb_0, qb_q01, q01_1, q01_0, if_qb, if_qbn, if_qba, if_qbo, eq_self, true_or, or_true, and_self, true_and, and_true, not_true_eq_false, not_false_eq_true, vpi, ltI, eqI, eqI0, eqI4, nI_clamp, ite_not, vs_same, vs_ne, qrem_f, qabs_f, Nat.not_lt_zero, qS_bB, qR_bB, qZ_bB, qI_bB0, qI_bB, pI_bB0, pI_bB, isWall_bB, isItm_bB, isItm_sB, ltm, m1_lt, pk_mul, n0, n1, n2, n3, n4, n5, n6, n7, n8, n9, hmost', Nat.one_ne_zero, eq_false c, hlo]
end QRC
